theorem dX12_init_0 : decode cX12_init 0 = .ok (.aload_n 0, 1) := by decide +kernel
theorem dX12_init_1 : decode cX12_init 1 = .ok (.invokespecial 3, 3) := by decide +kernel
theorem dX12_init_4 : decode cX12_init 4 = .ok (.aload_n 0, 1) := by decide +kernel
theorem dX12_init_5 : decode cX12_init 5 = .ok (.iconst (-1), 1) := by decide +kernel
theorem dX12_init_6 : decode cX12_init 6 = .ok (.putfield 9, 3) := by decide +kernel
theorem dX12_init_9 : decode cX12_init 9 = .ok (.aload_n 0, 1) := by decide +kernel
theorem dX12_init_10 : decode cX12_init 10 = .ok (.iconst 5, 1) := by decide +kernel
theorem dX12_init_11 : decode cX12_init 11 = .ok (.newarray .int, 2) := by decide +kernel
theorem dX12_init_13 : decode cX12_init 13 = .ok (.putfield 15, 3) := by decide +kernel
theorem dX12_init_16 : decode cX12_init 16 = .ok (.aload_n 0, 1) := by decide +kernel
theorem dX12_init_17 : decode cX12_init 17 = .ok (.iconst 5, 1) := by decide +kernel
theorem dX12_init_18 : decode cX12_init 18 = .ok (.newarray .int, 2) := by decide +kernel
theorem dX12_init_20 : decode cX12_init 20 = .ok (.putfield 19, 3) := by decide +kernel
theorem dX12_init_23 : decode cX12_init 23 = .ok (.aload_n 0, 1) := by decide +kernel
theorem dX12_init_24 : decode cX12_init 24 = .ok (.iconst 5, 1) := by decide +kernel
theorem dX12_init_25 : decode cX12_init 25 = .ok (.newarray .int, 2) := by decide +kernel
theorem dX12_init_27 : decode cX12_init 27 = .ok (.putfield 22, 3) := by decide +kernel
theorem dX12_init_30 : decode cX12_init 30 = .ok (.aload_n 0, 1) := by decide +kernel
theorem dX12_init_31 : decode cX12_init 31 = .ok (.iconst 4, 1) := by decide +kernel
theorem dX12_init_32 : decode cX12_init 32 = .ok (.newarray .int, 2) := by decide +kernel
theorem dX12_init_34 : decode cX12_init 34 = .ok (.putfield 25, 3) := by decide +kernel
theorem dX12_init_37 : decode cX12_init 37 = .ok (.aload_n 0, 1) := by decide +kernel
theorem dX12_init_38 : decode cX12_init 38 = .ok (.iconst 4, 1) := by decide +kernel
theorem dX12_init_39 : decode cX12_init 39 = .ok (.newarray .int, 2) := by decide +kernel
theorem dX12_init_41 : decode cX12_init 41 = .ok (.putfield 28, 3) := by decide +kernel
theorem dX12_init_44 : decode cX12_init 44 = .ok (.aload_n 0, 1) := by decide +kernel
theorem dX12_init_45 : decode cX12_init 45 = .ok (.iconst 4, 1) := by decide +kernel
theorem dX12_init_46 : decode cX12_init 46 = .ok (.newarray .int, 2) := by decide +kernel
theorem dX12_init_48 : decode cX12_init 48 = .ok (.putfield 31, 3) := by decide +kernel
theorem dX12_init_51 : decode cX12_init 51 = .ok (.aload_n 0, 1) := by decide +kernel
theorem dX12_init_52 : decode cX12_init 52 = .ok (.bipush 10, 2) := by decide +kernel
theorem dX12_init_54 : decode cX12_init 54 = .ok (.newarray .int, 2) := by decide +kernel
theorem dX12_init_56 : decode cX12_init 56 = .ok (.putfield 34, 3) := by decide +kernel
theorem dX12_init_59 : decode cX12_init 59 = .ok (.aload_n 0, 1) := by decide +kernel
theorem dX12_init_60 : decode cX12_init 60 = .ok (.bipush 10, 2) := by decide +kernel
theorem dX12_init_62 : decode cX12_init 62 = .ok (.newarray .int, 2) := by decide +kernel
theorem dX12_init_64 : decode cX12_init 64 = .ok (.putfield 37, 3) := by decide +kernel
theorem dX12_init_67 : decode cX12_init 67 = .ok (.aload_n 0, 1) := by decide +kernel
theorem dX12_init_68 : decode cX12_init 68 = .ok (.bipush 10, 2) := by decide +kernel
theorem dX12_init_70 : decode cX12_init 70 = .ok (.newarray .int, 2) := by decide +kernel
theorem dX12_init_72 : decode cX12_init 72 = .ok (.putfield 40, 3) := by decide +kernel
theorem dX12_init_75 : decode cX12_init 75 = .ok (.aload_n 0, 1) := by decide +kernel
theorem dX12_init_76 : decode cX12_init 76 = .ok (.bipush 10, 2) := by decide +kernel
theorem dX12_init_78 : decode cX12_init 78 = .ok (.newarray .int, 2) := by decide +kernel
theorem dX12_init_80 : decode cX12_init 80 = .ok (.putfield 43, 3) := by decide +kernel
theorem dX12_init_83 : decode cX12_init 83 = .ok (.aload_n 0, 1) := by decide +kernel
theorem dX12_init_84 : decode cX12_init 84 = .ok (.iconst 3, 1) := by decide +kernel
theorem dX12_init_85 : decode cX12_init 85 = .ok (.newarray .int, 2) := by decide +kernel
theorem dX12_init_87 : decode cX12_init 87 = .ok (.putfield 46, 3) := by decide +kernel
theorem dX12_init_90 : decode cX12_init 90 = .ok (.aload_n 0, 1) := by decide +kernel
theorem dX12_init_91 : decode cX12_init 91 = .ok (.iconst 3, 1) := by decide +kernel
theorem dX12_init_92 : decode cX12_init 92 = .ok (.newarray .int, 2) := by decide +kernel
theorem dX12_init_94 : decode cX12_init 94 = .ok (.putfield 49, 3) := by decide +kernel
theorem dX12_init_97 : decode cX12_init 97 = .ok (.aload_n 0, 1) := by decide +kernel
theorem dX12_init_98 : decode cX12_init 98 = .ok (.iconst 4, 1) := by decide +kernel
theorem dX12_init_99 : decode cX12_init 99 = .ok (.newarray .int, 2) := by decide +kernel
theorem dX12_init_101 : decode cX12_init 101 = .ok (.putfield 52, 3) := by decide +kernel
theorem dX12_init_104 : decode cX12_init 104 = .ok (.aload_n 0, 1) := by decide +kernel
theorem dX12_init_105 : decode cX12_init 105 = .ok (.iconst 4, 1) := by decide +kernel
theorem dX12_init_106 : decode cX12_init 106 = .ok (.newarray .int, 2) := by decide +kernel
theorem dX12_init_108 : decode cX12_init 108 = .ok (.putfield 55, 3) := by decide +kernel
theorem dX12_init_111 : decode cX12_init 111 = .ok (.aload_n 0, 1) := by decide +kernel
theorem dX12_init_112 : decode cX12_init 112 = .ok (.iconst 4, 1) := by decide +kernel
theorem dX12_init_113 : decode cX12_init 113 = .ok (.newarray .int, 2) := by decide +kernel
theorem dX12_init_115 : decode cX12_init 115 = .ok (.putfield 58, 3) := by decide +kernel
theorem dX12_init_118 : decode cX12_init 118 = .ok (.aload_n 0, 1) := by decide +kernel
theorem dX12_init_119 : decode cX12_init 119 = .ok (.bipush 17, 2) := by decide +kernel
theorem dX12_init_121 : decode cX12_init 121 = .ok (.newarray .long, 2) := by decide +kernel
theorem dX12_init_123 : decode cX12_init 123 = .ok (.putfield 61, 3) := by decide +kernel
theorem dX12_init_126 : decode cX12_init 126 = .ok (.aload_n 0, 1) := by decide +kernel
theorem dX12_init_127 : decode cX12_init 127 = .ok (.bipush 17, 2) := by decide +kernel
theorem dX12_init_129 : decode cX12_init 129 = .ok (.newarray .int, 2) := by decide +kernel
theorem dX12_init_131 : decode cX12_init 131 = .ok (.putfield 65, 3) := by decide +kernel
theorem dX12_init_134 : decode cX12_init 134 = .ok (.aload_n 0, 1) := by decide +kernel
theorem dX12_init_135 : decode cX12_init 135 = .ok (.bipush 17, 2) := by decide +kernel
theorem dX12_init_137 : decode cX12_init 137 = .ok (.newarray .int, 2) := by decide +kernel
theorem dX12_init_139 : decode cX12_init 139 = .ok (.putfield 68, 3) := by decide +kernel
theorem dX12_init_142 : decode cX12_init 142 = .ok (.iconst 0, 1) := by decide +kernel
theorem dX12_init_143 : decode cX12_init 143 = .ok (.istore_n 1, 1) := by decide +kernel
theorem dX12_init_144 : decode cX12_init 144 = .ok (.iload_n 1, 1) := by decide +kernel
theorem dX12_init_145 : decode cX12_init 145 = .ok (.iconst 5, 1) := by decide +kernel
theorem dX12_init_146 : decode cX12_init 146 = .ok (.if_icmp .ge 17, 3) := by decide +kernel
theorem dX12_init_149 : decode cX12_init 149 = .ok (.aload_n 0, 1) := by decide +kernel
theorem dX12_init_150 : decode cX12_init 150 = .ok (.getfield 22, 3) := by decide +kernel
theorem dX12_init_153 : decode cX12_init 153 = .ok (.iload_n 1, 1) := by decide +kernel
theorem dX12_init_154 : decode cX12_init 154 = .ok (.bipush (-2), 2) := by decide +kernel
theorem dX12_init_156 : decode cX12_init 156 = .ok (.iastore, 1) := by decide +kernel
theorem dX12_init_157 : decode cX12_init 157 = .ok (.iinc 1 1, 3) := by decide +kernel
theorem dX12_init_160 : decode cX12_init 160 = .ok (.goto (-16), 3) := by decide +kernel
theorem dX12_init_163 : decode cX12_init 163 = .ok (.return_, 1) := by decide +kernel
theorem dX12_find_0 : decode cX12_find 0 = .ok (.iconst 0, 1) := by decide +kernel
theorem dX12_find_1 : decode cX12_find 1 = .ok (.istore_n 3, 1) := by decide +kernel
theorem dX12_find_2 : decode cX12_find 2 = .ok (.iload_n 3, 1) := by decide +kernel
theorem dX12_find_3 : decode cX12_find 3 = .ok (.aload_n 0, 1) := by decide +kernel
theorem dX12_find_4 : decode cX12_find 4 = .ok (.getfield 71, 3) := by decide +kernel
theorem dX12_find_7 : decode cX12_find 7 = .ok (.if_icmp .ge 22, 3) := by decide +kernel
theorem dX12_find_10 : decode cX12_find 10 = .ok (.aload_n 0, 1) := by decide +kernel
theorem dX12_find_11 : decode cX12_find 11 = .ok (.getfield 61, 3) := by decide +kernel
theorem dX12_find_14 : decode cX12_find 14 = .ok (.iload_n 3, 1) := by decide +kernel
theorem dX12_find_15 : decode cX12_find 15 = .ok (.laload, 1) := by decide +kernel
theorem dX12_find_16 : decode cX12_find 16 = .ok (.lload_n 1, 1) := by decide +kernel
theorem dX12_find_17 : decode cX12_find 17 = .ok (.lcmp, 1) := by decide +kernel
theorem dX12_find_18 : decode cX12_find 18 = .ok (.ifCond .ne 5, 3) := by decide +kernel
theorem dX12_find_21 : decode cX12_find 21 = .ok (.iload_n 3, 1) := by decide +kernel
theorem dX12_find_22 : decode cX12_find 22 = .ok (.ireturn, 1) := by decide +kernel
theorem dX12_find_23 : decode cX12_find 23 = .ok (.iinc 3 1, 3) := by decide +kernel
theorem dX12_find_26 : decode cX12_find 26 = .ok (.goto (-24), 3) := by decide +kernel
theorem dX12_find_29 : decode cX12_find 29 = .ok (.iconst (-1), 1) := by decide +kernel
theorem dX12_find_30 : decode cX12_find 30 = .ok (.ireturn, 1) := by decide +kernel
theorem dX13_init_0 : decode cX13_init 0 = .ok (.aload_n 0, 1) := by decide +kernel
theorem dX13_init_1 : decode cX13_init 1 = .ok (.invokespecial 3, 3) := by decide +kernel
theorem dX13_init_4 : decode cX13_init 4 = .ok (.aload_n 0, 1) := by decide +kernel
theorem dX13_init_5 : decode cX13_init 5 = .ok (.iconst (-1), 1) := by decide +kernel
theorem dX13_init_6 : decode cX13_init 6 = .ok (.putfield 9, 3) := by decide +kernel
theorem dX13_init_9 : decode cX13_init 9 = .ok (.aload_n 0, 1) := by decide +kernel
theorem dX13_init_10 : decode cX13_init 10 = .ok (.sipush 900, 3) := by decide +kernel
theorem dX13_init_13 : decode cX13_init 13 = .ok (.newarray .byte, 2) := by decide +kernel
theorem dX13_init_15 : decode cX13_init 15 = .ok (.putfield 13, 3) := by decide +kernel
theorem dX13_init_18 : decode cX13_init 18 = .ok (.aload_n 0, 1) := by decide +kernel
theorem dX13_init_19 : decode cX13_init 19 = .ok (.bipush 31, 2) := by decide +kernel
theorem dX13_init_21 : decode cX13_init 21 = .ok (.newarray .int, 2) := by decide +kernel
theorem dX13_init_23 : decode cX13_init 23 = .ok (.putfield 17, 3) := by decide +kernel
theorem dX13_init_26 : decode cX13_init 26 = .ok (.aload_n 0, 1) := by decide +kernel
theorem dX13_init_27 : decode cX13_init 27 = .ok (.sipush 496, 3) := by decide +kernel
theorem dX13_init_30 : decode cX13_init 30 = .ok (.newarray .int, 2) := by decide +kernel
theorem dX13_init_32 : decode cX13_init 32 = .ok (.putfield 21, 3) := by decide +kernel
theorem dX13_init_35 : decode cX13_init 35 = .ok (.aload_n 0, 1) := by decide +kernel
theorem dX13_init_36 : decode cX13_init 36 = .ok (.bipush 93, 2) := by decide +kernel
theorem dX13_init_38 : decode cX13_init 38 = .ok (.newarray .int, 2) := by decide +kernel
theorem dX13_init_40 : decode cX13_init 40 = .ok (.putfield 24, 3) := by decide +kernel
theorem dX13_init_43 : decode cX13_init 43 = .ok (.aload_n 0, 1) := by decide +kernel
theorem dX13_init_44 : decode cX13_init 44 = .ok (.iconst 5, 1) := by decide +kernel
theorem dX13_init_45 : decode cX13_init 45 = .ok (.newarray .int, 2) := by decide +kernel
theorem dX13_init_47 : decode cX13_init 47 = .ok (.putfield 27, 3) := by decide +kernel
theorem dX13_init_50 : decode cX13_init 50 = .ok (.aload_n 0, 1) := by decide +kernel
theorem dX13_init_51 : decode cX13_init 51 = .ok (.iconst 5, 1) := by decide +kernel
theorem dX13_init_52 : decode cX13_init 52 = .ok (.newarray .int, 2) := by decide +kernel
theorem dX13_init_54 : decode cX13_init 54 = .ok (.putfield 30, 3) := by decide +kernel
theorem dX13_init_57 : decode cX13_init 57 = .ok (.aload_n 0, 1) := by decide +kernel
theorem dX13_init_58 : decode cX13_init 58 = .ok (.iconst 4, 1) := by decide +kernel
theorem dX13_init_59 : decode cX13_init 59 = .ok (.newarray .int, 2) := by decide +kernel
theorem dX13_init_61 : decode cX13_init 61 = .ok (.putfield 33, 3) := by decide +kernel
theorem dX13_init_64 : decode cX13_init 64 = .ok (.aload_n 0, 1) := by decide +kernel
theorem dX13_init_65 : decode cX13_init 65 = .ok (.iconst 3, 1) := by decide +kernel
theorem dX13_init_66 : decode cX13_init 66 = .ok (.newarray .int, 2) := by decide +kernel
theorem dX13_init_68 : decode cX13_init 68 = .ok (.putfield 36, 3) := by decide +kernel
theorem dX13_init_71 : decode cX13_init 71 = .ok (.aload_n 0, 1) := by decide +kernel
theorem dX13_init_72 : decode cX13_init 72 = .ok (.iconst 4, 1) := by decide +kernel
theorem dX13_init_73 : decode cX13_init 73 = .ok (.newarray .int, 2) := by decide +kernel
theorem dX13_init_75 : decode cX13_init 75 = .ok (.putfield 39, 3) := by decide +kernel
theorem dX13_init_78 : decode cX13_init 78 = .ok (.aload_n 0, 1) := by decide +kernel
theorem dX13_init_79 : decode cX13_init 79 = .ok (.iconst 3, 1) := by decide +kernel
theorem dX13_init_80 : decode cX13_init 80 = .ok (.newarray .int, 2) := by decide +kernel
theorem dX13_init_82 : decode cX13_init 82 = .ok (.putfield 42, 3) := by decide +kernel
theorem dX13_init_85 : decode cX13_init 85 = .ok (.aload_n 0, 1) := by decide +kernel
theorem dX13_init_86 : decode cX13_init 86 = .ok (.iconst 5, 1) := by decide +kernel
theorem dX13_init_87 : decode cX13_init 87 = .ok (.newarray .int, 2) := by decide +kernel
theorem dX13_init_89 : decode cX13_init 89 = .ok (.putfield 45, 3) := by decide +kernel
theorem dX13_init_92 : decode cX13_init 92 = .ok (.return_, 1) := by decide +kernel
theorem dX13_thrown_0 : decode cX13_thrown 0 = .ok (.aload_n 0, 1) := by decide +kernel
theorem dX13_thrown_1 : decode cX13_thrown 1 = .ok (.getfield 48, 3) := by decide +kernel
theorem dX13_thrown_4 : decode cX13_thrown 4 = .ok (.ireturn, 1) := by decide +kernel
theorem dX13_refused_0 : decode cX13_refused 0 = .ok (.aload_n 0, 1) := by decide +kernel
theorem dX13_refused_1 : decode cX13_refused 1 = .ok (.iload_n 1, 1) := by decide +kernel
theorem dX13_refused_2 : decode cX13_refused 2 = .ok (.putfield 51, 3) := by decide +kernel
theorem dX13_refused_5 : decode cX13_refused 5 = .ok (.aload_n 0, 1) := by decide +kernel
theorem dX13_refused_6 : decode cX13_refused 6 = .ok (.iconst (-1), 1) := by decide +kernel
theorem dX13_refused_7 : decode cX13_refused 7 = .ok (.putfield 9, 3) := by decide +kernel
theorem dX13_refused_10 : decode cX13_refused 10 = .ok (.iconst (-1), 1) := by decide +kernel
theorem dX13_refused_11 : decode cX13_refused 11 = .ok (.ireturn, 1) := by decide +kernel
theorem dX13_denied_0 : decode cX13_denied 0 = .ok (.aload_n 0, 1) := by decide +kernel
theorem dX13_denied_1 : decode cX13_denied 1 = .ok (.iload_n 1, 1) := by decide +kernel
theorem dX13_denied_2 : decode cX13_denied 2 = .ok (.invokevirtual 54, 3) := by decide +kernel
theorem dX13_denied_5 : decode cX13_denied 5 = .ok (.pop, 1) := by decide +kernel
theorem dX13_denied_6 : decode cX13_denied 6 = .ok (.iconst 0, 1) := by decide +kernel
theorem dX13_denied_7 : decode cX13_denied 7 = .ok (.ireturn, 1) := by decide +kernel
theorem dX13_good1_0 : decode cX13_good1 0 = .ok (.aload_n 0, 1) := by decide +kernel
theorem dX13_good1_1 : decode cX13_good1 1 = .ok (.iconst 0, 1) := by decide +kernel
theorem dX13_good1_2 : decode cX13_good1 2 = .ok (.putfield 51, 3) := by decide +kernel
theorem dX13_good1_5 : decode cX13_good1 5 = .ok (.aload_n 0, 1) := by decide +kernel
theorem dX13_good1_6 : decode cX13_good1 6 = .ok (.iconst (-1), 1) := by decide +kernel
theorem dX13_good1_7 : decode cX13_good1 7 = .ok (.putfield 9, 3) := by decide +kernel
theorem dX13_good1_10 : decode cX13_good1 10 = .ok (.iload_n 1, 1) := by decide +kernel
theorem dX13_good1_11 : decode cX13_good1 11 = .ok (.ireturn, 1) := by decide +kernel
theorem dX13_granted_0 : decode cX13_granted 0 = .ok (.aload_n 0, 1) := by decide +kernel
theorem dX13_granted_1 : decode cX13_granted 1 = .ok (.iconst 0, 1) := by decide +kernel
theorem dX13_granted_2 : decode cX13_granted 2 = .ok (.invokevirtual 58, 3) := by decide +kernel
theorem dX13_granted_5 : decode cX13_granted 5 = .ok (.pop, 1) := by decide +kernel
theorem dX13_granted_6 : decode cX13_granted 6 = .ok (.iconst 1, 1) := by decide +kernel
theorem dX13_granted_7 : decode cX13_granted 7 = .ok (.ireturn, 1) := by decide +kernel
theorem dX13_in_0 : decode cX13_in 0 = .ok (.iload_n 0, 1) := by decide +kernel
theorem dX13_in_1 : decode cX13_in 1 = .ok (.iload_n 1, 1) := by decide +kernel
theorem dX13_in_2 : decode cX13_in 2 = .ok (.if_icmp .lt 12, 3) := by decide +kernel
theorem dX13_in_5 : decode cX13_in 5 = .ok (.iload_n 0, 1) := by decide +kernel
theorem dX13_in_6 : decode cX13_in 6 = .ok (.iload_n 2, 1) := by decide +kernel
theorem dX13_in_7 : decode cX13_in 7 = .ok (.if_icmp .gt 7, 3) := by decide +kernel
theorem dX13_in_10 : decode cX13_in 10 = .ok (.iconst 1, 1) := by decide +kernel
theorem dX13_in_11 : decode cX13_in 11 = .ok (.goto 4, 3) := by decide +kernel
theorem dX13_in_14 : decode cX13_in 14 = .ok (.iconst 0, 1) := by decide +kernel
theorem dX13_in_15 : decode cX13_in 15 = .ok (.ireturn, 1) := by decide +kernel
theorem dX13_bit_0 : decode cX13_bit 0 = .ok (.iload_n 0, 1) := by decide +kernel
theorem dX13_bit_1 : decode cX13_bit 1 = .ok (.iload_n 1, 1) := by decide +kernel
theorem dX13_bit_2 : decode cX13_bit 2 = .ok (.ishr, 1) := by decide +kernel
theorem dX13_bit_3 : decode cX13_bit 3 = .ok (.iconst 1, 1) := by decide +kernel
theorem dX13_bit_4 : decode cX13_bit 4 = .ok (.iand, 1) := by decide +kernel
theorem dX13_bit_5 : decode cX13_bit 5 = .ok (.iconst 1, 1) := by decide +kernel
theorem dX13_bit_6 : decode cX13_bit 6 = .ok (.if_icmp .ne 7, 3) := by decide +kernel
theorem dX13_bit_9 : decode cX13_bit 9 = .ok (.iconst 1, 1) := by decide +kernel
theorem dX13_bit_10 : decode cX13_bit 10 = .ok (.goto 4, 3) := by decide +kernel
theorem dX13_bit_13 : decode cX13_bit 13 = .ok (.iconst 0, 1) := by decide +kernel
theorem dX13_bit_14 : decode cX13_bit 14 = .ok (.ireturn, 1) := by decide +kernel
theorem dX13_bits_0 : decode cX13_bits 0 = .ok (.iconst 0, 1) := by decide +kernel
theorem dX13_bits_1 : decode cX13_bits 1 = .ok (.istore_n 1, 1) := by decide +kernel
theorem dX13_bits_2 : decode cX13_bits 2 = .ok (.iload_n 0, 1) := by decide +kernel
theorem dX13_bits_3 : decode cX13_bits 3 = .ok (.istore_n 2, 1) := by decide +kernel
theorem dX13_bits_4 : decode cX13_bits 4 = .ok (.iload_n 2, 1) := by decide +kernel
theorem dX13_bits_5 : decode cX13_bits 5 = .ok (.ifCond .eq 15, 3) := by decide +kernel
theorem dX13_bits_8 : decode cX13_bits 8 = .ok (.iinc 1 1, 3) := by decide +kernel
theorem dX13_bits_11 : decode cX13_bits 11 = .ok (.iload_n 2, 1) := by decide +kernel
theorem dX13_bits_12 : decode cX13_bits 12 = .ok (.iload_n 2, 1) := by decide +kernel
theorem dX13_bits_13 : decode cX13_bits 13 = .ok (.iconst 1, 1) := by decide +kernel
theorem dX13_bits_14 : decode cX13_bits 14 = .ok (.isub, 1) := by decide +kernel
theorem dX13_bits_15 : decode cX13_bits 15 = .ok (.iand, 1) := by decide +kernel
theorem dX13_bits_16 : decode cX13_bits 16 = .ok (.istore_n 2, 1) := by decide +kernel
theorem dX13_bits_17 : decode cX13_bits 17 = .ok (.goto (-13), 3) := by decide +kernel
theorem dX13_bits_20 : decode cX13_bits 20 = .ok (.iload_n 1, 1) := by decide +kernel
theorem dX13_bits_21 : decode cX13_bits 21 = .ok (.ireturn, 1) := by decide +kernel
theorem dX13_common_0 : decode cX13_common 0 = .ok (.lload_n 0, 1) := by decide +kernel
theorem dX13_common_1 : decode cX13_common 1 = .ok (.lstore 4, 2) := by decide +kernel
theorem dX13_common_3 : decode cX13_common 3 = .ok (.lload_n 2, 1) := by decide +kernel
theorem dX13_common_4 : decode cX13_common 4 = .ok (.lstore 6, 2) := by decide +kernel
theorem dX13_common_6 : decode cX13_common 6 = .ok (.lload 6, 2) := by decide +kernel
theorem dX13_common_8 : decode cX13_common 8 = .ok (.lconst 0, 1) := by decide +kernel
theorem dX13_common_9 : decode cX13_common 9 = .ok (.lcmp, 1) := by decide +kernel
theorem dX13_common_10 : decode cX13_common 10 = .ok (.ifCond .eq 21, 3) := by decide +kernel
theorem dX13_common_13 : decode cX13_common 13 = .ok (.lload 4, 2) := by decide +kernel
theorem dX13_common_15 : decode cX13_common 15 = .ok (.lload 6, 2) := by decide +kernel
theorem dX13_common_17 : decode cX13_common 17 = .ok (.lrem, 1) := by decide +kernel
theorem dX13_common_18 : decode cX13_common 18 = .ok (.lstore 8, 2) := by decide +kernel
theorem dX13_common_20 : decode cX13_common 20 = .ok (.lload 6, 2) := by decide +kernel
theorem dX13_common_22 : decode cX13_common 22 = .ok (.lstore 4, 2) := by decide +kernel
theorem dX13_common_24 : decode cX13_common 24 = .ok (.lload 8, 2) := by decide +kernel
theorem dX13_common_26 : decode cX13_common 26 = .ok (.lstore 6, 2) := by decide +kernel
theorem dX13_common_28 : decode cX13_common 28 = .ok (.goto (-22), 3) := by decide +kernel
theorem dX13_common_31 : decode cX13_common 31 = .ok (.lload 4, 2) := by decide +kernel
theorem dX13_common_33 : decode cX13_common 33 = .ok (.lreturn, 1) := by decide +kernel
theorem dX13_fraction_0 : decode cX13_fraction 0 = .ok (.aload_n 0, 1) := by decide +kernel
theorem dX13_fraction_1 : decode cX13_fraction 1 = .ok (.iconst 0, 1) := by decide +kernel
theorem dX13_fraction_2 : decode cX13_fraction 2 = .ok (.invokevirtual 58, 3) := by decide +kernel
theorem dX13_fraction_5 : decode cX13_fraction 5 = .ok (.pop, 1) := by decide +kernel
theorem dX13_fraction_6 : decode cX13_fraction 6 = .ok (.lload_n 3, 1) := by decide +kernel
theorem dX13_fraction_7 : decode cX13_fraction 7 = .ok (.lconst 0, 1) := by decide +kernel
theorem dX13_fraction_8 : decode cX13_fraction 8 = .ok (.lcmp, 1) := by decide +kernel
theorem dX13_fraction_9 : decode cX13_fraction 9 = .ok (.ifCond .ne 14, 3) := by decide +kernel
theorem dX13_fraction_12 : decode cX13_fraction 12 = .ok (.iload 5, 2) := by decide +kernel
theorem dX13_fraction_14 : decode cX13_fraction 14 = .ok (.ifCond .eq 7, 3) := by decide +kernel
theorem dX13_fraction_17 : decode cX13_fraction 17 = .ok (.lconst 1, 1) := by decide +kernel
theorem dX13_fraction_18 : decode cX13_fraction 18 = .ok (.goto 4, 3) := by decide +kernel
theorem dX13_fraction_21 : decode cX13_fraction 21 = .ok (.lconst 0, 1) := by decide +kernel
theorem dX13_fraction_22 : decode cX13_fraction 22 = .ok (.lreturn, 1) := by decide +kernel
theorem dX13_fraction_23 : decode cX13_fraction 23 = .ok (.iload 5, 2) := by decide +kernel
theorem dX13_fraction_25 : decode cX13_fraction 25 = .ok (.ifCond .eq 7, 3) := by decide +kernel
theorem dX13_fraction_28 : decode cX13_fraction 28 = .ok (.lload_n 3, 1) := by decide +kernel
theorem dX13_fraction_29 : decode cX13_fraction 29 = .ok (.goto 4, 3) := by decide +kernel
theorem dX13_fraction_32 : decode cX13_fraction 32 = .ok (.lload_n 1, 1) := by decide +kernel
theorem dX13_fraction_33 : decode cX13_fraction 33 = .ok (.lload_n 1, 1) := by decide +kernel
theorem dX13_fraction_34 : decode cX13_fraction 34 = .ok (.lload_n 3, 1) := by decide +kernel
theorem dX13_fraction_35 : decode cX13_fraction 35 = .ok (.invokestatic 61, 3) := by decide +kernel
theorem dX13_fraction_38 : decode cX13_fraction 38 = .ok (.ldiv, 1) := by decide +kernel
theorem dX13_fraction_39 : decode cX13_fraction 39 = .ok (.lreturn, 1) := by decide +kernel
theorem dX13_byteAt_0 : decode cX13_byteAt 0 = .ok (.iload_n 1, 1) := by decide +kernel
theorem dX13_byteAt_1 : decode cX13_byteAt 1 = .ok (.aload_n 0, 1) := by decide +kernel
theorem dX13_byteAt_2 : decode cX13_byteAt 2 = .ok (.getfield 65, 3) := by decide +kernel
theorem dX13_byteAt_5 : decode cX13_byteAt 5 = .ok (.if_icmp .ge 16, 3) := by decide +kernel
theorem dX13_byteAt_8 : decode cX13_byteAt 8 = .ok (.aload_n 0, 1) := by decide +kernel
theorem dX13_byteAt_9 : decode cX13_byteAt 9 = .ok (.getfield 13, 3) := by decide +kernel
theorem dX13_byteAt_12 : decode cX13_byteAt 12 = .ok (.iload_n 1, 1) := by decide +kernel
theorem dX13_byteAt_13 : decode cX13_byteAt 13 = .ok (.baload, 1) := by decide +kernel
theorem dX13_byteAt_14 : decode cX13_byteAt 14 = .ok (.sipush 255, 3) := by decide +kernel
theorem dX13_byteAt_17 : decode cX13_byteAt 17 = .ok (.iand, 1) := by decide +kernel
theorem dX13_byteAt_18 : decode cX13_byteAt 18 = .ok (.goto 4, 3) := by decide +kernel
theorem dX13_byteAt_21 : decode cX13_byteAt 21 = .ok (.iconst (-1), 1) := by decide +kernel
theorem dX13_byteAt_22 : decode cX13_byteAt 22 = .ok (.ireturn, 1) := by decide +kernel
theorem dX13_isLetter_0 : decode cX13_isLetter 0 = .ok (.iload_n 0, 1) := by decide +kernel
theorem dX13_isLetter_1 : decode cX13_isLetter 1 = .ok (.bipush 97, 2) := by decide +kernel
theorem dX13_isLetter_3 : decode cX13_isLetter 3 = .ok (.if_icmp .lt 13, 3) := by decide +kernel
theorem dX13_isLetter_6 : decode cX13_isLetter 6 = .ok (.iload_n 0, 1) := by decide +kernel
theorem dX13_isLetter_7 : decode cX13_isLetter 7 = .ok (.bipush 122, 2) := by decide +kernel
theorem dX13_isLetter_9 : decode cX13_isLetter 9 = .ok (.if_icmp .gt 7, 3) := by decide +kernel
theorem dX13_isLetter_12 : decode cX13_isLetter 12 = .ok (.iconst 1, 1) := by decide +kernel
theorem dX13_isLetter_13 : decode cX13_isLetter 13 = .ok (.goto 4, 3) := by decide +kernel
theorem dX13_isLetter_16 : decode cX13_isLetter 16 = .ok (.iconst 0, 1) := by decide +kernel
theorem dX13_isLetter_17 : decode cX13_isLetter 17 = .ok (.ireturn, 1) := by decide +kernel
theorem dX13_isDigit_0 : decode cX13_isDigit 0 = .ok (.iload_n 0, 1) := by decide +kernel
theorem dX13_isDigit_1 : decode cX13_isDigit 1 = .ok (.bipush 48, 2) := by decide +kernel
theorem dX13_isDigit_3 : decode cX13_isDigit 3 = .ok (.if_icmp .lt 13, 3) := by decide +kernel
theorem dX13_isDigit_6 : decode cX13_isDigit 6 = .ok (.iload_n 0, 1) := by decide +kernel
theorem dX13_isDigit_7 : decode cX13_isDigit 7 = .ok (.bipush 57, 2) := by decide +kernel
theorem dX13_isDigit_9 : decode cX13_isDigit 9 = .ok (.if_icmp .gt 7, 3) := by decide +kernel
theorem dX13_isDigit_12 : decode cX13_isDigit 12 = .ok (.iconst 1, 1) := by decide +kernel
theorem dX13_isDigit_13 : decode cX13_isDigit 13 = .ok (.goto 4, 3) := by decide +kernel
theorem dX13_isDigit_16 : decode cX13_isDigit 16 = .ok (.iconst 0, 1) := by decide +kernel
theorem dX13_isDigit_17 : decode cX13_isDigit 17 = .ok (.ireturn, 1) := by decide +kernel
theorem dX13_packed_0 : decode cX13_packed 0 = .ok (.lconst 0, 1) := by decide +kernel
theorem dX13_packed_1 : decode cX13_packed 1 = .ok (.lstore_n 1, 1) := by decide +kernel
theorem dX13_packed_2 : decode cX13_packed 2 = .ok (.iconst 0, 1) := by decide +kernel
theorem dX13_packed_3 : decode cX13_packed 3 = .ok (.istore_n 3, 1) := by decide +kernel
theorem dX13_packed_4 : decode cX13_packed 4 = .ok (.iload_n 3, 1) := by decide +kernel
theorem dX13_packed_5 : decode cX13_packed 5 = .ok (.aload_n 0, 1) := by decide +kernel
theorem dX13_packed_6 : decode cX13_packed 6 = .ok (.invokevirtual 68, 3) := by decide +kernel
theorem dX13_packed_9 : decode cX13_packed 9 = .ok (.if_icmp .ge 27, 3) := by decide +kernel
theorem dX13_packed_12 : decode cX13_packed 12 = .ok (.ldc2_w 74, 3) := by decide +kernel
theorem dX13_packed_15 : decode cX13_packed 15 = .ok (.lload_n 1, 1) := by decide +kernel
theorem dX13_packed_16 : decode cX13_packed 16 = .ok (.lmul, 1) := by decide +kernel
theorem dX13_packed_17 : decode cX13_packed 17 = .ok (.aload_n 0, 1) := by decide +kernel
theorem dX13_packed_18 : decode cX13_packed 18 = .ok (.iload_n 3, 1) := by decide +kernel
theorem dX13_packed_19 : decode cX13_packed 19 = .ok (.invokevirtual 76, 3) := by decide +kernel
theorem dX13_packed_22 : decode cX13_packed 22 = .ok (.bipush 97, 2) := by decide +kernel
theorem dX13_packed_24 : decode cX13_packed 24 = .ok (.isub, 1) := by decide +kernel
theorem dX13_packed_25 : decode cX13_packed 25 = .ok (.iconst 1, 1) := by decide +kernel
theorem dX13_packed_26 : decode cX13_packed 26 = .ok (.iadd, 1) := by decide +kernel
theorem dX13_packed_27 : decode cX13_packed 27 = .ok (.i2l, 1) := by decide +kernel
theorem dX13_packed_28 : decode cX13_packed 28 = .ok (.ladd, 1) := by decide +kernel
theorem dX13_packed_29 : decode cX13_packed 29 = .ok (.lstore_n 1, 1) := by decide +kernel
theorem dX13_packed_30 : decode cX13_packed 30 = .ok (.iinc 3 1, 3) := by decide +kernel
theorem dX13_packed_33 : decode cX13_packed 33 = .ok (.goto (-29), 3) := by decide +kernel
theorem dX13_packed_36 : decode cX13_packed 36 = .ok (.lload_n 1, 1) := by decide +kernel
theorem dX13_packed_37 : decode cX13_packed 37 = .ok (.lreturn, 1) := by decide +kernel
theorem dX13_goesOn_0 : decode cX13_goesOn 0 = .ok (.aload_n 0, 1) := by decide +kernel
theorem dX13_goesOn_1 : decode cX13_goesOn 1 = .ok (.getfield 80, 3) := by decide +kernel
theorem dX13_goesOn_4 : decode cX13_goesOn 4 = .ok (.bipush 6, 2) := by decide +kernel
theorem dX13_goesOn_6 : decode cX13_goesOn 6 = .ok (.if_icmp .ne 4, 3) := by decide +kernel
theorem dX13_goesOn_9 : decode cX13_goesOn 9 = .ok (.return_, 1) := by decide +kernel
theorem dX13_goesOn_10 : decode cX13_goesOn 10 = .ok (.aload_n 0, 1) := by decide +kernel
theorem dX13_goesOn_11 : decode cX13_goesOn 11 = .ok (.aload_n 0, 1) := by decide +kernel
theorem dX13_goesOn_12 : decode cX13_goesOn 12 = .ok (.getfield 83, 3) := by decide +kernel
theorem dX13_goesOn_15 : decode cX13_goesOn 15 = .ok (.invokevirtual 86, 3) := by decide +kernel
theorem dX13_goesOn_18 : decode cX13_goesOn 18 = .ok (.bipush 32, 2) := by decide +kernel
theorem dX13_goesOn_20 : decode cX13_goesOn 20 = .ok (.if_icmp .ne 16, 3) := by decide +kernel
theorem dX13_goesOn_23 : decode cX13_goesOn 23 = .ok (.aload_n 0, 1) := by decide +kernel
theorem dX13_goesOn_24 : decode cX13_goesOn 24 = .ok (.dup, 1) := by decide +kernel
theorem dX13_goesOn_25 : decode cX13_goesOn 25 = .ok (.getfield 83, 3) := by decide +kernel
theorem dX13_goesOn_28 : decode cX13_goesOn 28 = .ok (.iconst 1, 1) := by decide +kernel
theorem dX13_goesOn_29 : decode cX13_goesOn 29 = .ok (.iadd, 1) := by decide +kernel
theorem dX13_goesOn_30 : decode cX13_goesOn 30 = .ok (.putfield 83, 3) := by decide +kernel
theorem dX13_goesOn_33 : decode cX13_goesOn 33 = .ok (.goto (-23), 3) := by decide +kernel
theorem dX13_goesOn_36 : decode cX13_goesOn 36 = .ok (.aload_n 0, 1) := by decide +kernel
theorem dX13_goesOn_37 : decode cX13_goesOn 37 = .ok (.aload_n 0, 1) := by decide +kernel
theorem dX13_goesOn_38 : decode cX13_goesOn 38 = .ok (.getfield 83, 3) := by decide +kernel
theorem dX13_goesOn_41 : decode cX13_goesOn 41 = .ok (.putfield 89, 3) := by decide +kernel
theorem dX13_goesOn_44 : decode cX13_goesOn 44 = .ok (.aload_n 0, 1) := by decide +kernel
theorem dX13_goesOn_45 : decode cX13_goesOn 45 = .ok (.iconst 0, 1) := by decide +kernel
theorem dX13_goesOn_46 : decode cX13_goesOn 46 = .ok (.putfield 80, 3) := by decide +kernel
theorem dX13_goesOn_49 : decode cX13_goesOn 49 = .ok (.aload_n 0, 1) := by decide +kernel
theorem dX13_goesOn_50 : decode cX13_goesOn 50 = .ok (.aload_n 0, 1) := by decide +kernel
theorem dX13_goesOn_51 : decode cX13_goesOn 51 = .ok (.getfield 83, 3) := by decide +kernel
theorem dX13_goesOn_54 : decode cX13_goesOn 54 = .ok (.invokevirtual 86, 3) := by decide +kernel
theorem dX13_goesOn_57 : decode cX13_goesOn 57 = .ok (.istore_n 1, 1) := by decide +kernel
theorem dX13_goesOn_58 : decode cX13_goesOn 58 = .ok (.iconst 0, 1) := by decide +kernel
theorem dX13_goesOn_59 : decode cX13_goesOn 59 = .ok (.istore_n 2, 1) := by decide +kernel
theorem dX13_goesOn_60 : decode cX13_goesOn 60 = .ok (.iload_n 1, 1) := by decide +kernel
theorem dX13_goesOn_61 : decode cX13_goesOn 61 = .ok (.iconst (-1), 1) := by decide +kernel
theorem dX13_goesOn_62 : decode cX13_goesOn 62 = .ok (.if_icmp .ne 11, 3) := by decide +kernel
theorem dX13_goesOn_65 : decode cX13_goesOn 65 = .ok (.aload_n 0, 1) := by decide +kernel
theorem dX13_goesOn_66 : decode cX13_goesOn 66 = .ok (.iconst 1, 1) := by decide +kernel
theorem dX13_goesOn_67 : decode cX13_goesOn 67 = .ok (.putfield 80, 3) := by decide +kernel
theorem dX13_goesOn_70 : decode cX13_goesOn 70 = .ok (.goto 212, 3) := by decide +kernel
theorem dX13_goesOn_73 : decode cX13_goesOn 73 = .ok (.iload_n 1, 1) := by decide +kernel
theorem dX13_goesOn_74 : decode cX13_goesOn 74 = .ok (.invokestatic 92, 3) := by decide +kernel
theorem dX13_goesOn_77 : decode cX13_goesOn 77 = .ok (.ifCond .eq 85, 3) := by decide +kernel
theorem dX13_goesOn_80 : decode cX13_goesOn 80 = .ok (.aload_n 0, 1) := by decide +kernel
theorem dX13_goesOn_81 : decode cX13_goesOn 81 = .ok (.lconst 0, 1) := by decide +kernel
theorem dX13_goesOn_82 : decode cX13_goesOn 82 = .ok (.putfield 96, 3) := by decide +kernel
theorem dX13_goesOn_85 : decode cX13_goesOn 85 = .ok (.aload_n 0, 1) := by decide +kernel
theorem dX13_goesOn_86 : decode cX13_goesOn 86 = .ok (.aload_n 0, 1) := by decide +kernel
theorem dX13_goesOn_87 : decode cX13_goesOn 87 = .ok (.getfield 83, 3) := by decide +kernel
theorem dX13_goesOn_90 : decode cX13_goesOn 90 = .ok (.invokevirtual 86, 3) := by decide +kernel
theorem dX13_goesOn_93 : decode cX13_goesOn 93 = .ok (.invokestatic 92, 3) := by decide +kernel
theorem dX13_goesOn_96 : decode cX13_goesOn 96 = .ok (.ifCond .eq 52, 3) := by decide +kernel
theorem dX13_goesOn_99 : decode cX13_goesOn 99 = .ok (.iload_n 2, 1) := by decide +kernel
theorem dX13_goesOn_100 : decode cX13_goesOn 100 = .ok (.bipush 8, 2) := by decide +kernel
theorem dX13_goesOn_102 : decode cX13_goesOn 102 = .ok (.if_icmp .ge 30, 3) := by decide +kernel
theorem dX13_goesOn_105 : decode cX13_goesOn 105 = .ok (.aload_n 0, 1) := by decide +kernel
theorem dX13_goesOn_106 : decode cX13_goesOn 106 = .ok (.ldc2_w 74, 3) := by decide +kernel
theorem dX13_goesOn_109 : decode cX13_goesOn 109 = .ok (.aload_n 0, 1) := by decide +kernel
theorem dX13_goesOn_110 : decode cX13_goesOn 110 = .ok (.getfield 96, 3) := by decide +kernel
theorem dX13_goesOn_113 : decode cX13_goesOn 113 = .ok (.lmul, 1) := by decide +kernel
theorem dX13_goesOn_114 : decode cX13_goesOn 114 = .ok (.aload_n 0, 1) := by decide +kernel
theorem dX13_goesOn_115 : decode cX13_goesOn 115 = .ok (.aload_n 0, 1) := by decide +kernel
theorem dX13_goesOn_116 : decode cX13_goesOn 116 = .ok (.getfield 83, 3) := by decide +kernel
theorem dX13_goesOn_119 : decode cX13_goesOn 119 = .ok (.invokevirtual 86, 3) := by decide +kernel
theorem dX13_goesOn_122 : decode cX13_goesOn 122 = .ok (.bipush 97, 2) := by decide +kernel
theorem dX13_goesOn_124 : decode cX13_goesOn 124 = .ok (.isub, 1) := by decide +kernel
theorem dX13_goesOn_125 : decode cX13_goesOn 125 = .ok (.iconst 1, 1) := by decide +kernel
theorem dX13_goesOn_126 : decode cX13_goesOn 126 = .ok (.iadd, 1) := by decide +kernel
theorem dX13_goesOn_127 : decode cX13_goesOn 127 = .ok (.i2l, 1) := by decide +kernel
theorem dX13_goesOn_128 : decode cX13_goesOn 128 = .ok (.ladd, 1) := by decide +kernel
theorem dX13_goesOn_129 : decode cX13_goesOn 129 = .ok (.putfield 96, 3) := by decide +kernel
theorem dX13_goesOn_132 : decode cX13_goesOn 132 = .ok (.iinc 2 1, 3) := by decide +kernel
theorem dX13_goesOn_135 : decode cX13_goesOn 135 = .ok (.aload_n 0, 1) := by decide +kernel
theorem dX13_goesOn_136 : decode cX13_goesOn 136 = .ok (.dup, 1) := by decide +kernel
theorem dX13_goesOn_137 : decode cX13_goesOn 137 = .ok (.getfield 83, 3) := by decide +kernel
theorem dX13_goesOn_140 : decode cX13_goesOn 140 = .ok (.iconst 1, 1) := by decide +kernel
theorem dX13_goesOn_141 : decode cX13_goesOn 141 = .ok (.iadd, 1) := by decide +kernel
theorem dX13_goesOn_142 : decode cX13_goesOn 142 = .ok (.putfield 83, 3) := by decide +kernel
theorem dX13_goesOn_145 : decode cX13_goesOn 145 = .ok (.goto (-60), 3) := by decide +kernel
theorem dX13_goesOn_148 : decode cX13_goesOn 148 = .ok (.iload_n 2, 1) := by decide +kernel
theorem dX13_goesOn_149 : decode cX13_goesOn 149 = .ok (.bipush 8, 2) := by decide +kernel
theorem dX13_goesOn_151 : decode cX13_goesOn 151 = .ok (.if_icmp .gt 131, 3) := by decide +kernel
theorem dX13_goesOn_154 : decode cX13_goesOn 154 = .ok (.aload_n 0, 1) := by decide +kernel
theorem dX13_goesOn_155 : decode cX13_goesOn 155 = .ok (.iconst 2, 1) := by decide +kernel
theorem dX13_goesOn_156 : decode cX13_goesOn 156 = .ok (.putfield 80, 3) := by decide +kernel
theorem dX13_goesOn_159 : decode cX13_goesOn 159 = .ok (.goto 123, 3) := by decide +kernel
theorem dX13_goesOn_162 : decode cX13_goesOn 162 = .ok (.iload_n 1, 1) := by decide +kernel
theorem dX13_goesOn_163 : decode cX13_goesOn 163 = .ok (.invokestatic 100, 3) := by decide +kernel
theorem dX13_goesOn_166 : decode cX13_goesOn 166 = .ok (.ifCond .eq 79, 3) := by decide +kernel
theorem dX13_goesOn_169 : decode cX13_goesOn 169 = .ok (.aload_n 0, 1) := by decide +kernel
theorem dX13_goesOn_170 : decode cX13_goesOn 170 = .ok (.iconst 0, 1) := by decide +kernel
theorem dX13_goesOn_171 : decode cX13_goesOn 171 = .ok (.putfield 103, 3) := by decide +kernel
theorem dX13_goesOn_174 : decode cX13_goesOn 174 = .ok (.aload_n 0, 1) := by decide +kernel
theorem dX13_goesOn_175 : decode cX13_goesOn 175 = .ok (.aload_n 0, 1) := by decide +kernel
theorem dX13_goesOn_176 : decode cX13_goesOn 176 = .ok (.getfield 83, 3) := by decide +kernel
theorem dX13_goesOn_179 : decode cX13_goesOn 179 = .ok (.invokevirtual 86, 3) := by decide +kernel
theorem dX13_goesOn_182 : decode cX13_goesOn 182 = .ok (.invokestatic 100, 3) := by decide +kernel
theorem dX13_goesOn_185 : decode cX13_goesOn 185 = .ok (.ifCond .eq 47, 3) := by decide +kernel
theorem dX13_goesOn_188 : decode cX13_goesOn 188 = .ok (.iload_n 2, 1) := by decide +kernel
theorem dX13_goesOn_189 : decode cX13_goesOn 189 = .ok (.iconst 3, 1) := by decide +kernel
theorem dX13_goesOn_190 : decode cX13_goesOn 190 = .ok (.if_icmp .ge 26, 3) := by decide +kernel
theorem dX13_goesOn_193 : decode cX13_goesOn 193 = .ok (.aload_n 0, 1) := by decide +kernel
theorem dX13_goesOn_194 : decode cX13_goesOn 194 = .ok (.bipush 10, 2) := by decide +kernel
theorem dX13_goesOn_196 : decode cX13_goesOn 196 = .ok (.aload_n 0, 1) := by decide +kernel
theorem dX13_goesOn_197 : decode cX13_goesOn 197 = .ok (.getfield 103, 3) := by decide +kernel
theorem dX13_goesOn_200 : decode cX13_goesOn 200 = .ok (.imul, 1) := by decide +kernel
theorem dX13_goesOn_201 : decode cX13_goesOn 201 = .ok (.aload_n 0, 1) := by decide +kernel
theorem dX13_goesOn_202 : decode cX13_goesOn 202 = .ok (.aload_n 0, 1) := by decide +kernel
theorem dX13_goesOn_203 : decode cX13_goesOn 203 = .ok (.getfield 83, 3) := by decide +kernel
theorem dX13_goesOn_206 : decode cX13_goesOn 206 = .ok (.invokevirtual 86, 3) := by decide +kernel
theorem dX13_goesOn_209 : decode cX13_goesOn 209 = .ok (.iadd, 1) := by decide +kernel
theorem dX13_goesOn_210 : decode cX13_goesOn 210 = .ok (.bipush 48, 2) := by decide +kernel
theorem dX13_goesOn_212 : decode cX13_goesOn 212 = .ok (.isub, 1) := by decide +kernel
theorem dX13_goesOn_213 : decode cX13_goesOn 213 = .ok (.putfield 103, 3) := by decide +kernel
theorem dX13_goesOn_216 : decode cX13_goesOn 216 = .ok (.iinc 2 1, 3) := by decide +kernel
theorem dX13_goesOn_219 : decode cX13_goesOn 219 = .ok (.aload_n 0, 1) := by decide +kernel
theorem dX13_goesOn_220 : decode cX13_goesOn 220 = .ok (.dup, 1) := by decide +kernel
theorem dX13_goesOn_221 : decode cX13_goesOn 221 = .ok (.getfield 83, 3) := by decide +kernel
theorem dX13_goesOn_224 : decode cX13_goesOn 224 = .ok (.iconst 1, 1) := by decide +kernel
theorem dX13_goesOn_225 : decode cX13_goesOn 225 = .ok (.iadd, 1) := by decide +kernel
theorem dX13_goesOn_226 : decode cX13_goesOn 226 = .ok (.putfield 83, 3) := by decide +kernel
theorem dX13_goesOn_229 : decode cX13_goesOn 229 = .ok (.goto (-55), 3) := by decide +kernel
theorem dX13_goesOn_232 : decode cX13_goesOn 232 = .ok (.iload_n 2, 1) := by decide +kernel
theorem dX13_goesOn_233 : decode cX13_goesOn 233 = .ok (.iconst 3, 1) := by decide +kernel
theorem dX13_goesOn_234 : decode cX13_goesOn 234 = .ok (.if_icmp .gt 48, 3) := by decide +kernel
theorem dX13_goesOn_237 : decode cX13_goesOn 237 = .ok (.aload_n 0, 1) := by decide +kernel
theorem dX13_goesOn_238 : decode cX13_goesOn 238 = .ok (.iconst 3, 1) := by decide +kernel
theorem dX13_goesOn_239 : decode cX13_goesOn 239 = .ok (.putfield 80, 3) := by decide +kernel
theorem dX13_goesOn_242 : decode cX13_goesOn 242 = .ok (.goto 40, 3) := by decide +kernel
theorem dX13_goesOn_245 : decode cX13_goesOn 245 = .ok (.iload_n 1, 1) := by decide +kernel
theorem dX13_goesOn_246 : decode cX13_goesOn 246 = .ok (.bipush 59, 2) := by decide +kernel
theorem dX13_goesOn_248 : decode cX13_goesOn 248 = .ok (.if_icmp .eq 9, 3) := by decide +kernel
theorem dX13_goesOn_251 : decode cX13_goesOn 251 = .ok (.iload_n 1, 1) := by decide +kernel
theorem dX13_goesOn_252 : decode cX13_goesOn 252 = .ok (.bipush 44, 2) := by decide +kernel
theorem dX13_goesOn_254 : decode cX13_goesOn 254 = .ok (.if_icmp .ne 28, 3) := by decide +kernel
theorem dX13_goesOn_257 : decode cX13_goesOn 257 = .ok (.aload_n 0, 1) := by decide +kernel
theorem dX13_goesOn_258 : decode cX13_goesOn 258 = .ok (.iload_n 1, 1) := by decide +kernel
theorem dX13_goesOn_259 : decode cX13_goesOn 259 = .ok (.bipush 59, 2) := by decide +kernel
theorem dX13_goesOn_261 : decode cX13_goesOn 261 = .ok (.if_icmp .ne 7, 3) := by decide +kernel
theorem dX13_goesOn_264 : decode cX13_goesOn 264 = .ok (.iconst 4, 1) := by decide +kernel
theorem dX13_goesOn_265 : decode cX13_goesOn 265 = .ok (.goto 4, 3) := by decide +kernel
theorem dX13_goesOn_268 : decode cX13_goesOn 268 = .ok (.iconst 5, 1) := by decide +kernel
theorem dX13_goesOn_269 : decode cX13_goesOn 269 = .ok (.putfield 80, 3) := by decide +kernel
theorem dX13_goesOn_272 : decode cX13_goesOn 272 = .ok (.aload_n 0, 1) := by decide +kernel
theorem dX13_goesOn_273 : decode cX13_goesOn 273 = .ok (.dup, 1) := by decide +kernel
theorem dX13_goesOn_274 : decode cX13_goesOn 274 = .ok (.getfield 83, 3) := by decide +kernel
theorem dX13_goesOn_277 : decode cX13_goesOn 277 = .ok (.iconst 1, 1) := by decide +kernel
theorem dX13_goesOn_278 : decode cX13_goesOn 278 = .ok (.iadd, 1) := by decide +kernel
theorem dX13_goesOn_279 : decode cX13_goesOn 279 = .ok (.putfield 83, 3) := by decide +kernel
theorem dX13_goesOn_282 : decode cX13_goesOn 282 = .ok (.return_, 1) := by decide +kernel
theorem dX13_flaw_0 : decode cX13_flaw 0 = .ok (.aload_n 0, 1) := by decide +kernel
theorem dX13_flaw_1 : decode cX13_flaw 1 = .ok (.getfield 80, 3) := by decide +kernel
theorem dX13_flaw_4 : decode cX13_flaw 4 = .ok (.bipush 6, 2) := by decide +kernel
theorem dX13_flaw_6 : decode cX13_flaw 6 = .ok (.if_icmp .ne 4, 3) := by decide +kernel
theorem dX13_flaw_9 : decode cX13_flaw 9 = .ok (.return_, 1) := by decide +kernel
theorem dX13_flaw_10 : decode cX13_flaw 10 = .ok (.aload_n 0, 1) := by decide +kernel
theorem dX13_flaw_11 : decode cX13_flaw 11 = .ok (.iload_n 1, 1) := by decide +kernel
theorem dX13_flaw_12 : decode cX13_flaw 12 = .ok (.putfield 106, 3) := by decide +kernel
theorem dX13_flaw_15 : decode cX13_flaw 15 = .ok (.aload_n 0, 1) := by decide +kernel
theorem dX13_flaw_16 : decode cX13_flaw 16 = .ok (.aload_n 0, 1) := by decide +kernel
theorem dX13_flaw_17 : decode cX13_flaw 17 = .ok (.getfield 89, 3) := by decide +kernel
theorem dX13_flaw_20 : decode cX13_flaw 20 = .ok (.putfield 109, 3) := by decide +kernel
theorem dX13_flaw_23 : decode cX13_flaw 23 = .ok (.aload_n 0, 1) := by decide +kernel
theorem dX13_flaw_24 : decode cX13_flaw 24 = .ok (.bipush 6, 2) := by decide +kernel
theorem dX13_flaw_26 : decode cX13_flaw 26 = .ok (.putfield 80, 3) := by decide +kernel
theorem dX13_flaw_29 : decode cX13_flaw 29 = .ok (.return_, 1) := by decide +kernel
theorem dX13_isWord_0 : decode cX13_isWord 0 = .ok (.aload_n 0, 1) := by decide +kernel
theorem dX13_isWord_1 : decode cX13_isWord 1 = .ok (.getfield 80, 3) := by decide +kernel
theorem dX13_isWord_4 : decode cX13_isWord 4 = .ok (.iconst 2, 1) := by decide +kernel
theorem dX13_isWord_5 : decode cX13_isWord 5 = .ok (.if_icmp .ne 19, 3) := by decide +kernel
theorem dX13_isWord_8 : decode cX13_isWord 8 = .ok (.aload_n 0, 1) := by decide +kernel
theorem dX13_isWord_9 : decode cX13_isWord 9 = .ok (.getfield 96, 3) := by decide +kernel
theorem dX13_isWord_12 : decode cX13_isWord 12 = .ok (.aload_n 1, 1) := by decide +kernel
theorem dX13_isWord_13 : decode cX13_isWord 13 = .ok (.invokestatic 112, 3) := by decide +kernel
theorem dX13_isWord_16 : decode cX13_isWord 16 = .ok (.lcmp, 1) := by decide +kernel
theorem dX13_isWord_17 : decode cX13_isWord 17 = .ok (.ifCond .ne 7, 3) := by decide +kernel
theorem dX13_isWord_20 : decode cX13_isWord 20 = .ok (.iconst 1, 1) := by decide +kernel
theorem dX13_isWord_21 : decode cX13_isWord 21 = .ok (.goto 4, 3) := by decide +kernel
theorem dX13_isWord_24 : decode cX13_isWord 24 = .ok (.iconst 0, 1) := by decide +kernel
theorem dX13_isWord_25 : decode cX13_isWord 25 = .ok (.ireturn, 1) := by decide +kernel
theorem dX13_eats_0 : decode cX13_eats 0 = .ok (.aload_n 0, 1) := by decide +kernel
theorem dX13_eats_1 : decode cX13_eats 1 = .ok (.getfield 80, 3) := by decide +kernel
theorem dX13_eats_4 : decode cX13_eats 4 = .ok (.iload_n 1, 1) := by decide +kernel
theorem dX13_eats_5 : decode cX13_eats 5 = .ok (.if_icmp .ne 7, 3) := by decide +kernel
theorem dX13_eats_8 : decode cX13_eats 8 = .ok (.iconst 1, 1) := by decide +kernel
theorem dX13_eats_9 : decode cX13_eats 9 = .ok (.goto 4, 3) := by decide +kernel
theorem dX13_eats_12 : decode cX13_eats 12 = .ok (.iconst 0, 1) := by decide +kernel
theorem dX13_eats_13 : decode cX13_eats 13 = .ok (.istore_n 2, 1) := by decide +kernel
theorem dX13_eats_14 : decode cX13_eats 14 = .ok (.iload_n 2, 1) := by decide +kernel
theorem dX13_eats_15 : decode cX13_eats 15 = .ok (.ifCond .eq 7, 3) := by decide +kernel
theorem dX13_eats_18 : decode cX13_eats 18 = .ok (.aload_n 0, 1) := by decide +kernel
theorem dX13_eats_19 : decode cX13_eats 19 = .ok (.invokevirtual 116, 3) := by decide +kernel
theorem dX13_eats_22 : decode cX13_eats 22 = .ok (.iload_n 2, 1) := by decide +kernel
theorem dX13_eats_23 : decode cX13_eats 23 = .ok (.ireturn, 1) := by decide +kernel
theorem dX13_needs_0 : decode cX13_needs 0 = .ok (.aload_n 0, 1) := by decide +kernel
theorem dX13_needs_1 : decode cX13_needs 1 = .ok (.aload_n 1, 1) := by decide +kernel
theorem dX13_needs_2 : decode cX13_needs 2 = .ok (.invokevirtual 119, 3) := by decide +kernel
theorem dX13_needs_5 : decode cX13_needs 5 = .ok (.ifCond .ne 8, 3) := by decide +kernel
theorem dX13_needs_8 : decode cX13_needs 8 = .ok (.aload_n 0, 1) := by decide +kernel
theorem dX13_needs_9 : decode cX13_needs 9 = .ok (.iconst 1, 1) := by decide +kernel
theorem dX13_needs_10 : decode cX13_needs 10 = .ok (.invokevirtual 123, 3) := by decide +kernel
theorem dX13_needs_13 : decode cX13_needs 13 = .ok (.aload_n 0, 1) := by decide +kernel
theorem dX13_needs_14 : decode cX13_needs 14 = .ok (.invokevirtual 116, 3) := by decide +kernel
theorem dX13_needs_17 : decode cX13_needs 17 = .ok (.return_, 1) := by decide +kernel
theorem dX13_readWhole_0 : decode cX13_readWhole 0 = .ok (.aload_n 0, 1) := by decide +kernel
theorem dX13_readWhole_1 : decode cX13_readWhole 1 = .ok (.getfield 80, 3) := by decide +kernel
theorem dX13_readWhole_4 : decode cX13_readWhole 4 = .ok (.iconst 3, 1) := by decide +kernel
theorem dX13_readWhole_5 : decode cX13_readWhole 5 = .ok (.if_icmp .eq 11, 3) := by decide +kernel
theorem dX13_readWhole_8 : decode cX13_readWhole 8 = .ok (.aload_n 0, 1) := by decide +kernel
theorem dX13_readWhole_9 : decode cX13_readWhole 9 = .ok (.iconst 1, 1) := by decide +kernel
theorem dX13_readWhole_10 : decode cX13_readWhole 10 = .ok (.invokevirtual 123, 3) := by decide +kernel
theorem dX13_readWhole_13 : decode cX13_readWhole 13 = .ok (.goto 20, 3) := by decide +kernel
theorem dX13_readWhole_16 : decode cX13_readWhole 16 = .ok (.aload_n 0, 1) := by decide +kernel
theorem dX13_readWhole_17 : decode cX13_readWhole 17 = .ok (.getfield 103, 3) := by decide +kernel
theorem dX13_readWhole_20 : decode cX13_readWhole 20 = .ok (.iload_n 1, 1) := by decide +kernel
theorem dX13_readWhole_21 : decode cX13_readWhole 21 = .ok (.iload_n 2, 1) := by decide +kernel
theorem dX13_readWhole_22 : decode cX13_readWhole 22 = .ok (.invokestatic 127, 3) := by decide +kernel
theorem dX13_readWhole_25 : decode cX13_readWhole 25 = .ok (.ifCond .ne 8, 3) := by decide +kernel
theorem dX13_readWhole_28 : decode cX13_readWhole 28 = .ok (.aload_n 0, 1) := by decide +kernel
theorem dX13_readWhole_29 : decode cX13_readWhole 29 = .ok (.iconst 4, 1) := by decide +kernel
theorem dX13_readWhole_30 : decode cX13_readWhole 30 = .ok (.invokevirtual 123, 3) := by decide +kernel
theorem dX13_readWhole_33 : decode cX13_readWhole 33 = .ok (.aload_n 0, 1) := by decide +kernel
theorem dX13_readWhole_34 : decode cX13_readWhole 34 = .ok (.getfield 80, 3) := by decide +kernel
theorem dX13_readWhole_37 : decode cX13_readWhole 37 = .ok (.bipush 6, 2) := by decide +kernel
theorem dX13_readWhole_39 : decode cX13_readWhole 39 = .ok (.if_icmp .ne 7, 3) := by decide +kernel
theorem dX13_readWhole_42 : decode cX13_readWhole 42 = .ok (.iload_n 1, 1) := by decide +kernel
theorem dX13_readWhole_43 : decode cX13_readWhole 43 = .ok (.goto 7, 3) := by decide +kernel
theorem dX13_readWhole_46 : decode cX13_readWhole 46 = .ok (.aload_n 0, 1) := by decide +kernel
theorem dX13_readWhole_47 : decode cX13_readWhole 47 = .ok (.getfield 103, 3) := by decide +kernel
theorem dX13_readWhole_50 : decode cX13_readWhole 50 = .ok (.istore_n 3, 1) := by decide +kernel
theorem dX13_readWhole_51 : decode cX13_readWhole 51 = .ok (.aload_n 0, 1) := by decide +kernel
theorem dX13_readWhole_52 : decode cX13_readWhole 52 = .ok (.invokevirtual 116, 3) := by decide +kernel
theorem dX13_readWhole_55 : decode cX13_readWhole 55 = .ok (.iload_n 3, 1) := by decide +kernel
theorem dX13_readWhole_56 : decode cX13_readWhole 56 = .ok (.ireturn, 1) := by decide +kernel
theorem dX13_readPart_0 : decode cX13_readPart 0 = .ok (.aload_n 0, 1) := by decide +kernel
theorem dX13_readPart_1 : decode cX13_readPart 1 = .ok (.aload_n 1, 1) := by decide +kernel
theorem dX13_readPart_2 : decode cX13_readPart 2 = .ok (.invokevirtual 131, 3) := by decide +kernel
theorem dX13_readPart_5 : decode cX13_readPart 5 = .ok (.aload_n 0, 1) := by decide +kernel
theorem dX13_readPart_6 : decode cX13_readPart 6 = .ok (.iload_n 2, 1) := by decide +kernel
theorem dX13_readPart_7 : decode cX13_readPart 7 = .ok (.iload_n 3, 1) := by decide +kernel
theorem dX13_readPart_8 : decode cX13_readPart 8 = .ok (.invokevirtual 135, 3) := by decide +kernel
theorem dX13_readPart_11 : decode cX13_readPart 11 = .ok (.ireturn, 1) := by decide +kernel
theorem dX13_isName_0 : decode cX13_isName 0 = .ok (.aload_n 0, 1) := by decide +kernel
theorem dX13_isName_1 : decode cX13_isName 1 = .ok (.getfield 80, 3) := by decide +kernel
theorem dX13_isName_4 : decode cX13_isName 4 = .ok (.iconst 2, 1) := by decide +kernel
theorem dX13_isName_5 : decode cX13_isName 5 = .ok (.if_icmp .ne 48, 3) := by decide +kernel
theorem dX13_isName_8 : decode cX13_isName 8 = .ok (.aload_n 0, 1) := by decide +kernel
theorem dX13_isName_9 : decode cX13_isName 9 = .ok (.ldc 139, 2) := by decide +kernel
theorem dX13_isName_11 : decode cX13_isName 11 = .ok (.invokevirtual 119, 3) := by decide +kernel
theorem dX13_isName_14 : decode cX13_isName 14 = .ok (.ifCond .ne 39, 3) := by decide +kernel
theorem dX13_isName_17 : decode cX13_isName 17 = .ok (.aload_n 0, 1) := by decide +kernel
theorem dX13_isName_18 : decode cX13_isName 18 = .ok (.ldc 141, 2) := by decide +kernel
theorem dX13_isName_20 : decode cX13_isName 20 = .ok (.invokevirtual 119, 3) := by decide +kernel
theorem dX13_isName_23 : decode cX13_isName 23 = .ok (.ifCond .ne 30, 3) := by decide +kernel
theorem dX13_isName_26 : decode cX13_isName 26 = .ok (.aload_n 0, 1) := by decide +kernel
theorem dX13_isName_27 : decode cX13_isName 27 = .ok (.ldc 143, 2) := by decide +kernel
theorem dX13_isName_29 : decode cX13_isName 29 = .ok (.invokevirtual 119, 3) := by decide +kernel
theorem dX13_isName_32 : decode cX13_isName 32 = .ok (.ifCond .ne 21, 3) := by decide +kernel
theorem dX13_isName_35 : decode cX13_isName 35 = .ok (.aload_n 0, 1) := by decide +kernel
theorem dX13_isName_36 : decode cX13_isName 36 = .ok (.ldc 145, 2) := by decide +kernel
theorem dX13_isName_38 : decode cX13_isName 38 = .ok (.invokevirtual 119, 3) := by decide +kernel
theorem dX13_isName_41 : decode cX13_isName 41 = .ok (.ifCond .ne 12, 3) := by decide +kernel
theorem dX13_isName_44 : decode cX13_isName 44 = .ok (.aload_n 0, 1) := by decide +kernel
theorem dX13_isName_45 : decode cX13_isName 45 = .ok (.ldc 147, 2) := by decide +kernel
theorem dX13_isName_47 : decode cX13_isName 47 = .ok (.invokevirtual 119, 3) := by decide +kernel
theorem dX13_isName_50 : decode cX13_isName 50 = .ok (.ifCond .eq 5, 3) := by decide +kernel
theorem dX13_isName_53 : decode cX13_isName 53 = .ok (.iconst 0, 1) := by decide +kernel
theorem dX13_isName_54 : decode cX13_isName 54 = .ok (.ireturn, 1) := by decide +kernel
theorem dX13_isName_55 : decode cX13_isName 55 = .ok (.aload_n 0, 1) := by decide +kernel
theorem dX13_isName_56 : decode cX13_isName 56 = .ok (.ldc 149, 2) := by decide +kernel
theorem dX13_isName_58 : decode cX13_isName 58 = .ok (.invokevirtual 119, 3) := by decide +kernel
theorem dX13_isName_61 : decode cX13_isName 61 = .ok (.ifCond .ne 34, 3) := by decide +kernel
theorem dX13_isName_64 : decode cX13_isName 64 = .ok (.aload_n 0, 1) := by decide +kernel
theorem dX13_isName_65 : decode cX13_isName 65 = .ok (.ldc 151, 2) := by decide +kernel
theorem dX13_isName_67 : decode cX13_isName 67 = .ok (.invokevirtual 119, 3) := by decide +kernel
theorem dX13_isName_70 : decode cX13_isName 70 = .ok (.ifCond .ne 25, 3) := by decide +kernel
theorem dX13_isName_73 : decode cX13_isName 73 = .ok (.aload_n 0, 1) := by decide +kernel
theorem dX13_isName_74 : decode cX13_isName 74 = .ok (.ldc 153, 2) := by decide +kernel
theorem dX13_isName_76 : decode cX13_isName 76 = .ok (.invokevirtual 119, 3) := by decide +kernel
theorem dX13_isName_79 : decode cX13_isName 79 = .ok (.ifCond .ne 16, 3) := by decide +kernel
theorem dX13_isName_82 : decode cX13_isName 82 = .ok (.aload_n 0, 1) := by decide +kernel
theorem dX13_isName_83 : decode cX13_isName 83 = .ok (.ldc 155, 2) := by decide +kernel
theorem dX13_isName_85 : decode cX13_isName 85 = .ok (.invokevirtual 119, 3) := by decide +kernel
theorem dX13_isName_88 : decode cX13_isName 88 = .ok (.ifCond .ne 7, 3) := by decide +kernel
theorem dX13_isName_91 : decode cX13_isName 91 = .ok (.iconst 1, 1) := by decide +kernel
theorem dX13_isName_92 : decode cX13_isName 92 = .ok (.goto 4, 3) := by decide +kernel
theorem dX13_isName_95 : decode cX13_isName 95 = .ok (.iconst 0, 1) := by decide +kernel
theorem dX13_isName_96 : decode cX13_isName 96 = .ok (.ireturn, 1) := by decide +kernel
theorem dX13_lineBegins_0 : decode cX13_lineBegins 0 = .ok (.iload_n 1, 1) := by decide +kernel
theorem dX13_lineBegins_1 : decode cX13_lineBegins 1 = .ok (.iload_n 2, 1) := by decide +kernel
theorem dX13_lineBegins_2 : decode cX13_lineBegins 2 = .ok (.if_icmp .ne 8, 3) := by decide +kernel
theorem dX13_lineBegins_5 : decode cX13_lineBegins 5 = .ok (.aload_n 0, 1) := by decide +kernel
theorem dX13_lineBegins_6 : decode cX13_lineBegins 6 = .ok (.iconst 5, 1) := by decide +kernel
theorem dX13_lineBegins_7 : decode cX13_lineBegins 7 = .ok (.invokevirtual 123, 3) := by decide +kernel
theorem dX13_lineBegins_10 : decode cX13_lineBegins 10 = .ok (.aload_n 0, 1) := by decide +kernel
theorem dX13_lineBegins_11 : decode cX13_lineBegins 11 = .ok (.getfield 157, 3) := by decide +kernel
theorem dX13_lineBegins_14 : decode cX13_lineBegins 14 = .ok (.getfield 161, 3) := by decide +kernel
theorem dX13_lineBegins_17 : decode cX13_lineBegins 17 = .ok (.iconst (-1), 1) := by decide +kernel
theorem dX13_lineBegins_18 : decode cX13_lineBegins 18 = .ok (.if_icmp .ne 9, 3) := by decide +kernel
theorem dX13_lineBegins_21 : decode cX13_lineBegins 21 = .ok (.aload_n 0, 1) := by decide +kernel
theorem dX13_lineBegins_22 : decode cX13_lineBegins 22 = .ok (.bipush 6, 2) := by decide +kernel
theorem dX13_lineBegins_24 : decode cX13_lineBegins 24 = .ok (.invokevirtual 123, 3) := by decide +kernel
theorem dX13_lineBegins_27 : decode cX13_lineBegins 27 = .ok (.aload_n 0, 1) := by decide +kernel
theorem dX13_lineBegins_28 : decode cX13_lineBegins 28 = .ok (.invokevirtual 116, 3) := by decide +kernel
theorem dX13_lineBegins_31 : decode cX13_lineBegins 31 = .ok (.return_, 1) := by decide +kernel
theorem dX13_readFresh_0 : decode cX13_readFresh 0 = .ok (.aload_n 0, 1) := by decide +kernel
theorem dX13_readFresh_1 : decode cX13_readFresh 1 = .ok (.invokevirtual 166, 3) := by decide +kernel
theorem dX13_readFresh_4 : decode cX13_readFresh 4 = .ok (.ifCond .ne 8, 3) := by decide +kernel
theorem dX13_readFresh_7 : decode cX13_readFresh 7 = .ok (.aload_n 0, 1) := by decide +kernel
theorem dX13_readFresh_8 : decode cX13_readFresh 8 = .ok (.iconst 1, 1) := by decide +kernel
theorem dX13_readFresh_9 : decode cX13_readFresh 9 = .ok (.invokevirtual 123, 3) := by decide +kernel
theorem dX13_readFresh_12 : decode cX13_readFresh 12 = .ok (.aload_n 0, 1) := by decide +kernel
theorem dX13_readFresh_13 : decode cX13_readFresh 13 = .ok (.getfield 157, 3) := by decide +kernel
theorem dX13_readFresh_16 : decode cX13_readFresh 16 = .ok (.aload_n 0, 1) := by decide +kernel
theorem dX13_readFresh_17 : decode cX13_readFresh 17 = .ok (.getfield 96, 3) := by decide +kernel
theorem dX13_readFresh_20 : decode cX13_readFresh 20 = .ok (.invokevirtual 170, 3) := by decide +kernel
theorem dX13_readFresh_23 : decode cX13_readFresh 23 = .ok (.iconst (-1), 1) := by decide +kernel
theorem dX13_readFresh_24 : decode cX13_readFresh 24 = .ok (.if_icmp .eq 8, 3) := by decide +kernel
theorem dX13_readFresh_27 : decode cX13_readFresh 27 = .ok (.aload_n 0, 1) := by decide +kernel
theorem dX13_readFresh_28 : decode cX13_readFresh 28 = .ok (.iconst 3, 1) := by decide +kernel
theorem dX13_readFresh_29 : decode cX13_readFresh 29 = .ok (.invokevirtual 123, 3) := by decide +kernel
theorem dX13_readFresh_32 : decode cX13_readFresh 32 = .ok (.aload_n 0, 1) := by decide +kernel
theorem dX13_readFresh_33 : decode cX13_readFresh 33 = .ok (.getfield 96, 3) := by decide +kernel
theorem dX13_readFresh_36 : decode cX13_readFresh 36 = .ok (.lstore_n 1, 1) := by decide +kernel
theorem dX13_readFresh_37 : decode cX13_readFresh 37 = .ok (.aload_n 0, 1) := by decide +kernel
theorem dX13_readFresh_38 : decode cX13_readFresh 38 = .ok (.invokevirtual 116, 3) := by decide +kernel
theorem dX13_readFresh_41 : decode cX13_readFresh 41 = .ok (.lload_n 1, 1) := by decide +kernel
theorem dX13_readFresh_42 : decode cX13_readFresh 42 = .ok (.lreturn, 1) := by decide +kernel
theorem dX13_names_0 : decode cX13_names 0 = .ok (.aload_n 0, 1) := by decide +kernel
theorem dX13_names_1 : decode cX13_names 1 = .ok (.getfield 157, 3) := by decide +kernel
theorem dX13_names_4 : decode cX13_names 4 = .ok (.getfield 174, 3) := by decide +kernel
theorem dX13_names_7 : decode cX13_names 7 = .ok (.aload_n 0, 1) := by decide +kernel
theorem dX13_names_8 : decode cX13_names 8 = .ok (.getfield 157, 3) := by decide +kernel
theorem dX13_names_11 : decode cX13_names 11 = .ok (.getfield 178, 3) := by decide +kernel
theorem dX13_names_14 : decode cX13_names 14 = .ok (.lload_n 1, 1) := by decide +kernel
theorem dX13_names_15 : decode cX13_names 15 = .ok (.lastore, 1) := by decide +kernel
theorem dX13_names_16 : decode cX13_names 16 = .ok (.aload_n 0, 1) := by decide +kernel
theorem dX13_names_17 : decode cX13_names 17 = .ok (.getfield 157, 3) := by decide +kernel
theorem dX13_names_20 : decode cX13_names 20 = .ok (.getfield 181, 3) := by decide +kernel
theorem dX13_names_23 : decode cX13_names 23 = .ok (.aload_n 0, 1) := by decide +kernel
theorem dX13_names_24 : decode cX13_names 24 = .ok (.getfield 157, 3) := by decide +kernel
theorem dX13_names_27 : decode cX13_names 27 = .ok (.getfield 178, 3) := by decide +kernel
theorem dX13_names_30 : decode cX13_names 30 = .ok (.iload_n 3, 1) := by decide +kernel
theorem dX13_names_31 : decode cX13_names 31 = .ok (.iastore, 1) := by decide +kernel
theorem dX13_names_32 : decode cX13_names 32 = .ok (.aload_n 0, 1) := by decide +kernel
theorem dX13_names_33 : decode cX13_names 33 = .ok (.getfield 157, 3) := by decide +kernel
theorem dX13_names_36 : decode cX13_names 36 = .ok (.getfield 184, 3) := by decide +kernel
theorem dX13_names_39 : decode cX13_names 39 = .ok (.aload_n 0, 1) := by decide +kernel
theorem dX13_names_40 : decode cX13_names 40 = .ok (.getfield 157, 3) := by decide +kernel
theorem dX13_names_43 : decode cX13_names 43 = .ok (.getfield 178, 3) := by decide +kernel
theorem dX13_names_46 : decode cX13_names 46 = .ok (.iload 4, 2) := by decide +kernel
theorem dX13_names_48 : decode cX13_names 48 = .ok (.iastore, 1) := by decide +kernel
theorem dX13_names_49 : decode cX13_names 49 = .ok (.aload_n 0, 1) := by decide +kernel
theorem dX13_names_50 : decode cX13_names 50 = .ok (.getfield 157, 3) := by decide +kernel
theorem dX13_names_53 : decode cX13_names 53 = .ok (.dup, 1) := by decide +kernel
theorem dX13_names_54 : decode cX13_names 54 = .ok (.getfield 178, 3) := by decide +kernel
theorem dX13_names_57 : decode cX13_names 57 = .ok (.iconst 1, 1) := by decide +kernel
theorem dX13_names_58 : decode cX13_names 58 = .ok (.iadd, 1) := by decide +kernel
theorem dX13_names_59 : decode cX13_names 59 = .ok (.putfield 178, 3) := by decide +kernel
theorem dX13_names_62 : decode cX13_names 62 = .ok (.return_, 1) := by decide +kernel
theorem dX13_knownOne_0 : decode cX13_knownOne 0 = .ok (.aload_n 0, 1) := by decide +kernel
theorem dX13_knownOne_1 : decode cX13_knownOne 1 = .ok (.invokevirtual 166, 3) := by decide +kernel
theorem dX13_knownOne_4 : decode cX13_knownOne 4 = .ok (.ifCond .ne 8, 3) := by decide +kernel
theorem dX13_knownOne_7 : decode cX13_knownOne 7 = .ok (.aload_n 0, 1) := by decide +kernel
theorem dX13_knownOne_8 : decode cX13_knownOne 8 = .ok (.iconst 1, 1) := by decide +kernel
theorem dX13_knownOne_9 : decode cX13_knownOne 9 = .ok (.invokevirtual 123, 3) := by decide +kernel
theorem dX13_knownOne_12 : decode cX13_knownOne 12 = .ok (.aload_n 0, 1) := by decide +kernel
theorem dX13_knownOne_13 : decode cX13_knownOne 13 = .ok (.getfield 157, 3) := by decide +kernel
theorem dX13_knownOne_16 : decode cX13_knownOne 16 = .ok (.aload_n 0, 1) := by decide +kernel
theorem dX13_knownOne_17 : decode cX13_knownOne 17 = .ok (.getfield 96, 3) := by decide +kernel
theorem dX13_knownOne_20 : decode cX13_knownOne 20 = .ok (.invokevirtual 170, 3) := by decide +kernel
theorem dX13_knownOne_23 : decode cX13_knownOne 23 = .ok (.istore_n 2, 1) := by decide +kernel
theorem dX13_knownOne_24 : decode cX13_knownOne 24 = .ok (.iload_n 2, 1) := by decide +kernel
theorem dX13_knownOne_25 : decode cX13_knownOne 25 = .ok (.iconst (-1), 1) := by decide +kernel
theorem dX13_knownOne_26 : decode cX13_knownOne 26 = .ok (.if_icmp .eq 16, 3) := by decide +kernel
theorem dX13_knownOne_29 : decode cX13_knownOne 29 = .ok (.aload_n 0, 1) := by decide +kernel
theorem dX13_knownOne_30 : decode cX13_knownOne 30 = .ok (.getfield 157, 3) := by decide +kernel
theorem dX13_knownOne_33 : decode cX13_knownOne 33 = .ok (.getfield 181, 3) := by decide +kernel
theorem dX13_knownOne_36 : decode cX13_knownOne 36 = .ok (.iload_n 2, 1) := by decide +kernel
theorem dX13_knownOne_37 : decode cX13_knownOne 37 = .ok (.iaload, 1) := by decide +kernel
theorem dX13_knownOne_38 : decode cX13_knownOne 38 = .ok (.iload_n 1, 1) := by decide +kernel
theorem dX13_knownOne_39 : decode cX13_knownOne 39 = .ok (.if_icmp .eq 8, 3) := by decide +kernel
theorem dX13_knownOne_42 : decode cX13_knownOne 42 = .ok (.aload_n 0, 1) := by decide +kernel
theorem dX13_knownOne_43 : decode cX13_knownOne 43 = .ok (.iconst 2, 1) := by decide +kernel
theorem dX13_knownOne_44 : decode cX13_knownOne 44 = .ok (.invokevirtual 123, 3) := by decide +kernel
theorem dX13_knownOne_47 : decode cX13_knownOne 47 = .ok (.aload_n 0, 1) := by decide +kernel
theorem dX13_knownOne_48 : decode cX13_knownOne 48 = .ok (.getfield 80, 3) := by decide +kernel
theorem dX13_knownOne_51 : decode cX13_knownOne 51 = .ok (.bipush 6, 2) := by decide +kernel
theorem dX13_knownOne_53 : decode cX13_knownOne 53 = .ok (.if_icmp .ne 7, 3) := by decide +kernel
theorem dX13_knownOne_56 : decode cX13_knownOne 56 = .ok (.iconst 0, 1) := by decide +kernel
theorem dX13_knownOne_57 : decode cX13_knownOne 57 = .ok (.goto 12, 3) := by decide +kernel
theorem dX13_knownOne_60 : decode cX13_knownOne 60 = .ok (.aload_n 0, 1) := by decide +kernel
theorem dX13_knownOne_61 : decode cX13_knownOne 61 = .ok (.getfield 157, 3) := by decide +kernel
theorem dX13_knownOne_64 : decode cX13_knownOne 64 = .ok (.getfield 184, 3) := by decide +kernel
theorem dX13_knownOne_67 : decode cX13_knownOne 67 = .ok (.iload_n 2, 1) := by decide +kernel
theorem dX13_knownOne_68 : decode cX13_knownOne 68 = .ok (.iaload, 1) := by decide +kernel
theorem dX13_knownOne_69 : decode cX13_knownOne 69 = .ok (.ireturn, 1) := by decide +kernel
theorem dX13_readKnown_0 : decode cX13_readKnown 0 = .ok (.aload_n 0, 1) := by decide +kernel
theorem dX13_readKnown_1 : decode cX13_readKnown 1 = .ok (.iload_n 1, 1) := by decide +kernel
theorem dX13_readKnown_2 : decode cX13_readKnown 2 = .ok (.invokevirtual 187, 3) := by decide +kernel
theorem dX13_readKnown_5 : decode cX13_readKnown 5 = .ok (.istore_n 2, 1) := by decide +kernel
theorem dX13_readKnown_6 : decode cX13_readKnown 6 = .ok (.aload_n 0, 1) := by decide +kernel
theorem dX13_readKnown_7 : decode cX13_readKnown 7 = .ok (.invokevirtual 116, 3) := by decide +kernel
theorem dX13_readKnown_10 : decode cX13_readKnown 10 = .ok (.iload_n 2, 1) := by decide +kernel
theorem dX13_readKnown_11 : decode cX13_readKnown 11 = .ok (.ireturn, 1) := by decide +kernel
theorem dX13_readVerdict_0 : decode cX13_readVerdict 0 = .ok (.aload_n 0, 1) := by decide +kernel
theorem dX13_readVerdict_1 : decode cX13_readVerdict 1 = .ok (.ldc 190, 2) := by decide +kernel
theorem dX13_readVerdict_3 : decode cX13_readVerdict 3 = .ok (.invokevirtual 119, 3) := by decide +kernel
theorem dX13_readVerdict_6 : decode cX13_readVerdict 6 = .ok (.ifCond .eq 7, 3) := by decide +kernel
theorem dX13_readVerdict_9 : decode cX13_readVerdict 9 = .ok (.iconst 0, 1) := by decide +kernel
theorem dX13_readVerdict_10 : decode cX13_readVerdict 10 = .ok (.goto 30, 3) := by decide +kernel
theorem dX13_readVerdict_13 : decode cX13_readVerdict 13 = .ok (.aload_n 0, 1) := by decide +kernel
theorem dX13_readVerdict_14 : decode cX13_readVerdict 14 = .ok (.ldc 192, 2) := by decide +kernel
theorem dX13_readVerdict_16 : decode cX13_readVerdict 16 = .ok (.invokevirtual 119, 3) := by decide +kernel
theorem dX13_readVerdict_19 : decode cX13_readVerdict 19 = .ok (.ifCond .eq 7, 3) := by decide +kernel
theorem dX13_readVerdict_22 : decode cX13_readVerdict 22 = .ok (.iconst 1, 1) := by decide +kernel
theorem dX13_readVerdict_23 : decode cX13_readVerdict 23 = .ok (.goto 17, 3) := by decide +kernel
theorem dX13_readVerdict_26 : decode cX13_readVerdict 26 = .ok (.aload_n 0, 1) := by decide +kernel
theorem dX13_readVerdict_27 : decode cX13_readVerdict 27 = .ok (.ldc 194, 2) := by decide +kernel
theorem dX13_readVerdict_29 : decode cX13_readVerdict 29 = .ok (.invokevirtual 119, 3) := by decide +kernel
theorem dX13_readVerdict_32 : decode cX13_readVerdict 32 = .ok (.ifCond .eq 7, 3) := by decide +kernel
theorem dX13_readVerdict_35 : decode cX13_readVerdict 35 = .ok (.iconst 2, 1) := by decide +kernel
theorem dX13_readVerdict_36 : decode cX13_readVerdict 36 = .ok (.goto 4, 3) := by decide +kernel
theorem dX13_readVerdict_39 : decode cX13_readVerdict 39 = .ok (.iconst (-1), 1) := by decide +kernel
theorem dX13_readVerdict_40 : decode cX13_readVerdict 40 = .ok (.istore_n 1, 1) := by decide +kernel
theorem dX13_readVerdict_41 : decode cX13_readVerdict 41 = .ok (.iload_n 1, 1) := by decide +kernel
theorem dX13_readVerdict_42 : decode cX13_readVerdict 42 = .ok (.iconst (-1), 1) := by decide +kernel
theorem dX13_readVerdict_43 : decode cX13_readVerdict 43 = .ok (.if_icmp .ne 8, 3) := by decide +kernel
theorem dX13_readVerdict_46 : decode cX13_readVerdict 46 = .ok (.aload_n 0, 1) := by decide +kernel
theorem dX13_readVerdict_47 : decode cX13_readVerdict 47 = .ok (.iconst 1, 1) := by decide +kernel
theorem dX13_readVerdict_48 : decode cX13_readVerdict 48 = .ok (.invokevirtual 123, 3) := by decide +kernel
theorem dX13_readVerdict_51 : decode cX13_readVerdict 51 = .ok (.aload_n 0, 1) := by decide +kernel
theorem dX13_readVerdict_52 : decode cX13_readVerdict 52 = .ok (.invokevirtual 116, 3) := by decide +kernel
theorem dX13_readVerdict_55 : decode cX13_readVerdict 55 = .ok (.iload_n 1, 1) := by decide +kernel
theorem dX13_readVerdict_56 : decode cX13_readVerdict 56 = .ok (.ireturn, 1) := by decide +kernel
theorem dX13_readMarks_0 : decode cX13_readMarks 0 = .ok (.iconst 0, 1) := by decide +kernel
theorem dX13_readMarks_1 : decode cX13_readMarks 1 = .ok (.istore_n 1, 1) := by decide +kernel
theorem dX13_readMarks_2 : decode cX13_readMarks 2 = .ok (.aload_n 0, 1) := by decide +kernel
theorem dX13_readMarks_3 : decode cX13_readMarks 3 = .ok (.iconst 5, 1) := by decide +kernel
theorem dX13_readMarks_4 : decode cX13_readMarks 4 = .ok (.invokevirtual 196, 3) := by decide +kernel
theorem dX13_readMarks_7 : decode cX13_readMarks 7 = .ok (.ifCond .eq 44, 3) := by decide +kernel
theorem dX13_readMarks_10 : decode cX13_readMarks 10 = .ok (.aload_n 0, 1) := by decide +kernel
theorem dX13_readMarks_11 : decode cX13_readMarks 11 = .ok (.iconst 0, 1) := by decide +kernel
theorem dX13_readMarks_12 : decode cX13_readMarks 12 = .ok (.invokevirtual 187, 3) := by decide +kernel
theorem dX13_readMarks_15 : decode cX13_readMarks 15 = .ok (.istore_n 2, 1) := by decide +kernel
theorem dX13_readMarks_16 : decode cX13_readMarks 16 = .ok (.aload_n 0, 1) := by decide +kernel
theorem dX13_readMarks_17 : decode cX13_readMarks 17 = .ok (.getfield 80, 3) := by decide +kernel
theorem dX13_readMarks_20 : decode cX13_readMarks 20 = .ok (.bipush 6, 2) := by decide +kernel
theorem dX13_readMarks_22 : decode cX13_readMarks 22 = .ok (.if_icmp .eq 16, 3) := by decide +kernel
theorem dX13_readMarks_25 : decode cX13_readMarks 25 = .ok (.iload_n 1, 1) := by decide +kernel
theorem dX13_readMarks_26 : decode cX13_readMarks 26 = .ok (.iload_n 2, 1) := by decide +kernel
theorem dX13_readMarks_27 : decode cX13_readMarks 27 = .ok (.invokestatic 199, 3) := by decide +kernel
theorem dX13_readMarks_30 : decode cX13_readMarks 30 = .ok (.ifCond .eq 8, 3) := by decide +kernel
theorem dX13_readMarks_33 : decode cX13_readMarks 33 = .ok (.aload_n 0, 1) := by decide +kernel
theorem dX13_readMarks_34 : decode cX13_readMarks 34 = .ok (.iconst 3, 1) := by decide +kernel
theorem dX13_readMarks_35 : decode cX13_readMarks 35 = .ok (.invokevirtual 123, 3) := by decide +kernel
theorem dX13_readMarks_38 : decode cX13_readMarks 38 = .ok (.aload_n 0, 1) := by decide +kernel
theorem dX13_readMarks_39 : decode cX13_readMarks 39 = .ok (.invokevirtual 116, 3) := by decide +kernel
theorem dX13_readMarks_42 : decode cX13_readMarks 42 = .ok (.iload_n 1, 1) := by decide +kernel
theorem dX13_readMarks_43 : decode cX13_readMarks 43 = .ok (.iconst 1, 1) := by decide +kernel
theorem dX13_readMarks_44 : decode cX13_readMarks 44 = .ok (.iload_n 2, 1) := by decide +kernel
theorem dX13_readMarks_45 : decode cX13_readMarks 45 = .ok (.ishl, 1) := by decide +kernel
theorem dX13_readMarks_46 : decode cX13_readMarks 46 = .ok (.ior, 1) := by decide +kernel
theorem dX13_readMarks_47 : decode cX13_readMarks 47 = .ok (.istore_n 1, 1) := by decide +kernel
theorem dX13_readMarks_48 : decode cX13_readMarks 48 = .ok (.goto (-46), 3) := by decide +kernel
theorem dX13_readMarks_51 : decode cX13_readMarks 51 = .ok (.iload_n 1, 1) := by decide +kernel
theorem dX13_readMarks_52 : decode cX13_readMarks 52 = .ok (.ireturn, 1) := by decide +kernel
theorem dX13_readAll_0 : decode cX13_readAll 0 = .ok (.iconst 1, 1) := by decide +kernel
theorem dX13_readAll_1 : decode cX13_readAll 1 = .ok (.istore_n 1, 1) := by decide +kernel
theorem dX13_readAll_2 : decode cX13_readAll 2 = .ok (.iload_n 1, 1) := by decide +kernel
theorem dX13_readAll_3 : decode cX13_readAll 3 = .ok (.ifCond .eq 16, 3) := by decide +kernel
theorem dX13_readAll_6 : decode cX13_readAll 6 = .ok (.aload_n 0, 1) := by decide +kernel
theorem dX13_readAll_7 : decode cX13_readAll 7 = .ok (.invokevirtual 203, 3) := by decide +kernel
theorem dX13_readAll_10 : decode cX13_readAll 10 = .ok (.aload_n 0, 1) := by decide +kernel
theorem dX13_readAll_11 : decode cX13_readAll 11 = .ok (.iconst 4, 1) := by decide +kernel
theorem dX13_readAll_12 : decode cX13_readAll 12 = .ok (.invokevirtual 196, 3) := by decide +kernel
theorem dX13_readAll_15 : decode cX13_readAll 15 = .ok (.istore_n 1, 1) := by decide +kernel
theorem dX13_readAll_16 : decode cX13_readAll 16 = .ok (.goto (-14), 3) := by decide +kernel
theorem dX13_readAll_19 : decode cX13_readAll 19 = .ok (.aload_n 0, 1) := by decide +kernel
theorem dX13_readAll_20 : decode cX13_readAll 20 = .ok (.getfield 80, 3) := by decide +kernel
theorem dX13_readAll_23 : decode cX13_readAll 23 = .ok (.iconst 1, 1) := by decide +kernel
theorem dX13_readAll_24 : decode cX13_readAll 24 = .ok (.if_icmp .eq 8, 3) := by decide +kernel
theorem dX13_readAll_27 : decode cX13_readAll 27 = .ok (.aload_n 0, 1) := by decide +kernel
theorem dX13_readAll_28 : decode cX13_readAll 28 = .ok (.iconst 1, 1) := by decide +kernel
theorem dX13_readAll_29 : decode cX13_readAll 29 = .ok (.invokevirtual 123, 3) := by decide +kernel
theorem dX13_readAll_32 : decode cX13_readAll 32 = .ok (.aload_n 0, 1) := by decide +kernel
theorem dX13_readAll_33 : decode cX13_readAll 33 = .ok (.getfield 157, 3) := by decide +kernel
theorem dX13_readAll_36 : decode cX13_readAll 36 = .ok (.getfield 206, 3) := by decide +kernel
theorem dX13_readAll_39 : decode cX13_readAll 39 = .ok (.ifCond .ne 9, 3) := by decide +kernel
theorem dX13_readAll_42 : decode cX13_readAll 42 = .ok (.aload_n 0, 1) := by decide +kernel
theorem dX13_readAll_43 : decode cX13_readAll 43 = .ok (.bipush 6, 2) := by decide +kernel
theorem dX13_readAll_45 : decode cX13_readAll 45 = .ok (.invokevirtual 123, 3) := by decide +kernel
theorem dX13_readAll_48 : decode cX13_readAll 48 = .ok (.return_, 1) := by decide +kernel
theorem dX13_readLine_0 : decode cX13_readLine 0 = .ok (.aload_n 0, 1) := by decide +kernel
theorem dX13_readLine_1 : decode cX13_readLine 1 = .ok (.ldc 139, 2) := by decide +kernel
theorem dX13_readLine_3 : decode cX13_readLine 3 = .ok (.invokevirtual 119, 3) := by decide +kernel
theorem dX13_readLine_6 : decode cX13_readLine 6 = .ok (.ifCond .eq 10, 3) := by decide +kernel
theorem dX13_readLine_9 : decode cX13_readLine 9 = .ok (.aload_n 0, 1) := by decide +kernel
theorem dX13_readLine_10 : decode cX13_readLine 10 = .ok (.invokevirtual 209, 3) := by decide +kernel
theorem dX13_readLine_13 : decode cX13_readLine 13 = .ok (.goto 120, 3) := by decide +kernel
theorem dX13_readLine_16 : decode cX13_readLine 16 = .ok (.aload_n 0, 1) := by decide +kernel
theorem dX13_readLine_17 : decode cX13_readLine 17 = .ok (.ldc 141, 2) := by decide +kernel
theorem dX13_readLine_19 : decode cX13_readLine 19 = .ok (.invokevirtual 119, 3) := by decide +kernel
theorem dX13_readLine_22 : decode cX13_readLine 22 = .ok (.ifCond .eq 10, 3) := by decide +kernel
theorem dX13_readLine_25 : decode cX13_readLine 25 = .ok (.aload_n 0, 1) := by decide +kernel
theorem dX13_readLine_26 : decode cX13_readLine 26 = .ok (.invokevirtual 212, 3) := by decide +kernel
theorem dX13_readLine_29 : decode cX13_readLine 29 = .ok (.goto 104, 3) := by decide +kernel
theorem dX13_readLine_32 : decode cX13_readLine 32 = .ok (.aload_n 0, 1) := by decide +kernel
theorem dX13_readLine_33 : decode cX13_readLine 33 = .ok (.ldc 143, 2) := by decide +kernel
theorem dX13_readLine_35 : decode cX13_readLine 35 = .ok (.invokevirtual 119, 3) := by decide +kernel
theorem dX13_readLine_38 : decode cX13_readLine 38 = .ok (.ifCond .eq 10, 3) := by decide +kernel
theorem dX13_readLine_41 : decode cX13_readLine 41 = .ok (.aload_n 0, 1) := by decide +kernel
theorem dX13_readLine_42 : decode cX13_readLine 42 = .ok (.invokevirtual 215, 3) := by decide +kernel
theorem dX13_readLine_45 : decode cX13_readLine 45 = .ok (.goto 88, 3) := by decide +kernel
theorem dX13_readLine_48 : decode cX13_readLine 48 = .ok (.aload_n 0, 1) := by decide +kernel
theorem dX13_readLine_49 : decode cX13_readLine 49 = .ok (.ldc 145, 2) := by decide +kernel
theorem dX13_readLine_51 : decode cX13_readLine 51 = .ok (.invokevirtual 119, 3) := by decide +kernel
theorem dX13_readLine_54 : decode cX13_readLine 54 = .ok (.ifCond .eq 10, 3) := by decide +kernel
theorem dX13_readLine_57 : decode cX13_readLine 57 = .ok (.aload_n 0, 1) := by decide +kernel
theorem dX13_readLine_58 : decode cX13_readLine 58 = .ok (.invokevirtual 218, 3) := by decide +kernel
theorem dX13_readLine_61 : decode cX13_readLine 61 = .ok (.goto 72, 3) := by decide +kernel
theorem dX13_readLine_64 : decode cX13_readLine 64 = .ok (.aload_n 0, 1) := by decide +kernel
theorem dX13_readLine_65 : decode cX13_readLine 65 = .ok (.ldc 147, 2) := by decide +kernel
theorem dX13_readLine_67 : decode cX13_readLine 67 = .ok (.invokevirtual 119, 3) := by decide +kernel
theorem dX13_readLine_70 : decode cX13_readLine 70 = .ok (.ifCond .eq 10, 3) := by decide +kernel
theorem dX13_readLine_73 : decode cX13_readLine 73 = .ok (.aload_n 0, 1) := by decide +kernel
theorem dX13_readLine_74 : decode cX13_readLine 74 = .ok (.invokevirtual 221, 3) := by decide +kernel
theorem dX13_readLine_77 : decode cX13_readLine 77 = .ok (.goto 56, 3) := by decide +kernel
theorem dX13_readLine_80 : decode cX13_readLine 80 = .ok (.aload_n 0, 1) := by decide +kernel
theorem dX13_readLine_81 : decode cX13_readLine 81 = .ok (.ldc 149, 2) := by decide +kernel
theorem dX13_readLine_83 : decode cX13_readLine 83 = .ok (.invokevirtual 119, 3) := by decide +kernel
theorem dX13_readLine_86 : decode cX13_readLine 86 = .ok (.ifCond .eq 10, 3) := by decide +kernel
theorem dX13_readLine_89 : decode cX13_readLine 89 = .ok (.aload_n 0, 1) := by decide +kernel
theorem dX13_readLine_90 : decode cX13_readLine 90 = .ok (.invokevirtual 224, 3) := by decide +kernel
theorem dX13_readLine_93 : decode cX13_readLine 93 = .ok (.goto 40, 3) := by decide +kernel
theorem dX13_readLine_96 : decode cX13_readLine 96 = .ok (.aload_n 0, 1) := by decide +kernel
theorem dX13_readLine_97 : decode cX13_readLine 97 = .ok (.ldc 151, 2) := by decide +kernel
theorem dX13_readLine_99 : decode cX13_readLine 99 = .ok (.invokevirtual 119, 3) := by decide +kernel
theorem dX13_readLine_102 : decode cX13_readLine 102 = .ok (.ifCond .eq 10, 3) := by decide +kernel
theorem dX13_readLine_105 : decode cX13_readLine 105 = .ok (.aload_n 0, 1) := by decide +kernel
theorem dX13_readLine_106 : decode cX13_readLine 106 = .ok (.invokevirtual 227, 3) := by decide +kernel
theorem dX13_readLine_109 : decode cX13_readLine 109 = .ok (.goto 24, 3) := by decide +kernel
theorem dX13_readLine_112 : decode cX13_readLine 112 = .ok (.aload_n 0, 1) := by decide +kernel
theorem dX13_readLine_113 : decode cX13_readLine 113 = .ok (.ldc 153, 2) := by decide +kernel
theorem dX13_readLine_115 : decode cX13_readLine 115 = .ok (.invokevirtual 119, 3) := by decide +kernel
theorem dX13_readLine_118 : decode cX13_readLine 118 = .ok (.ifCond .eq 10, 3) := by decide +kernel
theorem dX13_readLine_121 : decode cX13_readLine 121 = .ok (.aload_n 0, 1) := by decide +kernel
theorem dX13_readLine_122 : decode cX13_readLine 122 = .ok (.invokevirtual 230, 3) := by decide +kernel
theorem dX13_readLine_125 : decode cX13_readLine 125 = .ok (.goto 8, 3) := by decide +kernel
theorem dX13_readLine_128 : decode cX13_readLine 128 = .ok (.aload_n 0, 1) := by decide +kernel
theorem dX13_readLine_129 : decode cX13_readLine 129 = .ok (.iconst 1, 1) := by decide +kernel
theorem dX13_readLine_130 : decode cX13_readLine 130 = .ok (.invokevirtual 123, 3) := by decide +kernel
theorem dX13_readLine_133 : decode cX13_readLine 133 = .ok (.return_, 1) := by decide +kernel
theorem dX13_readOffice_0 : decode cX13_readOffice 0 = .ok (.aload_n 0, 1) := by decide +kernel
theorem dX13_readOffice_1 : decode cX13_readOffice 1 = .ok (.getfield 157, 3) := by decide +kernel
theorem dX13_readOffice_4 : decode cX13_readOffice 4 = .ok (.getfield 161, 3) := by decide +kernel
theorem dX13_readOffice_7 : decode cX13_readOffice 7 = .ok (.iconst (-1), 1) := by decide +kernel
theorem dX13_readOffice_8 : decode cX13_readOffice 8 = .ok (.if_icmp .eq 8, 3) := by decide +kernel
theorem dX13_readOffice_11 : decode cX13_readOffice 11 = .ok (.aload_n 0, 1) := by decide +kernel
theorem dX13_readOffice_12 : decode cX13_readOffice 12 = .ok (.iconst 3, 1) := by decide +kernel
theorem dX13_readOffice_13 : decode cX13_readOffice 13 = .ok (.invokevirtual 123, 3) := by decide +kernel
theorem dX13_readOffice_16 : decode cX13_readOffice 16 = .ok (.aload_n 0, 1) := by decide +kernel
theorem dX13_readOffice_17 : decode cX13_readOffice 17 = .ok (.invokevirtual 116, 3) := by decide +kernel
theorem dX13_readOffice_20 : decode cX13_readOffice 20 = .ok (.aload_n 0, 1) := by decide +kernel
theorem dX13_readOffice_21 : decode cX13_readOffice 21 = .ok (.ldc 233, 2) := by decide +kernel
theorem dX13_readOffice_23 : decode cX13_readOffice 23 = .ok (.iconst 0, 1) := by decide +kernel
theorem dX13_readOffice_24 : decode cX13_readOffice 24 = .ok (.bipush 100, 2) := by decide +kernel
theorem dX13_readOffice_26 : decode cX13_readOffice 26 = .ok (.invokevirtual 234, 3) := by decide +kernel
theorem dX13_readOffice_29 : decode cX13_readOffice 29 = .ok (.istore_n 1, 1) := by decide +kernel
theorem dX13_readOffice_30 : decode cX13_readOffice 30 = .ok (.aload_n 0, 1) := by decide +kernel
theorem dX13_readOffice_31 : decode cX13_readOffice 31 = .ok (.getfield 80, 3) := by decide +kernel
theorem dX13_readOffice_34 : decode cX13_readOffice 34 = .ok (.bipush 6, 2) := by decide +kernel
theorem dX13_readOffice_36 : decode cX13_readOffice 36 = .ok (.if_icmp .eq 11, 3) := by decide +kernel
theorem dX13_readOffice_39 : decode cX13_readOffice 39 = .ok (.aload_n 0, 1) := by decide +kernel
theorem dX13_readOffice_40 : decode cX13_readOffice 40 = .ok (.getfield 157, 3) := by decide +kernel
theorem dX13_readOffice_43 : decode cX13_readOffice 43 = .ok (.iload_n 1, 1) := by decide +kernel
theorem dX13_readOffice_44 : decode cX13_readOffice 44 = .ok (.putfield 161, 3) := by decide +kernel
theorem dX13_readOffice_47 : decode cX13_readOffice 47 = .ok (.return_, 1) := by decide +kernel
theorem dX13_readMark_0 : decode cX13_readMark 0 = .ok (.aload_n 0, 1) := by decide +kernel
theorem dX13_readMark_1 : decode cX13_readMark 1 = .ok (.aload_n 0, 1) := by decide +kernel
theorem dX13_readMark_2 : decode cX13_readMark 2 = .ok (.getfield 157, 3) := by decide +kernel
theorem dX13_readMark_5 : decode cX13_readMark 5 = .ok (.getfield 238, 3) := by decide +kernel
theorem dX13_readMark_8 : decode cX13_readMark 8 = .ok (.iconst 5, 1) := by decide +kernel
theorem dX13_readMark_9 : decode cX13_readMark 9 = .ok (.invokevirtual 241, 3) := by decide +kernel
theorem dX13_readMark_12 : decode cX13_readMark 12 = .ok (.aload_n 0, 1) := by decide +kernel
theorem dX13_readMark_13 : decode cX13_readMark 13 = .ok (.invokevirtual 245, 3) := by decide +kernel
theorem dX13_readMark_16 : decode cX13_readMark 16 = .ok (.lstore_n 1, 1) := by decide +kernel
theorem dX13_readMark_17 : decode cX13_readMark 17 = .ok (.aload_n 0, 1) := by decide +kernel
theorem dX13_readMark_18 : decode cX13_readMark 18 = .ok (.getfield 80, 3) := by decide +kernel
theorem dX13_readMark_21 : decode cX13_readMark 21 = .ok (.bipush 6, 2) := by decide +kernel
theorem dX13_readMark_23 : decode cX13_readMark 23 = .ok (.if_icmp .ne 4, 3) := by decide +kernel
theorem dX13_readMark_26 : decode cX13_readMark 26 = .ok (.return_, 1) := by decide +kernel
theorem dX13_readMark_27 : decode cX13_readMark 27 = .ok (.aload_n 0, 1) := by decide +kernel
theorem dX13_readMark_28 : decode cX13_readMark 28 = .ok (.lload_n 1, 1) := by decide +kernel
theorem dX13_readMark_29 : decode cX13_readMark 29 = .ok (.iconst 0, 1) := by decide +kernel
theorem dX13_readMark_30 : decode cX13_readMark 30 = .ok (.aload_n 0, 1) := by decide +kernel
theorem dX13_readMark_31 : decode cX13_readMark 31 = .ok (.getfield 157, 3) := by decide +kernel
theorem dX13_readMark_34 : decode cX13_readMark 34 = .ok (.getfield 238, 3) := by decide +kernel
theorem dX13_readMark_37 : decode cX13_readMark 37 = .ok (.invokevirtual 249, 3) := by decide +kernel
theorem dX13_readMark_40 : decode cX13_readMark 40 = .ok (.aload_n 0, 1) := by decide +kernel
theorem dX13_readMark_41 : decode cX13_readMark 41 = .ok (.getfield 157, 3) := by decide +kernel
theorem dX13_readMark_44 : decode cX13_readMark 44 = .ok (.dup, 1) := by decide +kernel
theorem dX13_readMark_45 : decode cX13_readMark 45 = .ok (.getfield 238, 3) := by decide +kernel
theorem dX13_readMark_48 : decode cX13_readMark 48 = .ok (.iconst 1, 1) := by decide +kernel
theorem dX13_readMark_49 : decode cX13_readMark 49 = .ok (.iadd, 1) := by decide +kernel
theorem dX13_readMark_50 : decode cX13_readMark 50 = .ok (.putfield 238, 3) := by decide +kernel
theorem dX13_readMark_53 : decode cX13_readMark 53 = .ok (.return_, 1) := by decide +kernel
theorem dX13_readPaper_0 : decode cX13_readPaper 0 = .ok (.aload_n 0, 1) := by decide +kernel
theorem dX13_readPaper_1 : decode cX13_readPaper 1 = .ok (.aload_n 0, 1) := by decide +kernel
theorem dX13_readPaper_2 : decode cX13_readPaper 2 = .ok (.getfield 157, 3) := by decide +kernel
theorem dX13_readPaper_5 : decode cX13_readPaper 5 = .ok (.getfield 206, 3) := by decide +kernel
theorem dX13_readPaper_8 : decode cX13_readPaper 8 = .ok (.iconst 5, 1) := by decide +kernel
theorem dX13_readPaper_9 : decode cX13_readPaper 9 = .ok (.invokevirtual 241, 3) := by decide +kernel
theorem dX13_readPaper_12 : decode cX13_readPaper 12 = .ok (.aload_n 0, 1) := by decide +kernel
theorem dX13_readPaper_13 : decode cX13_readPaper 13 = .ok (.invokevirtual 245, 3) := by decide +kernel
theorem dX13_readPaper_16 : decode cX13_readPaper 16 = .ok (.lstore_n 1, 1) := by decide +kernel
theorem dX13_readPaper_17 : decode cX13_readPaper 17 = .ok (.aload_n 0, 1) := by decide +kernel
theorem dX13_readPaper_18 : decode cX13_readPaper 18 = .ok (.ldc 252, 2) := by decide +kernel
theorem dX13_readPaper_20 : decode cX13_readPaper 20 = .ok (.iconst 0, 1) := by decide +kernel
theorem dX13_readPaper_21 : decode cX13_readPaper 21 = .ok (.bipush 99, 2) := by decide +kernel
theorem dX13_readPaper_23 : decode cX13_readPaper 23 = .ok (.invokevirtual 234, 3) := by decide +kernel
theorem dX13_readPaper_26 : decode cX13_readPaper 26 = .ok (.istore_n 3, 1) := by decide +kernel
theorem dX13_readPaper_27 : decode cX13_readPaper 27 = .ok (.aload_n 0, 1) := by decide +kernel
theorem dX13_readPaper_28 : decode cX13_readPaper 28 = .ok (.invokevirtual 254, 3) := by decide +kernel
theorem dX13_readPaper_31 : decode cX13_readPaper 31 = .ok (.istore 4, 2) := by decide +kernel
theorem dX13_readPaper_33 : decode cX13_readPaper 33 = .ok (.aload_n 0, 1) := by decide +kernel
theorem dX13_readPaper_34 : decode cX13_readPaper 34 = .ok (.getfield 80, 3) := by decide +kernel
theorem dX13_readPaper_37 : decode cX13_readPaper 37 = .ok (.bipush 6, 2) := by decide +kernel
theorem dX13_readPaper_39 : decode cX13_readPaper 39 = .ok (.if_icmp .ne 4, 3) := by decide +kernel
theorem dX13_readPaper_42 : decode cX13_readPaper 42 = .ok (.return_, 1) := by decide +kernel
theorem dX13_readPaper_43 : decode cX13_readPaper 43 = .ok (.aload_n 0, 1) := by decide +kernel
theorem dX13_readPaper_44 : decode cX13_readPaper 44 = .ok (.lload_n 1, 1) := by decide +kernel
theorem dX13_readPaper_45 : decode cX13_readPaper 45 = .ok (.iconst 1, 1) := by decide +kernel
theorem dX13_readPaper_46 : decode cX13_readPaper 46 = .ok (.aload_n 0, 1) := by decide +kernel
theorem dX13_readPaper_47 : decode cX13_readPaper 47 = .ok (.getfield 157, 3) := by decide +kernel
theorem dX13_readPaper_50 : decode cX13_readPaper 50 = .ok (.getfield 206, 3) := by decide +kernel
theorem dX13_readPaper_53 : decode cX13_readPaper 53 = .ok (.invokevirtual 249, 3) := by decide +kernel
theorem dX13_readPaper_56 : decode cX13_readPaper 56 = .ok (.aload_n 0, 1) := by decide +kernel
theorem dX13_readPaper_57 : decode cX13_readPaper 57 = .ok (.getfield 157, 3) := by decide +kernel
theorem dX13_readPaper_60 : decode cX13_readPaper 60 = .ok (.getfield 257, 3) := by decide +kernel
theorem dX13_readPaper_63 : decode cX13_readPaper 63 = .ok (.aload_n 0, 1) := by decide +kernel
theorem dX13_readPaper_64 : decode cX13_readPaper 64 = .ok (.getfield 157, 3) := by decide +kernel
theorem dX13_readPaper_67 : decode cX13_readPaper 67 = .ok (.getfield 206, 3) := by decide +kernel
theorem dX13_readPaper_70 : decode cX13_readPaper 70 = .ok (.iload_n 3, 1) := by decide +kernel
theorem dX13_readPaper_71 : decode cX13_readPaper 71 = .ok (.iastore, 1) := by decide +kernel
theorem dX13_readPaper_72 : decode cX13_readPaper 72 = .ok (.aload_n 0, 1) := by decide +kernel
theorem dX13_readPaper_73 : decode cX13_readPaper 73 = .ok (.getfield 157, 3) := by decide +kernel
theorem dX13_readPaper_76 : decode cX13_readPaper 76 = .ok (.getfield 259, 3) := by decide +kernel
theorem dX13_readPaper_79 : decode cX13_readPaper 79 = .ok (.aload_n 0, 1) := by decide +kernel
theorem dX13_readPaper_80 : decode cX13_readPaper 80 = .ok (.getfield 157, 3) := by decide +kernel
theorem dX13_readPaper_83 : decode cX13_readPaper 83 = .ok (.getfield 206, 3) := by decide +kernel
theorem dX13_readPaper_86 : decode cX13_readPaper 86 = .ok (.iload 4, 2) := by decide +kernel
theorem dX13_readPaper_88 : decode cX13_readPaper 88 = .ok (.iastore, 1) := by decide +kernel
theorem dX13_readPaper_89 : decode cX13_readPaper 89 = .ok (.aload_n 0, 1) := by decide +kernel
theorem dX13_readPaper_90 : decode cX13_readPaper 90 = .ok (.getfield 157, 3) := by decide +kernel
theorem dX13_readPaper_93 : decode cX13_readPaper 93 = .ok (.dup, 1) := by decide +kernel
theorem dX13_readPaper_94 : decode cX13_readPaper 94 = .ok (.getfield 206, 3) := by decide +kernel
theorem dX13_readPaper_97 : decode cX13_readPaper 97 = .ok (.iconst 1, 1) := by decide +kernel
theorem dX13_readPaper_98 : decode cX13_readPaper 98 = .ok (.iadd, 1) := by decide +kernel
theorem dX13_readPaper_99 : decode cX13_readPaper 99 = .ok (.putfield 206, 3) := by decide +kernel
theorem dX13_readPaper_102 : decode cX13_readPaper 102 = .ok (.return_, 1) := by decide +kernel
theorem dX13_readStamp_0 : decode cX13_readStamp 0 = .ok (.aload_n 0, 1) := by decide +kernel
theorem dX13_readStamp_1 : decode cX13_readStamp 1 = .ok (.aload_n 0, 1) := by decide +kernel
theorem dX13_readStamp_2 : decode cX13_readStamp 2 = .ok (.getfield 157, 3) := by decide +kernel
theorem dX13_readStamp_5 : decode cX13_readStamp 5 = .ok (.getfield 262, 3) := by decide +kernel
theorem dX13_readStamp_8 : decode cX13_readStamp 8 = .ok (.iconst 4, 1) := by decide +kernel
theorem dX13_readStamp_9 : decode cX13_readStamp 9 = .ok (.invokevirtual 241, 3) := by decide +kernel
theorem dX13_readStamp_12 : decode cX13_readStamp 12 = .ok (.aload_n 0, 1) := by decide +kernel
theorem dX13_readStamp_13 : decode cX13_readStamp 13 = .ok (.invokevirtual 245, 3) := by decide +kernel
theorem dX13_readStamp_16 : decode cX13_readStamp 16 = .ok (.lstore_n 1, 1) := by decide +kernel
theorem dX13_readStamp_17 : decode cX13_readStamp 17 = .ok (.aload_n 0, 1) := by decide +kernel
theorem dX13_readStamp_18 : decode cX13_readStamp 18 = .ok (.ldc_w 265, 3) := by decide +kernel
theorem dX13_readStamp_21 : decode cX13_readStamp 21 = .ok (.iconst 0, 1) := by decide +kernel
theorem dX13_readStamp_22 : decode cX13_readStamp 22 = .ok (.bipush 9, 2) := by decide +kernel
theorem dX13_readStamp_24 : decode cX13_readStamp 24 = .ok (.invokevirtual 234, 3) := by decide +kernel
theorem dX13_readStamp_27 : decode cX13_readStamp 27 = .ok (.istore_n 3, 1) := by decide +kernel
theorem dX13_readStamp_28 : decode cX13_readStamp 28 = .ok (.aload_n 0, 1) := by decide +kernel
theorem dX13_readStamp_29 : decode cX13_readStamp 29 = .ok (.ldc_w 267, 3) := by decide +kernel
theorem dX13_readStamp_32 : decode cX13_readStamp 32 = .ok (.invokevirtual 131, 3) := by decide +kernel
theorem dX13_readStamp_35 : decode cX13_readStamp 35 = .ok (.aload_n 0, 1) := by decide +kernel
theorem dX13_readStamp_36 : decode cX13_readStamp 36 = .ok (.invokevirtual 269, 3) := by decide +kernel
theorem dX13_readStamp_39 : decode cX13_readStamp 39 = .ok (.istore 4, 2) := by decide +kernel
theorem dX13_readStamp_41 : decode cX13_readStamp 41 = .ok (.aload_n 0, 1) := by decide +kernel
theorem dX13_readStamp_42 : decode cX13_readStamp 42 = .ok (.invokevirtual 254, 3) := by decide +kernel
theorem dX13_readStamp_45 : decode cX13_readStamp 45 = .ok (.istore 5, 2) := by decide +kernel
theorem dX13_readStamp_47 : decode cX13_readStamp 47 = .ok (.aload_n 0, 1) := by decide +kernel
theorem dX13_readStamp_48 : decode cX13_readStamp 48 = .ok (.getfield 80, 3) := by decide +kernel
theorem dX13_readStamp_51 : decode cX13_readStamp 51 = .ok (.bipush 6, 2) := by decide +kernel
theorem dX13_readStamp_53 : decode cX13_readStamp 53 = .ok (.if_icmp .ne 4, 3) := by decide +kernel
theorem dX13_readStamp_56 : decode cX13_readStamp 56 = .ok (.return_, 1) := by decide +kernel
theorem dX13_readStamp_57 : decode cX13_readStamp 57 = .ok (.aload_n 0, 1) := by decide +kernel
theorem dX13_readStamp_58 : decode cX13_readStamp 58 = .ok (.lload_n 1, 1) := by decide +kernel
theorem dX13_readStamp_59 : decode cX13_readStamp 59 = .ok (.iconst 2, 1) := by decide +kernel
theorem dX13_readStamp_60 : decode cX13_readStamp 60 = .ok (.aload_n 0, 1) := by decide +kernel
theorem dX13_readStamp_61 : decode cX13_readStamp 61 = .ok (.getfield 157, 3) := by decide +kernel
theorem dX13_readStamp_64 : decode cX13_readStamp 64 = .ok (.getfield 262, 3) := by decide +kernel
theorem dX13_readStamp_67 : decode cX13_readStamp 67 = .ok (.invokevirtual 249, 3) := by decide +kernel
theorem dX13_readStamp_70 : decode cX13_readStamp 70 = .ok (.aload_n 0, 1) := by decide +kernel
theorem dX13_readStamp_71 : decode cX13_readStamp 71 = .ok (.getfield 157, 3) := by decide +kernel
theorem dX13_readStamp_74 : decode cX13_readStamp 74 = .ok (.getfield 272, 3) := by decide +kernel
theorem dX13_readStamp_77 : decode cX13_readStamp 77 = .ok (.aload_n 0, 1) := by decide +kernel
theorem dX13_readStamp_78 : decode cX13_readStamp 78 = .ok (.getfield 157, 3) := by decide +kernel
theorem dX13_readStamp_81 : decode cX13_readStamp 81 = .ok (.getfield 262, 3) := by decide +kernel
theorem dX13_readStamp_84 : decode cX13_readStamp 84 = .ok (.iload_n 3, 1) := by decide +kernel
theorem dX13_readStamp_85 : decode cX13_readStamp 85 = .ok (.iastore, 1) := by decide +kernel
theorem dX13_readStamp_86 : decode cX13_readStamp 86 = .ok (.aload_n 0, 1) := by decide +kernel
theorem dX13_readStamp_87 : decode cX13_readStamp 87 = .ok (.getfield 157, 3) := by decide +kernel
theorem dX13_readStamp_90 : decode cX13_readStamp 90 = .ok (.getfield 274, 3) := by decide +kernel
theorem dX13_readStamp_93 : decode cX13_readStamp 93 = .ok (.aload_n 0, 1) := by decide +kernel
theorem dX13_readStamp_94 : decode cX13_readStamp 94 = .ok (.getfield 157, 3) := by decide +kernel
theorem dX13_readStamp_97 : decode cX13_readStamp 97 = .ok (.getfield 262, 3) := by decide +kernel
theorem dX13_readStamp_100 : decode cX13_readStamp 100 = .ok (.iload 4, 2) := by decide +kernel
theorem dX13_readStamp_102 : decode cX13_readStamp 102 = .ok (.iastore, 1) := by decide +kernel
theorem dX13_readStamp_103 : decode cX13_readStamp 103 = .ok (.aload_n 0, 1) := by decide +kernel
theorem dX13_readStamp_104 : decode cX13_readStamp 104 = .ok (.getfield 157, 3) := by decide +kernel
theorem dX13_readStamp_107 : decode cX13_readStamp 107 = .ok (.getfield 277, 3) := by decide +kernel
theorem dX13_readStamp_110 : decode cX13_readStamp 110 = .ok (.aload_n 0, 1) := by decide +kernel
theorem dX13_readStamp_111 : decode cX13_readStamp 111 = .ok (.getfield 157, 3) := by decide +kernel
theorem dX13_readStamp_114 : decode cX13_readStamp 114 = .ok (.getfield 262, 3) := by decide +kernel
theorem dX13_readStamp_117 : decode cX13_readStamp 117 = .ok (.iload 5, 2) := by decide +kernel
theorem dX13_readStamp_119 : decode cX13_readStamp 119 = .ok (.iastore, 1) := by decide +kernel
theorem dX13_readStamp_120 : decode cX13_readStamp 120 = .ok (.aload_n 0, 1) := by decide +kernel
theorem dX13_readStamp_121 : decode cX13_readStamp 121 = .ok (.getfield 157, 3) := by decide +kernel
theorem dX13_readStamp_124 : decode cX13_readStamp 124 = .ok (.dup, 1) := by decide +kernel
theorem dX13_readStamp_125 : decode cX13_readStamp 125 = .ok (.getfield 262, 3) := by decide +kernel
theorem dX13_readStamp_128 : decode cX13_readStamp 128 = .ok (.iconst 1, 1) := by decide +kernel
theorem dX13_readStamp_129 : decode cX13_readStamp 129 = .ok (.iadd, 1) := by decide +kernel
theorem dX13_readStamp_130 : decode cX13_readStamp 130 = .ok (.putfield 262, 3) := by decide +kernel
theorem dX13_readStamp_133 : decode cX13_readStamp 133 = .ok (.return_, 1) := by decide +kernel
theorem dX13_readRule_0 : decode cX13_readRule 0 = .ok (.aload_n 0, 1) := by decide +kernel
theorem dX13_readRule_1 : decode cX13_readRule 1 = .ok (.aload_n 0, 1) := by decide +kernel
theorem dX13_readRule_2 : decode cX13_readRule 2 = .ok (.getfield 157, 3) := by decide +kernel
theorem dX13_readRule_5 : decode cX13_readRule 5 = .ok (.getfield 280, 3) := by decide +kernel
theorem dX13_readRule_8 : decode cX13_readRule 8 = .ok (.bipush 10, 2) := by decide +kernel
theorem dX13_readRule_10 : decode cX13_readRule 10 = .ok (.invokevirtual 241, 3) := by decide +kernel
theorem dX13_readRule_13 : decode cX13_readRule 13 = .ok (.aload_n 0, 1) := by decide +kernel
theorem dX13_readRule_14 : decode cX13_readRule 14 = .ok (.iconst 2, 1) := by decide +kernel
theorem dX13_readRule_15 : decode cX13_readRule 15 = .ok (.invokevirtual 283, 3) := by decide +kernel
theorem dX13_readRule_18 : decode cX13_readRule 18 = .ok (.istore_n 1, 1) := by decide +kernel
theorem dX13_readRule_19 : decode cX13_readRule 19 = .ok (.aload_n 0, 1) := by decide +kernel
theorem dX13_readRule_20 : decode cX13_readRule 20 = .ok (.ldc 155, 2) := by decide +kernel
theorem dX13_readRule_22 : decode cX13_readRule 22 = .ok (.invokevirtual 119, 3) := by decide +kernel
theorem dX13_readRule_25 : decode cX13_readRule 25 = .ok (.istore_n 2, 1) := by decide +kernel
theorem dX13_readRule_26 : decode cX13_readRule 26 = .ok (.iload_n 2, 1) := by decide +kernel
theorem dX13_readRule_27 : decode cX13_readRule 27 = .ok (.ifCond .eq 7, 3) := by decide +kernel
theorem dX13_readRule_30 : decode cX13_readRule 30 = .ok (.aload_n 0, 1) := by decide +kernel
theorem dX13_readRule_31 : decode cX13_readRule 31 = .ok (.invokevirtual 116, 3) := by decide +kernel
theorem dX13_readRule_34 : decode cX13_readRule 34 = .ok (.aload_n 0, 1) := by decide +kernel
theorem dX13_readRule_35 : decode cX13_readRule 35 = .ok (.iconst 0, 1) := by decide +kernel
theorem dX13_readRule_36 : decode cX13_readRule 36 = .ok (.invokevirtual 283, 3) := by decide +kernel
theorem dX13_readRule_39 : decode cX13_readRule 39 = .ok (.istore_n 3, 1) := by decide +kernel
theorem dX13_readRule_40 : decode cX13_readRule 40 = .ok (.aload_n 0, 1) := by decide +kernel
theorem dX13_readRule_41 : decode cX13_readRule 41 = .ok (.invokevirtual 269, 3) := by decide +kernel
theorem dX13_readRule_44 : decode cX13_readRule 44 = .ok (.istore 4, 2) := by decide +kernel
theorem dX13_readRule_46 : decode cX13_readRule 46 = .ok (.aload_n 0, 1) := by decide +kernel
theorem dX13_readRule_47 : decode cX13_readRule 47 = .ok (.getfield 80, 3) := by decide +kernel
theorem dX13_readRule_50 : decode cX13_readRule 50 = .ok (.bipush 6, 2) := by decide +kernel
theorem dX13_readRule_52 : decode cX13_readRule 52 = .ok (.if_icmp .ne 4, 3) := by decide +kernel
theorem dX13_readRule_55 : decode cX13_readRule 55 = .ok (.return_, 1) := by decide +kernel
theorem dX13_readRule_56 : decode cX13_readRule 56 = .ok (.aload_n 0, 1) := by decide +kernel
theorem dX13_readRule_57 : decode cX13_readRule 57 = .ok (.getfield 157, 3) := by decide +kernel
theorem dX13_readRule_60 : decode cX13_readRule 60 = .ok (.getfield 280, 3) := by decide +kernel
theorem dX13_readRule_63 : decode cX13_readRule 63 = .ok (.istore 5, 2) := by decide +kernel
theorem dX13_readRule_65 : decode cX13_readRule 65 = .ok (.aload_n 0, 1) := by decide +kernel
theorem dX13_readRule_66 : decode cX13_readRule 66 = .ok (.getfield 157, 3) := by decide +kernel
theorem dX13_readRule_69 : decode cX13_readRule 69 = .ok (.getfield 286, 3) := by decide +kernel
theorem dX13_readRule_72 : decode cX13_readRule 72 = .ok (.iload 5, 2) := by decide +kernel
theorem dX13_readRule_74 : decode cX13_readRule 74 = .ok (.iload_n 1, 1) := by decide +kernel
theorem dX13_readRule_75 : decode cX13_readRule 75 = .ok (.iastore, 1) := by decide +kernel
theorem dX13_readRule_76 : decode cX13_readRule 76 = .ok (.aload_n 0, 1) := by decide +kernel
theorem dX13_readRule_77 : decode cX13_readRule 77 = .ok (.getfield 157, 3) := by decide +kernel
theorem dX13_readRule_80 : decode cX13_readRule 80 = .ok (.getfield 289, 3) := by decide +kernel
theorem dX13_readRule_83 : decode cX13_readRule 83 = .ok (.iload 5, 2) := by decide +kernel
theorem dX13_readRule_85 : decode cX13_readRule 85 = .ok (.iload_n 3, 1) := by decide +kernel
theorem dX13_readRule_86 : decode cX13_readRule 86 = .ok (.iastore, 1) := by decide +kernel
theorem dX13_readRule_87 : decode cX13_readRule 87 = .ok (.aload_n 0, 1) := by decide +kernel
theorem dX13_readRule_88 : decode cX13_readRule 88 = .ok (.getfield 157, 3) := by decide +kernel
theorem dX13_readRule_91 : decode cX13_readRule 91 = .ok (.getfield 292, 3) := by decide +kernel
theorem dX13_readRule_94 : decode cX13_readRule 94 = .ok (.iload 5, 2) := by decide +kernel
theorem dX13_readRule_96 : decode cX13_readRule 96 = .ok (.iload_n 2, 1) := by decide +kernel
theorem dX13_readRule_97 : decode cX13_readRule 97 = .ok (.ifCond .eq 7, 3) := by decide +kernel
theorem dX13_readRule_100 : decode cX13_readRule 100 = .ok (.iconst 1, 1) := by decide +kernel
theorem dX13_readRule_101 : decode cX13_readRule 101 = .ok (.goto 4, 3) := by decide +kernel
theorem dX13_readRule_104 : decode cX13_readRule 104 = .ok (.iconst 0, 1) := by decide +kernel
theorem dX13_readRule_105 : decode cX13_readRule 105 = .ok (.iastore, 1) := by decide +kernel
theorem dX13_readRule_106 : decode cX13_readRule 106 = .ok (.aload_n 0, 1) := by decide +kernel
theorem dX13_readRule_107 : decode cX13_readRule 107 = .ok (.getfield 157, 3) := by decide +kernel
theorem dX13_readRule_110 : decode cX13_readRule 110 = .ok (.getfield 295, 3) := by decide +kernel
theorem dX13_readRule_113 : decode cX13_readRule 113 = .ok (.iload 5, 2) := by decide +kernel
theorem dX13_readRule_115 : decode cX13_readRule 115 = .ok (.iload 4, 2) := by decide +kernel
theorem dX13_readRule_117 : decode cX13_readRule 117 = .ok (.iastore, 1) := by decide +kernel
theorem dX13_readRule_118 : decode cX13_readRule 118 = .ok (.aload_n 0, 1) := by decide +kernel
theorem dX13_readRule_119 : decode cX13_readRule 119 = .ok (.getfield 157, 3) := by decide +kernel
theorem dX13_readRule_122 : decode cX13_readRule 122 = .ok (.dup, 1) := by decide +kernel
theorem dX13_readRule_123 : decode cX13_readRule 123 = .ok (.getfield 280, 3) := by decide +kernel
theorem dX13_readRule_126 : decode cX13_readRule 126 = .ok (.iconst 1, 1) := by decide +kernel
theorem dX13_readRule_127 : decode cX13_readRule 127 = .ok (.iadd, 1) := by decide +kernel
theorem dX13_readRule_128 : decode cX13_readRule 128 = .ok (.putfield 280, 3) := by decide +kernel
theorem dX13_readRule_131 : decode cX13_readRule 131 = .ok (.return_, 1) := by decide +kernel
theorem dX13_readHand_0 : decode cX13_readHand 0 = .ok (.aload_n 0, 1) := by decide +kernel
theorem dX13_readHand_1 : decode cX13_readHand 1 = .ok (.aload_n 0, 1) := by decide +kernel
theorem dX13_readHand_2 : decode cX13_readHand 2 = .ok (.getfield 157, 3) := by decide +kernel
theorem dX13_readHand_5 : decode cX13_readHand 5 = .ok (.getfield 298, 3) := by decide +kernel
theorem dX13_readHand_8 : decode cX13_readHand 8 = .ok (.iconst 3, 1) := by decide +kernel
theorem dX13_readHand_9 : decode cX13_readHand 9 = .ok (.invokevirtual 241, 3) := by decide +kernel
theorem dX13_readHand_12 : decode cX13_readHand 12 = .ok (.aload_n 0, 1) := by decide +kernel
theorem dX13_readHand_13 : decode cX13_readHand 13 = .ok (.invokevirtual 245, 3) := by decide +kernel
theorem dX13_readHand_16 : decode cX13_readHand 16 = .ok (.lstore_n 1, 1) := by decide +kernel
theorem dX13_readHand_17 : decode cX13_readHand 17 = .ok (.aload_n 0, 1) := by decide +kernel
theorem dX13_readHand_18 : decode cX13_readHand 18 = .ok (.ldc_w 301, 3) := by decide +kernel
theorem dX13_readHand_21 : decode cX13_readHand 21 = .ok (.invokevirtual 119, 3) := by decide +kernel
theorem dX13_readHand_24 : decode cX13_readHand 24 = .ok (.ifCond .eq 7, 3) := by decide +kernel
theorem dX13_readHand_27 : decode cX13_readHand 27 = .ok (.iconst 0, 1) := by decide +kernel
theorem dX13_readHand_28 : decode cX13_readHand 28 = .ok (.goto 46, 3) := by decide +kernel
theorem dX13_readHand_31 : decode cX13_readHand 31 = .ok (.aload_n 0, 1) := by decide +kernel
theorem dX13_readHand_32 : decode cX13_readHand 32 = .ok (.ldc_w 303, 3) := by decide +kernel
theorem dX13_readHand_35 : decode cX13_readHand 35 = .ok (.invokevirtual 119, 3) := by decide +kernel
theorem dX13_readHand_38 : decode cX13_readHand 38 = .ok (.ifCond .eq 7, 3) := by decide +kernel
theorem dX13_readHand_41 : decode cX13_readHand 41 = .ok (.iconst 1, 1) := by decide +kernel
theorem dX13_readHand_42 : decode cX13_readHand 42 = .ok (.goto 32, 3) := by decide +kernel
theorem dX13_readHand_45 : decode cX13_readHand 45 = .ok (.aload_n 0, 1) := by decide +kernel
theorem dX13_readHand_46 : decode cX13_readHand 46 = .ok (.ldc_w 305, 3) := by decide +kernel
theorem dX13_readHand_49 : decode cX13_readHand 49 = .ok (.invokevirtual 119, 3) := by decide +kernel
theorem dX13_readHand_52 : decode cX13_readHand 52 = .ok (.ifCond .eq 7, 3) := by decide +kernel
theorem dX13_readHand_55 : decode cX13_readHand 55 = .ok (.iconst 2, 1) := by decide +kernel
theorem dX13_readHand_56 : decode cX13_readHand 56 = .ok (.goto 18, 3) := by decide +kernel
theorem dX13_readHand_59 : decode cX13_readHand 59 = .ok (.aload_n 0, 1) := by decide +kernel
theorem dX13_readHand_60 : decode cX13_readHand 60 = .ok (.ldc_w 307, 3) := by decide +kernel
theorem dX13_readHand_63 : decode cX13_readHand 63 = .ok (.invokevirtual 119, 3) := by decide +kernel
theorem dX13_readHand_66 : decode cX13_readHand 66 = .ok (.ifCond .eq 7, 3) := by decide +kernel
theorem dX13_readHand_69 : decode cX13_readHand 69 = .ok (.iconst 3, 1) := by decide +kernel
theorem dX13_readHand_70 : decode cX13_readHand 70 = .ok (.goto 4, 3) := by decide +kernel
theorem dX13_readHand_73 : decode cX13_readHand 73 = .ok (.iconst (-1), 1) := by decide +kernel
theorem dX13_readHand_74 : decode cX13_readHand 74 = .ok (.istore_n 3, 1) := by decide +kernel
theorem dX13_readHand_75 : decode cX13_readHand 75 = .ok (.iload_n 3, 1) := by decide +kernel
theorem dX13_readHand_76 : decode cX13_readHand 76 = .ok (.iconst (-1), 1) := by decide +kernel
theorem dX13_readHand_77 : decode cX13_readHand 77 = .ok (.if_icmp .ne 8, 3) := by decide +kernel
theorem dX13_readHand_80 : decode cX13_readHand 80 = .ok (.aload_n 0, 1) := by decide +kernel
theorem dX13_readHand_81 : decode cX13_readHand 81 = .ok (.iconst 1, 1) := by decide +kernel
theorem dX13_readHand_82 : decode cX13_readHand 82 = .ok (.invokevirtual 123, 3) := by decide +kernel
theorem dX13_readHand_85 : decode cX13_readHand 85 = .ok (.aload_n 0, 1) := by decide +kernel
theorem dX13_readHand_86 : decode cX13_readHand 86 = .ok (.invokevirtual 116, 3) := by decide +kernel
theorem dX13_readHand_89 : decode cX13_readHand 89 = .ok (.aload_n 0, 1) := by decide +kernel
theorem dX13_readHand_90 : decode cX13_readHand 90 = .ok (.ldc_w 309, 3) := by decide +kernel
theorem dX13_readHand_93 : decode cX13_readHand 93 = .ok (.iconst 0, 1) := by decide +kernel
theorem dX13_readHand_94 : decode cX13_readHand 94 = .ok (.bipush 100, 2) := by decide +kernel
theorem dX13_readHand_96 : decode cX13_readHand 96 = .ok (.invokevirtual 234, 3) := by decide +kernel
theorem dX13_readHand_99 : decode cX13_readHand 99 = .ok (.istore 4, 2) := by decide +kernel
theorem dX13_readHand_101 : decode cX13_readHand 101 = .ok (.aload_n 0, 1) := by decide +kernel
theorem dX13_readHand_102 : decode cX13_readHand 102 = .ok (.getfield 80, 3) := by decide +kernel
theorem dX13_readHand_105 : decode cX13_readHand 105 = .ok (.bipush 6, 2) := by decide +kernel
theorem dX13_readHand_107 : decode cX13_readHand 107 = .ok (.if_icmp .ne 4, 3) := by decide +kernel
theorem dX13_readHand_110 : decode cX13_readHand 110 = .ok (.return_, 1) := by decide +kernel
theorem dX13_readHand_111 : decode cX13_readHand 111 = .ok (.aload_n 0, 1) := by decide +kernel
theorem dX13_readHand_112 : decode cX13_readHand 112 = .ok (.lload_n 1, 1) := by decide +kernel
theorem dX13_readHand_113 : decode cX13_readHand 113 = .ok (.iconst 3, 1) := by decide +kernel
theorem dX13_readHand_114 : decode cX13_readHand 114 = .ok (.aload_n 0, 1) := by decide +kernel
theorem dX13_readHand_115 : decode cX13_readHand 115 = .ok (.getfield 157, 3) := by decide +kernel
theorem dX13_readHand_118 : decode cX13_readHand 118 = .ok (.getfield 298, 3) := by decide +kernel
theorem dX13_readHand_121 : decode cX13_readHand 121 = .ok (.invokevirtual 249, 3) := by decide +kernel
theorem dX13_readHand_124 : decode cX13_readHand 124 = .ok (.aload_n 0, 1) := by decide +kernel
theorem dX13_readHand_125 : decode cX13_readHand 125 = .ok (.getfield 157, 3) := by decide +kernel
theorem dX13_readHand_128 : decode cX13_readHand 128 = .ok (.getfield 311, 3) := by decide +kernel
theorem dX13_readHand_131 : decode cX13_readHand 131 = .ok (.aload_n 0, 1) := by decide +kernel
theorem dX13_readHand_132 : decode cX13_readHand 132 = .ok (.getfield 157, 3) := by decide +kernel
theorem dX13_readHand_135 : decode cX13_readHand 135 = .ok (.getfield 298, 3) := by decide +kernel
theorem dX13_readHand_138 : decode cX13_readHand 138 = .ok (.iload_n 3, 1) := by decide +kernel
theorem dX13_readHand_139 : decode cX13_readHand 139 = .ok (.iastore, 1) := by decide +kernel
theorem dX13_readHand_140 : decode cX13_readHand 140 = .ok (.aload_n 0, 1) := by decide +kernel
theorem dX13_readHand_141 : decode cX13_readHand 141 = .ok (.getfield 157, 3) := by decide +kernel
theorem dX13_readHand_144 : decode cX13_readHand 144 = .ok (.getfield 313, 3) := by decide +kernel
theorem dX13_readHand_147 : decode cX13_readHand 147 = .ok (.aload_n 0, 1) := by decide +kernel
theorem dX13_readHand_148 : decode cX13_readHand 148 = .ok (.getfield 157, 3) := by decide +kernel
theorem dX13_readHand_151 : decode cX13_readHand 151 = .ok (.getfield 298, 3) := by decide +kernel
theorem dX13_readHand_154 : decode cX13_readHand 154 = .ok (.iload 4, 2) := by decide +kernel
theorem dX13_readHand_156 : decode cX13_readHand 156 = .ok (.iastore, 1) := by decide +kernel
theorem dX13_readHand_157 : decode cX13_readHand 157 = .ok (.aload_n 0, 1) := by decide +kernel
theorem dX13_readHand_158 : decode cX13_readHand 158 = .ok (.getfield 157, 3) := by decide +kernel
theorem dX13_readHand_161 : decode cX13_readHand 161 = .ok (.dup, 1) := by decide +kernel
theorem dX13_readHand_162 : decode cX13_readHand 162 = .ok (.getfield 298, 3) := by decide +kernel
theorem dX13_readHand_165 : decode cX13_readHand 165 = .ok (.iconst 1, 1) := by decide +kernel
theorem dX13_readHand_166 : decode cX13_readHand 166 = .ok (.iadd, 1) := by decide +kernel
theorem dX13_readHand_167 : decode cX13_readHand 167 = .ok (.putfield 298, 3) := by decide +kernel
theorem dX13_readHand_170 : decode cX13_readHand 170 = .ok (.return_, 1) := by decide +kernel
theorem dX13_readWant_0 : decode cX13_readWant 0 = .ok (.aload_n 0, 1) := by decide +kernel
theorem dX13_readWant_1 : decode cX13_readWant 1 = .ok (.iconst 0, 1) := by decide +kernel
theorem dX13_readWant_2 : decode cX13_readWant 2 = .ok (.iconst 1, 1) := by decide +kernel
theorem dX13_readWant_3 : decode cX13_readWant 3 = .ok (.invokevirtual 241, 3) := by decide +kernel
theorem dX13_readWant_6 : decode cX13_readWant 6 = .ok (.aload_n 0, 1) := by decide +kernel
theorem dX13_readWant_7 : decode cX13_readWant 7 = .ok (.iconst 1, 1) := by decide +kernel
theorem dX13_readWant_8 : decode cX13_readWant 8 = .ok (.invokevirtual 187, 3) := by decide +kernel
theorem dX13_readWant_11 : decode cX13_readWant 11 = .ok (.istore_n 1, 1) := by decide +kernel
theorem dX13_readWant_12 : decode cX13_readWant 12 = .ok (.aload_n 0, 1) := by decide +kernel
theorem dX13_readWant_13 : decode cX13_readWant 13 = .ok (.getfield 80, 3) := by decide +kernel
theorem dX13_readWant_16 : decode cX13_readWant 16 = .ok (.bipush 6, 2) := by decide +kernel
theorem dX13_readWant_18 : decode cX13_readWant 18 = .ok (.if_icmp .eq 22, 3) := by decide +kernel
theorem dX13_readWant_21 : decode cX13_readWant 21 = .ok (.aload_n 0, 1) := by decide +kernel
theorem dX13_readWant_22 : decode cX13_readWant 22 = .ok (.getfield 157, 3) := by decide +kernel
theorem dX13_readWant_25 : decode cX13_readWant 25 = .ok (.getfield 315, 3) := by decide +kernel
theorem dX13_readWant_28 : decode cX13_readWant 28 = .ok (.iload_n 1, 1) := by decide +kernel
theorem dX13_readWant_29 : decode cX13_readWant 29 = .ok (.iaload, 1) := by decide +kernel
theorem dX13_readWant_30 : decode cX13_readWant 30 = .ok (.bipush (-2), 2) := by decide +kernel
theorem dX13_readWant_32 : decode cX13_readWant 32 = .ok (.if_icmp .eq 8, 3) := by decide +kernel
theorem dX13_readWant_35 : decode cX13_readWant 35 = .ok (.aload_n 0, 1) := by decide +kernel
theorem dX13_readWant_36 : decode cX13_readWant 36 = .ok (.iconst 3, 1) := by decide +kernel
theorem dX13_readWant_37 : decode cX13_readWant 37 = .ok (.invokevirtual 123, 3) := by decide +kernel
theorem dX13_readWant_40 : decode cX13_readWant 40 = .ok (.aload_n 0, 1) := by decide +kernel
theorem dX13_readWant_41 : decode cX13_readWant 41 = .ok (.invokevirtual 116, 3) := by decide +kernel
theorem dX13_readWant_44 : decode cX13_readWant 44 = .ok (.aload_n 0, 1) := by decide +kernel
theorem dX13_readWant_45 : decode cX13_readWant 45 = .ok (.invokevirtual 269, 3) := by decide +kernel
theorem dX13_readWant_48 : decode cX13_readWant 48 = .ok (.istore_n 2, 1) := by decide +kernel
theorem dX13_readWant_49 : decode cX13_readWant 49 = .ok (.aload_n 0, 1) := by decide +kernel
theorem dX13_readWant_50 : decode cX13_readWant 50 = .ok (.getfield 80, 3) := by decide +kernel
theorem dX13_readWant_53 : decode cX13_readWant 53 = .ok (.bipush 6, 2) := by decide +kernel
theorem dX13_readWant_55 : decode cX13_readWant 55 = .ok (.if_icmp .ne 4, 3) := by decide +kernel
theorem dX13_readWant_58 : decode cX13_readWant 58 = .ok (.return_, 1) := by decide +kernel
theorem dX13_readWant_59 : decode cX13_readWant 59 = .ok (.aload_n 0, 1) := by decide +kernel
theorem dX13_readWant_60 : decode cX13_readWant 60 = .ok (.getfield 157, 3) := by decide +kernel
theorem dX13_readWant_63 : decode cX13_readWant 63 = .ok (.getfield 315, 3) := by decide +kernel
theorem dX13_readWant_66 : decode cX13_readWant 66 = .ok (.iload_n 1, 1) := by decide +kernel
theorem dX13_readWant_67 : decode cX13_readWant 67 = .ok (.iload_n 2, 1) := by decide +kernel
theorem dX13_readWant_68 : decode cX13_readWant 68 = .ok (.iastore, 1) := by decide +kernel
theorem dX13_readWant_69 : decode cX13_readWant 69 = .ok (.aload_n 0, 1) := by decide +kernel
theorem dX13_readWant_70 : decode cX13_readWant 70 = .ok (.getfield 157, 3) := by decide +kernel
theorem dX13_readWant_73 : decode cX13_readWant 73 = .ok (.dup, 1) := by decide +kernel
theorem dX13_readWant_74 : decode cX13_readWant 74 = .ok (.getfield 317, 3) := by decide +kernel
theorem dX13_readWant_77 : decode cX13_readWant 77 = .ok (.iconst 1, 1) := by decide +kernel
theorem dX13_readWant_78 : decode cX13_readWant 78 = .ok (.iadd, 1) := by decide +kernel
theorem dX13_readWant_79 : decode cX13_readWant 79 = .ok (.putfield 317, 3) := by decide +kernel
theorem dX13_readWant_82 : decode cX13_readWant 82 = .ok (.return_, 1) := by decide +kernel
theorem dX13_readPrint_0 : decode cX13_readPrint 0 = .ok (.aload_n 0, 1) := by decide +kernel
theorem dX13_readPrint_1 : decode cX13_readPrint 1 = .ok (.aload_n 0, 1) := by decide +kernel
theorem dX13_readPrint_2 : decode cX13_readPrint 2 = .ok (.getfield 157, 3) := by decide +kernel
theorem dX13_readPrint_5 : decode cX13_readPrint 5 = .ok (.getfield 320, 3) := by decide +kernel
theorem dX13_readPrint_8 : decode cX13_readPrint 8 = .ok (.iconst 4, 1) := by decide +kernel
theorem dX13_readPrint_9 : decode cX13_readPrint 9 = .ok (.invokevirtual 241, 3) := by decide +kernel
theorem dX13_readPrint_12 : decode cX13_readPrint 12 = .ok (.aload_n 0, 1) := by decide +kernel
theorem dX13_readPrint_13 : decode cX13_readPrint 13 = .ok (.iconst 1, 1) := by decide +kernel
theorem dX13_readPrint_14 : decode cX13_readPrint 14 = .ok (.invokevirtual 283, 3) := by decide +kernel
theorem dX13_readPrint_17 : decode cX13_readPrint 17 = .ok (.istore_n 1, 1) := by decide +kernel
theorem dX13_readPrint_18 : decode cX13_readPrint 18 = .ok (.aload_n 0, 1) := by decide +kernel
theorem dX13_readPrint_19 : decode cX13_readPrint 19 = .ok (.iconst 3, 1) := by decide +kernel
theorem dX13_readPrint_20 : decode cX13_readPrint 20 = .ok (.invokevirtual 283, 3) := by decide +kernel
theorem dX13_readPrint_23 : decode cX13_readPrint 23 = .ok (.istore_n 2, 1) := by decide +kernel
theorem dX13_readPrint_24 : decode cX13_readPrint 24 = .ok (.aload_n 0, 1) := by decide +kernel
theorem dX13_readPrint_25 : decode cX13_readPrint 25 = .ok (.invokevirtual 269, 3) := by decide +kernel
theorem dX13_readPrint_28 : decode cX13_readPrint 28 = .ok (.istore_n 3, 1) := by decide +kernel
theorem dX13_readPrint_29 : decode cX13_readPrint 29 = .ok (.aload_n 0, 1) := by decide +kernel
theorem dX13_readPrint_30 : decode cX13_readPrint 30 = .ok (.getfield 80, 3) := by decide +kernel
theorem dX13_readPrint_33 : decode cX13_readPrint 33 = .ok (.bipush 6, 2) := by decide +kernel
theorem dX13_readPrint_35 : decode cX13_readPrint 35 = .ok (.if_icmp .ne 4, 3) := by decide +kernel
theorem dX13_readPrint_38 : decode cX13_readPrint 38 = .ok (.return_, 1) := by decide +kernel
theorem dX13_readPrint_39 : decode cX13_readPrint 39 = .ok (.aload_n 0, 1) := by decide +kernel
theorem dX13_readPrint_40 : decode cX13_readPrint 40 = .ok (.getfield 157, 3) := by decide +kernel
theorem dX13_readPrint_43 : decode cX13_readPrint 43 = .ok (.getfield 323, 3) := by decide +kernel
theorem dX13_readPrint_46 : decode cX13_readPrint 46 = .ok (.aload_n 0, 1) := by decide +kernel
theorem dX13_readPrint_47 : decode cX13_readPrint 47 = .ok (.getfield 157, 3) := by decide +kernel
theorem dX13_readPrint_50 : decode cX13_readPrint 50 = .ok (.getfield 320, 3) := by decide +kernel
theorem dX13_readPrint_53 : decode cX13_readPrint 53 = .ok (.iload_n 1, 1) := by decide +kernel
theorem dX13_readPrint_54 : decode cX13_readPrint 54 = .ok (.iastore, 1) := by decide +kernel
theorem dX13_readPrint_55 : decode cX13_readPrint 55 = .ok (.aload_n 0, 1) := by decide +kernel
theorem dX13_readPrint_56 : decode cX13_readPrint 56 = .ok (.getfield 157, 3) := by decide +kernel
theorem dX13_readPrint_59 : decode cX13_readPrint 59 = .ok (.getfield 326, 3) := by decide +kernel
theorem dX13_readPrint_62 : decode cX13_readPrint 62 = .ok (.aload_n 0, 1) := by decide +kernel
theorem dX13_readPrint_63 : decode cX13_readPrint 63 = .ok (.getfield 157, 3) := by decide +kernel
theorem dX13_readPrint_66 : decode cX13_readPrint 66 = .ok (.getfield 320, 3) := by decide +kernel
theorem dX13_readPrint_69 : decode cX13_readPrint 69 = .ok (.iload_n 2, 1) := by decide +kernel
theorem dX13_readPrint_70 : decode cX13_readPrint 70 = .ok (.iastore, 1) := by decide +kernel
theorem dX13_readPrint_71 : decode cX13_readPrint 71 = .ok (.aload_n 0, 1) := by decide +kernel
theorem dX13_readPrint_72 : decode cX13_readPrint 72 = .ok (.getfield 157, 3) := by decide +kernel
theorem dX13_readPrint_75 : decode cX13_readPrint 75 = .ok (.getfield 329, 3) := by decide +kernel
theorem dX13_readPrint_78 : decode cX13_readPrint 78 = .ok (.aload_n 0, 1) := by decide +kernel
theorem dX13_readPrint_79 : decode cX13_readPrint 79 = .ok (.getfield 157, 3) := by decide +kernel
theorem dX13_readPrint_82 : decode cX13_readPrint 82 = .ok (.getfield 320, 3) := by decide +kernel
theorem dX13_readPrint_85 : decode cX13_readPrint 85 = .ok (.iload_n 3, 1) := by decide +kernel
theorem dX13_readPrint_86 : decode cX13_readPrint 86 = .ok (.iastore, 1) := by decide +kernel
theorem dX13_readPrint_87 : decode cX13_readPrint 87 = .ok (.aload_n 0, 1) := by decide +kernel
theorem dX13_readPrint_88 : decode cX13_readPrint 88 = .ok (.getfield 157, 3) := by decide +kernel
theorem dX13_readPrint_91 : decode cX13_readPrint 91 = .ok (.dup, 1) := by decide +kernel
theorem dX13_readPrint_92 : decode cX13_readPrint 92 = .ok (.getfield 320, 3) := by decide +kernel
theorem dX13_readPrint_95 : decode cX13_readPrint 95 = .ok (.iconst 1, 1) := by decide +kernel
theorem dX13_readPrint_96 : decode cX13_readPrint 96 = .ok (.iadd, 1) := by decide +kernel
theorem dX13_readPrint_97 : decode cX13_readPrint 97 = .ok (.putfield 320, 3) := by decide +kernel
theorem dX13_readPrint_100 : decode cX13_readPrint 100 = .ok (.return_, 1) := by decide +kernel
theorem dX13_feed_0 : decode cX13_feed 0 = .ok (.aload_n 0, 1) := by decide +kernel
theorem dX13_feed_1 : decode cX13_feed 1 = .ok (.iconst 0, 1) := by decide +kernel
theorem dX13_feed_2 : decode cX13_feed 2 = .ok (.putfield 48, 3) := by decide +kernel
theorem dX13_feed_5 : decode cX13_feed 5 = .ok (.aload_n 0, 1) := by decide +kernel
theorem dX13_feed_6 : decode cX13_feed 6 = .ok (.getfield 331, 3) := by decide +kernel
theorem dX13_feed_9 : decode cX13_feed 9 = .ok (.bipush 20, 2) := by decide +kernel
theorem dX13_feed_11 : decode cX13_feed 11 = .ok (.iadd, 1) := by decide +kernel
theorem dX13_feed_12 : decode cX13_feed 12 = .ok (.sipush 900, 3) := by decide +kernel
theorem dX13_feed_15 : decode cX13_feed 15 = .ok (.if_icmp .le 5, 3) := by decide +kernel
theorem dX13_feed_18 : decode cX13_feed 18 = .ok (.iconst (-1), 1) := by decide +kernel
theorem dX13_feed_19 : decode cX13_feed 19 = .ok (.ireturn, 1) := by decide +kernel
theorem dX13_feed_20 : decode cX13_feed 20 = .ok (.iconst 0, 1) := by decide +kernel
theorem dX13_feed_21 : decode cX13_feed 21 = .ok (.istore 6, 2) := by decide +kernel
theorem dX13_feed_23 : decode cX13_feed 23 = .ok (.iload 6, 2) := by decide +kernel
theorem dX13_feed_25 : decode cX13_feed 25 = .ok (.bipush 20, 2) := by decide +kernel
theorem dX13_feed_27 : decode cX13_feed 27 = .ok (.if_icmp .ge 90, 3) := by decide +kernel
theorem dX13_feed_30 : decode cX13_feed 30 = .ok (.iload 6, 2) := by decide +kernel
theorem dX13_feed_32 : decode cX13_feed 32 = .ok (.iconst 4, 1) := by decide +kernel
theorem dX13_feed_33 : decode cX13_feed 33 = .ok (.if_icmp .ge 7, 3) := by decide +kernel
theorem dX13_feed_36 : decode cX13_feed 36 = .ok (.iload_n 1, 1) := by decide +kernel
theorem dX13_feed_37 : decode cX13_feed 37 = .ok (.goto 39, 3) := by decide +kernel
theorem dX13_feed_40 : decode cX13_feed 40 = .ok (.iload 6, 2) := by decide +kernel
theorem dX13_feed_42 : decode cX13_feed 42 = .ok (.bipush 8, 2) := by decide +kernel
theorem dX13_feed_44 : decode cX13_feed 44 = .ok (.if_icmp .ge 7, 3) := by decide +kernel
theorem dX13_feed_47 : decode cX13_feed 47 = .ok (.iload_n 2, 1) := by decide +kernel
theorem dX13_feed_48 : decode cX13_feed 48 = .ok (.goto 28, 3) := by decide +kernel
theorem dX13_feed_51 : decode cX13_feed 51 = .ok (.iload 6, 2) := by decide +kernel
theorem dX13_feed_53 : decode cX13_feed 53 = .ok (.bipush 12, 2) := by decide +kernel
theorem dX13_feed_55 : decode cX13_feed 55 = .ok (.if_icmp .ge 7, 3) := by decide +kernel
theorem dX13_feed_58 : decode cX13_feed 58 = .ok (.iload_n 3, 1) := by decide +kernel
theorem dX13_feed_59 : decode cX13_feed 59 = .ok (.goto 17, 3) := by decide +kernel
theorem dX13_feed_62 : decode cX13_feed 62 = .ok (.iload 6, 2) := by decide +kernel
theorem dX13_feed_64 : decode cX13_feed 64 = .ok (.bipush 16, 2) := by decide +kernel
theorem dX13_feed_66 : decode cX13_feed 66 = .ok (.if_icmp .ge 8, 3) := by decide +kernel
theorem dX13_feed_69 : decode cX13_feed 69 = .ok (.iload 4, 2) := by decide +kernel
theorem dX13_feed_71 : decode cX13_feed 71 = .ok (.goto 5, 3) := by decide +kernel
theorem dX13_feed_74 : decode cX13_feed 74 = .ok (.iload 5, 2) := by decide +kernel
theorem dX13_feed_76 : decode cX13_feed 76 = .ok (.istore 7, 2) := by decide +kernel
theorem dX13_feed_78 : decode cX13_feed 78 = .ok (.aload_n 0, 1) := by decide +kernel
theorem dX13_feed_79 : decode cX13_feed 79 = .ok (.getfield 13, 3) := by decide +kernel
theorem dX13_feed_82 : decode cX13_feed 82 = .ok (.aload_n 0, 1) := by decide +kernel
theorem dX13_feed_83 : decode cX13_feed 83 = .ok (.getfield 331, 3) := by decide +kernel
theorem dX13_feed_86 : decode cX13_feed 86 = .ok (.iload 7, 2) := by decide +kernel
theorem dX13_feed_88 : decode cX13_feed 88 = .ok (.bipush 24, 2) := by decide +kernel
theorem dX13_feed_90 : decode cX13_feed 90 = .ok (.bipush 8, 2) := by decide +kernel
theorem dX13_feed_92 : decode cX13_feed 92 = .ok (.iload 6, 2) := by decide +kernel
theorem dX13_feed_94 : decode cX13_feed 94 = .ok (.iconst 4, 1) := by decide +kernel
theorem dX13_feed_95 : decode cX13_feed 95 = .ok (.irem, 1) := by decide +kernel
theorem dX13_feed_96 : decode cX13_feed 96 = .ok (.imul, 1) := by decide +kernel
theorem dX13_feed_97 : decode cX13_feed 97 = .ok (.isub, 1) := by decide +kernel
theorem dX13_feed_98 : decode cX13_feed 98 = .ok (.ishr, 1) := by decide +kernel
theorem dX13_feed_99 : decode cX13_feed 99 = .ok (.i2b, 1) := by decide +kernel
theorem dX13_feed_100 : decode cX13_feed 100 = .ok (.bastore, 1) := by decide +kernel
theorem dX13_feed_101 : decode cX13_feed 101 = .ok (.aload_n 0, 1) := by decide +kernel
theorem dX13_feed_102 : decode cX13_feed 102 = .ok (.dup, 1) := by decide +kernel
theorem dX13_feed_103 : decode cX13_feed 103 = .ok (.getfield 331, 3) := by decide +kernel
theorem dX13_feed_106 : decode cX13_feed 106 = .ok (.iconst 1, 1) := by decide +kernel
theorem dX13_feed_107 : decode cX13_feed 107 = .ok (.iadd, 1) := by decide +kernel
theorem dX13_feed_108 : decode cX13_feed 108 = .ok (.putfield 331, 3) := by decide +kernel
theorem dX13_feed_111 : decode cX13_feed 111 = .ok (.iinc 6 1, 3) := by decide +kernel
theorem dX13_feed_114 : decode cX13_feed 114 = .ok (.goto (-91), 3) := by decide +kernel
theorem dX13_feed_117 : decode cX13_feed 117 = .ok (.aload_n 0, 1) := by decide +kernel
theorem dX13_feed_118 : decode cX13_feed 118 = .ok (.getfield 331, 3) := by decide +kernel
theorem dX13_feed_121 : decode cX13_feed 121 = .ok (.ireturn, 1) := by decide +kernel
theorem dX13_office_0 : decode cX13_office 0 = .ok (.aload_n 0, 1) := by decide +kernel
theorem dX13_office_1 : decode cX13_office 1 = .ok (.iconst 0, 1) := by decide +kernel
theorem dX13_office_2 : decode cX13_office 2 = .ok (.putfield 48, 3) := by decide +kernel
theorem dX13_office_5 : decode cX13_office 5 = .ok (.iload_n 1, 1) := by decide +kernel
theorem dX13_office_6 : decode cX13_office 6 = .ok (.ifCond .lt 11, 3) := by decide +kernel
theorem dX13_office_9 : decode cX13_office 9 = .ok (.iload_n 1, 1) := by decide +kernel
theorem dX13_office_10 : decode cX13_office 10 = .ok (.aload_n 0, 1) := by decide +kernel
theorem dX13_office_11 : decode cX13_office 11 = .ok (.getfield 331, 3) := by decide +kernel
theorem dX13_office_14 : decode cX13_office 14 = .ok (.if_icmp .le 9, 3) := by decide +kernel
theorem dX13_office_17 : decode cX13_office 17 = .ok (.aload_n 0, 1) := by decide +kernel
theorem dX13_office_18 : decode cX13_office 18 = .ok (.iconst 2, 1) := by decide +kernel
theorem dX13_office_19 : decode cX13_office 19 = .ok (.invokevirtual 54, 3) := by decide +kernel
theorem dX13_office_22 : decode cX13_office 22 = .ok (.ireturn, 1) := by decide +kernel
theorem dX13_office_23 : decode cX13_office 23 = .ok (.aload_n 0, 1) := by decide +kernel
theorem dX13_office_24 : decode cX13_office 24 = .ok (.iload_n 1, 1) := by decide +kernel
theorem dX13_office_25 : decode cX13_office 25 = .ok (.putfield 65, 3) := by decide +kernel
theorem dX13_office_28 : decode cX13_office 28 = .ok (.aload_n 0, 1) := by decide +kernel
theorem dX13_office_29 : decode cX13_office 29 = .ok (.iconst 0, 1) := by decide +kernel
theorem dX13_office_30 : decode cX13_office 30 = .ok (.putfield 331, 3) := by decide +kernel
theorem dX13_office_33 : decode cX13_office 33 = .ok (.aload_n 0, 1) := by decide +kernel
theorem dX13_office_34 : decode cX13_office 34 = .ok (.iconst 0, 1) := by decide +kernel
theorem dX13_office_35 : decode cX13_office 35 = .ok (.putfield 83, 3) := by decide +kernel
theorem dX13_office_38 : decode cX13_office 38 = .ok (.aload_n 0, 1) := by decide +kernel
theorem dX13_office_39 : decode cX13_office 39 = .ok (.iconst 0, 1) := by decide +kernel
theorem dX13_office_40 : decode cX13_office 40 = .ok (.putfield 106, 3) := by decide +kernel
theorem dX13_office_43 : decode cX13_office 43 = .ok (.aload_n 0, 1) := by decide +kernel
theorem dX13_office_44 : decode cX13_office 44 = .ok (.new 162, 3) := by decide +kernel
theorem dX13_office_47 : decode cX13_office 47 = .ok (.dup, 1) := by decide +kernel
theorem dX13_office_48 : decode cX13_office 48 = .ok (.invokespecial 334, 3) := by decide +kernel
theorem dX13_office_51 : decode cX13_office 51 = .ok (.putfield 157, 3) := by decide +kernel
theorem dX13_office_54 : decode cX13_office 54 = .ok (.aload_n 0, 1) := by decide +kernel
theorem dX13_office_55 : decode cX13_office 55 = .ok (.iconst 0, 1) := by decide +kernel
theorem dX13_office_56 : decode cX13_office 56 = .ok (.putfield 80, 3) := by decide +kernel
theorem dX13_office_59 : decode cX13_office 59 = .ok (.aload_n 0, 1) := by decide +kernel
theorem dX13_office_60 : decode cX13_office 60 = .ok (.invokevirtual 116, 3) := by decide +kernel
theorem dX13_office_63 : decode cX13_office 63 = .ok (.aload_n 0, 1) := by decide +kernel
theorem dX13_office_64 : decode cX13_office 64 = .ok (.invokevirtual 335, 3) := by decide +kernel
theorem dX13_office_67 : decode cX13_office 67 = .ok (.aload_n 0, 1) := by decide +kernel
theorem dX13_office_68 : decode cX13_office 68 = .ok (.getfield 106, 3) := by decide +kernel
theorem dX13_office_71 : decode cX13_office 71 = .ok (.ifCond .le 18, 3) := by decide +kernel
theorem dX13_office_74 : decode cX13_office 74 = .ok (.aload_n 0, 1) := by decide +kernel
theorem dX13_office_75 : decode cX13_office 75 = .ok (.iconst 4, 1) := by decide +kernel
theorem dX13_office_76 : decode cX13_office 76 = .ok (.putfield 51, 3) := by decide +kernel
theorem dX13_office_79 : decode cX13_office 79 = .ok (.aload_n 0, 1) := by decide +kernel
theorem dX13_office_80 : decode cX13_office 80 = .ok (.aload_n 0, 1) := by decide +kernel
theorem dX13_office_81 : decode cX13_office 81 = .ok (.getfield 109, 3) := by decide +kernel
theorem dX13_office_84 : decode cX13_office 84 = .ok (.putfield 9, 3) := by decide +kernel
theorem dX13_office_87 : decode cX13_office 87 = .ok (.iconst (-1), 1) := by decide +kernel
theorem dX13_office_88 : decode cX13_office 88 = .ok (.ireturn, 1) := by decide +kernel
theorem dX13_office_89 : decode cX13_office 89 = .ok (.aload_n 0, 1) := by decide +kernel
theorem dX13_office_90 : decode cX13_office 90 = .ok (.aload_n 0, 1) := by decide +kernel
theorem dX13_office_91 : decode cX13_office 91 = .ok (.getfield 157, 3) := by decide +kernel
theorem dX13_office_94 : decode cX13_office 94 = .ok (.putfield 338, 3) := by decide +kernel
theorem dX13_office_97 : decode cX13_office 97 = .ok (.iconst 0, 1) := by decide +kernel
theorem dX13_office_98 : decode cX13_office 98 = .ok (.istore_n 2, 1) := by decide +kernel
theorem dX13_office_99 : decode cX13_office 99 = .ok (.iload_n 2, 1) := by decide +kernel
theorem dX13_office_100 : decode cX13_office 100 = .ok (.bipush 31, 2) := by decide +kernel
theorem dX13_office_102 : decode cX13_office 102 = .ok (.if_icmp .ge 16, 3) := by decide +kernel
theorem dX13_office_105 : decode cX13_office 105 = .ok (.aload_n 0, 1) := by decide +kernel
theorem dX13_office_106 : decode cX13_office 106 = .ok (.getfield 17, 3) := by decide +kernel
theorem dX13_office_109 : decode cX13_office 109 = .ok (.iload_n 2, 1) := by decide +kernel
theorem dX13_office_110 : decode cX13_office 110 = .ok (.iconst 0, 1) := by decide +kernel
theorem dX13_office_111 : decode cX13_office 111 = .ok (.iastore, 1) := by decide +kernel
theorem dX13_office_112 : decode cX13_office 112 = .ok (.iinc 2 1, 3) := by decide +kernel
theorem dX13_office_115 : decode cX13_office 115 = .ok (.goto (-16), 3) := by decide +kernel
theorem dX13_office_118 : decode cX13_office 118 = .ok (.iconst 0, 1) := by decide +kernel
theorem dX13_office_119 : decode cX13_office 119 = .ok (.istore_n 2, 1) := by decide +kernel
theorem dX13_office_120 : decode cX13_office 120 = .ok (.iload_n 2, 1) := by decide +kernel
theorem dX13_office_121 : decode cX13_office 121 = .ok (.iconst 4, 1) := by decide +kernel
theorem dX13_office_122 : decode cX13_office 122 = .ok (.if_icmp .ge 26, 3) := by decide +kernel
theorem dX13_office_125 : decode cX13_office 125 = .ok (.aload_n 0, 1) := by decide +kernel
theorem dX13_office_126 : decode cX13_office 126 = .ok (.getfield 17, 3) := by decide +kernel
theorem dX13_office_129 : decode cX13_office 129 = .ok (.iconst 0, 1) := by decide +kernel
theorem dX13_office_130 : decode cX13_office 130 = .ok (.iload_n 2, 1) := by decide +kernel
theorem dX13_office_131 : decode cX13_office 131 = .ok (.iadd, 1) := by decide +kernel
theorem dX13_office_132 : decode cX13_office 132 = .ok (.aload_n 0, 1) := by decide +kernel
theorem dX13_office_133 : decode cX13_office 133 = .ok (.getfield 338, 3) := by decide +kernel
theorem dX13_office_136 : decode cX13_office 136 = .ok (.getfield 272, 3) := by decide +kernel
theorem dX13_office_139 : decode cX13_office 139 = .ok (.iload_n 2, 1) := by decide +kernel
theorem dX13_office_140 : decode cX13_office 140 = .ok (.iaload, 1) := by decide +kernel
theorem dX13_office_141 : decode cX13_office 141 = .ok (.iastore, 1) := by decide +kernel
theorem dX13_office_142 : decode cX13_office 142 = .ok (.iinc 2 1, 3) := by decide +kernel
theorem dX13_office_145 : decode cX13_office 145 = .ok (.goto (-25), 3) := by decide +kernel
theorem dX13_office_148 : decode cX13_office 148 = .ok (.iconst 0, 1) := by decide +kernel
theorem dX13_office_149 : decode cX13_office 149 = .ok (.istore_n 2, 1) := by decide +kernel
theorem dX13_office_150 : decode cX13_office 150 = .ok (.iload_n 2, 1) := by decide +kernel
theorem dX13_office_151 : decode cX13_office 151 = .ok (.iconst 5, 1) := by decide +kernel
theorem dX13_office_152 : decode cX13_office 152 = .ok (.if_icmp .ge 38, 3) := by decide +kernel
theorem dX13_office_155 : decode cX13_office 155 = .ok (.aload_n 0, 1) := by decide +kernel
theorem dX13_office_156 : decode cX13_office 156 = .ok (.getfield 17, 3) := by decide +kernel
theorem dX13_office_159 : decode cX13_office 159 = .ok (.bipush 11, 2) := by decide +kernel
theorem dX13_office_161 : decode cX13_office 161 = .ok (.iload_n 2, 1) := by decide +kernel
theorem dX13_office_162 : decode cX13_office 162 = .ok (.iadd, 1) := by decide +kernel
theorem dX13_office_163 : decode cX13_office 163 = .ok (.aload_n 0, 1) := by decide +kernel
theorem dX13_office_164 : decode cX13_office 164 = .ok (.getfield 338, 3) := by decide +kernel
theorem dX13_office_167 : decode cX13_office 167 = .ok (.getfield 259, 3) := by decide +kernel
theorem dX13_office_170 : decode cX13_office 170 = .ok (.iload_n 2, 1) := by decide +kernel
theorem dX13_office_171 : decode cX13_office 171 = .ok (.iaload, 1) := by decide +kernel
theorem dX13_office_172 : decode cX13_office 172 = .ok (.iastore, 1) := by decide +kernel
theorem dX13_office_173 : decode cX13_office 173 = .ok (.aload_n 0, 1) := by decide +kernel
theorem dX13_office_174 : decode cX13_office 174 = .ok (.getfield 17, 3) := by decide +kernel
theorem dX13_office_177 : decode cX13_office 177 = .ok (.bipush 16, 2) := by decide +kernel
theorem dX13_office_179 : decode cX13_office 179 = .ok (.iload_n 2, 1) := by decide +kernel
theorem dX13_office_180 : decode cX13_office 180 = .ok (.iadd, 1) := by decide +kernel
theorem dX13_office_181 : decode cX13_office 181 = .ok (.bipush (-2), 2) := by decide +kernel
theorem dX13_office_183 : decode cX13_office 183 = .ok (.iastore, 1) := by decide +kernel
theorem dX13_office_184 : decode cX13_office 184 = .ok (.iinc 2 1, 3) := by decide +kernel
theorem dX13_office_187 : decode cX13_office 187 = .ok (.goto (-37), 3) := by decide +kernel
theorem dX13_office_190 : decode cX13_office 190 = .ok (.iconst 0, 1) := by decide +kernel
theorem dX13_office_191 : decode cX13_office 191 = .ok (.istore_n 2, 1) := by decide +kernel
theorem dX13_office_192 : decode cX13_office 192 = .ok (.iload_n 2, 1) := by decide +kernel
theorem dX13_office_193 : decode cX13_office 193 = .ok (.bipush 10, 2) := by decide +kernel
theorem dX13_office_195 : decode cX13_office 195 = .ok (.if_icmp .ge 27, 3) := by decide +kernel
theorem dX13_office_198 : decode cX13_office 198 = .ok (.aload_n 0, 1) := by decide +kernel
theorem dX13_office_199 : decode cX13_office 199 = .ok (.getfield 17, 3) := by decide +kernel
theorem dX13_office_202 : decode cX13_office 202 = .ok (.bipush 21, 2) := by decide +kernel
theorem dX13_office_204 : decode cX13_office 204 = .ok (.iload_n 2, 1) := by decide +kernel
theorem dX13_office_205 : decode cX13_office 205 = .ok (.iadd, 1) := by decide +kernel
theorem dX13_office_206 : decode cX13_office 206 = .ok (.aload_n 0, 1) := by decide +kernel
theorem dX13_office_207 : decode cX13_office 207 = .ok (.getfield 338, 3) := by decide +kernel
theorem dX13_office_210 : decode cX13_office 210 = .ok (.getfield 295, 3) := by decide +kernel
theorem dX13_office_213 : decode cX13_office 213 = .ok (.iload_n 2, 1) := by decide +kernel
theorem dX13_office_214 : decode cX13_office 214 = .ok (.iaload, 1) := by decide +kernel
theorem dX13_office_215 : decode cX13_office 215 = .ok (.iastore, 1) := by decide +kernel
theorem dX13_office_216 : decode cX13_office 216 = .ok (.iinc 2 1, 3) := by decide +kernel
theorem dX13_office_219 : decode cX13_office 219 = .ok (.goto (-27), 3) := by decide +kernel
theorem dX13_office_222 : decode cX13_office 222 = .ok (.aload_n 0, 1) := by decide +kernel
theorem dX13_office_223 : decode cX13_office 223 = .ok (.iconst 0, 1) := by decide +kernel
theorem dX13_office_224 : decode cX13_office 224 = .ok (.putfield 340, 3) := by decide +kernel
theorem dX13_office_227 : decode cX13_office 227 = .ok (.aload_n 0, 1) := by decide +kernel
theorem dX13_office_228 : decode cX13_office 228 = .ok (.iconst 0, 1) := by decide +kernel
theorem dX13_office_229 : decode cX13_office 229 = .ok (.putfield 343, 3) := by decide +kernel
theorem dX13_office_232 : decode cX13_office 232 = .ok (.aload_n 0, 1) := by decide +kernel
theorem dX13_office_233 : decode cX13_office 233 = .ok (.aload_n 0, 1) := by decide +kernel
theorem dX13_office_234 : decode cX13_office 234 = .ok (.getfield 338, 3) := by decide +kernel
theorem dX13_office_237 : decode cX13_office 237 = .ok (.getfield 206, 3) := by decide +kernel
theorem dX13_office_240 : decode cX13_office 240 = .ok (.invokevirtual 58, 3) := by decide +kernel
theorem dX13_office_243 : decode cX13_office 243 = .ok (.ireturn, 1) := by decide +kernel
theorem dX13_fault_0 : decode cX13_fault 0 = .ok (.aload_n 0, 1) := by decide +kernel
theorem dX13_fault_1 : decode cX13_fault 1 = .ok (.iconst 0, 1) := by decide +kernel
theorem dX13_fault_2 : decode cX13_fault 2 = .ok (.putfield 48, 3) := by decide +kernel
theorem dX13_fault_5 : decode cX13_fault 5 = .ok (.aload_n 0, 1) := by decide +kernel
theorem dX13_fault_6 : decode cX13_fault 6 = .ok (.getfield 106, 3) := by decide +kernel
theorem dX13_fault_9 : decode cX13_fault 9 = .ok (.ireturn, 1) := by decide +kernel
theorem dX13_where_0 : decode cX13_where 0 = .ok (.aload_n 0, 1) := by decide +kernel
theorem dX13_where_1 : decode cX13_where 1 = .ok (.iconst 0, 1) := by decide +kernel
theorem dX13_where_2 : decode cX13_where 2 = .ok (.putfield 48, 3) := by decide +kernel
theorem dX13_where_5 : decode cX13_where 5 = .ok (.aload_n 0, 1) := by decide +kernel
theorem dX13_where_6 : decode cX13_where 6 = .ok (.getfield 9, 3) := by decide +kernel
theorem dX13_where_9 : decode cX13_where 9 = .ok (.ireturn, 1) := by decide +kernel
theorem dX13_isPaper_0 : decode cX13_isPaper 0 = .ok (.aload_n 0, 1) := by decide +kernel
theorem dX13_isPaper_1 : decode cX13_isPaper 1 = .ok (.getfield 338, 3) := by decide +kernel
theorem dX13_isPaper_4 : decode cX13_isPaper 4 = .ok (.ifnull 22, 3) := by decide +kernel
theorem dX13_isPaper_7 : decode cX13_isPaper 7 = .ok (.iload_n 1, 1) := by decide +kernel
theorem dX13_isPaper_8 : decode cX13_isPaper 8 = .ok (.ifCond .lt 18, 3) := by decide +kernel
theorem dX13_isPaper_11 : decode cX13_isPaper 11 = .ok (.iload_n 1, 1) := by decide +kernel
theorem dX13_isPaper_12 : decode cX13_isPaper 12 = .ok (.aload_n 0, 1) := by decide +kernel
theorem dX13_isPaper_13 : decode cX13_isPaper 13 = .ok (.getfield 338, 3) := by decide +kernel
theorem dX13_isPaper_16 : decode cX13_isPaper 16 = .ok (.getfield 206, 3) := by decide +kernel
theorem dX13_isPaper_19 : decode cX13_isPaper 19 = .ok (.if_icmp .ge 7, 3) := by decide +kernel
theorem dX13_isPaper_22 : decode cX13_isPaper 22 = .ok (.iconst 1, 1) := by decide +kernel
theorem dX13_isPaper_23 : decode cX13_isPaper 23 = .ok (.goto 4, 3) := by decide +kernel
theorem dX13_isPaper_26 : decode cX13_isPaper 26 = .ok (.iconst 0, 1) := by decide +kernel
theorem dX13_isPaper_27 : decode cX13_isPaper 27 = .ok (.ireturn, 1) := by decide +kernel
theorem dX13_isStamp_0 : decode cX13_isStamp 0 = .ok (.aload_n 0, 1) := by decide +kernel
theorem dX13_isStamp_1 : decode cX13_isStamp 1 = .ok (.getfield 338, 3) := by decide +kernel
theorem dX13_isStamp_4 : decode cX13_isStamp 4 = .ok (.ifnull 22, 3) := by decide +kernel
theorem dX13_isStamp_7 : decode cX13_isStamp 7 = .ok (.iload_n 1, 1) := by decide +kernel
theorem dX13_isStamp_8 : decode cX13_isStamp 8 = .ok (.ifCond .lt 18, 3) := by decide +kernel
theorem dX13_isStamp_11 : decode cX13_isStamp 11 = .ok (.iload_n 1, 1) := by decide +kernel
theorem dX13_isStamp_12 : decode cX13_isStamp 12 = .ok (.aload_n 0, 1) := by decide +kernel
theorem dX13_isStamp_13 : decode cX13_isStamp 13 = .ok (.getfield 338, 3) := by decide +kernel
theorem dX13_isStamp_16 : decode cX13_isStamp 16 = .ok (.getfield 262, 3) := by decide +kernel
theorem dX13_isStamp_19 : decode cX13_isStamp 19 = .ok (.if_icmp .ge 7, 3) := by decide +kernel
theorem dX13_isStamp_22 : decode cX13_isStamp 22 = .ok (.iconst 1, 1) := by decide +kernel
theorem dX13_isStamp_23 : decode cX13_isStamp 23 = .ok (.goto 4, 3) := by decide +kernel
theorem dX13_isStamp_26 : decode cX13_isStamp 26 = .ok (.iconst 0, 1) := by decide +kernel
theorem dX13_isStamp_27 : decode cX13_isStamp 27 = .ok (.ireturn, 1) := by decide +kernel
theorem dX13_isHand_0 : decode cX13_isHand 0 = .ok (.aload_n 0, 1) := by decide +kernel
theorem dX13_isHand_1 : decode cX13_isHand 1 = .ok (.getfield 338, 3) := by decide +kernel
theorem dX13_isHand_4 : decode cX13_isHand 4 = .ok (.ifnull 22, 3) := by decide +kernel
theorem dX13_isHand_7 : decode cX13_isHand 7 = .ok (.iload_n 1, 1) := by decide +kernel
theorem dX13_isHand_8 : decode cX13_isHand 8 = .ok (.ifCond .lt 18, 3) := by decide +kernel
theorem dX13_isHand_11 : decode cX13_isHand 11 = .ok (.iload_n 1, 1) := by decide +kernel
theorem dX13_isHand_12 : decode cX13_isHand 12 = .ok (.aload_n 0, 1) := by decide +kernel
theorem dX13_isHand_13 : decode cX13_isHand 13 = .ok (.getfield 338, 3) := by decide +kernel
theorem dX13_isHand_16 : decode cX13_isHand 16 = .ok (.getfield 298, 3) := by decide +kernel
theorem dX13_isHand_19 : decode cX13_isHand 19 = .ok (.if_icmp .ge 7, 3) := by decide +kernel
theorem dX13_isHand_22 : decode cX13_isHand 22 = .ok (.iconst 1, 1) := by decide +kernel
theorem dX13_isHand_23 : decode cX13_isHand 23 = .ok (.goto 4, 3) := by decide +kernel
theorem dX13_isHand_26 : decode cX13_isHand 26 = .ok (.iconst 0, 1) := by decide +kernel
theorem dX13_isHand_27 : decode cX13_isHand 27 = .ok (.ireturn, 1) := by decide +kernel
theorem dX13_isRule_0 : decode cX13_isRule 0 = .ok (.aload_n 0, 1) := by decide +kernel
theorem dX13_isRule_1 : decode cX13_isRule 1 = .ok (.getfield 338, 3) := by decide +kernel
theorem dX13_isRule_4 : decode cX13_isRule 4 = .ok (.ifnull 22, 3) := by decide +kernel
theorem dX13_isRule_7 : decode cX13_isRule 7 = .ok (.iload_n 1, 1) := by decide +kernel
theorem dX13_isRule_8 : decode cX13_isRule 8 = .ok (.ifCond .lt 18, 3) := by decide +kernel
theorem dX13_isRule_11 : decode cX13_isRule 11 = .ok (.iload_n 1, 1) := by decide +kernel
theorem dX13_isRule_12 : decode cX13_isRule 12 = .ok (.aload_n 0, 1) := by decide +kernel
theorem dX13_isRule_13 : decode cX13_isRule 13 = .ok (.getfield 338, 3) := by decide +kernel
theorem dX13_isRule_16 : decode cX13_isRule 16 = .ok (.getfield 280, 3) := by decide +kernel
theorem dX13_isRule_19 : decode cX13_isRule 19 = .ok (.if_icmp .ge 7, 3) := by decide +kernel
theorem dX13_isRule_22 : decode cX13_isRule 22 = .ok (.iconst 1, 1) := by decide +kernel
theorem dX13_isRule_23 : decode cX13_isRule 23 = .ok (.goto 4, 3) := by decide +kernel
theorem dX13_isRule_26 : decode cX13_isRule 26 = .ok (.iconst 0, 1) := by decide +kernel
theorem dX13_isRule_27 : decode cX13_isRule 27 = .ok (.ireturn, 1) := by decide +kernel
theorem dX13_allMarks_0 : decode cX13_allMarks 0 = .ok (.iconst 1, 1) := by decide +kernel
theorem dX13_allMarks_1 : decode cX13_allMarks 1 = .ok (.aload_n 0, 1) := by decide +kernel
theorem dX13_allMarks_2 : decode cX13_allMarks 2 = .ok (.getfield 338, 3) := by decide +kernel
theorem dX13_allMarks_5 : decode cX13_allMarks 5 = .ok (.getfield 238, 3) := by decide +kernel
theorem dX13_allMarks_8 : decode cX13_allMarks 8 = .ok (.ishl, 1) := by decide +kernel
theorem dX13_allMarks_9 : decode cX13_allMarks 9 = .ok (.ireturn, 1) := by decide +kernel
theorem dX13_ruleFor_0 : decode cX13_ruleFor 0 = .ok (.iconst 0, 1) := by decide +kernel
theorem dX13_ruleFor_1 : decode cX13_ruleFor 1 = .ok (.istore_n 3, 1) := by decide +kernel
theorem dX13_ruleFor_2 : decode cX13_ruleFor 2 = .ok (.iload_n 3, 1) := by decide +kernel
theorem dX13_ruleFor_3 : decode cX13_ruleFor 3 = .ok (.aload_n 0, 1) := by decide +kernel
theorem dX13_ruleFor_4 : decode cX13_ruleFor 4 = .ok (.getfield 338, 3) := by decide +kernel
theorem dX13_ruleFor_7 : decode cX13_ruleFor 7 = .ok (.getfield 280, 3) := by decide +kernel
theorem dX13_ruleFor_10 : decode cX13_ruleFor 10 = .ok (.if_icmp .ge 57, 3) := by decide +kernel
theorem dX13_ruleFor_13 : decode cX13_ruleFor 13 = .ok (.aload_n 0, 1) := by decide +kernel
theorem dX13_ruleFor_14 : decode cX13_ruleFor 14 = .ok (.getfield 338, 3) := by decide +kernel
theorem dX13_ruleFor_17 : decode cX13_ruleFor 17 = .ok (.getfield 286, 3) := by decide +kernel
theorem dX13_ruleFor_20 : decode cX13_ruleFor 20 = .ok (.iload_n 3, 1) := by decide +kernel
theorem dX13_ruleFor_21 : decode cX13_ruleFor 21 = .ok (.iaload, 1) := by decide +kernel
theorem dX13_ruleFor_22 : decode cX13_ruleFor 22 = .ok (.iload_n 1, 1) := by decide +kernel
