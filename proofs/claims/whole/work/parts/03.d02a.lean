theorem dX10_advance_198 : decode cX10_advance 198 = .ok (.putfield 31, 3) := by decide +kernel
theorem dX10_advance_201 : decode cX10_advance 201 = .ok (.aload_n 0, 1) := by decide +kernel
theorem dX10_advance_202 : decode cX10_advance 202 = .ok (.aload_n 0, 1) := by decide +kernel
theorem dX10_advance_203 : decode cX10_advance 203 = .ok (.getfield 31, 3) := by decide +kernel
theorem dX10_advance_206 : decode cX10_advance 206 = .ok (.iconst 1, 1) := by decide +kernel
theorem dX10_advance_207 : decode cX10_advance 207 = .ok (.if_icmp .ne 10, 3) := by decide +kernel
theorem dX10_advance_210 : decode cX10_advance 210 = .ok (.aload_n 0, 1) := by decide +kernel
theorem dX10_advance_211 : decode cX10_advance 211 = .ok (.invokevirtual 42, 3) := by decide +kernel
theorem dX10_advance_214 : decode cX10_advance 214 = .ok (.goto 4, 3) := by decide +kernel
theorem dX10_advance_217 : decode cX10_advance 217 = .ok (.lconst 0, 1) := by decide +kernel
theorem dX10_advance_218 : decode cX10_advance 218 = .ok (.putfield 34, 3) := by decide +kernel
theorem dX10_advance_221 : decode cX10_advance 221 = .ok (.return_, 1) := by decide +kernel
theorem dX10_sortAt_0 : decode cX10_sortAt 0 = .ok (.aload_n 0, 1) := by decide +kernel
theorem dX10_sortAt_1 : decode cX10_sortAt 1 = .ok (.getfield 11, 3) := by decide +kernel
theorem dX10_sortAt_4 : decode cX10_sortAt 4 = .ok (.iload_n 1, 1) := by decide +kernel
theorem dX10_sortAt_5 : decode cX10_sortAt 5 = .ok (.baload, 1) := by decide +kernel
theorem dX10_sortAt_6 : decode cX10_sortAt 6 = .ok (.istore_n 2, 1) := by decide +kernel
theorem dX10_sortAt_7 : decode cX10_sortAt 7 = .ok (.iload_n 2, 1) := by decide +kernel
theorem dX10_sortAt_8 : decode cX10_sortAt 8 = .ok (.bipush 97, 2) := by decide +kernel
theorem dX10_sortAt_10 : decode cX10_sortAt 10 = .ok (.if_icmp .lt 11, 3) := by decide +kernel
theorem dX10_sortAt_13 : decode cX10_sortAt 13 = .ok (.iload_n 2, 1) := by decide +kernel
theorem dX10_sortAt_14 : decode cX10_sortAt 14 = .ok (.bipush 122, 2) := by decide +kernel
theorem dX10_sortAt_16 : decode cX10_sortAt 16 = .ok (.if_icmp .gt 5, 3) := by decide +kernel
theorem dX10_sortAt_19 : decode cX10_sortAt 19 = .ok (.iconst 1, 1) := by decide +kernel
theorem dX10_sortAt_20 : decode cX10_sortAt 20 = .ok (.ireturn, 1) := by decide +kernel
theorem dX10_sortAt_21 : decode cX10_sortAt 21 = .ok (.iload_n 2, 1) := by decide +kernel
theorem dX10_sortAt_22 : decode cX10_sortAt 22 = .ok (.bipush 48, 2) := by decide +kernel
theorem dX10_sortAt_24 : decode cX10_sortAt 24 = .ok (.if_icmp .lt 11, 3) := by decide +kernel
theorem dX10_sortAt_27 : decode cX10_sortAt 27 = .ok (.iload_n 2, 1) := by decide +kernel
theorem dX10_sortAt_28 : decode cX10_sortAt 28 = .ok (.bipush 57, 2) := by decide +kernel
theorem dX10_sortAt_30 : decode cX10_sortAt 30 = .ok (.if_icmp .gt 5, 3) := by decide +kernel
theorem dX10_sortAt_33 : decode cX10_sortAt 33 = .ok (.iconst 2, 1) := by decide +kernel
theorem dX10_sortAt_34 : decode cX10_sortAt 34 = .ok (.ireturn, 1) := by decide +kernel
theorem dX10_sortAt_35 : decode cX10_sortAt 35 = .ok (.iload_n 2, 1) := by decide +kernel
theorem dX10_sortAt_36 : decode cX10_sortAt 36 = .ok (.bipush 59, 2) := by decide +kernel
theorem dX10_sortAt_38 : decode cX10_sortAt 38 = .ok (.if_icmp .ne 7, 3) := by decide +kernel
theorem dX10_sortAt_41 : decode cX10_sortAt 41 = .ok (.iconst 3, 1) := by decide +kernel
theorem dX10_sortAt_42 : decode cX10_sortAt 42 = .ok (.goto 14, 3) := by decide +kernel
theorem dX10_sortAt_45 : decode cX10_sortAt 45 = .ok (.iload_n 2, 1) := by decide +kernel
theorem dX10_sortAt_46 : decode cX10_sortAt 46 = .ok (.bipush 44, 2) := by decide +kernel
theorem dX10_sortAt_48 : decode cX10_sortAt 48 = .ok (.if_icmp .ne 7, 3) := by decide +kernel
theorem dX10_sortAt_51 : decode cX10_sortAt 51 = .ok (.iconst 4, 1) := by decide +kernel
theorem dX10_sortAt_52 : decode cX10_sortAt 52 = .ok (.goto 4, 3) := by decide +kernel
theorem dX10_sortAt_55 : decode cX10_sortAt 55 = .ok (.iconst 5, 1) := by decide +kernel
theorem dX10_sortAt_56 : decode cX10_sortAt 56 = .ok (.ireturn, 1) := by decide +kernel
theorem dX10_value_0 : decode cX10_value 0 = .ok (.iconst 0, 1) := by decide +kernel
theorem dX10_value_1 : decode cX10_value 1 = .ok (.istore_n 1, 1) := by decide +kernel
theorem dX10_value_2 : decode cX10_value 2 = .ok (.aload_n 0, 1) := by decide +kernel
theorem dX10_value_3 : decode cX10_value 3 = .ok (.getfield 28, 3) := by decide +kernel
theorem dX10_value_6 : decode cX10_value 6 = .ok (.istore_n 2, 1) := by decide +kernel
theorem dX10_value_7 : decode cX10_value 7 = .ok (.iload_n 2, 1) := by decide +kernel
theorem dX10_value_8 : decode cX10_value 8 = .ok (.aload_n 0, 1) := by decide +kernel
theorem dX10_value_9 : decode cX10_value 9 = .ok (.getfield 22, 3) := by decide +kernel
theorem dX10_value_12 : decode cX10_value 12 = .ok (.if_icmp .ge 24, 3) := by decide +kernel
theorem dX10_value_15 : decode cX10_value 15 = .ok (.bipush 10, 2) := by decide +kernel
theorem dX10_value_17 : decode cX10_value 17 = .ok (.iload_n 1, 1) := by decide +kernel
theorem dX10_value_18 : decode cX10_value 18 = .ok (.imul, 1) := by decide +kernel
theorem dX10_value_19 : decode cX10_value 19 = .ok (.aload_n 0, 1) := by decide +kernel
theorem dX10_value_20 : decode cX10_value 20 = .ok (.getfield 11, 3) := by decide +kernel
theorem dX10_value_23 : decode cX10_value 23 = .ok (.iload_n 2, 1) := by decide +kernel
theorem dX10_value_24 : decode cX10_value 24 = .ok (.baload, 1) := by decide +kernel
theorem dX10_value_25 : decode cX10_value 25 = .ok (.bipush 48, 2) := by decide +kernel
theorem dX10_value_27 : decode cX10_value 27 = .ok (.isub, 1) := by decide +kernel
theorem dX10_value_28 : decode cX10_value 28 = .ok (.iadd, 1) := by decide +kernel
theorem dX10_value_29 : decode cX10_value 29 = .ok (.istore_n 1, 1) := by decide +kernel
theorem dX10_value_30 : decode cX10_value 30 = .ok (.iinc 2 1, 3) := by decide +kernel
theorem dX10_value_33 : decode cX10_value 33 = .ok (.goto (-26), 3) := by decide +kernel
theorem dX10_value_36 : decode cX10_value 36 = .ok (.iload_n 1, 1) := by decide +kernel
theorem dX10_value_37 : decode cX10_value 37 = .ok (.ireturn, 1) := by decide +kernel
theorem dX10_spelling_0 : decode cX10_spelling 0 = .ok (.lconst 0, 1) := by decide +kernel
theorem dX10_spelling_1 : decode cX10_spelling 1 = .ok (.lstore_n 1, 1) := by decide +kernel
theorem dX10_spelling_2 : decode cX10_spelling 2 = .ok (.aload_n 0, 1) := by decide +kernel
theorem dX10_spelling_3 : decode cX10_spelling 3 = .ok (.getfield 28, 3) := by decide +kernel
theorem dX10_spelling_6 : decode cX10_spelling 6 = .ok (.istore_n 3, 1) := by decide +kernel
theorem dX10_spelling_7 : decode cX10_spelling 7 = .ok (.iload_n 3, 1) := by decide +kernel
theorem dX10_spelling_8 : decode cX10_spelling 8 = .ok (.aload_n 0, 1) := by decide +kernel
theorem dX10_spelling_9 : decode cX10_spelling 9 = .ok (.getfield 22, 3) := by decide +kernel
theorem dX10_spelling_12 : decode cX10_spelling 12 = .ok (.if_icmp .ge 24, 3) := by decide +kernel
theorem dX10_spelling_15 : decode cX10_spelling 15 = .ok (.lload_n 1, 1) := by decide +kernel
theorem dX10_spelling_16 : decode cX10_spelling 16 = .ok (.iconst 5, 1) := by decide +kernel
theorem dX10_spelling_17 : decode cX10_spelling 17 = .ok (.lshl, 1) := by decide +kernel
theorem dX10_spelling_18 : decode cX10_spelling 18 = .ok (.aload_n 0, 1) := by decide +kernel
theorem dX10_spelling_19 : decode cX10_spelling 19 = .ok (.getfield 11, 3) := by decide +kernel
theorem dX10_spelling_22 : decode cX10_spelling 22 = .ok (.iload_n 3, 1) := by decide +kernel
theorem dX10_spelling_23 : decode cX10_spelling 23 = .ok (.baload, 1) := by decide +kernel
theorem dX10_spelling_24 : decode cX10_spelling 24 = .ok (.bipush 31, 2) := by decide +kernel
theorem dX10_spelling_26 : decode cX10_spelling 26 = .ok (.iand, 1) := by decide +kernel
theorem dX10_spelling_27 : decode cX10_spelling 27 = .ok (.i2l, 1) := by decide +kernel
theorem dX10_spelling_28 : decode cX10_spelling 28 = .ok (.lor, 1) := by decide +kernel
theorem dX10_spelling_29 : decode cX10_spelling 29 = .ok (.lstore_n 1, 1) := by decide +kernel
theorem dX10_spelling_30 : decode cX10_spelling 30 = .ok (.iinc 3 1, 3) := by decide +kernel
theorem dX10_spelling_33 : decode cX10_spelling 33 = .ok (.goto (-26), 3) := by decide +kernel
theorem dX10_spelling_36 : decode cX10_spelling 36 = .ok (.lload_n 1, 1) := by decide +kernel
theorem dX10_spelling_37 : decode cX10_spelling 37 = .ok (.lreturn, 1) := by decide +kernel
theorem dX10_spellAll_0 : decode cX10_spellAll 0 = .ok (.iconst 0, 1) := by decide +kernel
theorem dX10_spellAll_1 : decode cX10_spellAll 1 = .ok (.istore_n 2, 1) := by decide +kernel
theorem dX10_spellAll_2 : decode cX10_spellAll 2 = .ok (.iconst 0, 1) := by decide +kernel
theorem dX10_spellAll_3 : decode cX10_spellAll 3 = .ok (.istore_n 3, 1) := by decide +kernel
theorem dX10_spellAll_4 : decode cX10_spellAll 4 = .ok (.iload_n 3, 1) := by decide +kernel
theorem dX10_spellAll_5 : decode cX10_spellAll 5 = .ok (.aload_n 0, 1) := by decide +kernel
theorem dX10_spellAll_6 : decode cX10_spellAll 6 = .ok (.invokevirtual 46, 3) := by decide +kernel
theorem dX10_spellAll_9 : decode cX10_spellAll 9 = .ok (.if_icmp .ge 49, 3) := by decide +kernel
theorem dX10_spellAll_12 : decode cX10_spellAll 12 = .ok (.iload_n 2, 1) := by decide +kernel
theorem dX10_spellAll_13 : decode cX10_spellAll 13 = .ok (.aload_n 1, 1) := by decide +kernel
theorem dX10_spellAll_14 : decode cX10_spellAll 14 = .ok (.arraylength, 1) := by decide +kernel
theorem dX10_spellAll_15 : decode cX10_spellAll 15 = .ok (.if_icmp .ge 43, 3) := by decide +kernel
theorem dX10_spellAll_18 : decode cX10_spellAll 18 = .ok (.aload_n 0, 1) := by decide +kernel
theorem dX10_spellAll_19 : decode cX10_spellAll 19 = .ok (.iload_n 3, 1) := by decide +kernel
theorem dX10_spellAll_20 : decode cX10_spellAll 20 = .ok (.invokevirtual 51, 3) := by decide +kernel
theorem dX10_spellAll_23 : decode cX10_spellAll 23 = .ok (.bipush 32, 2) := by decide +kernel
theorem dX10_spellAll_25 : decode cX10_spellAll 25 = .ok (.if_icmp .ne 9, 3) := by decide +kernel
theorem dX10_spellAll_28 : decode cX10_spellAll 28 = .ok (.iinc 2 1, 3) := by decide +kernel
theorem dX10_spellAll_31 : decode cX10_spellAll 31 = .ok (.goto 21, 3) := by decide +kernel
theorem dX10_spellAll_34 : decode cX10_spellAll 34 = .ok (.aload_n 1, 1) := by decide +kernel
theorem dX10_spellAll_35 : decode cX10_spellAll 35 = .ok (.iload_n 2, 1) := by decide +kernel
theorem dX10_spellAll_36 : decode cX10_spellAll 36 = .ok (.aload_n 1, 1) := by decide +kernel
theorem dX10_spellAll_37 : decode cX10_spellAll 37 = .ok (.iload_n 2, 1) := by decide +kernel
theorem dX10_spellAll_38 : decode cX10_spellAll 38 = .ok (.laload, 1) := by decide +kernel
theorem dX10_spellAll_39 : decode cX10_spellAll 39 = .ok (.iconst 5, 1) := by decide +kernel
theorem dX10_spellAll_40 : decode cX10_spellAll 40 = .ok (.lshl, 1) := by decide +kernel
theorem dX10_spellAll_41 : decode cX10_spellAll 41 = .ok (.aload_n 0, 1) := by decide +kernel
theorem dX10_spellAll_42 : decode cX10_spellAll 42 = .ok (.iload_n 3, 1) := by decide +kernel
theorem dX10_spellAll_43 : decode cX10_spellAll 43 = .ok (.invokevirtual 51, 3) := by decide +kernel
theorem dX10_spellAll_46 : decode cX10_spellAll 46 = .ok (.bipush 31, 2) := by decide +kernel
theorem dX10_spellAll_48 : decode cX10_spellAll 48 = .ok (.iand, 1) := by decide +kernel
theorem dX10_spellAll_49 : decode cX10_spellAll 49 = .ok (.i2l, 1) := by decide +kernel
theorem dX10_spellAll_50 : decode cX10_spellAll 50 = .ok (.lor, 1) := by decide +kernel
theorem dX10_spellAll_51 : decode cX10_spellAll 51 = .ok (.lastore, 1) := by decide +kernel
theorem dX10_spellAll_52 : decode cX10_spellAll 52 = .ok (.iinc 3 1, 3) := by decide +kernel
theorem dX10_spellAll_55 : decode cX10_spellAll 55 = .ok (.goto (-51), 3) := by decide +kernel
theorem dX10_spellAll_58 : decode cX10_spellAll 58 = .ok (.return_, 1) := by decide +kernel
theorem dX10_choice_0 : decode cX10_choice 0 = .ok (.iconst 0, 1) := by decide +kernel
theorem dX10_choice_1 : decode cX10_choice 1 = .ok (.istore_n 2, 1) := by decide +kernel
theorem dX10_choice_2 : decode cX10_choice 2 = .ok (.iload_n 2, 1) := by decide +kernel
theorem dX10_choice_3 : decode cX10_choice 3 = .ok (.aload_n 1, 1) := by decide +kernel
theorem dX10_choice_4 : decode cX10_choice 4 = .ok (.arraylength, 1) := by decide +kernel
theorem dX10_choice_5 : decode cX10_choice 5 = .ok (.if_icmp .ge 22, 3) := by decide +kernel
theorem dX10_choice_8 : decode cX10_choice 8 = .ok (.aload_n 1, 1) := by decide +kernel
theorem dX10_choice_9 : decode cX10_choice 9 = .ok (.iload_n 2, 1) := by decide +kernel
theorem dX10_choice_10 : decode cX10_choice 10 = .ok (.laload, 1) := by decide +kernel
theorem dX10_choice_11 : decode cX10_choice 11 = .ok (.aload_n 0, 1) := by decide +kernel
theorem dX10_choice_12 : decode cX10_choice 12 = .ok (.getfield 34, 3) := by decide +kernel
theorem dX10_choice_15 : decode cX10_choice 15 = .ok (.lcmp, 1) := by decide +kernel
theorem dX10_choice_16 : decode cX10_choice 16 = .ok (.ifCond .ne 5, 3) := by decide +kernel
theorem dX10_choice_19 : decode cX10_choice 19 = .ok (.iload_n 2, 1) := by decide +kernel
theorem dX10_choice_20 : decode cX10_choice 20 = .ok (.ireturn, 1) := by decide +kernel
theorem dX10_choice_21 : decode cX10_choice 21 = .ok (.iinc 2 1, 3) := by decide +kernel
theorem dX10_choice_24 : decode cX10_choice 24 = .ok (.goto (-22), 3) := by decide +kernel
theorem dX10_choice_27 : decode cX10_choice 27 = .ok (.iconst (-1), 1) := by decide +kernel
theorem dX10_choice_28 : decode cX10_choice 28 = .ok (.ireturn, 1) := by decide +kernel
