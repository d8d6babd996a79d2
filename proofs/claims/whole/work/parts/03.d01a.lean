theorem dX6_remember_9 : decode cX6_remember 9 = .ok (.aaload, 1) := by decide +kernel
theorem dX6_remember_10 : decode cX6_remember 10 = .ok (.invokevirtual 29, 3) := by decide +kernel
theorem dX6_remember_13 : decode cX6_remember 13 = .ok (.aload_n 0, 1) := by decide +kernel
theorem dX6_remember_14 : decode cX6_remember 14 = .ok (.aload_n 0, 1) := by decide +kernel
theorem dX6_remember_15 : decode cX6_remember 15 = .ok (.getfield 26, 3) := by decide +kernel
theorem dX6_remember_18 : decode cX6_remember 18 = .ok (.iconst 1, 1) := by decide +kernel
theorem dX6_remember_19 : decode cX6_remember 19 = .ok (.iadd, 1) := by decide +kernel
theorem dX6_remember_20 : decode cX6_remember 20 = .ok (.bipush 16, 2) := by decide +kernel
theorem dX6_remember_22 : decode cX6_remember 22 = .ok (.if_icmp .ge 12, 3) := by decide +kernel
theorem dX6_remember_25 : decode cX6_remember 25 = .ok (.aload_n 0, 1) := by decide +kernel
theorem dX6_remember_26 : decode cX6_remember 26 = .ok (.getfield 26, 3) := by decide +kernel
theorem dX6_remember_29 : decode cX6_remember 29 = .ok (.iconst 1, 1) := by decide +kernel
theorem dX6_remember_30 : decode cX6_remember 30 = .ok (.iadd, 1) := by decide +kernel
theorem dX6_remember_31 : decode cX6_remember 31 = .ok (.goto 4, 3) := by decide +kernel
theorem dX6_remember_34 : decode cX6_remember 34 = .ok (.iconst 0, 1) := by decide +kernel
theorem dX6_remember_35 : decode cX6_remember 35 = .ok (.putfield 26, 3) := by decide +kernel
theorem dX6_remember_38 : decode cX6_remember 38 = .ok (.aload_n 0, 1) := by decide +kernel
theorem dX6_remember_39 : decode cX6_remember 39 = .ok (.getfield 19, 3) := by decide +kernel
theorem dX6_remember_42 : decode cX6_remember 42 = .ok (.bipush 16, 2) := by decide +kernel
theorem dX6_remember_44 : decode cX6_remember 44 = .ok (.if_icmp .ge 13, 3) := by decide +kernel
theorem dX6_remember_47 : decode cX6_remember 47 = .ok (.aload_n 0, 1) := by decide +kernel
theorem dX6_remember_48 : decode cX6_remember 48 = .ok (.dup, 1) := by decide +kernel
theorem dX6_remember_49 : decode cX6_remember 49 = .ok (.getfield 19, 3) := by decide +kernel
theorem dX6_remember_52 : decode cX6_remember 52 = .ok (.iconst 1, 1) := by decide +kernel
theorem dX6_remember_53 : decode cX6_remember 53 = .ok (.iadd, 1) := by decide +kernel
theorem dX6_remember_54 : decode cX6_remember 54 = .ok (.putfield 19, 3) := by decide +kernel
theorem dX6_remember_57 : decode cX6_remember 57 = .ok (.return_, 1) := by decide +kernel
theorem dX6_takeBack_0 : decode cX6_takeBack 0 = .ok (.aload_n 0, 1) := by decide +kernel
theorem dX6_takeBack_1 : decode cX6_takeBack 1 = .ok (.aload_n 0, 1) := by decide +kernel
theorem dX6_takeBack_2 : decode cX6_takeBack 2 = .ok (.getfield 26, 3) := by decide +kernel
theorem dX6_takeBack_5 : decode cX6_takeBack 5 = .ok (.ifCond .le 12, 3) := by decide +kernel
theorem dX6_takeBack_8 : decode cX6_takeBack 8 = .ok (.aload_n 0, 1) := by decide +kernel
theorem dX6_takeBack_9 : decode cX6_takeBack 9 = .ok (.getfield 26, 3) := by decide +kernel
theorem dX6_takeBack_12 : decode cX6_takeBack 12 = .ok (.iconst 1, 1) := by decide +kernel
theorem dX6_takeBack_13 : decode cX6_takeBack 13 = .ok (.isub, 1) := by decide +kernel
theorem dX6_takeBack_14 : decode cX6_takeBack 14 = .ok (.goto 5, 3) := by decide +kernel
theorem dX6_takeBack_17 : decode cX6_takeBack 17 = .ok (.bipush 15, 2) := by decide +kernel
theorem dX6_takeBack_19 : decode cX6_takeBack 19 = .ok (.putfield 26, 3) := by decide +kernel
theorem dX6_takeBack_22 : decode cX6_takeBack 22 = .ok (.aload_n 1, 1) := by decide +kernel
theorem dX6_takeBack_23 : decode cX6_takeBack 23 = .ok (.aload_n 0, 1) := by decide +kernel
theorem dX6_takeBack_24 : decode cX6_takeBack 24 = .ok (.getfield 13, 3) := by decide +kernel
theorem dX6_takeBack_27 : decode cX6_takeBack 27 = .ok (.aload_n 0, 1) := by decide +kernel
theorem dX6_takeBack_28 : decode cX6_takeBack 28 = .ok (.getfield 26, 3) := by decide +kernel
theorem dX6_takeBack_31 : decode cX6_takeBack 31 = .ok (.aaload, 1) := by decide +kernel
theorem dX6_takeBack_32 : decode cX6_takeBack 32 = .ok (.invokevirtual 33, 3) := by decide +kernel
theorem dX6_takeBack_35 : decode cX6_takeBack 35 = .ok (.aload_n 0, 1) := by decide +kernel
theorem dX6_takeBack_36 : decode cX6_takeBack 36 = .ok (.dup, 1) := by decide +kernel
theorem dX6_takeBack_37 : decode cX6_takeBack 37 = .ok (.getfield 19, 3) := by decide +kernel
theorem dX6_takeBack_40 : decode cX6_takeBack 40 = .ok (.iconst 1, 1) := by decide +kernel
theorem dX6_takeBack_41 : decode cX6_takeBack 41 = .ok (.isub, 1) := by decide +kernel
theorem dX6_takeBack_42 : decode cX6_takeBack 42 = .ok (.putfield 19, 3) := by decide +kernel
theorem dX6_takeBack_45 : decode cX6_takeBack 45 = .ok (.return_, 1) := by decide +kernel
theorem dX6_hasRoomForImage_0 : decode cX6_hasRoomForImage 0 = .ok (.aload_n 0, 1) := by decide +kernel
theorem dX6_hasRoomForImage_1 : decode cX6_hasRoomForImage 1 = .ok (.getfield 23, 3) := by decide +kernel
theorem dX6_hasRoomForImage_4 : decode cX6_hasRoomForImage 4 = .ok (.iconst 3, 1) := by decide +kernel
theorem dX6_hasRoomForImage_5 : decode cX6_hasRoomForImage 5 = .ok (.if_icmp .ge 7, 3) := by decide +kernel
theorem dX6_hasRoomForImage_8 : decode cX6_hasRoomForImage 8 = .ok (.iconst 1, 1) := by decide +kernel
theorem dX6_hasRoomForImage_9 : decode cX6_hasRoomForImage 9 = .ok (.goto 4, 3) := by decide +kernel
theorem dX6_hasRoomForImage_12 : decode cX6_hasRoomForImage 12 = .ok (.iconst 0, 1) := by decide +kernel
theorem dX6_hasRoomForImage_13 : decode cX6_hasRoomForImage 13 = .ok (.ireturn, 1) := by decide +kernel
theorem dX6_keepImage_0 : decode cX6_keepImage 0 = .ok (.aload_n 0, 1) := by decide +kernel
theorem dX6_keepImage_1 : decode cX6_keepImage 1 = .ok (.getfield 23, 3) := by decide +kernel
theorem dX6_keepImage_4 : decode cX6_keepImage 4 = .ok (.istore_n 2, 1) := by decide +kernel
theorem dX6_keepImage_5 : decode cX6_keepImage 5 = .ok (.aload_n 1, 1) := by decide +kernel
theorem dX6_keepImage_6 : decode cX6_keepImage 6 = .ok (.aload_n 0, 1) := by decide +kernel
theorem dX6_keepImage_7 : decode cX6_keepImage 7 = .ok (.getfield 16, 3) := by decide +kernel
theorem dX6_keepImage_10 : decode cX6_keepImage 10 = .ok (.iload_n 2, 1) := by decide +kernel
theorem dX6_keepImage_11 : decode cX6_keepImage 11 = .ok (.aaload, 1) := by decide +kernel
theorem dX6_keepImage_12 : decode cX6_keepImage 12 = .ok (.invokevirtual 29, 3) := by decide +kernel
theorem dX6_keepImage_15 : decode cX6_keepImage 15 = .ok (.aload_n 0, 1) := by decide +kernel
theorem dX6_keepImage_16 : decode cX6_keepImage 16 = .ok (.dup, 1) := by decide +kernel
theorem dX6_keepImage_17 : decode cX6_keepImage 17 = .ok (.getfield 23, 3) := by decide +kernel
theorem dX6_keepImage_20 : decode cX6_keepImage 20 = .ok (.iconst 1, 1) := by decide +kernel
theorem dX6_keepImage_21 : decode cX6_keepImage 21 = .ok (.iadd, 1) := by decide +kernel
theorem dX6_keepImage_22 : decode cX6_keepImage 22 = .ok (.putfield 23, 3) := by decide +kernel
theorem dX6_keepImage_25 : decode cX6_keepImage 25 = .ok (.iload_n 2, 1) := by decide +kernel
theorem dX6_keepImage_26 : decode cX6_keepImage 26 = .ok (.ireturn, 1) := by decide +kernel
theorem dX6_returnTo_0 : decode cX6_returnTo 0 = .ok (.aload_n 2, 1) := by decide +kernel
theorem dX6_returnTo_1 : decode cX6_returnTo 1 = .ok (.aload_n 0, 1) := by decide +kernel
theorem dX6_returnTo_2 : decode cX6_returnTo 2 = .ok (.getfield 16, 3) := by decide +kernel
theorem dX6_returnTo_5 : decode cX6_returnTo 5 = .ok (.iload_n 1, 1) := by decide +kernel
theorem dX6_returnTo_6 : decode cX6_returnTo 6 = .ok (.aaload, 1) := by decide +kernel
theorem dX6_returnTo_7 : decode cX6_returnTo 7 = .ok (.invokevirtual 33, 3) := by decide +kernel
theorem dX6_returnTo_10 : decode cX6_returnTo 10 = .ok (.aload_n 0, 1) := by decide +kernel
theorem dX6_returnTo_11 : decode cX6_returnTo 11 = .ok (.iconst 0, 1) := by decide +kernel
theorem dX6_returnTo_12 : decode cX6_returnTo 12 = .ok (.putfield 19, 3) := by decide +kernel
theorem dX6_returnTo_15 : decode cX6_returnTo 15 = .ok (.return_, 1) := by decide +kernel
theorem dX7_init_0 : decode cX7_init 0 = .ok (.aload_n 0, 1) := by decide +kernel
theorem dX7_init_1 : decode cX7_init 1 = .ok (.invokespecial 3, 3) := by decide +kernel
theorem dX7_init_4 : decode cX7_init 4 = .ok (.aload_n 0, 1) := by decide +kernel
theorem dX7_init_5 : decode cX7_init 5 = .ok (.iconst 5, 1) := by decide +kernel
theorem dX7_init_6 : decode cX7_init 6 = .ok (.newarray .int, 2) := by decide +kernel
theorem dX7_init_8 : decode cX7_init 8 = .ok (.putfield 9, 3) := by decide +kernel
theorem dX7_init_11 : decode cX7_init 11 = .ok (.aload_n 0, 1) := by decide +kernel
theorem dX7_init_12 : decode cX7_init 12 = .ok (.iconst 5, 1) := by decide +kernel
theorem dX7_init_13 : decode cX7_init 13 = .ok (.newarray .int, 2) := by decide +kernel
theorem dX7_init_15 : decode cX7_init 15 = .ok (.putfield 15, 3) := by decide +kernel
theorem dX7_init_18 : decode cX7_init 18 = .ok (.aload_n 0, 1) := by decide +kernel
theorem dX7_init_19 : decode cX7_init 19 = .ok (.iconst 4, 1) := by decide +kernel
theorem dX7_init_20 : decode cX7_init 20 = .ok (.newarray .int, 2) := by decide +kernel
theorem dX7_init_22 : decode cX7_init 22 = .ok (.putfield 18, 3) := by decide +kernel
theorem dX7_init_25 : decode cX7_init 25 = .ok (.aload_n 0, 1) := by decide +kernel
theorem dX7_init_26 : decode cX7_init 26 = .ok (.iconst 4, 1) := by decide +kernel
theorem dX7_init_27 : decode cX7_init 27 = .ok (.newarray .int, 2) := by decide +kernel
theorem dX7_init_29 : decode cX7_init 29 = .ok (.putfield 21, 3) := by decide +kernel
theorem dX7_init_32 : decode cX7_init 32 = .ok (.aload_n 0, 1) := by decide +kernel
theorem dX7_init_33 : decode cX7_init 33 = .ok (.bipush 10, 2) := by decide +kernel
theorem dX7_init_35 : decode cX7_init 35 = .ok (.newarray .int, 2) := by decide +kernel
theorem dX7_init_37 : decode cX7_init 37 = .ok (.putfield 24, 3) := by decide +kernel
theorem dX7_init_40 : decode cX7_init 40 = .ok (.aload_n 0, 1) := by decide +kernel
theorem dX7_init_41 : decode cX7_init 41 = .ok (.bipush 10, 2) := by decide +kernel
theorem dX7_init_43 : decode cX7_init 43 = .ok (.newarray .int, 2) := by decide +kernel
theorem dX7_init_45 : decode cX7_init 45 = .ok (.putfield 27, 3) := by decide +kernel
theorem dX7_init_48 : decode cX7_init 48 = .ok (.aload_n 0, 1) := by decide +kernel
theorem dX7_init_49 : decode cX7_init 49 = .ok (.bipush 10, 2) := by decide +kernel
theorem dX7_init_51 : decode cX7_init 51 = .ok (.newarray .int, 2) := by decide +kernel
theorem dX7_init_53 : decode cX7_init 53 = .ok (.putfield 30, 3) := by decide +kernel
theorem dX7_init_56 : decode cX7_init 56 = .ok (.aload_n 0, 1) := by decide +kernel
theorem dX7_init_57 : decode cX7_init 57 = .ok (.iconst 3, 1) := by decide +kernel
theorem dX7_init_58 : decode cX7_init 58 = .ok (.newarray .int, 2) := by decide +kernel
theorem dX7_init_60 : decode cX7_init 60 = .ok (.putfield 33, 3) := by decide +kernel
theorem dX7_init_63 : decode cX7_init 63 = .ok (.aload_n 0, 1) := by decide +kernel
theorem dX7_init_64 : decode cX7_init 64 = .ok (.iconst 3, 1) := by decide +kernel
theorem dX7_init_65 : decode cX7_init 65 = .ok (.newarray .int, 2) := by decide +kernel
theorem dX7_init_67 : decode cX7_init 67 = .ok (.putfield 36, 3) := by decide +kernel
theorem dX7_init_70 : decode cX7_init 70 = .ok (.aload_n 0, 1) := by decide +kernel
theorem dX7_init_71 : decode cX7_init 71 = .ok (.iconst 4, 1) := by decide +kernel
theorem dX7_init_72 : decode cX7_init 72 = .ok (.newarray .int, 2) := by decide +kernel
theorem dX7_init_74 : decode cX7_init 74 = .ok (.putfield 39, 3) := by decide +kernel
theorem dX7_init_77 : decode cX7_init 77 = .ok (.aload_n 0, 1) := by decide +kernel
theorem dX7_init_78 : decode cX7_init 78 = .ok (.iconst 4, 1) := by decide +kernel
theorem dX7_init_79 : decode cX7_init 79 = .ok (.newarray .int, 2) := by decide +kernel
theorem dX7_init_81 : decode cX7_init 81 = .ok (.putfield 42, 3) := by decide +kernel
theorem dX7_init_84 : decode cX7_init 84 = .ok (.aload_n 0, 1) := by decide +kernel
theorem dX7_init_85 : decode cX7_init 85 = .ok (.iconst 4, 1) := by decide +kernel
theorem dX7_init_86 : decode cX7_init 86 = .ok (.newarray .int, 2) := by decide +kernel
theorem dX7_init_88 : decode cX7_init 88 = .ok (.putfield 45, 3) := by decide +kernel
theorem dX7_init_91 : decode cX7_init 91 = .ok (.return_, 1) := by decide +kernel
theorem dX7_empty_0 : decode cX7_empty 0 = .ok (.aload_n 0, 1) := by decide +kernel
theorem dX7_empty_1 : decode cX7_empty 1 = .ok (.iconst 0, 1) := by decide +kernel
theorem dX7_empty_2 : decode cX7_empty 2 = .ok (.putfield 48, 3) := by decide +kernel
theorem dX7_empty_5 : decode cX7_empty 5 = .ok (.aload_n 0, 1) := by decide +kernel
theorem dX7_empty_6 : decode cX7_empty 6 = .ok (.iconst 0, 1) := by decide +kernel
theorem dX7_empty_7 : decode cX7_empty 7 = .ok (.putfield 52, 3) := by decide +kernel
theorem dX7_empty_10 : decode cX7_empty 10 = .ok (.aload_n 0, 1) := by decide +kernel
theorem dX7_empty_11 : decode cX7_empty 11 = .ok (.iconst 0, 1) := by decide +kernel
theorem dX7_empty_12 : decode cX7_empty 12 = .ok (.putfield 55, 3) := by decide +kernel
theorem dX7_empty_15 : decode cX7_empty 15 = .ok (.aload_n 0, 1) := by decide +kernel
theorem dX7_empty_16 : decode cX7_empty 16 = .ok (.iconst 0, 1) := by decide +kernel
theorem dX7_empty_17 : decode cX7_empty 17 = .ok (.putfield 58, 3) := by decide +kernel
theorem dX7_empty_20 : decode cX7_empty 20 = .ok (.aload_n 0, 1) := by decide +kernel
theorem dX7_empty_21 : decode cX7_empty 21 = .ok (.iconst 0, 1) := by decide +kernel
theorem dX7_empty_22 : decode cX7_empty 22 = .ok (.putfield 61, 3) := by decide +kernel
theorem dX7_empty_25 : decode cX7_empty 25 = .ok (.aload_n 0, 1) := by decide +kernel
theorem dX7_empty_26 : decode cX7_empty 26 = .ok (.iconst 0, 1) := by decide +kernel
theorem dX7_empty_27 : decode cX7_empty 27 = .ok (.putfield 64, 3) := by decide +kernel
theorem dX7_empty_30 : decode cX7_empty 30 = .ok (.aload_n 0, 1) := by decide +kernel
theorem dX7_empty_31 : decode cX7_empty 31 = .ok (.iconst 0, 1) := by decide +kernel
theorem dX7_empty_32 : decode cX7_empty 32 = .ok (.putfield 67, 3) := by decide +kernel
theorem dX7_empty_35 : decode cX7_empty 35 = .ok (.aload_n 0, 1) := by decide +kernel
theorem dX7_empty_36 : decode cX7_empty 36 = .ok (.iconst 0, 1) := by decide +kernel
theorem dX7_empty_37 : decode cX7_empty 37 = .ok (.putfield 70, 3) := by decide +kernel
theorem dX7_empty_40 : decode cX7_empty 40 = .ok (.return_, 1) := by decide +kernel
theorem dX7_markSets_0 : decode cX7_markSets 0 = .ok (.iconst 1, 1) := by decide +kernel
theorem dX7_markSets_1 : decode cX7_markSets 1 = .ok (.aload_n 0, 1) := by decide +kernel
theorem dX7_markSets_2 : decode cX7_markSets 2 = .ok (.getfield 52, 3) := by decide +kernel
theorem dX7_markSets_5 : decode cX7_markSets 5 = .ok (.ishl, 1) := by decide +kernel
theorem dX7_markSets_6 : decode cX7_markSets 6 = .ok (.ireturn, 1) := by decide +kernel
theorem dX7_rulesOf_0 : decode cX7_rulesOf 0 = .ok (.iconst 0, 1) := by decide +kernel
theorem dX7_rulesOf_1 : decode cX7_rulesOf 1 = .ok (.istore_n 2, 1) := by decide +kernel
theorem dX7_rulesOf_2 : decode cX7_rulesOf 2 = .ok (.iconst 0, 1) := by decide +kernel
theorem dX7_rulesOf_3 : decode cX7_rulesOf 3 = .ok (.istore_n 3, 1) := by decide +kernel
theorem dX7_rulesOf_4 : decode cX7_rulesOf 4 = .ok (.iload_n 3, 1) := by decide +kernel
theorem dX7_rulesOf_5 : decode cX7_rulesOf 5 = .ok (.aload_n 0, 1) := by decide +kernel
theorem dX7_rulesOf_6 : decode cX7_rulesOf 6 = .ok (.getfield 61, 3) := by decide +kernel
theorem dX7_rulesOf_9 : decode cX7_rulesOf 9 = .ok (.if_icmp .ge 22, 3) := by decide +kernel
theorem dX7_rulesOf_12 : decode cX7_rulesOf 12 = .ok (.aload_n 0, 1) := by decide +kernel
theorem dX7_rulesOf_13 : decode cX7_rulesOf 13 = .ok (.getfield 24, 3) := by decide +kernel
theorem dX7_rulesOf_16 : decode cX7_rulesOf 16 = .ok (.iload_n 3, 1) := by decide +kernel
theorem dX7_rulesOf_17 : decode cX7_rulesOf 17 = .ok (.iaload, 1) := by decide +kernel
theorem dX7_rulesOf_18 : decode cX7_rulesOf 18 = .ok (.iload_n 1, 1) := by decide +kernel
theorem dX7_rulesOf_19 : decode cX7_rulesOf 19 = .ok (.if_icmp .ne 6, 3) := by decide +kernel
theorem dX7_rulesOf_22 : decode cX7_rulesOf 22 = .ok (.iinc 2 1, 3) := by decide +kernel
theorem dX7_rulesOf_25 : decode cX7_rulesOf 25 = .ok (.iinc 3 1, 3) := by decide +kernel
theorem dX7_rulesOf_28 : decode cX7_rulesOf 28 = .ok (.goto (-24), 3) := by decide +kernel
theorem dX7_rulesOf_31 : decode cX7_rulesOf 31 = .ok (.iload_n 2, 1) := by decide +kernel
theorem dX7_rulesOf_32 : decode cX7_rulesOf 32 = .ok (.ireturn, 1) := by decide +kernel
theorem dX8_init_0 : decode cX8_init 0 = .ok (.aload_n 0, 1) := by decide +kernel
theorem dX8_init_1 : decode cX8_init 1 = .ok (.invokespecial 3, 3) := by decide +kernel
theorem dX8_init_4 : decode cX8_init 4 = .ok (.aload_n 0, 1) := by decide +kernel
theorem dX8_init_5 : decode cX8_init 5 = .ok (.bipush 9, 2) := by decide +kernel
theorem dX8_init_7 : decode cX8_init 7 = .ok (.newarray .long, 2) := by decide +kernel
theorem dX8_init_9 : decode cX8_init 9 = .ok (.putfield 9, 3) := by decide +kernel
theorem dX8_init_12 : decode cX8_init 12 = .ok (.aload_n 0, 1) := by decide +kernel
theorem dX8_init_13 : decode cX8_init 13 = .ok (.iconst 5, 1) := by decide +kernel
theorem dX8_init_14 : decode cX8_init 14 = .ok (.newarray .long, 2) := by decide +kernel
theorem dX8_init_16 : decode cX8_init 16 = .ok (.putfield 15, 3) := by decide +kernel
theorem dX8_init_19 : decode cX8_init 19 = .ok (.aload_n 0, 1) := by decide +kernel
theorem dX8_init_20 : decode cX8_init 20 = .ok (.iconst 3, 1) := by decide +kernel
theorem dX8_init_21 : decode cX8_init 21 = .ok (.newarray .long, 2) := by decide +kernel
theorem dX8_init_23 : decode cX8_init 23 = .ok (.putfield 18, 3) := by decide +kernel
theorem dX8_init_26 : decode cX8_init 26 = .ok (.aload_n 0, 1) := by decide +kernel
theorem dX8_init_27 : decode cX8_init 27 = .ok (.iconst 4, 1) := by decide +kernel
theorem dX8_init_28 : decode cX8_init 28 = .ok (.newarray .long, 2) := by decide +kernel
theorem dX8_init_30 : decode cX8_init 30 = .ok (.putfield 21, 3) := by decide +kernel
theorem dX8_init_33 : decode cX8_init 33 = .ok (.aload_n 0, 1) := by decide +kernel
theorem dX8_init_34 : decode cX8_init 34 = .ok (.new 24, 3) := by decide +kernel
theorem dX8_init_37 : decode cX8_init 37 = .ok (.dup, 1) := by decide +kernel
theorem dX8_init_38 : decode cX8_init 38 = .ok (.invokespecial 26, 3) := by decide +kernel
theorem dX8_init_41 : decode cX8_init 41 = .ok (.putfield 27, 3) := by decide +kernel
theorem dX8_init_44 : decode cX8_init 44 = .ok (.aload_n 0, 1) := by decide +kernel
theorem dX8_init_45 : decode cX8_init 45 = .ok (.bipush 17, 2) := by decide +kernel
theorem dX8_init_47 : decode cX8_init 47 = .ok (.newarray .long, 2) := by decide +kernel
theorem dX8_init_49 : decode cX8_init 49 = .ok (.putfield 31, 3) := by decide +kernel
theorem dX8_init_52 : decode cX8_init 52 = .ok (.aload_n 0, 1) := by decide +kernel
theorem dX8_init_53 : decode cX8_init 53 = .ok (.bipush 17, 2) := by decide +kernel
theorem dX8_init_55 : decode cX8_init 55 = .ok (.newarray .int, 2) := by decide +kernel
theorem dX8_init_57 : decode cX8_init 57 = .ok (.putfield 34, 3) := by decide +kernel
theorem dX8_init_60 : decode cX8_init 60 = .ok (.aload_n 0, 1) := by decide +kernel
theorem dX8_init_61 : decode cX8_init 61 = .ok (.bipush 17, 2) := by decide +kernel
theorem dX8_init_63 : decode cX8_init 63 = .ok (.newarray .int, 2) := by decide +kernel
theorem dX8_init_65 : decode cX8_init 65 = .ok (.putfield 38, 3) := by decide +kernel
theorem dX8_init_68 : decode cX8_init 68 = .ok (.aload_n 0, 1) := by decide +kernel
theorem dX8_init_69 : decode cX8_init 69 = .ok (.new 41, 3) := by decide +kernel
theorem dX8_init_72 : decode cX8_init 72 = .ok (.dup, 1) := by decide +kernel
theorem dX8_init_73 : decode cX8_init 73 = .ok (.invokespecial 43, 3) := by decide +kernel
theorem dX8_init_76 : decode cX8_init 76 = .ok (.putfield 44, 3) := by decide +kernel
theorem dX8_init_79 : decode cX8_init 79 = .ok (.aload_n 0, 1) := by decide +kernel
theorem dX8_init_80 : decode cX8_init 80 = .ok (.aload_n 1, 1) := by decide +kernel
theorem dX8_init_81 : decode cX8_init 81 = .ok (.putfield 48, 3) := by decide +kernel
theorem dX8_init_84 : decode cX8_init 84 = .ok (.ldc 52, 2) := by decide +kernel
theorem dX8_init_86 : decode cX8_init 86 = .ok (.aload_n 0, 1) := by decide +kernel
theorem dX8_init_87 : decode cX8_init 87 = .ok (.getfield 9, 3) := by decide +kernel
theorem dX8_init_90 : decode cX8_init 90 = .ok (.invokestatic 54, 3) := by decide +kernel
theorem dX8_init_93 : decode cX8_init 93 = .ok (.ldc 60, 2) := by decide +kernel
theorem dX8_init_95 : decode cX8_init 95 = .ok (.aload_n 0, 1) := by decide +kernel
theorem dX8_init_96 : decode cX8_init 96 = .ok (.getfield 15, 3) := by decide +kernel
theorem dX8_init_99 : decode cX8_init 99 = .ok (.invokestatic 54, 3) := by decide +kernel
theorem dX8_init_102 : decode cX8_init 102 = .ok (.ldc 62, 2) := by decide +kernel
theorem dX8_init_104 : decode cX8_init 104 = .ok (.aload_n 0, 1) := by decide +kernel
theorem dX8_init_105 : decode cX8_init 105 = .ok (.getfield 18, 3) := by decide +kernel
theorem dX8_init_108 : decode cX8_init 108 = .ok (.invokestatic 54, 3) := by decide +kernel
theorem dX8_init_111 : decode cX8_init 111 = .ok (.ldc 64, 2) := by decide +kernel
theorem dX8_init_113 : decode cX8_init 113 = .ok (.aload_n 0, 1) := by decide +kernel
theorem dX8_init_114 : decode cX8_init 114 = .ok (.getfield 21, 3) := by decide +kernel
theorem dX8_init_117 : decode cX8_init 117 = .ok (.invokestatic 54, 3) := by decide +kernel
theorem dX8_init_120 : decode cX8_init 120 = .ok (.return_, 1) := by decide +kernel
theorem dX8_readText_0 : decode cX8_readText 0 = .ok (.aload_n 0, 1) := by decide +kernel
theorem dX8_readText_1 : decode cX8_readText 1 = .ok (.getfield 44, 3) := by decide +kernel
theorem dX8_readText_4 : decode cX8_readText 4 = .ok (.invokevirtual 66, 3) := by decide +kernel
theorem dX8_readText_7 : decode cX8_readText 7 = .ok (.aload_n 0, 1) := by decide +kernel
theorem dX8_readText_8 : decode cX8_readText 8 = .ok (.getfield 27, 3) := by decide +kernel
theorem dX8_readText_11 : decode cX8_readText 11 = .ok (.invokevirtual 69, 3) := by decide +kernel
theorem dX8_readText_14 : decode cX8_readText 14 = .ok (.aload_n 0, 1) := by decide +kernel
theorem dX8_readText_15 : decode cX8_readText 15 = .ok (.iconst 0, 1) := by decide +kernel
theorem dX8_readText_16 : decode cX8_readText 16 = .ok (.putfield 70, 3) := by decide +kernel
theorem dX8_readText_19 : decode cX8_readText 19 = .ok (.aload_n 0, 1) := by decide +kernel
theorem dX8_readText_20 : decode cX8_readText 20 = .ok (.iconst 0, 1) := by decide +kernel
theorem dX8_readText_21 : decode cX8_readText 21 = .ok (.putfield 74, 3) := by decide +kernel
theorem dX8_readText_24 : decode cX8_readText 24 = .ok (.aload_n 0, 1) := by decide +kernel
theorem dX8_readText_25 : decode cX8_readText 25 = .ok (.iconst 0, 1) := by decide +kernel
theorem dX8_readText_26 : decode cX8_readText 26 = .ok (.putfield 78, 3) := by decide +kernel
theorem dX8_readText_29 : decode cX8_readText 29 = .ok (.aload_n 0, 1) := by decide +kernel
theorem dX8_readText_30 : decode cX8_readText 30 = .ok (.iconst (-1), 1) := by decide +kernel
theorem dX8_readText_31 : decode cX8_readText 31 = .ok (.putfield 81, 3) := by decide +kernel
theorem dX8_readText_34 : decode cX8_readText 34 = .ok (.aload_n 0, 1) := by decide +kernel
theorem dX8_readText_35 : decode cX8_readText 35 = .ok (.getfield 48, 3) := by decide +kernel
theorem dX8_readText_38 : decode cX8_readText 38 = .ok (.iload_n 1, 1) := by decide +kernel
theorem dX8_readText_39 : decode cX8_readText 39 = .ok (.invokevirtual 84, 3) := by decide +kernel
theorem dX8_readText_42 : decode cX8_readText 42 = .ok (.iconst 0, 1) := by decide +kernel
theorem dX8_readText_43 : decode cX8_readText 43 = .ok (.istore_n 2, 1) := by decide +kernel
theorem dX8_readText_44 : decode cX8_readText 44 = .ok (.iload_n 2, 1) := by decide +kernel
theorem dX8_readText_45 : decode cX8_readText 45 = .ok (.sipush 900, 3) := by decide +kernel
theorem dX8_readText_48 : decode cX8_readText 48 = .ok (.if_icmp .gt 50, 3) := by decide +kernel
theorem dX8_readText_51 : decode cX8_readText 51 = .ok (.aload_n 0, 1) := by decide +kernel
theorem dX8_readText_52 : decode cX8_readText 52 = .ok (.invokevirtual 88, 3) := by decide +kernel
theorem dX8_readText_55 : decode cX8_readText 55 = .ok (.ifCond .eq 43, 3) := by decide +kernel
theorem dX8_readText_58 : decode cX8_readText 58 = .ok (.aload_n 0, 1) := by decide +kernel
theorem dX8_readText_59 : decode cX8_readText 59 = .ok (.getfield 48, 3) := by decide +kernel
theorem dX8_readText_62 : decode cX8_readText 62 = .ok (.getfield 92, 3) := by decide +kernel
theorem dX8_readText_65 : decode cX8_readText 65 = .ok (.ifCond .eq 33, 3) := by decide +kernel
theorem dX8_readText_68 : decode cX8_readText 68 = .ok (.aload_n 0, 1) := by decide +kernel
theorem dX8_readText_69 : decode cX8_readText 69 = .ok (.getfield 48, 3) := by decide +kernel
theorem dX8_readText_72 : decode cX8_readText 72 = .ok (.getfield 92, 3) := by decide +kernel
theorem dX8_readText_75 : decode cX8_readText 75 = .ok (.iconst 3, 1) := by decide +kernel
theorem dX8_readText_76 : decode cX8_readText 76 = .ok (.if_icmp .eq 9, 3) := by decide +kernel
theorem dX8_readText_79 : decode cX8_readText 79 = .ok (.aload_n 0, 1) := by decide +kernel
theorem dX8_readText_80 : decode cX8_readText 80 = .ok (.iconst 1, 1) := by decide +kernel
theorem dX8_readText_81 : decode cX8_readText 81 = .ok (.invokevirtual 95, 3) := by decide +kernel
theorem dX8_readText_84 : decode cX8_readText 84 = .ok (.ireturn, 1) := by decide +kernel
theorem dX8_readText_85 : decode cX8_readText 85 = .ok (.aload_n 0, 1) := by decide +kernel
theorem dX8_readText_86 : decode cX8_readText 86 = .ok (.getfield 48, 3) := by decide +kernel
theorem dX8_readText_89 : decode cX8_readText 89 = .ok (.invokevirtual 99, 3) := by decide +kernel
theorem dX8_readText_92 : decode cX8_readText 92 = .ok (.iinc 2 1, 3) := by decide +kernel
theorem dX8_readText_95 : decode cX8_readText 95 = .ok (.goto (-51), 3) := by decide +kernel
theorem dX8_readText_98 : decode cX8_readText 98 = .ok (.aload_n 0, 1) := by decide +kernel
theorem dX8_readText_99 : decode cX8_readText 99 = .ok (.getfield 78, 3) := by decide +kernel
theorem dX8_readText_102 : decode cX8_readText 102 = .ok (.ifCond .ne 20, 3) := by decide +kernel
theorem dX8_readText_105 : decode cX8_readText 105 = .ok (.aload_n 0, 1) := by decide +kernel
theorem dX8_readText_106 : decode cX8_readText 106 = .ok (.getfield 44, 3) := by decide +kernel
theorem dX8_readText_109 : decode cX8_readText 109 = .ok (.getfield 102, 3) := by decide +kernel
theorem dX8_readText_112 : decode cX8_readText 112 = .ok (.ifCond .ne 10, 3) := by decide +kernel
theorem dX8_readText_115 : decode cX8_readText 115 = .ok (.aload_n 0, 1) := by decide +kernel
theorem dX8_readText_116 : decode cX8_readText 116 = .ok (.bipush 6, 2) := by decide +kernel
theorem dX8_readText_118 : decode cX8_readText 118 = .ok (.invokevirtual 95, 3) := by decide +kernel
theorem dX8_readText_121 : decode cX8_readText 121 = .ok (.ireturn, 1) := by decide +kernel
theorem dX8_readText_122 : decode cX8_readText 122 = .ok (.aload_n 0, 1) := by decide +kernel
theorem dX8_readText_123 : decode cX8_readText 123 = .ok (.getfield 78, 3) := by decide +kernel
theorem dX8_readText_126 : decode cX8_readText 126 = .ok (.ifCond .ne 7, 3) := by decide +kernel
theorem dX8_readText_129 : decode cX8_readText 129 = .ok (.iconst 1, 1) := by decide +kernel
theorem dX8_readText_130 : decode cX8_readText 130 = .ok (.goto 4, 3) := by decide +kernel
theorem dX8_readText_133 : decode cX8_readText 133 = .ok (.iconst 0, 1) := by decide +kernel
theorem dX8_readText_134 : decode cX8_readText 134 = .ok (.ireturn, 1) := by decide +kernel
theorem dX8_readLine_0 : decode cX8_readLine 0 = .ok (.aload_n 0, 1) := by decide +kernel
theorem dX8_readLine_1 : decode cX8_readLine 1 = .ok (.getfield 48, 3) := by decide +kernel
theorem dX8_readLine_4 : decode cX8_readLine 4 = .ok (.aload_n 0, 1) := by decide +kernel
theorem dX8_readLine_5 : decode cX8_readLine 5 = .ok (.getfield 9, 3) := by decide +kernel
theorem dX8_readLine_8 : decode cX8_readLine 8 = .ok (.invokevirtual 105, 3) := by decide +kernel
theorem dX8_readLine_11 : decode cX8_readLine 11 = .ok (.istore_n 1, 1) := by decide +kernel
theorem dX8_readLine_12 : decode cX8_readLine 12 = .ok (.iload_n 1, 1) := by decide +kernel
theorem dX8_readLine_13 : decode cX8_readLine 13 = .ok (.ifCond .lt 9, 3) := by decide +kernel
theorem dX8_readLine_16 : decode cX8_readLine 16 = .ok (.iload_n 1, 1) := by decide +kernel
theorem dX8_readLine_17 : decode cX8_readLine 17 = .ok (.bipush 7, 2) := by decide +kernel
theorem dX8_readLine_19 : decode cX8_readLine 19 = .ok (.if_icmp .le 9, 3) := by decide +kernel
theorem dX8_readLine_22 : decode cX8_readLine 22 = .ok (.aload_n 0, 1) := by decide +kernel
theorem dX8_readLine_23 : decode cX8_readLine 23 = .ok (.iconst 1, 1) := by decide +kernel
theorem dX8_readLine_24 : decode cX8_readLine 24 = .ok (.invokevirtual 95, 3) := by decide +kernel
theorem dX8_readLine_27 : decode cX8_readLine 27 = .ok (.ireturn, 1) := by decide +kernel
theorem dX8_readLine_28 : decode cX8_readLine 28 = .ok (.iload_n 1, 1) := by decide +kernel
theorem dX8_readLine_29 : decode cX8_readLine 29 = .ok (.ifCond .ne 16, 3) := by decide +kernel
theorem dX8_readLine_32 : decode cX8_readLine 32 = .ok (.aload_n 0, 1) := by decide +kernel
theorem dX8_readLine_33 : decode cX8_readLine 33 = .ok (.getfield 74, 3) := by decide +kernel
theorem dX8_readLine_36 : decode cX8_readLine 36 = .ok (.ifCond .eq 9, 3) := by decide +kernel
theorem dX8_readLine_39 : decode cX8_readLine 39 = .ok (.aload_n 0, 1) := by decide +kernel
theorem dX8_readLine_40 : decode cX8_readLine 40 = .ok (.iconst 3, 1) := by decide +kernel
theorem dX8_readLine_41 : decode cX8_readLine 41 = .ok (.invokevirtual 95, 3) := by decide +kernel
theorem dX8_readLine_44 : decode cX8_readLine 44 = .ok (.ireturn, 1) := by decide +kernel
theorem dX8_readLine_45 : decode cX8_readLine 45 = .ok (.iload_n 1, 1) := by decide +kernel
theorem dX8_readLine_46 : decode cX8_readLine 46 = .ok (.ifCond .eq 17, 3) := by decide +kernel
theorem dX8_readLine_49 : decode cX8_readLine 49 = .ok (.aload_n 0, 1) := by decide +kernel
theorem dX8_readLine_50 : decode cX8_readLine 50 = .ok (.getfield 74, 3) := by decide +kernel
theorem dX8_readLine_53 : decode cX8_readLine 53 = .ok (.ifCond .ne 10, 3) := by decide +kernel
theorem dX8_readLine_56 : decode cX8_readLine 56 = .ok (.aload_n 0, 1) := by decide +kernel
theorem dX8_readLine_57 : decode cX8_readLine 57 = .ok (.bipush 6, 2) := by decide +kernel
theorem dX8_readLine_59 : decode cX8_readLine 59 = .ok (.invokevirtual 95, 3) := by decide +kernel
theorem dX8_readLine_62 : decode cX8_readLine 62 = .ok (.ireturn, 1) := by decide +kernel
theorem dX8_readLine_63 : decode cX8_readLine 63 = .ok (.aload_n 0, 1) := by decide +kernel
theorem dX8_readLine_64 : decode cX8_readLine 64 = .ok (.iload_n 1, 1) := by decide +kernel
theorem dX8_readLine_65 : decode cX8_readLine 65 = .ok (.invokevirtual 109, 3) := by decide +kernel
theorem dX8_readLine_68 : decode cX8_readLine 68 = .ok (.ifCond .eq 9, 3) := by decide +kernel
theorem dX8_readLine_71 : decode cX8_readLine 71 = .ok (.aload_n 0, 1) := by decide +kernel
theorem dX8_readLine_72 : decode cX8_readLine 72 = .ok (.iconst 5, 1) := by decide +kernel
theorem dX8_readLine_73 : decode cX8_readLine 73 = .ok (.invokevirtual 95, 3) := by decide +kernel
theorem dX8_readLine_76 : decode cX8_readLine 76 = .ok (.ireturn, 1) := by decide +kernel
theorem dX8_readLine_77 : decode cX8_readLine 77 = .ok (.aload_n 0, 1) := by decide +kernel
theorem dX8_readLine_78 : decode cX8_readLine 78 = .ok (.getfield 48, 3) := by decide +kernel
theorem dX8_readLine_81 : decode cX8_readLine 81 = .ok (.invokevirtual 99, 3) := by decide +kernel
theorem dX8_readLine_84 : decode cX8_readLine 84 = .ok (.iload_n 1, 1) := by decide +kernel
theorem dX8_readLine_85 : decode cX8_readLine 85 = .ok (.tableswitch 78 0 6 #[43, 48, 53, 58, 63, 68, 73], 43) := by decide +kernel
theorem dX8_readLine_128 : decode cX8_readLine 128 = .ok (.aload_n 0, 1) := by decide +kernel
theorem dX8_readLine_129 : decode cX8_readLine 129 = .ok (.invokevirtual 112, 3) := by decide +kernel
theorem dX8_readLine_132 : decode cX8_readLine 132 = .ok (.ireturn, 1) := by decide +kernel
theorem dX8_readLine_133 : decode cX8_readLine 133 = .ok (.aload_n 0, 1) := by decide +kernel
theorem dX8_readLine_134 : decode cX8_readLine 134 = .ok (.invokevirtual 115, 3) := by decide +kernel
theorem dX8_readLine_137 : decode cX8_readLine 137 = .ok (.ireturn, 1) := by decide +kernel
theorem dX8_readLine_138 : decode cX8_readLine 138 = .ok (.aload_n 0, 1) := by decide +kernel
theorem dX8_readLine_139 : decode cX8_readLine 139 = .ok (.invokevirtual 118, 3) := by decide +kernel
theorem dX8_readLine_142 : decode cX8_readLine 142 = .ok (.ireturn, 1) := by decide +kernel
theorem dX8_readLine_143 : decode cX8_readLine 143 = .ok (.aload_n 0, 1) := by decide +kernel
theorem dX8_readLine_144 : decode cX8_readLine 144 = .ok (.invokevirtual 121, 3) := by decide +kernel
theorem dX8_readLine_147 : decode cX8_readLine 147 = .ok (.ireturn, 1) := by decide +kernel
theorem dX8_readLine_148 : decode cX8_readLine 148 = .ok (.aload_n 0, 1) := by decide +kernel
theorem dX8_readLine_149 : decode cX8_readLine 149 = .ok (.invokevirtual 124, 3) := by decide +kernel
theorem dX8_readLine_152 : decode cX8_readLine 152 = .ok (.ireturn, 1) := by decide +kernel
theorem dX8_readLine_153 : decode cX8_readLine 153 = .ok (.aload_n 0, 1) := by decide +kernel
theorem dX8_readLine_154 : decode cX8_readLine 154 = .ok (.invokevirtual 127, 3) := by decide +kernel
theorem dX8_readLine_157 : decode cX8_readLine 157 = .ok (.ireturn, 1) := by decide +kernel
theorem dX8_readLine_158 : decode cX8_readLine 158 = .ok (.aload_n 0, 1) := by decide +kernel
theorem dX8_readLine_159 : decode cX8_readLine 159 = .ok (.invokevirtual 130, 3) := by decide +kernel
theorem dX8_readLine_162 : decode cX8_readLine 162 = .ok (.ireturn, 1) := by decide +kernel
theorem dX8_readLine_163 : decode cX8_readLine 163 = .ok (.aload_n 0, 1) := by decide +kernel
theorem dX8_readLine_164 : decode cX8_readLine 164 = .ok (.invokevirtual 133, 3) := by decide +kernel
theorem dX8_readLine_167 : decode cX8_readLine 167 = .ok (.ireturn, 1) := by decide +kernel
theorem dX8_isFull_0 : decode cX8_isFull 0 = .ok (.iload_n 1, 1) := by decide +kernel
theorem dX8_isFull_1 : decode cX8_isFull 1 = .ok (.tableswitch 146 1 7 #[43, 60, 77, 94, 112, 146, 129], 43) := by decide +kernel
theorem dX8_isFull_44 : decode cX8_isFull 44 = .ok (.aload_n 0, 1) := by decide +kernel
theorem dX8_isFull_45 : decode cX8_isFull 45 = .ok (.getfield 44, 3) := by decide +kernel
theorem dX8_isFull_48 : decode cX8_isFull 48 = .ok (.getfield 136, 3) := by decide +kernel
theorem dX8_isFull_51 : decode cX8_isFull 51 = .ok (.iconst 5, 1) := by decide +kernel
theorem dX8_isFull_52 : decode cX8_isFull 52 = .ok (.if_icmp .lt 7, 3) := by decide +kernel
theorem dX8_isFull_55 : decode cX8_isFull 55 = .ok (.iconst 1, 1) := by decide +kernel
theorem dX8_isFull_56 : decode cX8_isFull 56 = .ok (.goto 4, 3) := by decide +kernel
theorem dX8_isFull_59 : decode cX8_isFull 59 = .ok (.iconst 0, 1) := by decide +kernel
theorem dX8_isFull_60 : decode cX8_isFull 60 = .ok (.ireturn, 1) := by decide +kernel
theorem dX8_isFull_61 : decode cX8_isFull 61 = .ok (.aload_n 0, 1) := by decide +kernel
theorem dX8_isFull_62 : decode cX8_isFull 62 = .ok (.getfield 44, 3) := by decide +kernel
theorem dX8_isFull_65 : decode cX8_isFull 65 = .ok (.getfield 102, 3) := by decide +kernel
theorem dX8_isFull_68 : decode cX8_isFull 68 = .ok (.iconst 5, 1) := by decide +kernel
theorem dX8_isFull_69 : decode cX8_isFull 69 = .ok (.if_icmp .lt 7, 3) := by decide +kernel
theorem dX8_isFull_72 : decode cX8_isFull 72 = .ok (.iconst 1, 1) := by decide +kernel
theorem dX8_isFull_73 : decode cX8_isFull 73 = .ok (.goto 4, 3) := by decide +kernel
theorem dX8_isFull_76 : decode cX8_isFull 76 = .ok (.iconst 0, 1) := by decide +kernel
theorem dX8_isFull_77 : decode cX8_isFull 77 = .ok (.ireturn, 1) := by decide +kernel
theorem dX8_isFull_78 : decode cX8_isFull 78 = .ok (.aload_n 0, 1) := by decide +kernel
theorem dX8_isFull_79 : decode cX8_isFull 79 = .ok (.getfield 44, 3) := by decide +kernel
theorem dX8_isFull_82 : decode cX8_isFull 82 = .ok (.getfield 139, 3) := by decide +kernel
theorem dX8_isFull_85 : decode cX8_isFull 85 = .ok (.iconst 4, 1) := by decide +kernel
theorem dX8_isFull_86 : decode cX8_isFull 86 = .ok (.if_icmp .lt 7, 3) := by decide +kernel
theorem dX8_isFull_89 : decode cX8_isFull 89 = .ok (.iconst 1, 1) := by decide +kernel
theorem dX8_isFull_90 : decode cX8_isFull 90 = .ok (.goto 4, 3) := by decide +kernel
theorem dX8_isFull_93 : decode cX8_isFull 93 = .ok (.iconst 0, 1) := by decide +kernel
theorem dX8_isFull_94 : decode cX8_isFull 94 = .ok (.ireturn, 1) := by decide +kernel
theorem dX8_isFull_95 : decode cX8_isFull 95 = .ok (.aload_n 0, 1) := by decide +kernel
theorem dX8_isFull_96 : decode cX8_isFull 96 = .ok (.getfield 44, 3) := by decide +kernel
theorem dX8_isFull_99 : decode cX8_isFull 99 = .ok (.getfield 142, 3) := by decide +kernel
theorem dX8_isFull_102 : decode cX8_isFull 102 = .ok (.bipush 10, 2) := by decide +kernel
theorem dX8_isFull_104 : decode cX8_isFull 104 = .ok (.if_icmp .lt 7, 3) := by decide +kernel
theorem dX8_isFull_107 : decode cX8_isFull 107 = .ok (.iconst 1, 1) := by decide +kernel
theorem dX8_isFull_108 : decode cX8_isFull 108 = .ok (.goto 4, 3) := by decide +kernel
theorem dX8_isFull_111 : decode cX8_isFull 111 = .ok (.iconst 0, 1) := by decide +kernel
theorem dX8_isFull_112 : decode cX8_isFull 112 = .ok (.ireturn, 1) := by decide +kernel
theorem dX8_isFull_113 : decode cX8_isFull 113 = .ok (.aload_n 0, 1) := by decide +kernel
theorem dX8_isFull_114 : decode cX8_isFull 114 = .ok (.getfield 44, 3) := by decide +kernel
theorem dX8_isFull_117 : decode cX8_isFull 117 = .ok (.getfield 145, 3) := by decide +kernel
theorem dX8_isFull_120 : decode cX8_isFull 120 = .ok (.iconst 3, 1) := by decide +kernel
theorem dX8_isFull_121 : decode cX8_isFull 121 = .ok (.if_icmp .lt 7, 3) := by decide +kernel
theorem dX8_isFull_124 : decode cX8_isFull 124 = .ok (.iconst 1, 1) := by decide +kernel
theorem dX8_isFull_125 : decode cX8_isFull 125 = .ok (.goto 4, 3) := by decide +kernel
theorem dX8_isFull_128 : decode cX8_isFull 128 = .ok (.iconst 0, 1) := by decide +kernel
theorem dX8_isFull_129 : decode cX8_isFull 129 = .ok (.ireturn, 1) := by decide +kernel
theorem dX8_isFull_130 : decode cX8_isFull 130 = .ok (.aload_n 0, 1) := by decide +kernel
theorem dX8_isFull_131 : decode cX8_isFull 131 = .ok (.getfield 44, 3) := by decide +kernel
theorem dX8_isFull_134 : decode cX8_isFull 134 = .ok (.getfield 148, 3) := by decide +kernel
theorem dX8_isFull_137 : decode cX8_isFull 137 = .ok (.iconst 4, 1) := by decide +kernel
theorem dX8_isFull_138 : decode cX8_isFull 138 = .ok (.if_icmp .lt 7, 3) := by decide +kernel
theorem dX8_isFull_141 : decode cX8_isFull 141 = .ok (.iconst 1, 1) := by decide +kernel
theorem dX8_isFull_142 : decode cX8_isFull 142 = .ok (.goto 4, 3) := by decide +kernel
theorem dX8_isFull_145 : decode cX8_isFull 145 = .ok (.iconst 0, 1) := by decide +kernel
theorem dX8_isFull_146 : decode cX8_isFull 146 = .ok (.ireturn, 1) := by decide +kernel
theorem dX8_isFull_147 : decode cX8_isFull 147 = .ok (.iconst 0, 1) := by decide +kernel
theorem dX8_isFull_148 : decode cX8_isFull 148 = .ok (.ireturn, 1) := by decide +kernel
theorem dX8_readOffice_0 : decode cX8_readOffice 0 = .ok (.aload_n 0, 1) := by decide +kernel
theorem dX8_readOffice_1 : decode cX8_readOffice 1 = .ok (.iconst 1, 1) := by decide +kernel
theorem dX8_readOffice_2 : decode cX8_readOffice 2 = .ok (.putfield 74, 3) := by decide +kernel
theorem dX8_readOffice_5 : decode cX8_readOffice 5 = .ok (.aload_n 0, 1) := by decide +kernel
theorem dX8_readOffice_6 : decode cX8_readOffice 6 = .ok (.iconst 0, 1) := by decide +kernel
theorem dX8_readOffice_7 : decode cX8_readOffice 7 = .ok (.invokevirtual 151, 3) := by decide +kernel
theorem dX8_readOffice_10 : decode cX8_readOffice 10 = .ok (.ifCond .ne 5, 3) := by decide +kernel
theorem dX8_readOffice_13 : decode cX8_readOffice 13 = .ok (.iconst 0, 1) := by decide +kernel
theorem dX8_readOffice_14 : decode cX8_readOffice 14 = .ok (.ireturn, 1) := by decide +kernel
theorem dX8_readOffice_15 : decode cX8_readOffice 15 = .ok (.aload_n 0, 1) := by decide +kernel
theorem dX8_readOffice_16 : decode cX8_readOffice 16 = .ok (.getfield 44, 3) := by decide +kernel
theorem dX8_readOffice_19 : decode cX8_readOffice 19 = .ok (.aload_n 0, 1) := by decide +kernel
theorem dX8_readOffice_20 : decode cX8_readOffice 20 = .ok (.bipush 100, 2) := by decide +kernel
theorem dX8_readOffice_22 : decode cX8_readOffice 22 = .ok (.invokevirtual 154, 3) := by decide +kernel
theorem dX8_readOffice_25 : decode cX8_readOffice 25 = .ok (.putfield 158, 3) := by decide +kernel
theorem dX8_readOffice_28 : decode cX8_readOffice 28 = .ok (.aload_n 0, 1) := by decide +kernel
theorem dX8_readOffice_29 : decode cX8_readOffice 29 = .ok (.getfield 78, 3) := by decide +kernel
theorem dX8_readOffice_32 : decode cX8_readOffice 32 = .ok (.ifCond .ne 7, 3) := by decide +kernel
theorem dX8_readOffice_35 : decode cX8_readOffice 35 = .ok (.iconst 1, 1) := by decide +kernel
theorem dX8_readOffice_36 : decode cX8_readOffice 36 = .ok (.goto 4, 3) := by decide +kernel
theorem dX8_readOffice_39 : decode cX8_readOffice 39 = .ok (.iconst 0, 1) := by decide +kernel
theorem dX8_readOffice_40 : decode cX8_readOffice 40 = .ok (.ireturn, 1) := by decide +kernel
theorem dX8_readMark_0 : decode cX8_readMark 0 = .ok (.aload_n 0, 1) := by decide +kernel
theorem dX8_readMark_1 : decode cX8_readMark 1 = .ok (.iconst 1, 1) := by decide +kernel
theorem dX8_readMark_2 : decode cX8_readMark 2 = .ok (.aload_n 0, 1) := by decide +kernel
theorem dX8_readMark_3 : decode cX8_readMark 3 = .ok (.getfield 44, 3) := by decide +kernel
theorem dX8_readMark_6 : decode cX8_readMark 6 = .ok (.getfield 136, 3) := by decide +kernel
theorem dX8_readMark_9 : decode cX8_readMark 9 = .ok (.invokevirtual 161, 3) := by decide +kernel
theorem dX8_readMark_12 : decode cX8_readMark 12 = .ok (.ifCond .ne 5, 3) := by decide +kernel
theorem dX8_readMark_15 : decode cX8_readMark 15 = .ok (.iconst 0, 1) := by decide +kernel
theorem dX8_readMark_16 : decode cX8_readMark 16 = .ok (.ireturn, 1) := by decide +kernel
theorem dX8_readMark_17 : decode cX8_readMark 17 = .ok (.aload_n 0, 1) := by decide +kernel
theorem dX8_readMark_18 : decode cX8_readMark 18 = .ok (.getfield 44, 3) := by decide +kernel
theorem dX8_readMark_21 : decode cX8_readMark 21 = .ok (.dup, 1) := by decide +kernel
theorem dX8_readMark_22 : decode cX8_readMark 22 = .ok (.getfield 136, 3) := by decide +kernel
theorem dX8_readMark_25 : decode cX8_readMark 25 = .ok (.iconst 1, 1) := by decide +kernel
theorem dX8_readMark_26 : decode cX8_readMark 26 = .ok (.iadd, 1) := by decide +kernel
theorem dX8_readMark_27 : decode cX8_readMark 27 = .ok (.putfield 136, 3) := by decide +kernel
theorem dX8_readMark_30 : decode cX8_readMark 30 = .ok (.iconst 1, 1) := by decide +kernel
theorem dX8_readMark_31 : decode cX8_readMark 31 = .ok (.ireturn, 1) := by decide +kernel
theorem dX8_readPaper_0 : decode cX8_readPaper 0 = .ok (.aload_n 0, 1) := by decide +kernel
theorem dX8_readPaper_1 : decode cX8_readPaper 1 = .ok (.getfield 44, 3) := by decide +kernel
theorem dX8_readPaper_4 : decode cX8_readPaper 4 = .ok (.getfield 102, 3) := by decide +kernel
theorem dX8_readPaper_7 : decode cX8_readPaper 7 = .ok (.istore_n 1, 1) := by decide +kernel
theorem dX8_readPaper_8 : decode cX8_readPaper 8 = .ok (.aload_n 0, 1) := by decide +kernel
theorem dX8_readPaper_9 : decode cX8_readPaper 9 = .ok (.iconst 2, 1) := by decide +kernel
theorem dX8_readPaper_10 : decode cX8_readPaper 10 = .ok (.iload_n 1, 1) := by decide +kernel
theorem dX8_readPaper_11 : decode cX8_readPaper 11 = .ok (.invokevirtual 161, 3) := by decide +kernel
theorem dX8_readPaper_14 : decode cX8_readPaper 14 = .ok (.ifCond .eq 11, 3) := by decide +kernel
theorem dX8_readPaper_17 : decode cX8_readPaper 17 = .ok (.aload_n 0, 1) := by decide +kernel
theorem dX8_readPaper_18 : decode cX8_readPaper 18 = .ok (.iconst 1, 1) := by decide +kernel
theorem dX8_readPaper_19 : decode cX8_readPaper 19 = .ok (.invokevirtual 151, 3) := by decide +kernel
theorem dX8_readPaper_22 : decode cX8_readPaper 22 = .ok (.ifCond .ne 5, 3) := by decide +kernel
theorem dX8_readPaper_25 : decode cX8_readPaper 25 = .ok (.iconst 0, 1) := by decide +kernel
theorem dX8_readPaper_26 : decode cX8_readPaper 26 = .ok (.ireturn, 1) := by decide +kernel
theorem dX8_readPaper_27 : decode cX8_readPaper 27 = .ok (.aload_n 0, 1) := by decide +kernel
theorem dX8_readPaper_28 : decode cX8_readPaper 28 = .ok (.getfield 44, 3) := by decide +kernel
theorem dX8_readPaper_31 : decode cX8_readPaper 31 = .ok (.getfield 165, 3) := by decide +kernel
theorem dX8_readPaper_34 : decode cX8_readPaper 34 = .ok (.iload_n 1, 1) := by decide +kernel
theorem dX8_readPaper_35 : decode cX8_readPaper 35 = .ok (.aload_n 0, 1) := by decide +kernel
theorem dX8_readPaper_36 : decode cX8_readPaper 36 = .ok (.bipush 99, 2) := by decide +kernel
theorem dX8_readPaper_38 : decode cX8_readPaper 38 = .ok (.invokevirtual 154, 3) := by decide +kernel
theorem dX8_readPaper_41 : decode cX8_readPaper 41 = .ok (.iastore, 1) := by decide +kernel
theorem dX8_readPaper_42 : decode cX8_readPaper 42 = .ok (.aload_n 0, 1) := by decide +kernel
theorem dX8_readPaper_43 : decode cX8_readPaper 43 = .ok (.getfield 78, 3) := by decide +kernel
theorem dX8_readPaper_46 : decode cX8_readPaper 46 = .ok (.ifCond .eq 5, 3) := by decide +kernel
theorem dX8_readPaper_49 : decode cX8_readPaper 49 = .ok (.iconst 0, 1) := by decide +kernel
theorem dX8_readPaper_50 : decode cX8_readPaper 50 = .ok (.ireturn, 1) := by decide +kernel
theorem dX8_readPaper_51 : decode cX8_readPaper 51 = .ok (.aload_n 0, 1) := by decide +kernel
theorem dX8_readPaper_52 : decode cX8_readPaper 52 = .ok (.getfield 27, 3) := by decide +kernel
theorem dX8_readPaper_55 : decode cX8_readPaper 55 = .ok (.iload_n 1, 1) := by decide +kernel
theorem dX8_readPaper_56 : decode cX8_readPaper 56 = .ok (.aload_n 0, 1) := by decide +kernel
theorem dX8_readPaper_57 : decode cX8_readPaper 57 = .ok (.invokevirtual 168, 3) := by decide +kernel
theorem dX8_readPaper_60 : decode cX8_readPaper 60 = .ok (.invokevirtual 172, 3) := by decide +kernel
theorem dX8_readPaper_63 : decode cX8_readPaper 63 = .ok (.aload_n 0, 1) := by decide +kernel
theorem dX8_readPaper_64 : decode cX8_readPaper 64 = .ok (.getfield 44, 3) := by decide +kernel
theorem dX8_readPaper_67 : decode cX8_readPaper 67 = .ok (.getfield 176, 3) := by decide +kernel
theorem dX8_readPaper_70 : decode cX8_readPaper 70 = .ok (.iload_n 1, 1) := by decide +kernel
theorem dX8_readPaper_71 : decode cX8_readPaper 71 = .ok (.bipush (-2), 2) := by decide +kernel
theorem dX8_readPaper_73 : decode cX8_readPaper 73 = .ok (.iastore, 1) := by decide +kernel
theorem dX8_readPaper_74 : decode cX8_readPaper 74 = .ok (.aload_n 0, 1) := by decide +kernel
theorem dX8_readPaper_75 : decode cX8_readPaper 75 = .ok (.getfield 44, 3) := by decide +kernel
theorem dX8_readPaper_78 : decode cX8_readPaper 78 = .ok (.dup, 1) := by decide +kernel
theorem dX8_readPaper_79 : decode cX8_readPaper 79 = .ok (.getfield 102, 3) := by decide +kernel
theorem dX8_readPaper_82 : decode cX8_readPaper 82 = .ok (.iconst 1, 1) := by decide +kernel
theorem dX8_readPaper_83 : decode cX8_readPaper 83 = .ok (.iadd, 1) := by decide +kernel
theorem dX8_readPaper_84 : decode cX8_readPaper 84 = .ok (.putfield 102, 3) := by decide +kernel
theorem dX8_readPaper_87 : decode cX8_readPaper 87 = .ok (.aload_n 0, 1) := by decide +kernel
theorem dX8_readPaper_88 : decode cX8_readPaper 88 = .ok (.getfield 78, 3) := by decide +kernel
theorem dX8_readPaper_91 : decode cX8_readPaper 91 = .ok (.ifCond .ne 7, 3) := by decide +kernel
theorem dX8_readPaper_94 : decode cX8_readPaper 94 = .ok (.iconst 1, 1) := by decide +kernel
theorem dX8_readPaper_95 : decode cX8_readPaper 95 = .ok (.goto 4, 3) := by decide +kernel
theorem dX8_readPaper_98 : decode cX8_readPaper 98 = .ok (.iconst 0, 1) := by decide +kernel
theorem dX8_readPaper_99 : decode cX8_readPaper 99 = .ok (.ireturn, 1) := by decide +kernel
theorem dX8_readStamp_0 : decode cX8_readStamp 0 = .ok (.aload_n 0, 1) := by decide +kernel
theorem dX8_readStamp_1 : decode cX8_readStamp 1 = .ok (.getfield 44, 3) := by decide +kernel
theorem dX8_readStamp_4 : decode cX8_readStamp 4 = .ok (.getfield 139, 3) := by decide +kernel
theorem dX8_readStamp_7 : decode cX8_readStamp 7 = .ok (.istore_n 1, 1) := by decide +kernel
theorem dX8_readStamp_8 : decode cX8_readStamp 8 = .ok (.aload_n 0, 1) := by decide +kernel
theorem dX8_readStamp_9 : decode cX8_readStamp 9 = .ok (.iconst 3, 1) := by decide +kernel
theorem dX8_readStamp_10 : decode cX8_readStamp 10 = .ok (.iload_n 1, 1) := by decide +kernel
theorem dX8_readStamp_11 : decode cX8_readStamp 11 = .ok (.invokevirtual 161, 3) := by decide +kernel
theorem dX8_readStamp_14 : decode cX8_readStamp 14 = .ok (.ifCond .eq 11, 3) := by decide +kernel
theorem dX8_readStamp_17 : decode cX8_readStamp 17 = .ok (.aload_n 0, 1) := by decide +kernel
theorem dX8_readStamp_18 : decode cX8_readStamp 18 = .ok (.iconst 2, 1) := by decide +kernel
theorem dX8_readStamp_19 : decode cX8_readStamp 19 = .ok (.invokevirtual 151, 3) := by decide +kernel
theorem dX8_readStamp_22 : decode cX8_readStamp 22 = .ok (.ifCond .ne 5, 3) := by decide +kernel
theorem dX8_readStamp_25 : decode cX8_readStamp 25 = .ok (.iconst 0, 1) := by decide +kernel
theorem dX8_readStamp_26 : decode cX8_readStamp 26 = .ok (.ireturn, 1) := by decide +kernel
theorem dX8_readStamp_27 : decode cX8_readStamp 27 = .ok (.aload_n 0, 1) := by decide +kernel
theorem dX8_readStamp_28 : decode cX8_readStamp 28 = .ok (.getfield 27, 3) := by decide +kernel
theorem dX8_readStamp_31 : decode cX8_readStamp 31 = .ok (.iload_n 1, 1) := by decide +kernel
theorem dX8_readStamp_32 : decode cX8_readStamp 32 = .ok (.aload_n 0, 1) := by decide +kernel
theorem dX8_readStamp_33 : decode cX8_readStamp 33 = .ok (.bipush 9, 2) := by decide +kernel
theorem dX8_readStamp_35 : decode cX8_readStamp 35 = .ok (.invokevirtual 154, 3) := by decide +kernel
theorem dX8_readStamp_38 : decode cX8_readStamp 38 = .ok (.invokevirtual 179, 3) := by decide +kernel
theorem dX8_readStamp_41 : decode cX8_readStamp 41 = .ok (.aload_n 0, 1) := by decide +kernel
theorem dX8_readStamp_42 : decode cX8_readStamp 42 = .ok (.getfield 78, 3) := by decide +kernel
theorem dX8_readStamp_45 : decode cX8_readStamp 45 = .ok (.ifCond .ne 11, 3) := by decide +kernel
theorem dX8_readStamp_48 : decode cX8_readStamp 48 = .ok (.aload_n 0, 1) := by decide +kernel
theorem dX8_readStamp_49 : decode cX8_readStamp 49 = .ok (.iconst 3, 1) := by decide +kernel
theorem dX8_readStamp_50 : decode cX8_readStamp 50 = .ok (.invokevirtual 151, 3) := by decide +kernel
theorem dX8_readStamp_53 : decode cX8_readStamp 53 = .ok (.ifCond .ne 5, 3) := by decide +kernel
theorem dX8_readStamp_56 : decode cX8_readStamp 56 = .ok (.iconst 0, 1) := by decide +kernel
theorem dX8_readStamp_57 : decode cX8_readStamp 57 = .ok (.ireturn, 1) := by decide +kernel
theorem dX8_readStamp_58 : decode cX8_readStamp 58 = .ok (.aload_n 0, 1) := by decide +kernel
theorem dX8_readStamp_59 : decode cX8_readStamp 59 = .ok (.getfield 44, 3) := by decide +kernel
theorem dX8_readStamp_62 : decode cX8_readStamp 62 = .ok (.getfield 182, 3) := by decide +kernel
theorem dX8_readStamp_65 : decode cX8_readStamp 65 = .ok (.iload_n 1, 1) := by decide +kernel
theorem dX8_readStamp_66 : decode cX8_readStamp 66 = .ok (.aload_n 0, 1) := by decide +kernel
theorem dX8_readStamp_67 : decode cX8_readStamp 67 = .ok (.aload_n 0, 1) := by decide +kernel
theorem dX8_readStamp_68 : decode cX8_readStamp 68 = .ok (.getfield 18, 3) := by decide +kernel
theorem dX8_readStamp_71 : decode cX8_readStamp 71 = .ok (.invokevirtual 185, 3) := by decide +kernel
theorem dX8_readStamp_74 : decode cX8_readStamp 74 = .ok (.iastore, 1) := by decide +kernel
theorem dX8_readStamp_75 : decode cX8_readStamp 75 = .ok (.aload_n 0, 1) := by decide +kernel
theorem dX8_readStamp_76 : decode cX8_readStamp 76 = .ok (.getfield 78, 3) := by decide +kernel
theorem dX8_readStamp_79 : decode cX8_readStamp 79 = .ok (.ifCond .eq 5, 3) := by decide +kernel
theorem dX8_readStamp_82 : decode cX8_readStamp 82 = .ok (.iconst 0, 1) := by decide +kernel
theorem dX8_readStamp_83 : decode cX8_readStamp 83 = .ok (.ireturn, 1) := by decide +kernel
theorem dX8_readStamp_84 : decode cX8_readStamp 84 = .ok (.aload_n 0, 1) := by decide +kernel
theorem dX8_readStamp_85 : decode cX8_readStamp 85 = .ok (.getfield 44, 3) := by decide +kernel
theorem dX8_readStamp_88 : decode cX8_readStamp 88 = .ok (.getfield 188, 3) := by decide +kernel
theorem dX8_readStamp_91 : decode cX8_readStamp 91 = .ok (.iload_n 1, 1) := by decide +kernel
theorem dX8_readStamp_92 : decode cX8_readStamp 92 = .ok (.aload_n 0, 1) := by decide +kernel
theorem dX8_readStamp_93 : decode cX8_readStamp 93 = .ok (.invokevirtual 168, 3) := by decide +kernel
theorem dX8_readStamp_96 : decode cX8_readStamp 96 = .ok (.iastore, 1) := by decide +kernel
theorem dX8_readStamp_97 : decode cX8_readStamp 97 = .ok (.aload_n 0, 1) := by decide +kernel
theorem dX8_readStamp_98 : decode cX8_readStamp 98 = .ok (.getfield 44, 3) := by decide +kernel
theorem dX8_readStamp_101 : decode cX8_readStamp 101 = .ok (.dup, 1) := by decide +kernel
theorem dX8_readStamp_102 : decode cX8_readStamp 102 = .ok (.getfield 139, 3) := by decide +kernel
theorem dX8_readStamp_105 : decode cX8_readStamp 105 = .ok (.iconst 1, 1) := by decide +kernel
theorem dX8_readStamp_106 : decode cX8_readStamp 106 = .ok (.iadd, 1) := by decide +kernel
theorem dX8_readStamp_107 : decode cX8_readStamp 107 = .ok (.putfield 139, 3) := by decide +kernel
theorem dX8_readStamp_110 : decode cX8_readStamp 110 = .ok (.aload_n 0, 1) := by decide +kernel
theorem dX8_readStamp_111 : decode cX8_readStamp 111 = .ok (.getfield 78, 3) := by decide +kernel
theorem dX8_readStamp_114 : decode cX8_readStamp 114 = .ok (.ifCond .ne 7, 3) := by decide +kernel
theorem dX8_readStamp_117 : decode cX8_readStamp 117 = .ok (.iconst 1, 1) := by decide +kernel
theorem dX8_readStamp_118 : decode cX8_readStamp 118 = .ok (.goto 4, 3) := by decide +kernel
theorem dX8_readStamp_121 : decode cX8_readStamp 121 = .ok (.iconst 0, 1) := by decide +kernel
theorem dX8_readStamp_122 : decode cX8_readStamp 122 = .ok (.ireturn, 1) := by decide +kernel
theorem dX8_readRule_0 : decode cX8_readRule 0 = .ok (.aload_n 0, 1) := by decide +kernel
theorem dX8_readRule_1 : decode cX8_readRule 1 = .ok (.getfield 44, 3) := by decide +kernel
theorem dX8_readRule_4 : decode cX8_readRule 4 = .ok (.getfield 142, 3) := by decide +kernel
theorem dX8_readRule_7 : decode cX8_readRule 7 = .ok (.istore_n 1, 1) := by decide +kernel
theorem dX8_readRule_8 : decode cX8_readRule 8 = .ok (.aload_n 0, 1) := by decide +kernel
theorem dX8_readRule_9 : decode cX8_readRule 9 = .ok (.getfield 44, 3) := by decide +kernel
theorem dX8_readRule_12 : decode cX8_readRule 12 = .ok (.getfield 191, 3) := by decide +kernel
theorem dX8_readRule_15 : decode cX8_readRule 15 = .ok (.iload_n 1, 1) := by decide +kernel
theorem dX8_readRule_16 : decode cX8_readRule 16 = .ok (.aload_n 0, 1) := by decide +kernel
theorem dX8_readRule_17 : decode cX8_readRule 17 = .ok (.iconst 3, 1) := by decide +kernel
theorem dX8_readRule_18 : decode cX8_readRule 18 = .ok (.invokevirtual 194, 3) := by decide +kernel
theorem dX8_readRule_21 : decode cX8_readRule 21 = .ok (.iastore, 1) := by decide +kernel
theorem dX8_readRule_22 : decode cX8_readRule 22 = .ok (.aload_n 0, 1) := by decide +kernel
theorem dX8_readRule_23 : decode cX8_readRule 23 = .ok (.getfield 78, 3) := by decide +kernel
theorem dX8_readRule_26 : decode cX8_readRule 26 = .ok (.ifCond .eq 5, 3) := by decide +kernel
theorem dX8_readRule_29 : decode cX8_readRule 29 = .ok (.iconst 0, 1) := by decide +kernel
theorem dX8_readRule_30 : decode cX8_readRule 30 = .ok (.ireturn, 1) := by decide +kernel
theorem dX8_readRule_31 : decode cX8_readRule 31 = .ok (.aload_n 0, 1) := by decide +kernel
theorem dX8_readRule_32 : decode cX8_readRule 32 = .ok (.getfield 44, 3) := by decide +kernel
theorem dX8_readRule_35 : decode cX8_readRule 35 = .ok (.getfield 197, 3) := by decide +kernel
theorem dX8_readRule_38 : decode cX8_readRule 38 = .ok (.iload_n 1, 1) := by decide +kernel
theorem dX8_readRule_39 : decode cX8_readRule 39 = .ok (.iconst 0, 1) := by decide +kernel
theorem dX8_readRule_40 : decode cX8_readRule 40 = .ok (.iastore, 1) := by decide +kernel
theorem dX8_readRule_41 : decode cX8_readRule 41 = .ok (.aload_n 0, 1) := by decide +kernel
theorem dX8_readRule_42 : decode cX8_readRule 42 = .ok (.getfield 48, 3) := by decide +kernel
theorem dX8_readRule_45 : decode cX8_readRule 45 = .ok (.aload_n 0, 1) := by decide +kernel
theorem dX8_readRule_46 : decode cX8_readRule 46 = .ok (.getfield 9, 3) := by decide +kernel
theorem dX8_readRule_49 : decode cX8_readRule 49 = .ok (.invokevirtual 105, 3) := by decide +kernel
theorem dX8_readRule_52 : decode cX8_readRule 52 = .ok (.bipush 8, 2) := by decide +kernel
theorem dX8_readRule_54 : decode cX8_readRule 54 = .ok (.if_icmp .ne 20, 3) := by decide +kernel
theorem dX8_readRule_57 : decode cX8_readRule 57 = .ok (.aload_n 0, 1) := by decide +kernel
theorem dX8_readRule_58 : decode cX8_readRule 58 = .ok (.getfield 44, 3) := by decide +kernel
theorem dX8_readRule_61 : decode cX8_readRule 61 = .ok (.getfield 197, 3) := by decide +kernel
theorem dX8_readRule_64 : decode cX8_readRule 64 = .ok (.iload_n 1, 1) := by decide +kernel
theorem dX8_readRule_65 : decode cX8_readRule 65 = .ok (.iconst 1, 1) := by decide +kernel
theorem dX8_readRule_66 : decode cX8_readRule 66 = .ok (.iastore, 1) := by decide +kernel
theorem dX8_readRule_67 : decode cX8_readRule 67 = .ok (.aload_n 0, 1) := by decide +kernel
theorem dX8_readRule_68 : decode cX8_readRule 68 = .ok (.getfield 48, 3) := by decide +kernel
theorem dX8_readRule_71 : decode cX8_readRule 71 = .ok (.invokevirtual 99, 3) := by decide +kernel
theorem dX8_readRule_74 : decode cX8_readRule 74 = .ok (.aload_n 0, 1) := by decide +kernel
theorem dX8_readRule_75 : decode cX8_readRule 75 = .ok (.getfield 44, 3) := by decide +kernel
theorem dX8_readRule_78 : decode cX8_readRule 78 = .ok (.getfield 200, 3) := by decide +kernel
theorem dX8_readRule_81 : decode cX8_readRule 81 = .ok (.iload_n 1, 1) := by decide +kernel
theorem dX8_readRule_82 : decode cX8_readRule 82 = .ok (.aload_n 0, 1) := by decide +kernel
theorem dX8_readRule_83 : decode cX8_readRule 83 = .ok (.iconst 1, 1) := by decide +kernel
theorem dX8_readRule_84 : decode cX8_readRule 84 = .ok (.invokevirtual 194, 3) := by decide +kernel
theorem dX8_readRule_87 : decode cX8_readRule 87 = .ok (.iastore, 1) := by decide +kernel
theorem dX8_readRule_88 : decode cX8_readRule 88 = .ok (.aload_n 0, 1) := by decide +kernel
theorem dX8_readRule_89 : decode cX8_readRule 89 = .ok (.getfield 78, 3) := by decide +kernel
theorem dX8_readRule_92 : decode cX8_readRule 92 = .ok (.ifCond .eq 5, 3) := by decide +kernel
theorem dX8_readRule_95 : decode cX8_readRule 95 = .ok (.iconst 0, 1) := by decide +kernel
theorem dX8_readRule_96 : decode cX8_readRule 96 = .ok (.ireturn, 1) := by decide +kernel
theorem dX8_readRule_97 : decode cX8_readRule 97 = .ok (.aload_n 0, 1) := by decide +kernel
theorem dX8_readRule_98 : decode cX8_readRule 98 = .ok (.getfield 27, 3) := by decide +kernel
theorem dX8_readRule_101 : decode cX8_readRule 101 = .ok (.iload_n 1, 1) := by decide +kernel
theorem dX8_readRule_102 : decode cX8_readRule 102 = .ok (.aload_n 0, 1) := by decide +kernel
theorem dX8_readRule_103 : decode cX8_readRule 103 = .ok (.aload_n 0, 1) := by decide +kernel
theorem dX8_readRule_104 : decode cX8_readRule 104 = .ok (.getfield 18, 3) := by decide +kernel
theorem dX8_readRule_107 : decode cX8_readRule 107 = .ok (.invokevirtual 185, 3) := by decide +kernel
theorem dX8_readRule_110 : decode cX8_readRule 110 = .ok (.invokevirtual 203, 3) := by decide +kernel
theorem dX8_readRule_113 : decode cX8_readRule 113 = .ok (.aload_n 0, 1) := by decide +kernel
theorem dX8_readRule_114 : decode cX8_readRule 114 = .ok (.getfield 44, 3) := by decide +kernel
theorem dX8_readRule_117 : decode cX8_readRule 117 = .ok (.dup, 1) := by decide +kernel
theorem dX8_readRule_118 : decode cX8_readRule 118 = .ok (.getfield 142, 3) := by decide +kernel
theorem dX8_readRule_121 : decode cX8_readRule 121 = .ok (.iconst 1, 1) := by decide +kernel
theorem dX8_readRule_122 : decode cX8_readRule 122 = .ok (.iadd, 1) := by decide +kernel
theorem dX8_readRule_123 : decode cX8_readRule 123 = .ok (.putfield 142, 3) := by decide +kernel
theorem dX8_readRule_126 : decode cX8_readRule 126 = .ok (.aload_n 0, 1) := by decide +kernel
theorem dX8_readRule_127 : decode cX8_readRule 127 = .ok (.getfield 78, 3) := by decide +kernel
theorem dX8_readRule_130 : decode cX8_readRule 130 = .ok (.ifCond .ne 7, 3) := by decide +kernel
theorem dX8_readRule_133 : decode cX8_readRule 133 = .ok (.iconst 1, 1) := by decide +kernel
theorem dX8_readRule_134 : decode cX8_readRule 134 = .ok (.goto 4, 3) := by decide +kernel
theorem dX8_readRule_137 : decode cX8_readRule 137 = .ok (.iconst 0, 1) := by decide +kernel
theorem dX8_readRule_138 : decode cX8_readRule 138 = .ok (.ireturn, 1) := by decide +kernel
theorem dX8_readHand_0 : decode cX8_readHand 0 = .ok (.aload_n 0, 1) := by decide +kernel
theorem dX8_readHand_1 : decode cX8_readHand 1 = .ok (.getfield 44, 3) := by decide +kernel
theorem dX8_readHand_4 : decode cX8_readHand 4 = .ok (.getfield 145, 3) := by decide +kernel
theorem dX8_readHand_7 : decode cX8_readHand 7 = .ok (.istore_n 1, 1) := by decide +kernel
theorem dX8_readHand_8 : decode cX8_readHand 8 = .ok (.aload_n 0, 1) := by decide +kernel
theorem dX8_readHand_9 : decode cX8_readHand 9 = .ok (.iconst 5, 1) := by decide +kernel
theorem dX8_readHand_10 : decode cX8_readHand 10 = .ok (.iload_n 1, 1) := by decide +kernel
theorem dX8_readHand_11 : decode cX8_readHand 11 = .ok (.invokevirtual 161, 3) := by decide +kernel
theorem dX8_readHand_14 : decode cX8_readHand 14 = .ok (.ifCond .ne 5, 3) := by decide +kernel
theorem dX8_readHand_17 : decode cX8_readHand 17 = .ok (.iconst 0, 1) := by decide +kernel
theorem dX8_readHand_18 : decode cX8_readHand 18 = .ok (.ireturn, 1) := by decide +kernel
theorem dX8_readHand_19 : decode cX8_readHand 19 = .ok (.aload_n 0, 1) := by decide +kernel
theorem dX8_readHand_20 : decode cX8_readHand 20 = .ok (.getfield 44, 3) := by decide +kernel
theorem dX8_readHand_23 : decode cX8_readHand 23 = .ok (.getfield 206, 3) := by decide +kernel
theorem dX8_readHand_26 : decode cX8_readHand 26 = .ok (.iload_n 1, 1) := by decide +kernel
theorem dX8_readHand_27 : decode cX8_readHand 27 = .ok (.aload_n 0, 1) := by decide +kernel
theorem dX8_readHand_28 : decode cX8_readHand 28 = .ok (.aload_n 0, 1) := by decide +kernel
theorem dX8_readHand_29 : decode cX8_readHand 29 = .ok (.getfield 21, 3) := by decide +kernel
theorem dX8_readHand_32 : decode cX8_readHand 32 = .ok (.invokevirtual 185, 3) := by decide +kernel
theorem dX8_readHand_35 : decode cX8_readHand 35 = .ok (.iastore, 1) := by decide +kernel
theorem dX8_readHand_36 : decode cX8_readHand 36 = .ok (.aload_n 0, 1) := by decide +kernel
theorem dX8_readHand_37 : decode cX8_readHand 37 = .ok (.getfield 78, 3) := by decide +kernel
theorem dX8_readHand_40 : decode cX8_readHand 40 = .ok (.ifCond .ne 11, 3) := by decide +kernel
theorem dX8_readHand_43 : decode cX8_readHand 43 = .ok (.aload_n 0, 1) := by decide +kernel
theorem dX8_readHand_44 : decode cX8_readHand 44 = .ok (.iconst 4, 1) := by decide +kernel
theorem dX8_readHand_45 : decode cX8_readHand 45 = .ok (.invokevirtual 151, 3) := by decide +kernel
theorem dX8_readHand_48 : decode cX8_readHand 48 = .ok (.ifCond .ne 5, 3) := by decide +kernel
theorem dX8_readHand_51 : decode cX8_readHand 51 = .ok (.iconst 0, 1) := by decide +kernel
theorem dX8_readHand_52 : decode cX8_readHand 52 = .ok (.ireturn, 1) := by decide +kernel
theorem dX8_readHand_53 : decode cX8_readHand 53 = .ok (.aload_n 0, 1) := by decide +kernel
theorem dX8_readHand_54 : decode cX8_readHand 54 = .ok (.getfield 44, 3) := by decide +kernel
theorem dX8_readHand_57 : decode cX8_readHand 57 = .ok (.getfield 209, 3) := by decide +kernel
theorem dX8_readHand_60 : decode cX8_readHand 60 = .ok (.iload_n 1, 1) := by decide +kernel
theorem dX8_readHand_61 : decode cX8_readHand 61 = .ok (.aload_n 0, 1) := by decide +kernel
theorem dX8_readHand_62 : decode cX8_readHand 62 = .ok (.bipush 100, 2) := by decide +kernel
theorem dX8_readHand_64 : decode cX8_readHand 64 = .ok (.invokevirtual 154, 3) := by decide +kernel
theorem dX8_readHand_67 : decode cX8_readHand 67 = .ok (.iastore, 1) := by decide +kernel
theorem dX8_readHand_68 : decode cX8_readHand 68 = .ok (.aload_n 0, 1) := by decide +kernel
theorem dX8_readHand_69 : decode cX8_readHand 69 = .ok (.getfield 44, 3) := by decide +kernel
theorem dX8_readHand_72 : decode cX8_readHand 72 = .ok (.dup, 1) := by decide +kernel
theorem dX8_readHand_73 : decode cX8_readHand 73 = .ok (.getfield 145, 3) := by decide +kernel
theorem dX8_readHand_76 : decode cX8_readHand 76 = .ok (.iconst 1, 1) := by decide +kernel
theorem dX8_readHand_77 : decode cX8_readHand 77 = .ok (.iadd, 1) := by decide +kernel
theorem dX8_readHand_78 : decode cX8_readHand 78 = .ok (.putfield 145, 3) := by decide +kernel
theorem dX8_readHand_81 : decode cX8_readHand 81 = .ok (.aload_n 0, 1) := by decide +kernel
theorem dX8_readHand_82 : decode cX8_readHand 82 = .ok (.getfield 78, 3) := by decide +kernel
theorem dX8_readHand_85 : decode cX8_readHand 85 = .ok (.ifCond .ne 7, 3) := by decide +kernel
theorem dX8_readHand_88 : decode cX8_readHand 88 = .ok (.iconst 1, 1) := by decide +kernel
theorem dX8_readHand_89 : decode cX8_readHand 89 = .ok (.goto 4, 3) := by decide +kernel
theorem dX8_readHand_92 : decode cX8_readHand 92 = .ok (.iconst 0, 1) := by decide +kernel
theorem dX8_readHand_93 : decode cX8_readHand 93 = .ok (.ireturn, 1) := by decide +kernel
theorem dX8_readWant_0 : decode cX8_readWant 0 = .ok (.aload_n 0, 1) := by decide +kernel
theorem dX8_readWant_1 : decode cX8_readWant 1 = .ok (.iconst 2, 1) := by decide +kernel
theorem dX8_readWant_2 : decode cX8_readWant 2 = .ok (.invokevirtual 212, 3) := by decide +kernel
theorem dX8_readWant_5 : decode cX8_readWant 5 = .ok (.istore_n 1, 1) := by decide +kernel
theorem dX8_readWant_6 : decode cX8_readWant 6 = .ok (.iload_n 1, 1) := by decide +kernel
theorem dX8_readWant_7 : decode cX8_readWant 7 = .ok (.ifCond .ge 5, 3) := by decide +kernel
theorem dX8_readWant_10 : decode cX8_readWant 10 = .ok (.iconst 0, 1) := by decide +kernel
theorem dX8_readWant_11 : decode cX8_readWant 11 = .ok (.ireturn, 1) := by decide +kernel
theorem dX8_readWant_12 : decode cX8_readWant 12 = .ok (.aload_n 0, 1) := by decide +kernel
theorem dX8_readWant_13 : decode cX8_readWant 13 = .ok (.getfield 44, 3) := by decide +kernel
theorem dX8_readWant_16 : decode cX8_readWant 16 = .ok (.getfield 176, 3) := by decide +kernel
theorem dX8_readWant_19 : decode cX8_readWant 19 = .ok (.iload_n 1, 1) := by decide +kernel
theorem dX8_readWant_20 : decode cX8_readWant 20 = .ok (.iaload, 1) := by decide +kernel
theorem dX8_readWant_21 : decode cX8_readWant 21 = .ok (.bipush (-2), 2) := by decide +kernel
theorem dX8_readWant_23 : decode cX8_readWant 23 = .ok (.if_icmp .eq 9, 3) := by decide +kernel
theorem dX8_readWant_26 : decode cX8_readWant 26 = .ok (.aload_n 0, 1) := by decide +kernel
theorem dX8_readWant_27 : decode cX8_readWant 27 = .ok (.iconst 3, 1) := by decide +kernel
theorem dX8_readWant_28 : decode cX8_readWant 28 = .ok (.invokevirtual 95, 3) := by decide +kernel
theorem dX8_readWant_31 : decode cX8_readWant 31 = .ok (.ireturn, 1) := by decide +kernel
theorem dX8_readWant_32 : decode cX8_readWant 32 = .ok (.aload_n 0, 1) := by decide +kernel
theorem dX8_readWant_33 : decode cX8_readWant 33 = .ok (.getfield 48, 3) := by decide +kernel
theorem dX8_readWant_36 : decode cX8_readWant 36 = .ok (.invokevirtual 99, 3) := by decide +kernel
theorem dX8_readWant_39 : decode cX8_readWant 39 = .ok (.aload_n 0, 1) := by decide +kernel
theorem dX8_readWant_40 : decode cX8_readWant 40 = .ok (.getfield 44, 3) := by decide +kernel
theorem dX8_readWant_43 : decode cX8_readWant 43 = .ok (.getfield 176, 3) := by decide +kernel
theorem dX8_readWant_46 : decode cX8_readWant 46 = .ok (.iload_n 1, 1) := by decide +kernel
theorem dX8_readWant_47 : decode cX8_readWant 47 = .ok (.aload_n 0, 1) := by decide +kernel
theorem dX8_readWant_48 : decode cX8_readWant 48 = .ok (.aload_n 0, 1) := by decide +kernel
theorem dX8_readWant_49 : decode cX8_readWant 49 = .ok (.getfield 18, 3) := by decide +kernel
theorem dX8_readWant_52 : decode cX8_readWant 52 = .ok (.invokevirtual 185, 3) := by decide +kernel
theorem dX8_readWant_55 : decode cX8_readWant 55 = .ok (.iastore, 1) := by decide +kernel
theorem dX8_readWant_56 : decode cX8_readWant 56 = .ok (.aload_n 0, 1) := by decide +kernel
theorem dX8_readWant_57 : decode cX8_readWant 57 = .ok (.getfield 44, 3) := by decide +kernel
theorem dX8_readWant_60 : decode cX8_readWant 60 = .ok (.dup, 1) := by decide +kernel
theorem dX8_readWant_61 : decode cX8_readWant 61 = .ok (.getfield 215, 3) := by decide +kernel
theorem dX8_readWant_64 : decode cX8_readWant 64 = .ok (.iconst 1, 1) := by decide +kernel
theorem dX8_readWant_65 : decode cX8_readWant 65 = .ok (.iadd, 1) := by decide +kernel
theorem dX8_readWant_66 : decode cX8_readWant 66 = .ok (.putfield 215, 3) := by decide +kernel
theorem dX8_readWant_69 : decode cX8_readWant 69 = .ok (.aload_n 0, 1) := by decide +kernel
theorem dX8_readWant_70 : decode cX8_readWant 70 = .ok (.getfield 78, 3) := by decide +kernel
theorem dX8_readWant_73 : decode cX8_readWant 73 = .ok (.ifCond .ne 7, 3) := by decide +kernel
theorem dX8_readWant_76 : decode cX8_readWant 76 = .ok (.iconst 1, 1) := by decide +kernel
theorem dX8_readWant_77 : decode cX8_readWant 77 = .ok (.goto 4, 3) := by decide +kernel
theorem dX8_readWant_80 : decode cX8_readWant 80 = .ok (.iconst 0, 1) := by decide +kernel
theorem dX8_readWant_81 : decode cX8_readWant 81 = .ok (.ireturn, 1) := by decide +kernel
theorem dX8_readPrint_0 : decode cX8_readPrint 0 = .ok (.aload_n 0, 1) := by decide +kernel
theorem dX8_readPrint_1 : decode cX8_readPrint 1 = .ok (.getfield 44, 3) := by decide +kernel
theorem dX8_readPrint_4 : decode cX8_readPrint 4 = .ok (.getfield 148, 3) := by decide +kernel
theorem dX8_readPrint_7 : decode cX8_readPrint 7 = .ok (.istore_n 1, 1) := by decide +kernel
theorem dX8_readPrint_8 : decode cX8_readPrint 8 = .ok (.aload_n 0, 1) := by decide +kernel
theorem dX8_readPrint_9 : decode cX8_readPrint 9 = .ok (.getfield 44, 3) := by decide +kernel
theorem dX8_readPrint_12 : decode cX8_readPrint 12 = .ok (.getfield 218, 3) := by decide +kernel
theorem dX8_readPrint_15 : decode cX8_readPrint 15 = .ok (.iload_n 1, 1) := by decide +kernel
theorem dX8_readPrint_16 : decode cX8_readPrint 16 = .ok (.aload_n 0, 1) := by decide +kernel
theorem dX8_readPrint_17 : decode cX8_readPrint 17 = .ok (.iconst 2, 1) := by decide +kernel
theorem dX8_readPrint_18 : decode cX8_readPrint 18 = .ok (.invokevirtual 194, 3) := by decide +kernel
theorem dX8_readPrint_21 : decode cX8_readPrint 21 = .ok (.iastore, 1) := by decide +kernel
theorem dX8_readPrint_22 : decode cX8_readPrint 22 = .ok (.aload_n 0, 1) := by decide +kernel
theorem dX8_readPrint_23 : decode cX8_readPrint 23 = .ok (.getfield 78, 3) := by decide +kernel
theorem dX8_readPrint_26 : decode cX8_readPrint 26 = .ok (.ifCond .eq 5, 3) := by decide +kernel
theorem dX8_readPrint_29 : decode cX8_readPrint 29 = .ok (.iconst 0, 1) := by decide +kernel
theorem dX8_readPrint_30 : decode cX8_readPrint 30 = .ok (.ireturn, 1) := by decide +kernel
theorem dX8_readPrint_31 : decode cX8_readPrint 31 = .ok (.aload_n 0, 1) := by decide +kernel
theorem dX8_readPrint_32 : decode cX8_readPrint 32 = .ok (.getfield 44, 3) := by decide +kernel
theorem dX8_readPrint_35 : decode cX8_readPrint 35 = .ok (.getfield 221, 3) := by decide +kernel
theorem dX8_readPrint_38 : decode cX8_readPrint 38 = .ok (.iload_n 1, 1) := by decide +kernel
theorem dX8_readPrint_39 : decode cX8_readPrint 39 = .ok (.aload_n 0, 1) := by decide +kernel
theorem dX8_readPrint_40 : decode cX8_readPrint 40 = .ok (.iconst 5, 1) := by decide +kernel
theorem dX8_readPrint_41 : decode cX8_readPrint 41 = .ok (.invokevirtual 194, 3) := by decide +kernel
theorem dX8_readPrint_44 : decode cX8_readPrint 44 = .ok (.iastore, 1) := by decide +kernel
theorem dX8_readPrint_45 : decode cX8_readPrint 45 = .ok (.aload_n 0, 1) := by decide +kernel
theorem dX8_readPrint_46 : decode cX8_readPrint 46 = .ok (.getfield 78, 3) := by decide +kernel
theorem dX8_readPrint_49 : decode cX8_readPrint 49 = .ok (.ifCond .eq 5, 3) := by decide +kernel
theorem dX8_readPrint_52 : decode cX8_readPrint 52 = .ok (.iconst 0, 1) := by decide +kernel
theorem dX8_readPrint_53 : decode cX8_readPrint 53 = .ok (.ireturn, 1) := by decide +kernel
theorem dX8_readPrint_54 : decode cX8_readPrint 54 = .ok (.aload_n 0, 1) := by decide +kernel
theorem dX8_readPrint_55 : decode cX8_readPrint 55 = .ok (.getfield 44, 3) := by decide +kernel
theorem dX8_readPrint_58 : decode cX8_readPrint 58 = .ok (.getfield 224, 3) := by decide +kernel
theorem dX8_readPrint_61 : decode cX8_readPrint 61 = .ok (.iload_n 1, 1) := by decide +kernel
theorem dX8_readPrint_62 : decode cX8_readPrint 62 = .ok (.aload_n 0, 1) := by decide +kernel
theorem dX8_readPrint_63 : decode cX8_readPrint 63 = .ok (.aload_n 0, 1) := by decide +kernel
theorem dX8_readPrint_64 : decode cX8_readPrint 64 = .ok (.getfield 18, 3) := by decide +kernel
theorem dX8_readPrint_67 : decode cX8_readPrint 67 = .ok (.invokevirtual 185, 3) := by decide +kernel
theorem dX8_readPrint_70 : decode cX8_readPrint 70 = .ok (.iastore, 1) := by decide +kernel
theorem dX8_readPrint_71 : decode cX8_readPrint 71 = .ok (.aload_n 0, 1) := by decide +kernel
theorem dX8_readPrint_72 : decode cX8_readPrint 72 = .ok (.getfield 44, 3) := by decide +kernel
theorem dX8_readPrint_75 : decode cX8_readPrint 75 = .ok (.dup, 1) := by decide +kernel
theorem dX8_readPrint_76 : decode cX8_readPrint 76 = .ok (.getfield 148, 3) := by decide +kernel
theorem dX8_readPrint_79 : decode cX8_readPrint 79 = .ok (.iconst 1, 1) := by decide +kernel
theorem dX8_readPrint_80 : decode cX8_readPrint 80 = .ok (.iadd, 1) := by decide +kernel
theorem dX8_readPrint_81 : decode cX8_readPrint 81 = .ok (.putfield 148, 3) := by decide +kernel
theorem dX8_readPrint_84 : decode cX8_readPrint 84 = .ok (.aload_n 0, 1) := by decide +kernel
theorem dX8_readPrint_85 : decode cX8_readPrint 85 = .ok (.getfield 78, 3) := by decide +kernel
theorem dX8_readPrint_88 : decode cX8_readPrint 88 = .ok (.ifCond .ne 7, 3) := by decide +kernel
theorem dX8_readPrint_91 : decode cX8_readPrint 91 = .ok (.iconst 1, 1) := by decide +kernel
theorem dX8_readPrint_92 : decode cX8_readPrint 92 = .ok (.goto 4, 3) := by decide +kernel
theorem dX8_readPrint_95 : decode cX8_readPrint 95 = .ok (.iconst 0, 1) := by decide +kernel
theorem dX8_readPrint_96 : decode cX8_readPrint 96 = .ok (.ireturn, 1) := by decide +kernel
theorem dX8_takeMarks_0 : decode cX8_takeMarks 0 = .ok (.iconst 0, 1) := by decide +kernel
theorem dX8_takeMarks_1 : decode cX8_takeMarks 1 = .ok (.istore_n 1, 1) := by decide +kernel
theorem dX8_takeMarks_2 : decode cX8_takeMarks 2 = .ok (.iconst 0, 1) := by decide +kernel
theorem dX8_takeMarks_3 : decode cX8_takeMarks 3 = .ok (.istore_n 2, 1) := by decide +kernel
theorem dX8_takeMarks_4 : decode cX8_takeMarks 4 = .ok (.iload_n 2, 1) := by decide +kernel
theorem dX8_takeMarks_5 : decode cX8_takeMarks 5 = .ok (.iconst 5, 1) := by decide +kernel
theorem dX8_takeMarks_6 : decode cX8_takeMarks 6 = .ok (.if_icmp .gt 68, 3) := by decide +kernel
theorem dX8_takeMarks_9 : decode cX8_takeMarks 9 = .ok (.aload_n 0, 1) := by decide +kernel
theorem dX8_takeMarks_10 : decode cX8_takeMarks 10 = .ok (.getfield 48, 3) := by decide +kernel
theorem dX8_takeMarks_13 : decode cX8_takeMarks 13 = .ok (.getfield 92, 3) := by decide +kernel
theorem dX8_takeMarks_16 : decode cX8_takeMarks 16 = .ok (.iconst 4, 1) := by decide +kernel
theorem dX8_takeMarks_17 : decode cX8_takeMarks 17 = .ok (.if_icmp .ne 57, 3) := by decide +kernel
theorem dX8_takeMarks_20 : decode cX8_takeMarks 20 = .ok (.aload_n 0, 1) := by decide +kernel
theorem dX8_takeMarks_21 : decode cX8_takeMarks 21 = .ok (.getfield 48, 3) := by decide +kernel
theorem dX8_takeMarks_24 : decode cX8_takeMarks 24 = .ok (.invokevirtual 99, 3) := by decide +kernel
theorem dX8_takeMarks_27 : decode cX8_takeMarks 27 = .ok (.aload_n 0, 1) := by decide +kernel
theorem dX8_takeMarks_28 : decode cX8_takeMarks 28 = .ok (.iconst 1, 1) := by decide +kernel
theorem dX8_takeMarks_29 : decode cX8_takeMarks 29 = .ok (.invokevirtual 212, 3) := by decide +kernel
theorem dX8_takeMarks_32 : decode cX8_takeMarks 32 = .ok (.istore_n 3, 1) := by decide +kernel
theorem dX8_takeMarks_33 : decode cX8_takeMarks 33 = .ok (.iload_n 3, 1) := by decide +kernel
theorem dX8_takeMarks_34 : decode cX8_takeMarks 34 = .ok (.ifCond .ge 5, 3) := by decide +kernel
theorem dX8_takeMarks_37 : decode cX8_takeMarks 37 = .ok (.iconst 0, 1) := by decide +kernel
theorem dX8_takeMarks_38 : decode cX8_takeMarks 38 = .ok (.ireturn, 1) := by decide +kernel
theorem dX8_takeMarks_39 : decode cX8_takeMarks 39 = .ok (.iload_n 1, 1) := by decide +kernel
theorem dX8_takeMarks_40 : decode cX8_takeMarks 40 = .ok (.iload_n 3, 1) := by decide +kernel
theorem dX8_takeMarks_41 : decode cX8_takeMarks 41 = .ok (.invokestatic 227, 3) := by decide +kernel
theorem dX8_takeMarks_44 : decode cX8_takeMarks 44 = .ok (.ifCond .eq 11, 3) := by decide +kernel
theorem dX8_takeMarks_47 : decode cX8_takeMarks 47 = .ok (.aload_n 0, 1) := by decide +kernel
theorem dX8_takeMarks_48 : decode cX8_takeMarks 48 = .ok (.iconst 3, 1) := by decide +kernel
theorem dX8_takeMarks_49 : decode cX8_takeMarks 49 = .ok (.invokevirtual 95, 3) := by decide +kernel
theorem dX8_takeMarks_52 : decode cX8_takeMarks 52 = .ok (.pop, 1) := by decide +kernel
theorem dX8_takeMarks_53 : decode cX8_takeMarks 53 = .ok (.iconst 0, 1) := by decide +kernel
theorem dX8_takeMarks_54 : decode cX8_takeMarks 54 = .ok (.ireturn, 1) := by decide +kernel
theorem dX8_takeMarks_55 : decode cX8_takeMarks 55 = .ok (.iload_n 1, 1) := by decide +kernel
theorem dX8_takeMarks_56 : decode cX8_takeMarks 56 = .ok (.iconst 1, 1) := by decide +kernel
theorem dX8_takeMarks_57 : decode cX8_takeMarks 57 = .ok (.iload_n 3, 1) := by decide +kernel
theorem dX8_takeMarks_58 : decode cX8_takeMarks 58 = .ok (.ishl, 1) := by decide +kernel
theorem dX8_takeMarks_59 : decode cX8_takeMarks 59 = .ok (.ior, 1) := by decide +kernel
theorem dX8_takeMarks_60 : decode cX8_takeMarks 60 = .ok (.istore_n 1, 1) := by decide +kernel
theorem dX8_takeMarks_61 : decode cX8_takeMarks 61 = .ok (.aload_n 0, 1) := by decide +kernel
theorem dX8_takeMarks_62 : decode cX8_takeMarks 62 = .ok (.getfield 48, 3) := by decide +kernel
theorem dX8_takeMarks_65 : decode cX8_takeMarks 65 = .ok (.invokevirtual 99, 3) := by decide +kernel
theorem dX8_takeMarks_68 : decode cX8_takeMarks 68 = .ok (.iinc 2 1, 3) := by decide +kernel
theorem dX8_takeMarks_71 : decode cX8_takeMarks 71 = .ok (.goto (-67), 3) := by decide +kernel
theorem dX8_takeMarks_74 : decode cX8_takeMarks 74 = .ok (.iload_n 1, 1) := by decide +kernel
theorem dX8_takeMarks_75 : decode cX8_takeMarks 75 = .ok (.ireturn, 1) := by decide +kernel
theorem dX8_takeFiller_0 : decode cX8_takeFiller 0 = .ok (.aload_n 0, 1) := by decide +kernel
theorem dX8_takeFiller_1 : decode cX8_takeFiller 1 = .ok (.getfield 48, 3) := by decide +kernel
theorem dX8_takeFiller_4 : decode cX8_takeFiller 4 = .ok (.aload_n 0, 1) := by decide +kernel
theorem dX8_takeFiller_5 : decode cX8_takeFiller 5 = .ok (.getfield 15, 3) := by decide +kernel
theorem dX8_takeFiller_8 : decode cX8_takeFiller 8 = .ok (.invokevirtual 105, 3) := by decide +kernel
theorem dX8_takeFiller_11 : decode cX8_takeFiller 11 = .ok (.iload_n 1, 1) := by decide +kernel
theorem dX8_takeFiller_12 : decode cX8_takeFiller 12 = .ok (.if_icmp .eq 9, 3) := by decide +kernel
theorem dX8_takeFiller_15 : decode cX8_takeFiller 15 = .ok (.aload_n 0, 1) := by decide +kernel
theorem dX8_takeFiller_16 : decode cX8_takeFiller 16 = .ok (.iconst 1, 1) := by decide +kernel
theorem dX8_takeFiller_17 : decode cX8_takeFiller 17 = .ok (.invokevirtual 95, 3) := by decide +kernel
theorem dX8_takeFiller_20 : decode cX8_takeFiller 20 = .ok (.ireturn, 1) := by decide +kernel
theorem dX8_takeFiller_21 : decode cX8_takeFiller 21 = .ok (.aload_n 0, 1) := by decide +kernel
theorem dX8_takeFiller_22 : decode cX8_takeFiller 22 = .ok (.getfield 48, 3) := by decide +kernel
theorem dX8_takeFiller_25 : decode cX8_takeFiller 25 = .ok (.invokevirtual 99, 3) := by decide +kernel
theorem dX8_takeFiller_28 : decode cX8_takeFiller 28 = .ok (.iconst 1, 1) := by decide +kernel
theorem dX8_takeFiller_29 : decode cX8_takeFiller 29 = .ok (.ireturn, 1) := by decide +kernel
theorem dX8_takeChoice_0 : decode cX8_takeChoice 0 = .ok (.aload_n 0, 1) := by decide +kernel
theorem dX8_takeChoice_1 : decode cX8_takeChoice 1 = .ok (.getfield 48, 3) := by decide +kernel
theorem dX8_takeChoice_4 : decode cX8_takeChoice 4 = .ok (.aload_n 1, 1) := by decide +kernel
theorem dX8_takeChoice_5 : decode cX8_takeChoice 5 = .ok (.invokevirtual 105, 3) := by decide +kernel
theorem dX8_takeChoice_8 : decode cX8_takeChoice 8 = .ok (.istore_n 2, 1) := by decide +kernel
theorem dX8_takeChoice_9 : decode cX8_takeChoice 9 = .ok (.iload_n 2, 1) := by decide +kernel
theorem dX8_takeChoice_10 : decode cX8_takeChoice 10 = .ok (.ifCond .ge 11, 3) := by decide +kernel
theorem dX8_takeChoice_13 : decode cX8_takeChoice 13 = .ok (.aload_n 0, 1) := by decide +kernel
theorem dX8_takeChoice_14 : decode cX8_takeChoice 14 = .ok (.iconst 1, 1) := by decide +kernel
theorem dX8_takeChoice_15 : decode cX8_takeChoice 15 = .ok (.invokevirtual 95, 3) := by decide +kernel
theorem dX8_takeChoice_18 : decode cX8_takeChoice 18 = .ok (.pop, 1) := by decide +kernel
theorem dX8_takeChoice_19 : decode cX8_takeChoice 19 = .ok (.iconst (-1), 1) := by decide +kernel
theorem dX8_takeChoice_20 : decode cX8_takeChoice 20 = .ok (.ireturn, 1) := by decide +kernel
theorem dX8_takeChoice_21 : decode cX8_takeChoice 21 = .ok (.aload_n 0, 1) := by decide +kernel
theorem dX8_takeChoice_22 : decode cX8_takeChoice 22 = .ok (.getfield 48, 3) := by decide +kernel
theorem dX8_takeChoice_25 : decode cX8_takeChoice 25 = .ok (.invokevirtual 99, 3) := by decide +kernel
theorem dX8_takeChoice_28 : decode cX8_takeChoice 28 = .ok (.iload_n 2, 1) := by decide +kernel
theorem dX8_takeChoice_29 : decode cX8_takeChoice 29 = .ok (.ireturn, 1) := by decide +kernel
theorem dX8_takeWhole_0 : decode cX8_takeWhole 0 = .ok (.aload_n 0, 1) := by decide +kernel
theorem dX8_takeWhole_1 : decode cX8_takeWhole 1 = .ok (.getfield 48, 3) := by decide +kernel
theorem dX8_takeWhole_4 : decode cX8_takeWhole 4 = .ok (.getfield 92, 3) := by decide +kernel
theorem dX8_takeWhole_7 : decode cX8_takeWhole 7 = .ok (.iconst 2, 1) := by decide +kernel
theorem dX8_takeWhole_8 : decode cX8_takeWhole 8 = .ok (.if_icmp .eq 11, 3) := by decide +kernel
theorem dX8_takeWhole_11 : decode cX8_takeWhole 11 = .ok (.aload_n 0, 1) := by decide +kernel
theorem dX8_takeWhole_12 : decode cX8_takeWhole 12 = .ok (.iconst 1, 1) := by decide +kernel
theorem dX8_takeWhole_13 : decode cX8_takeWhole 13 = .ok (.invokevirtual 95, 3) := by decide +kernel
theorem dX8_takeWhole_16 : decode cX8_takeWhole 16 = .ok (.pop, 1) := by decide +kernel
theorem dX8_takeWhole_17 : decode cX8_takeWhole 17 = .ok (.iconst 0, 1) := by decide +kernel
theorem dX8_takeWhole_18 : decode cX8_takeWhole 18 = .ok (.ireturn, 1) := by decide +kernel
theorem dX8_takeWhole_19 : decode cX8_takeWhole 19 = .ok (.aload_n 0, 1) := by decide +kernel
theorem dX8_takeWhole_20 : decode cX8_takeWhole 20 = .ok (.getfield 48, 3) := by decide +kernel
theorem dX8_takeWhole_23 : decode cX8_takeWhole 23 = .ok (.invokevirtual 230, 3) := by decide +kernel
theorem dX8_takeWhole_26 : decode cX8_takeWhole 26 = .ok (.istore_n 2, 1) := by decide +kernel
theorem dX8_takeWhole_27 : decode cX8_takeWhole 27 = .ok (.iload_n 2, 1) := by decide +kernel
theorem dX8_takeWhole_28 : decode cX8_takeWhole 28 = .ok (.iload_n 1, 1) := by decide +kernel
theorem dX8_takeWhole_29 : decode cX8_takeWhole 29 = .ok (.if_icmp .le 11, 3) := by decide +kernel
theorem dX8_takeWhole_32 : decode cX8_takeWhole 32 = .ok (.aload_n 0, 1) := by decide +kernel
theorem dX8_takeWhole_33 : decode cX8_takeWhole 33 = .ok (.iconst 4, 1) := by decide +kernel
theorem dX8_takeWhole_34 : decode cX8_takeWhole 34 = .ok (.invokevirtual 95, 3) := by decide +kernel
theorem dX8_takeWhole_37 : decode cX8_takeWhole 37 = .ok (.pop, 1) := by decide +kernel
theorem dX8_takeWhole_38 : decode cX8_takeWhole 38 = .ok (.iconst 0, 1) := by decide +kernel
theorem dX8_takeWhole_39 : decode cX8_takeWhole 39 = .ok (.ireturn, 1) := by decide +kernel
theorem dX8_takeWhole_40 : decode cX8_takeWhole 40 = .ok (.aload_n 0, 1) := by decide +kernel
theorem dX8_takeWhole_41 : decode cX8_takeWhole 41 = .ok (.getfield 48, 3) := by decide +kernel
theorem dX8_takeWhole_44 : decode cX8_takeWhole 44 = .ok (.invokevirtual 99, 3) := by decide +kernel
theorem dX8_takeWhole_47 : decode cX8_takeWhole 47 = .ok (.iload_n 2, 1) := by decide +kernel
theorem dX8_takeWhole_48 : decode cX8_takeWhole 48 = .ok (.ireturn, 1) := by decide +kernel
theorem dX8_takeNewName_0 : decode cX8_takeNewName 0 = .ok (.aload_n 0, 1) := by decide +kernel
theorem dX8_takeNewName_1 : decode cX8_takeNewName 1 = .ok (.getfield 48, 3) := by decide +kernel
theorem dX8_takeNewName_4 : decode cX8_takeNewName 4 = .ok (.getfield 92, 3) := by decide +kernel
theorem dX8_takeNewName_7 : decode cX8_takeNewName 7 = .ok (.iconst 1, 1) := by decide +kernel
theorem dX8_takeNewName_8 : decode cX8_takeNewName 8 = .ok (.if_icmp .ne 17, 3) := by decide +kernel
theorem dX8_takeNewName_11 : decode cX8_takeNewName 11 = .ok (.aload_n 0, 1) := by decide +kernel
theorem dX8_takeNewName_12 : decode cX8_takeNewName 12 = .ok (.getfield 48, 3) := by decide +kernel
theorem dX8_takeNewName_15 : decode cX8_takeNewName 15 = .ok (.aload_n 0, 1) := by decide +kernel
theorem dX8_takeNewName_16 : decode cX8_takeNewName 16 = .ok (.getfield 9, 3) := by decide +kernel
theorem dX8_takeNewName_19 : decode cX8_takeNewName 19 = .ok (.invokevirtual 105, 3) := by decide +kernel
theorem dX8_takeNewName_22 : decode cX8_takeNewName 22 = .ok (.ifCond .lt 9, 3) := by decide +kernel
theorem dX8_takeNewName_25 : decode cX8_takeNewName 25 = .ok (.aload_n 0, 1) := by decide +kernel
theorem dX8_takeNewName_26 : decode cX8_takeNewName 26 = .ok (.iconst 1, 1) := by decide +kernel
theorem dX8_takeNewName_27 : decode cX8_takeNewName 27 = .ok (.invokevirtual 95, 3) := by decide +kernel
theorem dX8_takeNewName_30 : decode cX8_takeNewName 30 = .ok (.ireturn, 1) := by decide +kernel
theorem dX8_takeNewName_31 : decode cX8_takeNewName 31 = .ok (.aload_n 0, 1) := by decide +kernel
theorem dX8_takeNewName_32 : decode cX8_takeNewName 32 = .ok (.invokevirtual 233, 3) := by decide +kernel
theorem dX8_takeNewName_35 : decode cX8_takeNewName 35 = .ok (.ifCond .ge 12, 3) := by decide +kernel
theorem dX8_takeNewName_38 : decode cX8_takeNewName 38 = .ok (.aload_n 0, 1) := by decide +kernel
theorem dX8_takeNewName_39 : decode cX8_takeNewName 39 = .ok (.getfield 70, 3) := by decide +kernel
theorem dX8_takeNewName_42 : decode cX8_takeNewName 42 = .ok (.bipush 17, 2) := by decide +kernel
theorem dX8_takeNewName_44 : decode cX8_takeNewName 44 = .ok (.if_icmp .lt 9, 3) := by decide +kernel
theorem dX8_takeNewName_47 : decode cX8_takeNewName 47 = .ok (.aload_n 0, 1) := by decide +kernel
theorem dX8_takeNewName_48 : decode cX8_takeNewName 48 = .ok (.iconst 3, 1) := by decide +kernel
theorem dX8_takeNewName_49 : decode cX8_takeNewName 49 = .ok (.invokevirtual 95, 3) := by decide +kernel
theorem dX8_takeNewName_52 : decode cX8_takeNewName 52 = .ok (.ireturn, 1) := by decide +kernel
theorem dX8_takeNewName_53 : decode cX8_takeNewName 53 = .ok (.aload_n 0, 1) := by decide +kernel
theorem dX8_takeNewName_54 : decode cX8_takeNewName 54 = .ok (.getfield 31, 3) := by decide +kernel
theorem dX8_takeNewName_57 : decode cX8_takeNewName 57 = .ok (.aload_n 0, 1) := by decide +kernel
theorem dX8_takeNewName_58 : decode cX8_takeNewName 58 = .ok (.getfield 70, 3) := by decide +kernel
theorem dX8_takeNewName_61 : decode cX8_takeNewName 61 = .ok (.aload_n 0, 1) := by decide +kernel
theorem dX8_takeNewName_62 : decode cX8_takeNewName 62 = .ok (.getfield 48, 3) := by decide +kernel
theorem dX8_takeNewName_65 : decode cX8_takeNewName 65 = .ok (.getfield 236, 3) := by decide +kernel
theorem dX8_takeNewName_68 : decode cX8_takeNewName 68 = .ok (.lastore, 1) := by decide +kernel
theorem dX8_takeNewName_69 : decode cX8_takeNewName 69 = .ok (.aload_n 0, 1) := by decide +kernel
theorem dX8_takeNewName_70 : decode cX8_takeNewName 70 = .ok (.getfield 34, 3) := by decide +kernel
theorem dX8_takeNewName_73 : decode cX8_takeNewName 73 = .ok (.aload_n 0, 1) := by decide +kernel
theorem dX8_takeNewName_74 : decode cX8_takeNewName 74 = .ok (.getfield 70, 3) := by decide +kernel
theorem dX8_takeNewName_77 : decode cX8_takeNewName 77 = .ok (.iload_n 1, 1) := by decide +kernel
theorem dX8_takeNewName_78 : decode cX8_takeNewName 78 = .ok (.iastore, 1) := by decide +kernel
theorem dX8_takeNewName_79 : decode cX8_takeNewName 79 = .ok (.aload_n 0, 1) := by decide +kernel
theorem dX8_takeNewName_80 : decode cX8_takeNewName 80 = .ok (.getfield 38, 3) := by decide +kernel
theorem dX8_takeNewName_83 : decode cX8_takeNewName 83 = .ok (.aload_n 0, 1) := by decide +kernel
theorem dX8_takeNewName_84 : decode cX8_takeNewName 84 = .ok (.getfield 70, 3) := by decide +kernel
theorem dX8_takeNewName_87 : decode cX8_takeNewName 87 = .ok (.iload_n 2, 1) := by decide +kernel
theorem dX8_takeNewName_88 : decode cX8_takeNewName 88 = .ok (.iastore, 1) := by decide +kernel
theorem dX8_takeNewName_89 : decode cX8_takeNewName 89 = .ok (.aload_n 0, 1) := by decide +kernel
theorem dX8_takeNewName_90 : decode cX8_takeNewName 90 = .ok (.dup, 1) := by decide +kernel
theorem dX8_takeNewName_91 : decode cX8_takeNewName 91 = .ok (.getfield 70, 3) := by decide +kernel
theorem dX8_takeNewName_94 : decode cX8_takeNewName 94 = .ok (.iconst 1, 1) := by decide +kernel
theorem dX8_takeNewName_95 : decode cX8_takeNewName 95 = .ok (.iadd, 1) := by decide +kernel
theorem dX8_takeNewName_96 : decode cX8_takeNewName 96 = .ok (.putfield 70, 3) := by decide +kernel
theorem dX8_takeNewName_99 : decode cX8_takeNewName 99 = .ok (.aload_n 0, 1) := by decide +kernel
theorem dX8_takeNewName_100 : decode cX8_takeNewName 100 = .ok (.getfield 48, 3) := by decide +kernel
theorem dX8_takeNewName_103 : decode cX8_takeNewName 103 = .ok (.invokevirtual 99, 3) := by decide +kernel
theorem dX8_takeNewName_106 : decode cX8_takeNewName 106 = .ok (.iconst 1, 1) := by decide +kernel
theorem dX8_takeNewName_107 : decode cX8_takeNewName 107 = .ok (.ireturn, 1) := by decide +kernel
theorem dX8_takeOldName_0 : decode cX8_takeOldName 0 = .ok (.aload_n 0, 1) := by decide +kernel
theorem dX8_takeOldName_1 : decode cX8_takeOldName 1 = .ok (.iload_n 1, 1) := by decide +kernel
theorem dX8_takeOldName_2 : decode cX8_takeOldName 2 = .ok (.invokevirtual 212, 3) := by decide +kernel
theorem dX8_takeOldName_5 : decode cX8_takeOldName 5 = .ok (.istore_n 2, 1) := by decide +kernel
theorem dX8_takeOldName_6 : decode cX8_takeOldName 6 = .ok (.iload_n 2, 1) := by decide +kernel
theorem dX8_takeOldName_7 : decode cX8_takeOldName 7 = .ok (.ifCond .lt 10, 3) := by decide +kernel
theorem dX8_takeOldName_10 : decode cX8_takeOldName 10 = .ok (.aload_n 0, 1) := by decide +kernel
theorem dX8_takeOldName_11 : decode cX8_takeOldName 11 = .ok (.getfield 48, 3) := by decide +kernel
theorem dX8_takeOldName_14 : decode cX8_takeOldName 14 = .ok (.invokevirtual 99, 3) := by decide +kernel
theorem dX8_takeOldName_17 : decode cX8_takeOldName 17 = .ok (.iload_n 2, 1) := by decide +kernel
theorem dX8_takeOldName_18 : decode cX8_takeOldName 18 = .ok (.ireturn, 1) := by decide +kernel
theorem dX8_findOldName_0 : decode cX8_findOldName 0 = .ok (.aload_n 0, 1) := by decide +kernel
theorem dX8_findOldName_1 : decode cX8_findOldName 1 = .ok (.getfield 48, 3) := by decide +kernel
theorem dX8_findOldName_4 : decode cX8_findOldName 4 = .ok (.getfield 92, 3) := by decide +kernel
theorem dX8_findOldName_7 : decode cX8_findOldName 7 = .ok (.iconst 1, 1) := by decide +kernel
theorem dX8_findOldName_8 : decode cX8_findOldName 8 = .ok (.if_icmp .ne 17, 3) := by decide +kernel
theorem dX8_findOldName_11 : decode cX8_findOldName 11 = .ok (.aload_n 0, 1) := by decide +kernel
theorem dX8_findOldName_12 : decode cX8_findOldName 12 = .ok (.getfield 48, 3) := by decide +kernel
theorem dX8_findOldName_15 : decode cX8_findOldName 15 = .ok (.aload_n 0, 1) := by decide +kernel
theorem dX8_findOldName_16 : decode cX8_findOldName 16 = .ok (.getfield 9, 3) := by decide +kernel
theorem dX8_findOldName_19 : decode cX8_findOldName 19 = .ok (.invokevirtual 105, 3) := by decide +kernel
theorem dX8_findOldName_22 : decode cX8_findOldName 22 = .ok (.ifCond .lt 11, 3) := by decide +kernel
theorem dX8_findOldName_25 : decode cX8_findOldName 25 = .ok (.aload_n 0, 1) := by decide +kernel
theorem dX8_findOldName_26 : decode cX8_findOldName 26 = .ok (.iconst 1, 1) := by decide +kernel
theorem dX8_findOldName_27 : decode cX8_findOldName 27 = .ok (.invokevirtual 95, 3) := by decide +kernel
theorem dX8_findOldName_30 : decode cX8_findOldName 30 = .ok (.pop, 1) := by decide +kernel
theorem dX8_findOldName_31 : decode cX8_findOldName 31 = .ok (.iconst (-1), 1) := by decide +kernel
theorem dX8_findOldName_32 : decode cX8_findOldName 32 = .ok (.ireturn, 1) := by decide +kernel
theorem dX8_findOldName_33 : decode cX8_findOldName 33 = .ok (.aload_n 0, 1) := by decide +kernel
theorem dX8_findOldName_34 : decode cX8_findOldName 34 = .ok (.invokevirtual 233, 3) := by decide +kernel
theorem dX8_findOldName_37 : decode cX8_findOldName 37 = .ok (.istore_n 2, 1) := by decide +kernel
theorem dX8_findOldName_38 : decode cX8_findOldName 38 = .ok (.iload_n 2, 1) := by decide +kernel
theorem dX8_findOldName_39 : decode cX8_findOldName 39 = .ok (.ifCond .lt 13, 3) := by decide +kernel
theorem dX8_findOldName_42 : decode cX8_findOldName 42 = .ok (.aload_n 0, 1) := by decide +kernel
theorem dX8_findOldName_43 : decode cX8_findOldName 43 = .ok (.getfield 34, 3) := by decide +kernel
theorem dX8_findOldName_46 : decode cX8_findOldName 46 = .ok (.iload_n 2, 1) := by decide +kernel
theorem dX8_findOldName_47 : decode cX8_findOldName 47 = .ok (.iaload, 1) := by decide +kernel
theorem dX8_findOldName_48 : decode cX8_findOldName 48 = .ok (.iload_n 1, 1) := by decide +kernel
theorem dX8_findOldName_49 : decode cX8_findOldName 49 = .ok (.if_icmp .eq 11, 3) := by decide +kernel
theorem dX8_findOldName_52 : decode cX8_findOldName 52 = .ok (.aload_n 0, 1) := by decide +kernel
theorem dX8_findOldName_53 : decode cX8_findOldName 53 = .ok (.iconst 2, 1) := by decide +kernel
theorem dX8_findOldName_54 : decode cX8_findOldName 54 = .ok (.invokevirtual 95, 3) := by decide +kernel
theorem dX8_findOldName_57 : decode cX8_findOldName 57 = .ok (.pop, 1) := by decide +kernel
theorem dX8_findOldName_58 : decode cX8_findOldName 58 = .ok (.iconst (-1), 1) := by decide +kernel
theorem dX8_findOldName_59 : decode cX8_findOldName 59 = .ok (.ireturn, 1) := by decide +kernel
theorem dX8_findOldName_60 : decode cX8_findOldName 60 = .ok (.aload_n 0, 1) := by decide +kernel
theorem dX8_findOldName_61 : decode cX8_findOldName 61 = .ok (.getfield 38, 3) := by decide +kernel
theorem dX8_findOldName_64 : decode cX8_findOldName 64 = .ok (.iload_n 2, 1) := by decide +kernel
theorem dX8_findOldName_65 : decode cX8_findOldName 65 = .ok (.iaload, 1) := by decide +kernel
theorem dX8_findOldName_66 : decode cX8_findOldName 66 = .ok (.ireturn, 1) := by decide +kernel
theorem dX8_findName_0 : decode cX8_findName 0 = .ok (.iconst 0, 1) := by decide +kernel
theorem dX8_findName_1 : decode cX8_findName 1 = .ok (.istore_n 1, 1) := by decide +kernel
theorem dX8_findName_2 : decode cX8_findName 2 = .ok (.iload_n 1, 1) := by decide +kernel
theorem dX8_findName_3 : decode cX8_findName 3 = .ok (.aload_n 0, 1) := by decide +kernel
theorem dX8_findName_4 : decode cX8_findName 4 = .ok (.getfield 70, 3) := by decide +kernel
theorem dX8_findName_7 : decode cX8_findName 7 = .ok (.if_icmp .ge 28, 3) := by decide +kernel
theorem dX8_findName_10 : decode cX8_findName 10 = .ok (.aload_n 0, 1) := by decide +kernel
theorem dX8_findName_11 : decode cX8_findName 11 = .ok (.getfield 31, 3) := by decide +kernel
theorem dX8_findName_14 : decode cX8_findName 14 = .ok (.iload_n 1, 1) := by decide +kernel
theorem dX8_findName_15 : decode cX8_findName 15 = .ok (.laload, 1) := by decide +kernel
theorem dX8_findName_16 : decode cX8_findName 16 = .ok (.aload_n 0, 1) := by decide +kernel
theorem dX8_findName_17 : decode cX8_findName 17 = .ok (.getfield 48, 3) := by decide +kernel
theorem dX8_findName_20 : decode cX8_findName 20 = .ok (.getfield 236, 3) := by decide +kernel
theorem dX8_findName_23 : decode cX8_findName 23 = .ok (.lcmp, 1) := by decide +kernel
theorem dX8_findName_24 : decode cX8_findName 24 = .ok (.ifCond .ne 5, 3) := by decide +kernel
theorem dX8_findName_27 : decode cX8_findName 27 = .ok (.iload_n 1, 1) := by decide +kernel
theorem dX8_findName_28 : decode cX8_findName 28 = .ok (.ireturn, 1) := by decide +kernel
theorem dX8_findName_29 : decode cX8_findName 29 = .ok (.iinc 1 1, 3) := by decide +kernel
theorem dX8_findName_32 : decode cX8_findName 32 = .ok (.goto (-30), 3) := by decide +kernel
theorem dX8_findName_35 : decode cX8_findName 35 = .ok (.iconst (-1), 1) := by decide +kernel
theorem dX8_findName_36 : decode cX8_findName 36 = .ok (.ireturn, 1) := by decide +kernel
theorem dX8_fail_0 : decode cX8_fail 0 = .ok (.aload_n 0, 1) := by decide +kernel
theorem dX8_fail_1 : decode cX8_fail 1 = .ok (.iload_n 1, 1) := by decide +kernel
theorem dX8_fail_2 : decode cX8_fail 2 = .ok (.putfield 78, 3) := by decide +kernel
theorem dX8_fail_5 : decode cX8_fail 5 = .ok (.aload_n 0, 1) := by decide +kernel
theorem dX8_fail_6 : decode cX8_fail 6 = .ok (.aload_n 0, 1) := by decide +kernel
theorem dX8_fail_7 : decode cX8_fail 7 = .ok (.getfield 48, 3) := by decide +kernel
theorem dX8_fail_10 : decode cX8_fail 10 = .ok (.getfield 240, 3) := by decide +kernel
theorem dX8_fail_13 : decode cX8_fail 13 = .ok (.putfield 81, 3) := by decide +kernel
theorem dX8_fail_16 : decode cX8_fail 16 = .ok (.iconst 0, 1) := by decide +kernel
theorem dX8_fail_17 : decode cX8_fail 17 = .ok (.ireturn, 1) := by decide +kernel
theorem dX9_init_0 : decode cX9_init 0 = .ok (.aload_n 0, 1) := by decide +kernel
theorem dX9_init_1 : decode cX9_init 1 = .ok (.invokespecial 3, 3) := by decide +kernel
theorem dX9_init_4 : decode cX9_init 4 = .ok (.aload_n 0, 1) := by decide +kernel
theorem dX9_init_5 : decode cX9_init 5 = .ok (.aload_n 1, 1) := by decide +kernel
theorem dX9_init_6 : decode cX9_init 6 = .ok (.putfield 9, 3) := by decide +kernel
theorem dX9_init_9 : decode cX9_init 9 = .ok (.return_, 1) := by decide +kernel
theorem dX9_weight_0 : decode cX9_weight 0 = .ok (.lconst 1, 1) := by decide +kernel
theorem dX9_weight_1 : decode cX9_weight 1 = .ok (.lstore_n 2, 1) := by decide +kernel
theorem dX9_weight_2 : decode cX9_weight 2 = .ok (.iconst 0, 1) := by decide +kernel
theorem dX9_weight_3 : decode cX9_weight 3 = .ok (.istore 4, 2) := by decide +kernel
theorem dX9_weight_5 : decode cX9_weight 5 = .ok (.iload 4, 2) := by decide +kernel
theorem dX9_weight_7 : decode cX9_weight 7 = .ok (.aload_n 0, 1) := by decide +kernel
theorem dX9_weight_8 : decode cX9_weight 8 = .ok (.getfield 9, 3) := by decide +kernel
theorem dX9_weight_11 : decode cX9_weight 11 = .ok (.getfield 15, 3) := by decide +kernel
theorem dX9_weight_14 : decode cX9_weight 14 = .ok (.getfield 21, 3) := by decide +kernel
theorem dX9_weight_17 : decode cX9_weight 17 = .ok (.if_icmp .ge 71, 3) := by decide +kernel
theorem dX9_weight_20 : decode cX9_weight 20 = .ok (.aload_n 0, 1) := by decide +kernel
theorem dX9_weight_21 : decode cX9_weight 21 = .ok (.getfield 9, 3) := by decide +kernel
theorem dX9_weight_24 : decode cX9_weight 24 = .ok (.iload_n 1, 1) := by decide +kernel
theorem dX9_weight_25 : decode cX9_weight 25 = .ok (.aload_n 0, 1) := by decide +kernel
theorem dX9_weight_26 : decode cX9_weight 26 = .ok (.getfield 9, 3) := by decide +kernel
theorem dX9_weight_29 : decode cX9_weight 29 = .ok (.getfield 15, 3) := by decide +kernel
theorem dX9_weight_32 : decode cX9_weight 32 = .ok (.getfield 27, 3) := by decide +kernel
theorem dX9_weight_35 : decode cX9_weight 35 = .ok (.iload 4, 2) := by decide +kernel
theorem dX9_weight_37 : decode cX9_weight 37 = .ok (.iaload, 1) := by decide +kernel
theorem dX9_weight_38 : decode cX9_weight 38 = .ok (.invokevirtual 31, 3) := by decide +kernel
theorem dX9_weight_41 : decode cX9_weight 41 = .ok (.istore 5, 2) := by decide +kernel
theorem dX9_weight_43 : decode cX9_weight 43 = .ok (.lload_n 2, 1) := by decide +kernel
theorem dX9_weight_44 : decode cX9_weight 44 = .ok (.aload_n 0, 1) := by decide +kernel
theorem dX9_weight_45 : decode cX9_weight 45 = .ok (.getfield 9, 3) := by decide +kernel
theorem dX9_weight_48 : decode cX9_weight 48 = .ok (.aload_n 0, 1) := by decide +kernel
theorem dX9_weight_49 : decode cX9_weight 49 = .ok (.getfield 9, 3) := by decide +kernel
theorem dX9_weight_52 : decode cX9_weight 52 = .ok (.getfield 15, 3) := by decide +kernel
theorem dX9_weight_55 : decode cX9_weight 55 = .ok (.getfield 35, 3) := by decide +kernel
theorem dX9_weight_58 : decode cX9_weight 58 = .ok (.iload 4, 2) := by decide +kernel
theorem dX9_weight_60 : decode cX9_weight 60 = .ok (.iaload, 1) := by decide +kernel
theorem dX9_weight_61 : decode cX9_weight 61 = .ok (.iload 5, 2) := by decide +kernel
theorem dX9_weight_63 : decode cX9_weight 63 = .ok (.aload_n 0, 1) := by decide +kernel
theorem dX9_weight_64 : decode cX9_weight 64 = .ok (.getfield 9, 3) := by decide +kernel
theorem dX9_weight_67 : decode cX9_weight 67 = .ok (.getfield 15, 3) := by decide +kernel
theorem dX9_weight_70 : decode cX9_weight 70 = .ok (.getfield 38, 3) := by decide +kernel
theorem dX9_weight_73 : decode cX9_weight 73 = .ok (.iload 4, 2) := by decide +kernel
theorem dX9_weight_75 : decode cX9_weight 75 = .ok (.iaload, 1) := by decide +kernel
theorem dX9_weight_76 : decode cX9_weight 76 = .ok (.invokevirtual 41, 3) := by decide +kernel
theorem dX9_weight_79 : decode cX9_weight 79 = .ok (.i2l, 1) := by decide +kernel
theorem dX9_weight_80 : decode cX9_weight 80 = .ok (.lmul, 1) := by decide +kernel
theorem dX9_weight_81 : decode cX9_weight 81 = .ok (.lstore_n 2, 1) := by decide +kernel
theorem dX9_weight_82 : decode cX9_weight 82 = .ok (.iinc 4 1, 3) := by decide +kernel
theorem dX9_weight_85 : decode cX9_weight 85 = .ok (.goto (-80), 3) := by decide +kernel
theorem dX9_weight_88 : decode cX9_weight 88 = .ok (.lload_n 2, 1) := by decide +kernel
theorem dX9_weight_89 : decode cX9_weight 89 = .ok (.lreturn, 1) := by decide +kernel
theorem dX9_allWeights_0 : decode cX9_allWeights 0 = .ok (.lconst 0, 1) := by decide +kernel
theorem dX9_allWeights_1 : decode cX9_allWeights 1 = .ok (.lstore_n 1, 1) := by decide +kernel
theorem dX9_allWeights_2 : decode cX9_allWeights 2 = .ok (.iconst 0, 1) := by decide +kernel
theorem dX9_allWeights_3 : decode cX9_allWeights 3 = .ok (.istore_n 3, 1) := by decide +kernel
theorem dX9_allWeights_4 : decode cX9_allWeights 4 = .ok (.iload_n 3, 1) := by decide +kernel
theorem dX9_allWeights_5 : decode cX9_allWeights 5 = .ok (.aload_n 0, 1) := by decide +kernel
theorem dX9_allWeights_6 : decode cX9_allWeights 6 = .ok (.getfield 9, 3) := by decide +kernel
theorem dX9_allWeights_9 : decode cX9_allWeights 9 = .ok (.getfield 15, 3) := by decide +kernel
theorem dX9_allWeights_12 : decode cX9_allWeights 12 = .ok (.getfield 45, 3) := by decide +kernel
theorem dX9_allWeights_15 : decode cX9_allWeights 15 = .ok (.if_icmp .ge 17, 3) := by decide +kernel
theorem dX9_allWeights_18 : decode cX9_allWeights 18 = .ok (.lload_n 1, 1) := by decide +kernel
theorem dX9_allWeights_19 : decode cX9_allWeights 19 = .ok (.aload_n 0, 1) := by decide +kernel
theorem dX9_allWeights_20 : decode cX9_allWeights 20 = .ok (.iload_n 3, 1) := by decide +kernel
theorem dX9_allWeights_21 : decode cX9_allWeights 21 = .ok (.invokevirtual 48, 3) := by decide +kernel
theorem dX9_allWeights_24 : decode cX9_allWeights 24 = .ok (.ladd, 1) := by decide +kernel
theorem dX9_allWeights_25 : decode cX9_allWeights 25 = .ok (.lstore_n 1, 1) := by decide +kernel
theorem dX9_allWeights_26 : decode cX9_allWeights 26 = .ok (.iinc 3 1, 3) := by decide +kernel
theorem dX9_allWeights_29 : decode cX9_allWeights 29 = .ok (.goto (-25), 3) := by decide +kernel
theorem dX9_allWeights_32 : decode cX9_allWeights 32 = .ok (.lload_n 1, 1) := by decide +kernel
theorem dX9_allWeights_33 : decode cX9_allWeights 33 = .ok (.lreturn, 1) := by decide +kernel
theorem dX9_weightOfPrint_0 : decode cX9_weightOfPrint 0 = .ok (.lconst 0, 1) := by decide +kernel
theorem dX9_weightOfPrint_1 : decode cX9_weightOfPrint 1 = .ok (.lstore 4, 2) := by decide +kernel
theorem dX9_weightOfPrint_3 : decode cX9_weightOfPrint 3 = .ok (.iconst 0, 1) := by decide +kernel
theorem dX9_weightOfPrint_4 : decode cX9_weightOfPrint 4 = .ok (.istore 6, 2) := by decide +kernel
theorem dX9_weightOfPrint_6 : decode cX9_weightOfPrint 6 = .ok (.iload 6, 2) := by decide +kernel
theorem dX9_weightOfPrint_8 : decode cX9_weightOfPrint 8 = .ok (.aload_n 0, 1) := by decide +kernel
theorem dX9_weightOfPrint_9 : decode cX9_weightOfPrint 9 = .ok (.getfield 9, 3) := by decide +kernel
theorem dX9_weightOfPrint_12 : decode cX9_weightOfPrint 12 = .ok (.getfield 15, 3) := by decide +kernel
theorem dX9_weightOfPrint_15 : decode cX9_weightOfPrint 15 = .ok (.getfield 45, 3) := by decide +kernel
theorem dX9_weightOfPrint_18 : decode cX9_weightOfPrint 18 = .ok (.if_icmp .ge 41, 3) := by decide +kernel
theorem dX9_weightOfPrint_21 : decode cX9_weightOfPrint 21 = .ok (.lload 4, 2) := by decide +kernel
theorem dX9_weightOfPrint_23 : decode cX9_weightOfPrint 23 = .ok (.aload_n 0, 1) := by decide +kernel
theorem dX9_weightOfPrint_24 : decode cX9_weightOfPrint 24 = .ok (.iload 6, 2) := by decide +kernel
theorem dX9_weightOfPrint_26 : decode cX9_weightOfPrint 26 = .ok (.invokevirtual 48, 3) := by decide +kernel
theorem dX9_weightOfPrint_29 : decode cX9_weightOfPrint 29 = .ok (.aload_n 0, 1) := by decide +kernel
theorem dX9_weightOfPrint_30 : decode cX9_weightOfPrint 30 = .ok (.getfield 9, 3) := by decide +kernel
theorem dX9_weightOfPrint_33 : decode cX9_weightOfPrint 33 = .ok (.iload_n 2, 1) := by decide +kernel
theorem dX9_weightOfPrint_34 : decode cX9_weightOfPrint 34 = .ok (.aload_n 0, 1) := by decide +kernel
theorem dX9_weightOfPrint_35 : decode cX9_weightOfPrint 35 = .ok (.getfield 9, 3) := by decide +kernel
theorem dX9_weightOfPrint_38 : decode cX9_weightOfPrint 38 = .ok (.iload 6, 2) := by decide +kernel
theorem dX9_weightOfPrint_40 : decode cX9_weightOfPrint 40 = .ok (.iload_n 1, 1) := by decide +kernel
theorem dX9_weightOfPrint_41 : decode cX9_weightOfPrint 41 = .ok (.invokevirtual 31, 3) := by decide +kernel
theorem dX9_weightOfPrint_44 : decode cX9_weightOfPrint 44 = .ok (.iload_n 3, 1) := by decide +kernel
theorem dX9_weightOfPrint_45 : decode cX9_weightOfPrint 45 = .ok (.invokevirtual 41, 3) := by decide +kernel
theorem dX9_weightOfPrint_48 : decode cX9_weightOfPrint 48 = .ok (.i2l, 1) := by decide +kernel
theorem dX9_weightOfPrint_49 : decode cX9_weightOfPrint 49 = .ok (.lmul, 1) := by decide +kernel
theorem dX9_weightOfPrint_50 : decode cX9_weightOfPrint 50 = .ok (.ladd, 1) := by decide +kernel
theorem dX9_weightOfPrint_51 : decode cX9_weightOfPrint 51 = .ok (.lstore 4, 2) := by decide +kernel
theorem dX9_weightOfPrint_53 : decode cX9_weightOfPrint 53 = .ok (.iinc 6 1, 3) := by decide +kernel
theorem dX9_weightOfPrint_56 : decode cX9_weightOfPrint 56 = .ok (.goto (-50), 3) := by decide +kernel
theorem dX9_weightOfPrint_59 : decode cX9_weightOfPrint 59 = .ok (.lload 4, 2) := by decide +kernel
theorem dX9_weightOfPrint_61 : decode cX9_weightOfPrint 61 = .ok (.lreturn, 1) := by decide +kernel
theorem dX9_heaviest_0 : decode cX9_heaviest 0 = .ok (.bipush (-2), 2) := by decide +kernel
theorem dX9_heaviest_2 : decode cX9_heaviest 2 = .ok (.istore_n 1, 1) := by decide +kernel
theorem dX9_heaviest_3 : decode cX9_heaviest 3 = .ok (.lconst 0, 1) := by decide +kernel
theorem dX9_heaviest_4 : decode cX9_heaviest 4 = .ok (.lstore_n 2, 1) := by decide +kernel
theorem dX9_heaviest_5 : decode cX9_heaviest 5 = .ok (.iconst 0, 1) := by decide +kernel
theorem dX9_heaviest_6 : decode cX9_heaviest 6 = .ok (.istore 4, 2) := by decide +kernel
theorem dX9_heaviest_8 : decode cX9_heaviest 8 = .ok (.iload 4, 2) := by decide +kernel
theorem dX9_heaviest_10 : decode cX9_heaviest 10 = .ok (.aload_n 0, 1) := by decide +kernel
theorem dX9_heaviest_11 : decode cX9_heaviest 11 = .ok (.getfield 9, 3) := by decide +kernel
theorem dX9_heaviest_14 : decode cX9_heaviest 14 = .ok (.getfield 15, 3) := by decide +kernel
theorem dX9_heaviest_17 : decode cX9_heaviest 17 = .ok (.getfield 45, 3) := by decide +kernel
theorem dX9_heaviest_20 : decode cX9_heaviest 20 = .ok (.if_icmp .ge 30, 3) := by decide +kernel
theorem dX9_heaviest_23 : decode cX9_heaviest 23 = .ok (.aload_n 0, 1) := by decide +kernel
theorem dX9_heaviest_24 : decode cX9_heaviest 24 = .ok (.iload 4, 2) := by decide +kernel
theorem dX9_heaviest_26 : decode cX9_heaviest 26 = .ok (.invokevirtual 48, 3) := by decide +kernel
theorem dX9_heaviest_29 : decode cX9_heaviest 29 = .ok (.lstore 5, 2) := by decide +kernel
theorem dX9_heaviest_31 : decode cX9_heaviest 31 = .ok (.lload 5, 2) := by decide +kernel
theorem dX9_heaviest_33 : decode cX9_heaviest 33 = .ok (.lload_n 2, 1) := by decide +kernel
theorem dX9_heaviest_34 : decode cX9_heaviest 34 = .ok (.lcmp, 1) := by decide +kernel
theorem dX9_heaviest_35 : decode cX9_heaviest 35 = .ok (.ifCond .le 9, 3) := by decide +kernel
theorem dX9_heaviest_38 : decode cX9_heaviest 38 = .ok (.lload 5, 2) := by decide +kernel
theorem dX9_heaviest_40 : decode cX9_heaviest 40 = .ok (.lstore_n 2, 1) := by decide +kernel
theorem dX9_heaviest_41 : decode cX9_heaviest 41 = .ok (.iload 4, 2) := by decide +kernel
theorem dX9_heaviest_43 : decode cX9_heaviest 43 = .ok (.istore_n 1, 1) := by decide +kernel
theorem dX9_heaviest_44 : decode cX9_heaviest 44 = .ok (.iinc 4 1, 3) := by decide +kernel
theorem dX9_heaviest_47 : decode cX9_heaviest 47 = .ok (.goto (-39), 3) := by decide +kernel
theorem dX9_heaviest_50 : decode cX9_heaviest 50 = .ok (.iload_n 1, 1) := by decide +kernel
theorem dX9_heaviest_51 : decode cX9_heaviest 51 = .ok (.ireturn, 1) := by decide +kernel
theorem dX9_lawCount_0 : decode cX9_lawCount 0 = .ok (.iconst 3, 1) := by decide +kernel
theorem dX9_lawCount_1 : decode cX9_lawCount 1 = .ok (.bipush 6, 2) := by decide +kernel
theorem dX9_lawCount_3 : decode cX9_lawCount 3 = .ok (.aload_n 0, 1) := by decide +kernel
theorem dX9_lawCount_4 : decode cX9_lawCount 4 = .ok (.getfield 9, 3) := by decide +kernel
theorem dX9_lawCount_7 : decode cX9_lawCount 7 = .ok (.getfield 15, 3) := by decide +kernel
theorem dX9_lawCount_10 : decode cX9_lawCount 10 = .ok (.getfield 52, 3) := by decide +kernel
theorem dX9_lawCount_13 : decode cX9_lawCount 13 = .ok (.imul, 1) := by decide +kernel
theorem dX9_lawCount_14 : decode cX9_lawCount 14 = .ok (.iadd, 1) := by decide +kernel
theorem dX9_lawCount_15 : decode cX9_lawCount 15 = .ok (.ireturn, 1) := by decide +kernel
theorem dX9_sayOfLaw_0 : decode cX9_sayOfLaw 0 = .ok (.iload_n 1, 1) := by decide +kernel
theorem dX9_sayOfLaw_1 : decode cX9_sayOfLaw 1 = .ok (.iconst 3, 1) := by decide +kernel
theorem dX9_sayOfLaw_2 : decode cX9_sayOfLaw 2 = .ok (.if_icmp .ge 5, 3) := by decide +kernel
theorem dX9_sayOfLaw_5 : decode cX9_sayOfLaw 5 = .ok (.iload_n 1, 1) := by decide +kernel
theorem dX9_sayOfLaw_6 : decode cX9_sayOfLaw 6 = .ok (.ireturn, 1) := by decide +kernel
theorem dX9_sayOfLaw_7 : decode cX9_sayOfLaw 7 = .ok (.iload_n 1, 1) := by decide +kernel
theorem dX9_sayOfLaw_8 : decode cX9_sayOfLaw 8 = .ok (.iconst 3, 1) := by decide +kernel
theorem dX9_sayOfLaw_9 : decode cX9_sayOfLaw 9 = .ok (.isub, 1) := by decide +kernel
theorem dX9_sayOfLaw_10 : decode cX9_sayOfLaw 10 = .ok (.bipush 6, 2) := by decide +kernel
theorem dX9_sayOfLaw_12 : decode cX9_sayOfLaw 12 = .ok (.idiv, 1) := by decide +kernel
theorem dX9_sayOfLaw_13 : decode cX9_sayOfLaw 13 = .ok (.istore_n 3, 1) := by decide +kernel
theorem dX9_sayOfLaw_14 : decode cX9_sayOfLaw 14 = .ok (.iload_n 1, 1) := by decide +kernel
theorem dX9_sayOfLaw_15 : decode cX9_sayOfLaw 15 = .ok (.iconst 3, 1) := by decide +kernel
theorem dX9_sayOfLaw_16 : decode cX9_sayOfLaw 16 = .ok (.isub, 1) := by decide +kernel
theorem dX9_sayOfLaw_17 : decode cX9_sayOfLaw 17 = .ok (.bipush 6, 2) := by decide +kernel
theorem dX9_sayOfLaw_19 : decode cX9_sayOfLaw 19 = .ok (.irem, 1) := by decide +kernel
theorem dX9_sayOfLaw_20 : decode cX9_sayOfLaw 20 = .ok (.istore 4, 2) := by decide +kernel
theorem dX9_sayOfLaw_22 : decode cX9_sayOfLaw 22 = .ok (.iload 4, 2) := by decide +kernel
theorem dX9_sayOfLaw_24 : decode cX9_sayOfLaw 24 = .ok (.iconst 2, 1) := by decide +kernel
theorem dX9_sayOfLaw_25 : decode cX9_sayOfLaw 25 = .ok (.idiv, 1) := by decide +kernel
theorem dX9_sayOfLaw_26 : decode cX9_sayOfLaw 26 = .ok (.istore 5, 2) := by decide +kernel
theorem dX9_sayOfLaw_28 : decode cX9_sayOfLaw 28 = .ok (.iload_n 2, 1) := by decide +kernel
theorem dX9_sayOfLaw_29 : decode cX9_sayOfLaw 29 = .ok (.iload_n 3, 1) := by decide +kernel
theorem dX9_sayOfLaw_30 : decode cX9_sayOfLaw 30 = .ok (.invokestatic 55, 3) := by decide +kernel
theorem dX9_sayOfLaw_33 : decode cX9_sayOfLaw 33 = .ok (.ifCond .eq 6, 3) := by decide +kernel
theorem dX9_sayOfLaw_36 : decode cX9_sayOfLaw 36 = .ok (.iload 5, 2) := by decide +kernel
theorem dX9_sayOfLaw_38 : decode cX9_sayOfLaw 38 = .ok (.ireturn, 1) := by decide +kernel
theorem dX9_sayOfLaw_39 : decode cX9_sayOfLaw 39 = .ok (.iload 5, 2) := by decide +kernel
theorem dX9_sayOfLaw_41 : decode cX9_sayOfLaw 41 = .ok (.iconst 1, 1) := by decide +kernel
theorem dX9_sayOfLaw_42 : decode cX9_sayOfLaw 42 = .ok (.iadd, 1) := by decide +kernel
theorem dX9_sayOfLaw_43 : decode cX9_sayOfLaw 43 = .ok (.iload 4, 2) := by decide +kernel
theorem dX9_sayOfLaw_45 : decode cX9_sayOfLaw 45 = .ok (.iconst 2, 1) := by decide +kernel
theorem dX9_sayOfLaw_46 : decode cX9_sayOfLaw 46 = .ok (.irem, 1) := by decide +kernel
theorem dX9_sayOfLaw_47 : decode cX9_sayOfLaw 47 = .ok (.iadd, 1) := by decide +kernel
theorem dX9_sayOfLaw_48 : decode cX9_sayOfLaw 48 = .ok (.iconst 3, 1) := by decide +kernel
theorem dX9_sayOfLaw_49 : decode cX9_sayOfLaw 49 = .ok (.irem, 1) := by decide +kernel
theorem dX9_sayOfLaw_50 : decode cX9_sayOfLaw 50 = .ok (.ireturn, 1) := by decide +kernel
theorem dX9_isFitting_0 : decode cX9_isFitting 0 = .ok (.iconst 0, 1) := by decide +kernel
theorem dX9_isFitting_1 : decode cX9_isFitting 1 = .ok (.istore_n 2, 1) := by decide +kernel
theorem dX9_isFitting_2 : decode cX9_isFitting 2 = .ok (.iload_n 2, 1) := by decide +kernel
theorem dX9_isFitting_3 : decode cX9_isFitting 3 = .ok (.aload_n 0, 1) := by decide +kernel
theorem dX9_isFitting_4 : decode cX9_isFitting 4 = .ok (.getfield 9, 3) := by decide +kernel
theorem dX9_isFitting_7 : decode cX9_isFitting 7 = .ok (.getfield 15, 3) := by decide +kernel
theorem dX9_isFitting_10 : decode cX9_isFitting 10 = .ok (.getfield 21, 3) := by decide +kernel
theorem dX9_isFitting_13 : decode cX9_isFitting 13 = .ok (.if_icmp .ge 74, 3) := by decide +kernel
theorem dX9_isFitting_16 : decode cX9_isFitting 16 = .ok (.aload_n 0, 1) := by decide +kernel
theorem dX9_isFitting_17 : decode cX9_isFitting 17 = .ok (.iload_n 1, 1) := by decide +kernel
theorem dX9_isFitting_18 : decode cX9_isFitting 18 = .ok (.aload_n 0, 1) := by decide +kernel
theorem dX9_isFitting_19 : decode cX9_isFitting 19 = .ok (.getfield 9, 3) := by decide +kernel
theorem dX9_isFitting_22 : decode cX9_isFitting 22 = .ok (.getfield 59, 3) := by decide +kernel
theorem dX9_isFitting_25 : decode cX9_isFitting 25 = .ok (.aload_n 0, 1) := by decide +kernel
theorem dX9_isFitting_26 : decode cX9_isFitting 26 = .ok (.getfield 9, 3) := by decide +kernel
theorem dX9_isFitting_29 : decode cX9_isFitting 29 = .ok (.getfield 15, 3) := by decide +kernel
theorem dX9_isFitting_32 : decode cX9_isFitting 32 = .ok (.getfield 27, 3) := by decide +kernel
theorem dX9_isFitting_35 : decode cX9_isFitting 35 = .ok (.iload_n 2, 1) := by decide +kernel
theorem dX9_isFitting_36 : decode cX9_isFitting 36 = .ok (.iaload, 1) := by decide +kernel
theorem dX9_isFitting_37 : decode cX9_isFitting 37 = .ok (.invokevirtual 63, 3) := by decide +kernel
theorem dX9_isFitting_40 : decode cX9_isFitting 40 = .ok (.invokevirtual 69, 3) := by decide +kernel
theorem dX9_isFitting_43 : decode cX9_isFitting 43 = .ok (.istore_n 3, 1) := by decide +kernel
theorem dX9_isFitting_44 : decode cX9_isFitting 44 = .ok (.aload_n 0, 1) := by decide +kernel
theorem dX9_isFitting_45 : decode cX9_isFitting 45 = .ok (.getfield 9, 3) := by decide +kernel
theorem dX9_isFitting_48 : decode cX9_isFitting 48 = .ok (.aload_n 0, 1) := by decide +kernel
theorem dX9_isFitting_49 : decode cX9_isFitting 49 = .ok (.getfield 9, 3) := by decide +kernel
theorem dX9_isFitting_52 : decode cX9_isFitting 52 = .ok (.getfield 15, 3) := by decide +kernel
theorem dX9_isFitting_55 : decode cX9_isFitting 55 = .ok (.getfield 35, 3) := by decide +kernel
theorem dX9_isFitting_58 : decode cX9_isFitting 58 = .ok (.iload_n 2, 1) := by decide +kernel
theorem dX9_isFitting_59 : decode cX9_isFitting 59 = .ok (.iaload, 1) := by decide +kernel
theorem dX9_isFitting_60 : decode cX9_isFitting 60 = .ok (.iload_n 3, 1) := by decide +kernel
theorem dX9_isFitting_61 : decode cX9_isFitting 61 = .ok (.invokevirtual 72, 3) := by decide +kernel
theorem dX9_isFitting_64 : decode cX9_isFitting 64 = .ok (.aload_n 0, 1) := by decide +kernel
theorem dX9_isFitting_65 : decode cX9_isFitting 65 = .ok (.getfield 9, 3) := by decide +kernel
theorem dX9_isFitting_68 : decode cX9_isFitting 68 = .ok (.getfield 15, 3) := by decide +kernel
theorem dX9_isFitting_71 : decode cX9_isFitting 71 = .ok (.getfield 38, 3) := by decide +kernel
theorem dX9_isFitting_74 : decode cX9_isFitting 74 = .ok (.iload_n 2, 1) := by decide +kernel
theorem dX9_isFitting_75 : decode cX9_isFitting 75 = .ok (.iaload, 1) := by decide +kernel
theorem dX9_isFitting_76 : decode cX9_isFitting 76 = .ok (.if_icmp .eq 5, 3) := by decide +kernel
theorem dX9_isFitting_79 : decode cX9_isFitting 79 = .ok (.iconst 0, 1) := by decide +kernel
theorem dX9_isFitting_80 : decode cX9_isFitting 80 = .ok (.ireturn, 1) := by decide +kernel
theorem dX9_isFitting_81 : decode cX9_isFitting 81 = .ok (.iinc 2 1, 3) := by decide +kernel
theorem dX9_isFitting_84 : decode cX9_isFitting 84 = .ok (.goto (-82), 3) := by decide +kernel
theorem dX9_isFitting_87 : decode cX9_isFitting 87 = .ok (.iconst 1, 1) := by decide +kernel
theorem dX9_isFitting_88 : decode cX9_isFitting 88 = .ok (.ireturn, 1) := by decide +kernel
theorem dX9_fittingLaws_0 : decode cX9_fittingLaws 0 = .ok (.lconst 0, 1) := by decide +kernel
theorem dX9_fittingLaws_1 : decode cX9_fittingLaws 1 = .ok (.lstore_n 1, 1) := by decide +kernel
theorem dX9_fittingLaws_2 : decode cX9_fittingLaws 2 = .ok (.iconst 0, 1) := by decide +kernel
theorem dX9_fittingLaws_3 : decode cX9_fittingLaws 3 = .ok (.istore_n 3, 1) := by decide +kernel
theorem dX9_fittingLaws_4 : decode cX9_fittingLaws 4 = .ok (.iload_n 3, 1) := by decide +kernel
theorem dX9_fittingLaws_5 : decode cX9_fittingLaws 5 = .ok (.aload_n 0, 1) := by decide +kernel
theorem dX9_fittingLaws_6 : decode cX9_fittingLaws 6 = .ok (.invokevirtual 75, 3) := by decide +kernel
theorem dX9_fittingLaws_9 : decode cX9_fittingLaws 9 = .ok (.if_icmp .ge 23, 3) := by decide +kernel
theorem dX9_fittingLaws_12 : decode cX9_fittingLaws 12 = .ok (.aload_n 0, 1) := by decide +kernel
theorem dX9_fittingLaws_13 : decode cX9_fittingLaws 13 = .ok (.iload_n 3, 1) := by decide +kernel
theorem dX9_fittingLaws_14 : decode cX9_fittingLaws 14 = .ok (.invokevirtual 79, 3) := by decide +kernel
theorem dX9_fittingLaws_17 : decode cX9_fittingLaws 17 = .ok (.ifCond .eq 9, 3) := by decide +kernel
theorem dX9_fittingLaws_20 : decode cX9_fittingLaws 20 = .ok (.lload_n 1, 1) := by decide +kernel
theorem dX9_fittingLaws_21 : decode cX9_fittingLaws 21 = .ok (.lconst 1, 1) := by decide +kernel
theorem dX9_fittingLaws_22 : decode cX9_fittingLaws 22 = .ok (.iload_n 3, 1) := by decide +kernel
theorem dX9_fittingLaws_23 : decode cX9_fittingLaws 23 = .ok (.lshl, 1) := by decide +kernel
theorem dX9_fittingLaws_24 : decode cX9_fittingLaws 24 = .ok (.lor, 1) := by decide +kernel
theorem dX9_fittingLaws_25 : decode cX9_fittingLaws 25 = .ok (.lstore_n 1, 1) := by decide +kernel
theorem dX9_fittingLaws_26 : decode cX9_fittingLaws 26 = .ok (.iinc 3 1, 3) := by decide +kernel
theorem dX9_fittingLaws_29 : decode cX9_fittingLaws 29 = .ok (.goto (-25), 3) := by decide +kernel
theorem dX9_fittingLaws_32 : decode cX9_fittingLaws 32 = .ok (.lload_n 1, 1) := by decide +kernel
theorem dX9_fittingLaws_33 : decode cX9_fittingLaws 33 = .ok (.lreturn, 1) := by decide +kernel
theorem dX9_lawsThatSay_0 : decode cX9_lawsThatSay 0 = .ok (.iconst 0, 1) := by decide +kernel
theorem dX9_lawsThatSay_1 : decode cX9_lawsThatSay 1 = .ok (.istore 5, 2) := by decide +kernel
theorem dX9_lawsThatSay_3 : decode cX9_lawsThatSay 3 = .ok (.iconst 0, 1) := by decide +kernel
theorem dX9_lawsThatSay_4 : decode cX9_lawsThatSay 4 = .ok (.istore 6, 2) := by decide +kernel
theorem dX9_lawsThatSay_6 : decode cX9_lawsThatSay 6 = .ok (.iload 6, 2) := by decide +kernel
theorem dX9_lawsThatSay_8 : decode cX9_lawsThatSay 8 = .ok (.aload_n 0, 1) := by decide +kernel
theorem dX9_lawsThatSay_9 : decode cX9_lawsThatSay 9 = .ok (.invokevirtual 75, 3) := by decide +kernel
theorem dX9_lawsThatSay_12 : decode cX9_lawsThatSay 12 = .ok (.if_icmp .ge 45, 3) := by decide +kernel
theorem dX9_lawsThatSay_15 : decode cX9_lawsThatSay 15 = .ok (.lload_n 1, 1) := by decide +kernel
theorem dX9_lawsThatSay_16 : decode cX9_lawsThatSay 16 = .ok (.iload 6, 2) := by decide +kernel
theorem dX9_lawsThatSay_18 : decode cX9_lawsThatSay 18 = .ok (.lshr, 1) := by decide +kernel
theorem dX9_lawsThatSay_19 : decode cX9_lawsThatSay 19 = .ok (.lconst 1, 1) := by decide +kernel
theorem dX9_lawsThatSay_20 : decode cX9_lawsThatSay 20 = .ok (.land, 1) := by decide +kernel
theorem dX9_lawsThatSay_21 : decode cX9_lawsThatSay 21 = .ok (.lconst 1, 1) := by decide +kernel
theorem dX9_lawsThatSay_22 : decode cX9_lawsThatSay 22 = .ok (.lcmp, 1) := by decide +kernel
theorem dX9_lawsThatSay_23 : decode cX9_lawsThatSay 23 = .ok (.ifCond .ne 28, 3) := by decide +kernel
theorem dX9_lawsThatSay_26 : decode cX9_lawsThatSay 26 = .ok (.aload_n 0, 1) := by decide +kernel
theorem dX9_lawsThatSay_27 : decode cX9_lawsThatSay 27 = .ok (.iload 6, 2) := by decide +kernel
theorem dX9_lawsThatSay_29 : decode cX9_lawsThatSay 29 = .ok (.aload_n 0, 1) := by decide +kernel
theorem dX9_lawsThatSay_30 : decode cX9_lawsThatSay 30 = .ok (.getfield 9, 3) := by decide +kernel
theorem dX9_lawsThatSay_33 : decode cX9_lawsThatSay 33 = .ok (.getfield 59, 3) := by decide +kernel
theorem dX9_lawsThatSay_36 : decode cX9_lawsThatSay 36 = .ok (.iload_n 3, 1) := by decide +kernel
theorem dX9_lawsThatSay_37 : decode cX9_lawsThatSay 37 = .ok (.invokevirtual 63, 3) := by decide +kernel
theorem dX9_lawsThatSay_40 : decode cX9_lawsThatSay 40 = .ok (.invokevirtual 69, 3) := by decide +kernel
theorem dX9_lawsThatSay_43 : decode cX9_lawsThatSay 43 = .ok (.iload 4, 2) := by decide +kernel
theorem dX9_lawsThatSay_45 : decode cX9_lawsThatSay 45 = .ok (.if_icmp .ne 6, 3) := by decide +kernel
theorem dX9_lawsThatSay_48 : decode cX9_lawsThatSay 48 = .ok (.iinc 5 1, 3) := by decide +kernel
theorem dX9_lawsThatSay_51 : decode cX9_lawsThatSay 51 = .ok (.iinc 6 1, 3) := by decide +kernel
theorem dX9_lawsThatSay_54 : decode cX9_lawsThatSay 54 = .ok (.goto (-48), 3) := by decide +kernel
theorem dX9_lawsThatSay_57 : decode cX9_lawsThatSay 57 = .ok (.iload 5, 2) := by decide +kernel
theorem dX9_lawsThatSay_59 : decode cX9_lawsThatSay 59 = .ok (.ireturn, 1) := by decide +kernel
theorem dX9_verdictsByLaws_0 : decode cX9_verdictsByLaws 0 = .ok (.aload_n 0, 1) := by decide +kernel
theorem dX9_verdictsByLaws_1 : decode cX9_verdictsByLaws 1 = .ok (.invokevirtual 83, 3) := by decide +kernel
theorem dX9_verdictsByLaws_4 : decode cX9_verdictsByLaws 4 = .ok (.lstore_n 2, 1) := by decide +kernel
theorem dX9_verdictsByLaws_5 : decode cX9_verdictsByLaws 5 = .ok (.iconst 0, 1) := by decide +kernel
theorem dX9_verdictsByLaws_6 : decode cX9_verdictsByLaws 6 = .ok (.istore 4, 2) := by decide +kernel
theorem dX9_verdictsByLaws_8 : decode cX9_verdictsByLaws 8 = .ok (.iconst 0, 1) := by decide +kernel
theorem dX9_verdictsByLaws_9 : decode cX9_verdictsByLaws 9 = .ok (.istore 5, 2) := by decide +kernel
theorem dX9_verdictsByLaws_11 : decode cX9_verdictsByLaws 11 = .ok (.iload 5, 2) := by decide +kernel
theorem dX9_verdictsByLaws_13 : decode cX9_verdictsByLaws 13 = .ok (.iconst 3, 1) := by decide +kernel
theorem dX9_verdictsByLaws_14 : decode cX9_verdictsByLaws 14 = .ok (.if_icmp .ge 29, 3) := by decide +kernel
theorem dX9_verdictsByLaws_17 : decode cX9_verdictsByLaws 17 = .ok (.aload_n 0, 1) := by decide +kernel
theorem dX9_verdictsByLaws_18 : decode cX9_verdictsByLaws 18 = .ok (.lload_n 2, 1) := by decide +kernel
theorem dX9_verdictsByLaws_19 : decode cX9_verdictsByLaws 19 = .ok (.iload_n 1, 1) := by decide +kernel
theorem dX9_verdictsByLaws_20 : decode cX9_verdictsByLaws 20 = .ok (.iload 5, 2) := by decide +kernel
theorem dX9_verdictsByLaws_22 : decode cX9_verdictsByLaws 22 = .ok (.invokevirtual 87, 3) := by decide +kernel
theorem dX9_verdictsByLaws_25 : decode cX9_verdictsByLaws 25 = .ok (.ifCond .le 12, 3) := by decide +kernel
theorem dX9_verdictsByLaws_28 : decode cX9_verdictsByLaws 28 = .ok (.iload 4, 2) := by decide +kernel
theorem dX9_verdictsByLaws_30 : decode cX9_verdictsByLaws 30 = .ok (.iconst 1, 1) := by decide +kernel
theorem dX9_verdictsByLaws_31 : decode cX9_verdictsByLaws 31 = .ok (.iload 5, 2) := by decide +kernel
theorem dX9_verdictsByLaws_33 : decode cX9_verdictsByLaws 33 = .ok (.ishl, 1) := by decide +kernel
theorem dX9_verdictsByLaws_34 : decode cX9_verdictsByLaws 34 = .ok (.ior, 1) := by decide +kernel
theorem dX9_verdictsByLaws_35 : decode cX9_verdictsByLaws 35 = .ok (.istore 4, 2) := by decide +kernel
theorem dX9_verdictsByLaws_37 : decode cX9_verdictsByLaws 37 = .ok (.iinc 5 1, 3) := by decide +kernel
theorem dX9_verdictsByLaws_40 : decode cX9_verdictsByLaws 40 = .ok (.goto (-29), 3) := by decide +kernel
theorem dX9_verdictsByLaws_43 : decode cX9_verdictsByLaws 43 = .ok (.iload 4, 2) := by decide +kernel
theorem dX9_verdictsByLaws_45 : decode cX9_verdictsByLaws 45 = .ok (.ireturn, 1) := by decide +kernel
theorem dX9_mostLeft_0 : decode cX9_mostLeft 0 = .ok (.iconst 0, 1) := by decide +kernel
theorem dX9_mostLeft_1 : decode cX9_mostLeft 1 = .ok (.istore 4, 2) := by decide +kernel
theorem dX9_mostLeft_3 : decode cX9_mostLeft 3 = .ok (.iconst 0, 1) := by decide +kernel
theorem dX9_mostLeft_4 : decode cX9_mostLeft 4 = .ok (.istore 5, 2) := by decide +kernel
theorem dX9_mostLeft_6 : decode cX9_mostLeft 6 = .ok (.iload 5, 2) := by decide +kernel
theorem dX9_mostLeft_8 : decode cX9_mostLeft 8 = .ok (.iconst 3, 1) := by decide +kernel
theorem dX9_mostLeft_9 : decode cX9_mostLeft 9 = .ok (.if_icmp .ge 24, 3) := by decide +kernel
theorem dX9_mostLeft_12 : decode cX9_mostLeft 12 = .ok (.iload 4, 2) := by decide +kernel
theorem dX9_mostLeft_14 : decode cX9_mostLeft 14 = .ok (.aload_n 0, 1) := by decide +kernel
theorem dX9_mostLeft_15 : decode cX9_mostLeft 15 = .ok (.lload_n 1, 1) := by decide +kernel
theorem dX9_mostLeft_16 : decode cX9_mostLeft 16 = .ok (.iload_n 3, 1) := by decide +kernel
theorem dX9_mostLeft_17 : decode cX9_mostLeft 17 = .ok (.iload 5, 2) := by decide +kernel
theorem dX9_mostLeft_19 : decode cX9_mostLeft 19 = .ok (.invokevirtual 87, 3) := by decide +kernel
theorem dX9_mostLeft_22 : decode cX9_mostLeft 22 = .ok (.invokestatic 91, 3) := by decide +kernel
theorem dX9_mostLeft_25 : decode cX9_mostLeft 25 = .ok (.istore 4, 2) := by decide +kernel
theorem dX9_mostLeft_27 : decode cX9_mostLeft 27 = .ok (.iinc 5 1, 3) := by decide +kernel
theorem dX9_mostLeft_30 : decode cX9_mostLeft 30 = .ok (.goto (-24), 3) := by decide +kernel
theorem dX9_mostLeft_33 : decode cX9_mostLeft 33 = .ok (.iload 4, 2) := by decide +kernel
theorem dX9_mostLeft_35 : decode cX9_mostLeft 35 = .ok (.ireturn, 1) := by decide +kernel
theorem dX9_paperToTryOf_0 : decode cX9_paperToTryOf 0 = .ok (.bipush (-2), 2) := by decide +kernel
theorem dX9_paperToTryOf_2 : decode cX9_paperToTryOf 2 = .ok (.istore_n 3, 1) := by decide +kernel
theorem dX9_paperToTryOf_3 : decode cX9_paperToTryOf 3 = .ok (.iconst 0, 1) := by decide +kernel
theorem dX9_paperToTryOf_4 : decode cX9_paperToTryOf 4 = .ok (.istore 4, 2) := by decide +kernel
theorem dX9_paperToTryOf_6 : decode cX9_paperToTryOf 6 = .ok (.iconst 0, 1) := by decide +kernel
theorem dX9_paperToTryOf_7 : decode cX9_paperToTryOf 7 = .ok (.istore 5, 2) := by decide +kernel
theorem dX9_paperToTryOf_9 : decode cX9_paperToTryOf 9 = .ok (.iload 5, 2) := by decide +kernel
theorem dX9_paperToTryOf_11 : decode cX9_paperToTryOf 11 = .ok (.aload_n 0, 1) := by decide +kernel
theorem dX9_paperToTryOf_12 : decode cX9_paperToTryOf 12 = .ok (.getfield 9, 3) := by decide +kernel
theorem dX9_paperToTryOf_15 : decode cX9_paperToTryOf 15 = .ok (.getfield 15, 3) := by decide +kernel
theorem dX9_paperToTryOf_18 : decode cX9_paperToTryOf 18 = .ok (.getfield 96, 3) := by decide +kernel
theorem dX9_paperToTryOf_21 : decode cX9_paperToTryOf 21 = .ok (.if_icmp .ge 42, 3) := by decide +kernel
theorem dX9_paperToTryOf_24 : decode cX9_paperToTryOf 24 = .ok (.lload_n 1, 1) := by decide +kernel
theorem dX9_paperToTryOf_25 : decode cX9_paperToTryOf 25 = .ok (.lconst 0, 1) := by decide +kernel
theorem dX9_paperToTryOf_26 : decode cX9_paperToTryOf 26 = .ok (.lcmp, 1) := by decide +kernel
theorem dX9_paperToTryOf_27 : decode cX9_paperToTryOf 27 = .ok (.ifCond .eq 36, 3) := by decide +kernel
theorem dX9_paperToTryOf_30 : decode cX9_paperToTryOf 30 = .ok (.aload_n 0, 1) := by decide +kernel
theorem dX9_paperToTryOf_31 : decode cX9_paperToTryOf 31 = .ok (.lload_n 1, 1) := by decide +kernel
theorem dX9_paperToTryOf_32 : decode cX9_paperToTryOf 32 = .ok (.iload 5, 2) := by decide +kernel
theorem dX9_paperToTryOf_34 : decode cX9_paperToTryOf 34 = .ok (.invokevirtual 99, 3) := by decide +kernel
theorem dX9_paperToTryOf_37 : decode cX9_paperToTryOf 37 = .ok (.istore 6, 2) := by decide +kernel
theorem dX9_paperToTryOf_39 : decode cX9_paperToTryOf 39 = .ok (.iload_n 3, 1) := by decide +kernel
theorem dX9_paperToTryOf_40 : decode cX9_paperToTryOf 40 = .ok (.ifCond .lt 10, 3) := by decide +kernel
theorem dX9_paperToTryOf_43 : decode cX9_paperToTryOf 43 = .ok (.iload 6, 2) := by decide +kernel
theorem dX9_paperToTryOf_45 : decode cX9_paperToTryOf 45 = .ok (.iload 4, 2) := by decide +kernel
theorem dX9_paperToTryOf_47 : decode cX9_paperToTryOf 47 = .ok (.if_icmp .ge 10, 3) := by decide +kernel
theorem dX9_paperToTryOf_50 : decode cX9_paperToTryOf 50 = .ok (.iload 6, 2) := by decide +kernel
theorem dX9_paperToTryOf_52 : decode cX9_paperToTryOf 52 = .ok (.istore 4, 2) := by decide +kernel
theorem dX9_paperToTryOf_54 : decode cX9_paperToTryOf 54 = .ok (.iload 5, 2) := by decide +kernel
theorem dX9_paperToTryOf_56 : decode cX9_paperToTryOf 56 = .ok (.istore_n 3, 1) := by decide +kernel
theorem dX9_paperToTryOf_57 : decode cX9_paperToTryOf 57 = .ok (.iinc 5 1, 3) := by decide +kernel
theorem dX9_paperToTryOf_60 : decode cX9_paperToTryOf 60 = .ok (.goto (-51), 3) := by decide +kernel
theorem dX9_paperToTryOf_63 : decode cX9_paperToTryOf 63 = .ok (.iload_n 3, 1) := by decide +kernel
theorem dX9_paperToTryOf_64 : decode cX9_paperToTryOf 64 = .ok (.ireturn, 1) := by decide +kernel
theorem dX9_paperToTry_0 : decode cX9_paperToTry 0 = .ok (.aload_n 0, 1) := by decide +kernel
theorem dX9_paperToTry_1 : decode cX9_paperToTry 1 = .ok (.aload_n 0, 1) := by decide +kernel
theorem dX9_paperToTry_2 : decode cX9_paperToTry 2 = .ok (.invokevirtual 83, 3) := by decide +kernel
theorem dX9_paperToTry_5 : decode cX9_paperToTry 5 = .ok (.invokevirtual 103, 3) := by decide +kernel
theorem dX9_paperToTry_8 : decode cX9_paperToTry 8 = .ok (.ireturn, 1) := by decide +kernel
theorem dX9_fewestLeft_0 : decode cX9_fewestLeft 0 = .ok (.aload_n 0, 1) := by decide +kernel
theorem dX9_fewestLeft_1 : decode cX9_fewestLeft 1 = .ok (.invokevirtual 83, 3) := by decide +kernel
theorem dX9_fewestLeft_4 : decode cX9_fewestLeft 4 = .ok (.lstore_n 1, 1) := by decide +kernel
theorem dX9_fewestLeft_5 : decode cX9_fewestLeft 5 = .ok (.aload_n 0, 1) := by decide +kernel
theorem dX9_fewestLeft_6 : decode cX9_fewestLeft 6 = .ok (.lload_n 1, 1) := by decide +kernel
theorem dX9_fewestLeft_7 : decode cX9_fewestLeft 7 = .ok (.invokevirtual 103, 3) := by decide +kernel
theorem dX9_fewestLeft_10 : decode cX9_fewestLeft 10 = .ok (.istore_n 3, 1) := by decide +kernel
theorem dX9_fewestLeft_11 : decode cX9_fewestLeft 11 = .ok (.iload_n 3, 1) := by decide +kernel
theorem dX9_fewestLeft_12 : decode cX9_fewestLeft 12 = .ok (.ifCond .lt 12, 3) := by decide +kernel
theorem dX9_fewestLeft_15 : decode cX9_fewestLeft 15 = .ok (.aload_n 0, 1) := by decide +kernel
theorem dX9_fewestLeft_16 : decode cX9_fewestLeft 16 = .ok (.lload_n 1, 1) := by decide +kernel
theorem dX9_fewestLeft_17 : decode cX9_fewestLeft 17 = .ok (.iload_n 3, 1) := by decide +kernel
theorem dX9_fewestLeft_18 : decode cX9_fewestLeft 18 = .ok (.invokevirtual 99, 3) := by decide +kernel
theorem dX9_fewestLeft_21 : decode cX9_fewestLeft 21 = .ok (.goto 5, 3) := by decide +kernel
theorem dX9_fewestLeft_24 : decode cX9_fewestLeft 24 = .ok (.bipush (-2), 2) := by decide +kernel
theorem dX9_fewestLeft_26 : decode cX9_fewestLeft 26 = .ok (.ireturn, 1) := by decide +kernel
theorem dX10_init_0 : decode cX10_init 0 = .ok (.aload_n 0, 1) := by decide +kernel
theorem dX10_init_1 : decode cX10_init 1 = .ok (.invokespecial 3, 3) := by decide +kernel
theorem dX10_init_4 : decode cX10_init 4 = .ok (.aload_n 0, 1) := by decide +kernel
theorem dX10_init_5 : decode cX10_init 5 = .ok (.sipush 900, 3) := by decide +kernel
theorem dX10_init_8 : decode cX10_init 8 = .ok (.newarray .byte, 2) := by decide +kernel
theorem dX10_init_10 : decode cX10_init 10 = .ok (.putfield 11, 3) := by decide +kernel
theorem dX10_init_13 : decode cX10_init 13 = .ok (.return_, 1) := by decide +kernel
theorem dX10_hasRoom_0 : decode cX10_hasRoom 0 = .ok (.aload_n 0, 1) := by decide +kernel
theorem dX10_hasRoom_1 : decode cX10_hasRoom 1 = .ok (.getfield 15, 3) := by decide +kernel
theorem dX10_hasRoom_4 : decode cX10_hasRoom 4 = .ok (.bipush 20, 2) := by decide +kernel
theorem dX10_hasRoom_6 : decode cX10_hasRoom 6 = .ok (.iadd, 1) := by decide +kernel
theorem dX10_hasRoom_7 : decode cX10_hasRoom 7 = .ok (.sipush 900, 3) := by decide +kernel
theorem dX10_hasRoom_10 : decode cX10_hasRoom 10 = .ok (.if_icmp .gt 7, 3) := by decide +kernel
theorem dX10_hasRoom_13 : decode cX10_hasRoom 13 = .ok (.iconst 1, 1) := by decide +kernel
theorem dX10_hasRoom_14 : decode cX10_hasRoom 14 = .ok (.goto 4, 3) := by decide +kernel
theorem dX10_hasRoom_17 : decode cX10_hasRoom 17 = .ok (.iconst 0, 1) := by decide +kernel
theorem dX10_hasRoom_18 : decode cX10_hasRoom 18 = .ok (.ireturn, 1) := by decide +kernel
theorem dX10_put_0 : decode cX10_put 0 = .ok (.bipush 24, 2) := by decide +kernel
theorem dX10_put_2 : decode cX10_put 2 = .ok (.istore_n 2, 1) := by decide +kernel
theorem dX10_put_3 : decode cX10_put 3 = .ok (.iload_n 2, 1) := by decide +kernel
theorem dX10_put_4 : decode cX10_put 4 = .ok (.ifCond .lt 42, 3) := by decide +kernel
theorem dX10_put_7 : decode cX10_put 7 = .ok (.aload_n 0, 1) := by decide +kernel
theorem dX10_put_8 : decode cX10_put 8 = .ok (.getfield 15, 3) := by decide +kernel
theorem dX10_put_11 : decode cX10_put 11 = .ok (.sipush 900, 3) := by decide +kernel
theorem dX10_put_14 : decode cX10_put 14 = .ok (.if_icmp .ge 26, 3) := by decide +kernel
theorem dX10_put_17 : decode cX10_put 17 = .ok (.aload_n 0, 1) := by decide +kernel
theorem dX10_put_18 : decode cX10_put 18 = .ok (.getfield 11, 3) := by decide +kernel
theorem dX10_put_21 : decode cX10_put 21 = .ok (.aload_n 0, 1) := by decide +kernel
theorem dX10_put_22 : decode cX10_put 22 = .ok (.getfield 15, 3) := by decide +kernel
theorem dX10_put_25 : decode cX10_put 25 = .ok (.iload_n 1, 1) := by decide +kernel
theorem dX10_put_26 : decode cX10_put 26 = .ok (.iload_n 2, 1) := by decide +kernel
theorem dX10_put_27 : decode cX10_put 27 = .ok (.ishr, 1) := by decide +kernel
theorem dX10_put_28 : decode cX10_put 28 = .ok (.i2b, 1) := by decide +kernel
theorem dX10_put_29 : decode cX10_put 29 = .ok (.bastore, 1) := by decide +kernel
theorem dX10_put_30 : decode cX10_put 30 = .ok (.aload_n 0, 1) := by decide +kernel
theorem dX10_put_31 : decode cX10_put 31 = .ok (.dup, 1) := by decide +kernel
theorem dX10_put_32 : decode cX10_put 32 = .ok (.getfield 15, 3) := by decide +kernel
theorem dX10_put_35 : decode cX10_put 35 = .ok (.iconst 1, 1) := by decide +kernel
theorem dX10_put_36 : decode cX10_put 36 = .ok (.iadd, 1) := by decide +kernel
theorem dX10_put_37 : decode cX10_put 37 = .ok (.putfield 15, 3) := by decide +kernel
theorem dX10_put_40 : decode cX10_put 40 = .ok (.iinc 2 (-8), 3) := by decide +kernel
theorem dX10_put_43 : decode cX10_put 43 = .ok (.goto (-40), 3) := by decide +kernel
theorem dX10_put_46 : decode cX10_put 46 = .ok (.return_, 1) := by decide +kernel
theorem dX10_begin_0 : decode cX10_begin 0 = .ok (.aload_n 0, 1) := by decide +kernel
theorem dX10_begin_1 : decode cX10_begin 1 = .ok (.iload_n 1, 1) := by decide +kernel
theorem dX10_begin_2 : decode cX10_begin 2 = .ok (.putfield 19, 3) := by decide +kernel
theorem dX10_begin_5 : decode cX10_begin 5 = .ok (.aload_n 0, 1) := by decide +kernel
theorem dX10_begin_6 : decode cX10_begin 6 = .ok (.iconst 0, 1) := by decide +kernel
theorem dX10_begin_7 : decode cX10_begin 7 = .ok (.putfield 22, 3) := by decide +kernel
theorem dX10_begin_10 : decode cX10_begin 10 = .ok (.aload_n 0, 1) := by decide +kernel
theorem dX10_begin_11 : decode cX10_begin 11 = .ok (.invokevirtual 25, 3) := by decide +kernel
theorem dX10_begin_14 : decode cX10_begin 14 = .ok (.return_, 1) := by decide +kernel
theorem dX10_advance_0 : decode cX10_advance 0 = .ok (.aload_n 0, 1) := by decide +kernel
theorem dX10_advance_1 : decode cX10_advance 1 = .ok (.aload_n 0, 1) := by decide +kernel
theorem dX10_advance_2 : decode cX10_advance 2 = .ok (.getfield 22, 3) := by decide +kernel
theorem dX10_advance_5 : decode cX10_advance 5 = .ok (.putfield 28, 3) := by decide +kernel
theorem dX10_advance_8 : decode cX10_advance 8 = .ok (.aload_n 0, 1) := by decide +kernel
theorem dX10_advance_9 : decode cX10_advance 9 = .ok (.getfield 28, 3) := by decide +kernel
theorem dX10_advance_12 : decode cX10_advance 12 = .ok (.aload_n 0, 1) := by decide +kernel
theorem dX10_advance_13 : decode cX10_advance 13 = .ok (.getfield 19, 3) := by decide +kernel
theorem dX10_advance_16 : decode cX10_advance 16 = .ok (.if_icmp .ge 30, 3) := by decide +kernel
theorem dX10_advance_19 : decode cX10_advance 19 = .ok (.aload_n 0, 1) := by decide +kernel
theorem dX10_advance_20 : decode cX10_advance 20 = .ok (.getfield 11, 3) := by decide +kernel
theorem dX10_advance_23 : decode cX10_advance 23 = .ok (.aload_n 0, 1) := by decide +kernel
theorem dX10_advance_24 : decode cX10_advance 24 = .ok (.getfield 28, 3) := by decide +kernel
theorem dX10_advance_27 : decode cX10_advance 27 = .ok (.baload, 1) := by decide +kernel
theorem dX10_advance_28 : decode cX10_advance 28 = .ok (.bipush 32, 2) := by decide +kernel
theorem dX10_advance_30 : decode cX10_advance 30 = .ok (.if_icmp .ne 16, 3) := by decide +kernel
theorem dX10_advance_33 : decode cX10_advance 33 = .ok (.aload_n 0, 1) := by decide +kernel
theorem dX10_advance_34 : decode cX10_advance 34 = .ok (.dup, 1) := by decide +kernel
theorem dX10_advance_35 : decode cX10_advance 35 = .ok (.getfield 28, 3) := by decide +kernel
theorem dX10_advance_38 : decode cX10_advance 38 = .ok (.iconst 1, 1) := by decide +kernel
theorem dX10_advance_39 : decode cX10_advance 39 = .ok (.iadd, 1) := by decide +kernel
theorem dX10_advance_40 : decode cX10_advance 40 = .ok (.putfield 28, 3) := by decide +kernel
theorem dX10_advance_43 : decode cX10_advance 43 = .ok (.goto (-35), 3) := by decide +kernel
theorem dX10_advance_46 : decode cX10_advance 46 = .ok (.aload_n 0, 1) := by decide +kernel
theorem dX10_advance_47 : decode cX10_advance 47 = .ok (.aload_n 0, 1) := by decide +kernel
theorem dX10_advance_48 : decode cX10_advance 48 = .ok (.getfield 28, 3) := by decide +kernel
theorem dX10_advance_51 : decode cX10_advance 51 = .ok (.putfield 22, 3) := by decide +kernel
theorem dX10_advance_54 : decode cX10_advance 54 = .ok (.aload_n 0, 1) := by decide +kernel
theorem dX10_advance_55 : decode cX10_advance 55 = .ok (.getfield 28, 3) := by decide +kernel
theorem dX10_advance_58 : decode cX10_advance 58 = .ok (.aload_n 0, 1) := by decide +kernel
theorem dX10_advance_59 : decode cX10_advance 59 = .ok (.getfield 19, 3) := by decide +kernel
theorem dX10_advance_62 : decode cX10_advance 62 = .ok (.if_icmp .lt 14, 3) := by decide +kernel
theorem dX10_advance_65 : decode cX10_advance 65 = .ok (.aload_n 0, 1) := by decide +kernel
theorem dX10_advance_66 : decode cX10_advance 66 = .ok (.iconst 0, 1) := by decide +kernel
theorem dX10_advance_67 : decode cX10_advance 67 = .ok (.putfield 31, 3) := by decide +kernel
theorem dX10_advance_70 : decode cX10_advance 70 = .ok (.aload_n 0, 1) := by decide +kernel
theorem dX10_advance_71 : decode cX10_advance 71 = .ok (.lconst 0, 1) := by decide +kernel
theorem dX10_advance_72 : decode cX10_advance 72 = .ok (.putfield 34, 3) := by decide +kernel
theorem dX10_advance_75 : decode cX10_advance 75 = .ok (.return_, 1) := by decide +kernel
theorem dX10_advance_76 : decode cX10_advance 76 = .ok (.aload_n 0, 1) := by decide +kernel
theorem dX10_advance_77 : decode cX10_advance 77 = .ok (.aload_n 0, 1) := by decide +kernel
theorem dX10_advance_78 : decode cX10_advance 78 = .ok (.aload_n 0, 1) := by decide +kernel
theorem dX10_advance_79 : decode cX10_advance 79 = .ok (.getfield 28, 3) := by decide +kernel
theorem dX10_advance_82 : decode cX10_advance 82 = .ok (.invokevirtual 38, 3) := by decide +kernel
theorem dX10_advance_85 : decode cX10_advance 85 = .ok (.putfield 31, 3) := by decide +kernel
theorem dX10_advance_88 : decode cX10_advance 88 = .ok (.aload_n 0, 1) := by decide +kernel
theorem dX10_advance_89 : decode cX10_advance 89 = .ok (.aload_n 0, 1) := by decide +kernel
theorem dX10_advance_90 : decode cX10_advance 90 = .ok (.getfield 28, 3) := by decide +kernel
theorem dX10_advance_93 : decode cX10_advance 93 = .ok (.iconst 1, 1) := by decide +kernel
theorem dX10_advance_94 : decode cX10_advance 94 = .ok (.iadd, 1) := by decide +kernel
theorem dX10_advance_95 : decode cX10_advance 95 = .ok (.putfield 22, 3) := by decide +kernel
theorem dX10_advance_98 : decode cX10_advance 98 = .ok (.aload_n 0, 1) := by decide +kernel
theorem dX10_advance_99 : decode cX10_advance 99 = .ok (.getfield 31, 3) := by decide +kernel
theorem dX10_advance_102 : decode cX10_advance 102 = .ok (.iconst 1, 1) := by decide +kernel
theorem dX10_advance_103 : decode cX10_advance 103 = .ok (.if_icmp .eq 11, 3) := by decide +kernel
theorem dX10_advance_106 : decode cX10_advance 106 = .ok (.aload_n 0, 1) := by decide +kernel
theorem dX10_advance_107 : decode cX10_advance 107 = .ok (.getfield 31, 3) := by decide +kernel
theorem dX10_advance_110 : decode cX10_advance 110 = .ok (.iconst 2, 1) := by decide +kernel
theorem dX10_advance_111 : decode cX10_advance 111 = .ok (.if_icmp .ne 42, 3) := by decide +kernel
theorem dX10_advance_114 : decode cX10_advance 114 = .ok (.aload_n 0, 1) := by decide +kernel
theorem dX10_advance_115 : decode cX10_advance 115 = .ok (.getfield 22, 3) := by decide +kernel
theorem dX10_advance_118 : decode cX10_advance 118 = .ok (.aload_n 0, 1) := by decide +kernel
theorem dX10_advance_119 : decode cX10_advance 119 = .ok (.getfield 19, 3) := by decide +kernel
theorem dX10_advance_122 : decode cX10_advance 122 = .ok (.if_icmp .ge 31, 3) := by decide +kernel
theorem dX10_advance_125 : decode cX10_advance 125 = .ok (.aload_n 0, 1) := by decide +kernel
theorem dX10_advance_126 : decode cX10_advance 126 = .ok (.aload_n 0, 1) := by decide +kernel
theorem dX10_advance_127 : decode cX10_advance 127 = .ok (.getfield 22, 3) := by decide +kernel
theorem dX10_advance_130 : decode cX10_advance 130 = .ok (.invokevirtual 38, 3) := by decide +kernel
theorem dX10_advance_133 : decode cX10_advance 133 = .ok (.aload_n 0, 1) := by decide +kernel
theorem dX10_advance_134 : decode cX10_advance 134 = .ok (.getfield 31, 3) := by decide +kernel
theorem dX10_advance_137 : decode cX10_advance 137 = .ok (.if_icmp .ne 16, 3) := by decide +kernel
theorem dX10_advance_140 : decode cX10_advance 140 = .ok (.aload_n 0, 1) := by decide +kernel
theorem dX10_advance_141 : decode cX10_advance 141 = .ok (.dup, 1) := by decide +kernel
theorem dX10_advance_142 : decode cX10_advance 142 = .ok (.getfield 22, 3) := by decide +kernel
theorem dX10_advance_145 : decode cX10_advance 145 = .ok (.iconst 1, 1) := by decide +kernel
theorem dX10_advance_146 : decode cX10_advance 146 = .ok (.iadd, 1) := by decide +kernel
theorem dX10_advance_147 : decode cX10_advance 147 = .ok (.putfield 22, 3) := by decide +kernel
theorem dX10_advance_150 : decode cX10_advance 150 = .ok (.goto (-52), 3) := by decide +kernel
theorem dX10_advance_153 : decode cX10_advance 153 = .ok (.aload_n 0, 1) := by decide +kernel
theorem dX10_advance_154 : decode cX10_advance 154 = .ok (.getfield 31, 3) := by decide +kernel
theorem dX10_advance_157 : decode cX10_advance 157 = .ok (.iconst 1, 1) := by decide +kernel
theorem dX10_advance_158 : decode cX10_advance 158 = .ok (.if_icmp .ne 17, 3) := by decide +kernel
theorem dX10_advance_161 : decode cX10_advance 161 = .ok (.aload_n 0, 1) := by decide +kernel
theorem dX10_advance_162 : decode cX10_advance 162 = .ok (.getfield 22, 3) := by decide +kernel
theorem dX10_advance_165 : decode cX10_advance 165 = .ok (.aload_n 0, 1) := by decide +kernel
theorem dX10_advance_166 : decode cX10_advance 166 = .ok (.getfield 28, 3) := by decide +kernel
theorem dX10_advance_169 : decode cX10_advance 169 = .ok (.isub, 1) := by decide +kernel
theorem dX10_advance_170 : decode cX10_advance 170 = .ok (.bipush 8, 2) := by decide +kernel
theorem dX10_advance_172 : decode cX10_advance 172 = .ok (.if_icmp .gt 24, 3) := by decide +kernel
theorem dX10_advance_175 : decode cX10_advance 175 = .ok (.aload_n 0, 1) := by decide +kernel
theorem dX10_advance_176 : decode cX10_advance 176 = .ok (.getfield 31, 3) := by decide +kernel
theorem dX10_advance_179 : decode cX10_advance 179 = .ok (.iconst 2, 1) := by decide +kernel
theorem dX10_advance_180 : decode cX10_advance 180 = .ok (.if_icmp .ne 21, 3) := by decide +kernel
theorem dX10_advance_183 : decode cX10_advance 183 = .ok (.aload_n 0, 1) := by decide +kernel
theorem dX10_advance_184 : decode cX10_advance 184 = .ok (.getfield 22, 3) := by decide +kernel
theorem dX10_advance_187 : decode cX10_advance 187 = .ok (.aload_n 0, 1) := by decide +kernel
theorem dX10_advance_188 : decode cX10_advance 188 = .ok (.getfield 28, 3) := by decide +kernel
theorem dX10_advance_191 : decode cX10_advance 191 = .ok (.isub, 1) := by decide +kernel
theorem dX10_advance_192 : decode cX10_advance 192 = .ok (.iconst 3, 1) := by decide +kernel
theorem dX10_advance_193 : decode cX10_advance 193 = .ok (.if_icmp .le 8, 3) := by decide +kernel
theorem dX10_advance_196 : decode cX10_advance 196 = .ok (.aload_n 0, 1) := by decide +kernel
theorem dX10_advance_197 : decode cX10_advance 197 = .ok (.iconst 5, 1) := by decide +kernel
