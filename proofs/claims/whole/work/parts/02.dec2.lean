theorem dX9_laysTurns_64 : decode cX9_laysTurns 64 = .ok (.if_icmp .ne 20, 3) := by decide +kernel
theorem dX9_laysTurns_67 : decode cX9_laysTurns 67 = .ok (.aload_n 0, 1) := by decide +kernel
theorem dX9_laysTurns_68 : decode cX9_laysTurns 68 = .ok (.getfield 7, 3) := by decide +kernel
theorem dX9_laysTurns_71 : decode cX9_laysTurns 71 = .ok (.bipush 64, 2) := by decide +kernel
theorem dX9_laysTurns_73 : decode cX9_laysTurns 73 = .ok (.iconst 2, 1) := by decide +kernel
theorem dX9_laysTurns_74 : decode cX9_laysTurns 74 = .ok (.iload_n 1, 1) := by decide +kernel
theorem dX9_laysTurns_75 : decode cX9_laysTurns 75 = .ok (.imul, 1) := by decide +kernel
theorem dX9_laysTurns_76 : decode cX9_laysTurns 76 = .ok (.iadd, 1) := by decide +kernel
theorem dX9_laysTurns_77 : decode cX9_laysTurns 77 = .ok (.iconst 1, 1) := by decide +kernel
theorem dX9_laysTurns_78 : decode cX9_laysTurns 78 = .ok (.iadd, 1) := by decide +kernel
theorem dX9_laysTurns_79 : decode cX9_laysTurns 79 = .ok (.iaload, 1) := by decide +kernel
theorem dX9_laysTurns_80 : decode cX9_laysTurns 80 = .ok (.istore_n 2, 1) := by decide +kernel
theorem dX9_laysTurns_81 : decode cX9_laysTurns 81 = .ok (.iinc 1 1, 3) := by decide +kernel
theorem dX9_laysTurns_84 : decode cX9_laysTurns 84 = .ok (.aload_n 0, 1) := by decide +kernel
theorem dX9_laysTurns_85 : decode cX9_laysTurns 85 = .ok (.getfield 13, 3) := by decide +kernel
theorem dX9_laysTurns_88 : decode cX9_laysTurns 88 = .ok (.iload_n 3, 1) := by decide +kernel
theorem dX9_laysTurns_89 : decode cX9_laysTurns 89 = .ok (.iconst 1, 1) := by decide +kernel
theorem dX9_laysTurns_90 : decode cX9_laysTurns 90 = .ok (.iadd, 1) := by decide +kernel
theorem dX9_laysTurns_91 : decode cX9_laysTurns 91 = .ok (.aload_n 0, 1) := by decide +kernel
theorem dX9_laysTurns_92 : decode cX9_laysTurns 92 = .ok (.getfield 13, 3) := by decide +kernel
theorem dX9_laysTurns_95 : decode cX9_laysTurns 95 = .ok (.iload_n 3, 1) := by decide +kernel
theorem dX9_laysTurns_96 : decode cX9_laysTurns 96 = .ok (.iaload, 1) := by decide +kernel
theorem dX9_laysTurns_97 : decode cX9_laysTurns 97 = .ok (.iload_n 2, 1) := by decide +kernel
theorem dX9_laysTurns_98 : decode cX9_laysTurns 98 = .ok (.iadd, 1) := by decide +kernel
theorem dX9_laysTurns_99 : decode cX9_laysTurns 99 = .ok (.aload_n 0, 1) := by decide +kernel
theorem dX9_laysTurns_100 : decode cX9_laysTurns 100 = .ok (.invokevirtual 37, 3) := by decide +kernel
theorem dX9_laysTurns_103 : decode cX9_laysTurns 103 = .ok (.invokestatic 47, 3) := by decide +kernel
theorem dX9_laysTurns_106 : decode cX9_laysTurns 106 = .ok (.iastore, 1) := by decide +kernel
theorem dX9_laysTurns_107 : decode cX9_laysTurns 107 = .ok (.iinc 3 1, 3) := by decide +kernel
theorem dX9_laysTurns_110 : decode cX9_laysTurns 110 = .ok (.goto (-70), 3) := by decide +kernel
theorem dX9_laysTurns_113 : decode cX9_laysTurns 113 = .ok (.return_, 1) := by decide +kernel
theorem dX9_isTick_0 : decode cX9_isTick 0 = .ok (.iload_n 0, 1) := by decide +kernel
theorem dX9_isTick_1 : decode cX9_isTick 1 = .ok (.iconst 0, 1) := by decide +kernel
theorem dX9_isTick_2 : decode cX9_isTick 2 = .ok (.sipush 1000, 3) := by decide +kernel
theorem dX9_isTick_5 : decode cX9_isTick 5 = .ok (.invokestatic 55, 3) := by decide +kernel
theorem dX9_isTick_8 : decode cX9_isTick 8 = .ok (.ireturn, 1) := by decide +kernel
theorem dX9_isCell_0 : decode cX9_isCell 0 = .ok (.iload_n 1, 1) := by decide +kernel
theorem dX9_isCell_1 : decode cX9_isCell 1 = .ok (.iconst 0, 1) := by decide +kernel
theorem dX9_isCell_2 : decode cX9_isCell 2 = .ok (.aload_n 0, 1) := by decide +kernel
theorem dX9_isCell_3 : decode cX9_isCell 3 = .ok (.invokevirtual 37, 3) := by decide +kernel
theorem dX9_isCell_6 : decode cX9_isCell 6 = .ok (.iconst 1, 1) := by decide +kernel
theorem dX9_isCell_7 : decode cX9_isCell 7 = .ok (.isub, 1) := by decide +kernel
theorem dX9_isCell_8 : decode cX9_isCell 8 = .ok (.invokestatic 55, 3) := by decide +kernel
theorem dX9_isCell_11 : decode cX9_isCell 11 = .ok (.ireturn, 1) := by decide +kernel
theorem dX9_seenAt_0 : decode cX9_seenAt 0 = .ok (.aload_n 0, 1) := by decide +kernel
theorem dX9_seenAt_1 : decode cX9_seenAt 1 = .ok (.getfield 7, 3) := by decide +kernel
theorem dX9_seenAt_4 : decode cX9_seenAt 4 = .ok (.iconst 1, 1) := by decide +kernel
theorem dX9_seenAt_5 : decode cX9_seenAt 5 = .ok (.iload_n 2, 1) := by decide +kernel
theorem dX9_seenAt_6 : decode cX9_seenAt 6 = .ok (.aload_n 0, 1) := by decide +kernel
theorem dX9_seenAt_7 : decode cX9_seenAt 7 = .ok (.getfield 13, 3) := by decide +kernel
theorem dX9_seenAt_10 : decode cX9_seenAt 10 = .ok (.iload_n 1, 1) := by decide +kernel
theorem dX9_seenAt_11 : decode cX9_seenAt 11 = .ok (.iaload, 1) := by decide +kernel
theorem dX9_seenAt_12 : decode cX9_seenAt 12 = .ok (.isub, 1) := by decide +kernel
theorem dX9_seenAt_13 : decode cX9_seenAt 13 = .ok (.aload_n 0, 1) := by decide +kernel
theorem dX9_seenAt_14 : decode cX9_seenAt 14 = .ok (.invokevirtual 37, 3) := by decide +kernel
theorem dX9_seenAt_17 : decode cX9_seenAt 17 = .ok (.invokestatic 47, 3) := by decide +kernel
theorem dX9_seenAt_20 : decode cX9_seenAt 20 = .ok (.iadd, 1) := by decide +kernel
theorem dX9_seenAt_21 : decode cX9_seenAt 21 = .ok (.iaload, 1) := by decide +kernel
theorem dX9_seenAt_22 : decode cX9_seenAt 22 = .ok (.ireturn, 1) := by decide +kernel
theorem dX9_stepOf_0 : decode cX9_stepOf 0 = .ok (.aload_n 0, 1) := by decide +kernel
theorem dX9_stepOf_1 : decode cX9_stepOf 1 = .ok (.getfield 13, 3) := by decide +kernel
theorem dX9_stepOf_4 : decode cX9_stepOf 4 = .ok (.iload_n 2, 1) := by decide +kernel
theorem dX9_stepOf_5 : decode cX9_stepOf 5 = .ok (.iaload, 1) := by decide +kernel
theorem dX9_stepOf_6 : decode cX9_stepOf 6 = .ok (.aload_n 0, 1) := by decide +kernel
theorem dX9_stepOf_7 : decode cX9_stepOf 7 = .ok (.getfield 13, 3) := by decide +kernel
theorem dX9_stepOf_10 : decode cX9_stepOf 10 = .ok (.iload_n 1, 1) := by decide +kernel
theorem dX9_stepOf_11 : decode cX9_stepOf 11 = .ok (.iaload, 1) := by decide +kernel
theorem dX9_stepOf_12 : decode cX9_stepOf 12 = .ok (.isub, 1) := by decide +kernel
theorem dX9_stepOf_13 : decode cX9_stepOf 13 = .ok (.aload_n 0, 1) := by decide +kernel
theorem dX9_stepOf_14 : decode cX9_stepOf 14 = .ok (.getfield 44, 3) := by decide +kernel
theorem dX9_stepOf_17 : decode cX9_stepOf 17 = .ok (.invokestatic 47, 3) := by decide +kernel
theorem dX9_stepOf_20 : decode cX9_stepOf 20 = .ok (.istore_n 3, 1) := by decide +kernel
theorem dX9_stepOf_21 : decode cX9_stepOf 21 = .ok (.iconst 2, 1) := by decide +kernel
theorem dX9_stepOf_22 : decode cX9_stepOf 22 = .ok (.iload_n 3, 1) := by decide +kernel
theorem dX9_stepOf_23 : decode cX9_stepOf 23 = .ok (.imul, 1) := by decide +kernel
theorem dX9_stepOf_24 : decode cX9_stepOf 24 = .ok (.aload_n 0, 1) := by decide +kernel
theorem dX9_stepOf_25 : decode cX9_stepOf 25 = .ok (.getfield 44, 3) := by decide +kernel
theorem dX9_stepOf_28 : decode cX9_stepOf 28 = .ok (.if_icmp .gt 7, 3) := by decide +kernel
theorem dX9_stepOf_31 : decode cX9_stepOf 31 = .ok (.iload_n 3, 1) := by decide +kernel
theorem dX9_stepOf_32 : decode cX9_stepOf 32 = .ok (.goto 9, 3) := by decide +kernel
theorem dX9_stepOf_35 : decode cX9_stepOf 35 = .ok (.iload_n 3, 1) := by decide +kernel
theorem dX9_stepOf_36 : decode cX9_stepOf 36 = .ok (.aload_n 0, 1) := by decide +kernel
theorem dX9_stepOf_37 : decode cX9_stepOf 37 = .ok (.getfield 44, 3) := by decide +kernel
theorem dX9_stepOf_40 : decode cX9_stepOf 40 = .ok (.isub, 1) := by decide +kernel
theorem dX9_stepOf_41 : decode cX9_stepOf 41 = .ok (.ireturn, 1) := by decide +kernel
theorem dX9_isSamePicture_0 : decode cX9_isSamePicture 0 = .ok (.aload_n 0, 1) := by decide +kernel
theorem dX9_isSamePicture_1 : decode cX9_isSamePicture 1 = .ok (.iload_n 1, 1) := by decide +kernel
theorem dX9_isSamePicture_2 : decode cX9_isSamePicture 2 = .ok (.iload_n 2, 1) := by decide +kernel
theorem dX9_isSamePicture_3 : decode cX9_isSamePicture 3 = .ok (.invokevirtual 59, 3) := by decide +kernel
theorem dX9_isSamePicture_6 : decode cX9_isSamePicture 6 = .ok (.ifCond .ne 7, 3) := by decide +kernel
theorem dX9_isSamePicture_9 : decode cX9_isSamePicture 9 = .ok (.iconst 1, 1) := by decide +kernel
theorem dX9_isSamePicture_10 : decode cX9_isSamePicture 10 = .ok (.goto 4, 3) := by decide +kernel
theorem dX9_isSamePicture_13 : decode cX9_isSamePicture 13 = .ok (.iconst 0, 1) := by decide +kernel
theorem dX9_isSamePicture_14 : decode cX9_isSamePicture 14 = .ok (.ireturn, 1) := by decide +kernel
theorem dX9_type_0 : decode cX9_type 0 = .ok (.iload_n 1, 1) := by decide +kernel
theorem dX9_type_1 : decode cX9_type 1 = .ok (.bipush 32, 2) := by decide +kernel
theorem dX9_type_3 : decode cX9_type 3 = .ok (.bipush 126, 2) := by decide +kernel
theorem dX9_type_5 : decode cX9_type 5 = .ok (.invokestatic 55, 3) := by decide +kernel
theorem dX9_type_8 : decode cX9_type 8 = .ok (.ifCond .ne 7, 3) := by decide +kernel
theorem dX9_type_11 : decode cX9_type 11 = .ok (.sipush (-1001), 3) := by decide +kernel
theorem dX9_type_14 : decode cX9_type 14 = .ok (.ireturn, 1) := by decide +kernel
theorem dX9_type_15 : decode cX9_type 15 = .ok (.aload_n 0, 1) := by decide +kernel
theorem dX9_type_16 : decode cX9_type 16 = .ok (.getfield 62, 3) := by decide +kernel
theorem dX9_type_19 : decode cX9_type 19 = .ok (.bipush 80, 2) := by decide +kernel
theorem dX9_type_21 : decode cX9_type 21 = .ok (.if_icmp .ne 7, 3) := by decide +kernel
theorem dX9_type_24 : decode cX9_type 24 = .ok (.sipush (-1003), 3) := by decide +kernel
theorem dX9_type_27 : decode cX9_type 27 = .ok (.ireturn, 1) := by decide +kernel
theorem dX9_type_28 : decode cX9_type 28 = .ok (.aload_n 0, 1) := by decide +kernel
theorem dX9_type_29 : decode cX9_type 29 = .ok (.getfield 16, 3) := by decide +kernel
theorem dX9_type_32 : decode cX9_type 32 = .ok (.aload_n 0, 1) := by decide +kernel
theorem dX9_type_33 : decode cX9_type 33 = .ok (.getfield 62, 3) := by decide +kernel
theorem dX9_type_36 : decode cX9_type 36 = .ok (.iload_n 1, 1) := by decide +kernel
theorem dX9_type_37 : decode cX9_type 37 = .ok (.iastore, 1) := by decide +kernel
theorem dX9_type_38 : decode cX9_type 38 = .ok (.aload_n 0, 1) := by decide +kernel
theorem dX9_type_39 : decode cX9_type 39 = .ok (.dup, 1) := by decide +kernel
theorem dX9_type_40 : decode cX9_type 40 = .ok (.getfield 62, 3) := by decide +kernel
theorem dX9_type_43 : decode cX9_type 43 = .ok (.iconst 1, 1) := by decide +kernel
theorem dX9_type_44 : decode cX9_type 44 = .ok (.iadd, 1) := by decide +kernel
theorem dX9_type_45 : decode cX9_type 45 = .ok (.putfield 62, 3) := by decide +kernel
theorem dX9_type_48 : decode cX9_type 48 = .ok (.aload_n 0, 1) := by decide +kernel
theorem dX9_type_49 : decode cX9_type 49 = .ok (.getfield 62, 3) := by decide +kernel
theorem dX9_type_52 : decode cX9_type 52 = .ok (.ireturn, 1) := by decide +kernel
theorem dX9_clearText_0 : decode cX9_clearText 0 = .ok (.aload_n 0, 1) := by decide +kernel
theorem dX9_clearText_1 : decode cX9_clearText 1 = .ok (.getfield 62, 3) := by decide +kernel
theorem dX9_clearText_4 : decode cX9_clearText 4 = .ok (.istore_n 1, 1) := by decide +kernel
theorem dX9_clearText_5 : decode cX9_clearText 5 = .ok (.aload_n 0, 1) := by decide +kernel
theorem dX9_clearText_6 : decode cX9_clearText 6 = .ok (.iconst 0, 1) := by decide +kernel
theorem dX9_clearText_7 : decode cX9_clearText 7 = .ok (.putfield 62, 3) := by decide +kernel
theorem dX9_clearText_10 : decode cX9_clearText 10 = .ok (.iload_n 1, 1) := by decide +kernel
theorem dX9_clearText_11 : decode cX9_clearText 11 = .ok (.ireturn, 1) := by decide +kernel
theorem dX9_here_0 : decode cX9_here 0 = .ok (.aload_n 0, 1) := by decide +kernel
theorem dX9_here_1 : decode cX9_here 1 = .ok (.getfield 65, 3) := by decide +kernel
theorem dX9_here_4 : decode cX9_here 4 = .ok (.aload_n 0, 1) := by decide +kernel
theorem dX9_here_5 : decode cX9_here 5 = .ok (.getfield 62, 3) := by decide +kernel
theorem dX9_here_8 : decode cX9_here 8 = .ok (.if_icmp .ge 15, 3) := by decide +kernel
theorem dX9_here_11 : decode cX9_here 11 = .ok (.aload_n 0, 1) := by decide +kernel
theorem dX9_here_12 : decode cX9_here 12 = .ok (.getfield 16, 3) := by decide +kernel
theorem dX9_here_15 : decode cX9_here 15 = .ok (.aload_n 0, 1) := by decide +kernel
theorem dX9_here_16 : decode cX9_here 16 = .ok (.getfield 65, 3) := by decide +kernel
theorem dX9_here_19 : decode cX9_here 19 = .ok (.iaload, 1) := by decide +kernel
theorem dX9_here_20 : decode cX9_here 20 = .ok (.goto 6, 3) := by decide +kernel
theorem dX9_here_23 : decode cX9_here 23 = .ok (.sipush (-1004), 3) := by decide +kernel
theorem dX9_here_26 : decode cX9_here 26 = .ok (.ireturn, 1) := by decide +kernel
theorem dX9_isDigit_0 : decode cX9_isDigit 0 = .ok (.aload_n 0, 1) := by decide +kernel
theorem dX9_isDigit_1 : decode cX9_isDigit 1 = .ok (.invokevirtual 68, 3) := by decide +kernel
theorem dX9_isDigit_4 : decode cX9_isDigit 4 = .ok (.bipush 48, 2) := by decide +kernel
theorem dX9_isDigit_6 : decode cX9_isDigit 6 = .ok (.bipush 57, 2) := by decide +kernel
theorem dX9_isDigit_8 : decode cX9_isDigit 8 = .ok (.invokestatic 55, 3) := by decide +kernel
theorem dX9_isDigit_11 : decode cX9_isDigit 11 = .ok (.ireturn, 1) := by decide +kernel
theorem dX9_fails_0 : decode cX9_fails 0 = .ok (.aload_n 0, 1) := by decide +kernel
theorem dX9_fails_1 : decode cX9_fails 1 = .ok (.iload_n 1, 1) := by decide +kernel
theorem dX9_fails_2 : decode cX9_fails 2 = .ok (.putfield 71, 3) := by decide +kernel
theorem dX9_fails_5 : decode cX9_fails 5 = .ok (.aload_n 0, 1) := by decide +kernel
theorem dX9_fails_6 : decode cX9_fails 6 = .ok (.iload_n 2, 1) := by decide +kernel
theorem dX9_fails_7 : decode cX9_fails 7 = .ok (.putfield 74, 3) := by decide +kernel
theorem dX9_fails_10 : decode cX9_fails 10 = .ok (.iconst 0, 1) := by decide +kernel
theorem dX9_fails_11 : decode cX9_fails 11 = .ok (.ireturn, 1) := by decide +kernel
theorem dX9_readsNumber_0 : decode cX9_readsNumber 0 = .ok (.aload_n 0, 1) := by decide +kernel
theorem dX9_readsNumber_1 : decode cX9_readsNumber 1 = .ok (.getfield 65, 3) := by decide +kernel
theorem dX9_readsNumber_4 : decode cX9_readsNumber 4 = .ok (.istore 5, 2) := by decide +kernel
theorem dX9_readsNumber_6 : decode cX9_readsNumber 6 = .ok (.aload_n 0, 1) := by decide +kernel
theorem dX9_readsNumber_7 : decode cX9_readsNumber 7 = .ok (.iconst 0, 1) := by decide +kernel
theorem dX9_readsNumber_8 : decode cX9_readsNumber 8 = .ok (.putfield 77, 3) := by decide +kernel
theorem dX9_readsNumber_11 : decode cX9_readsNumber 11 = .ok (.aload_n 0, 1) := by decide +kernel
theorem dX9_readsNumber_12 : decode cX9_readsNumber 12 = .ok (.invokevirtual 80, 3) := by decide +kernel
theorem dX9_readsNumber_15 : decode cX9_readsNumber 15 = .ok (.ifCond .eq 46, 3) := by decide +kernel
theorem dX9_readsNumber_18 : decode cX9_readsNumber 18 = .ok (.aload_n 0, 1) := by decide +kernel
theorem dX9_readsNumber_19 : decode cX9_readsNumber 19 = .ok (.getfield 65, 3) := by decide +kernel
theorem dX9_readsNumber_22 : decode cX9_readsNumber 22 = .ok (.iload 5, 2) := by decide +kernel
theorem dX9_readsNumber_24 : decode cX9_readsNumber 24 = .ok (.iload_n 1, 1) := by decide +kernel
theorem dX9_readsNumber_25 : decode cX9_readsNumber 25 = .ok (.iadd, 1) := by decide +kernel
theorem dX9_readsNumber_26 : decode cX9_readsNumber 26 = .ok (.if_icmp .ge 35, 3) := by decide +kernel
theorem dX9_readsNumber_29 : decode cX9_readsNumber 29 = .ok (.aload_n 0, 1) := by decide +kernel
theorem dX9_readsNumber_30 : decode cX9_readsNumber 30 = .ok (.bipush 10, 2) := by decide +kernel
theorem dX9_readsNumber_32 : decode cX9_readsNumber 32 = .ok (.aload_n 0, 1) := by decide +kernel
theorem dX9_readsNumber_33 : decode cX9_readsNumber 33 = .ok (.getfield 77, 3) := by decide +kernel
theorem dX9_readsNumber_36 : decode cX9_readsNumber 36 = .ok (.imul, 1) := by decide +kernel
theorem dX9_readsNumber_37 : decode cX9_readsNumber 37 = .ok (.aload_n 0, 1) := by decide +kernel
theorem dX9_readsNumber_38 : decode cX9_readsNumber 38 = .ok (.invokevirtual 68, 3) := by decide +kernel
theorem dX9_readsNumber_41 : decode cX9_readsNumber 41 = .ok (.iadd, 1) := by decide +kernel
theorem dX9_readsNumber_42 : decode cX9_readsNumber 42 = .ok (.bipush 48, 2) := by decide +kernel
theorem dX9_readsNumber_44 : decode cX9_readsNumber 44 = .ok (.isub, 1) := by decide +kernel
theorem dX9_readsNumber_45 : decode cX9_readsNumber 45 = .ok (.putfield 77, 3) := by decide +kernel
theorem dX9_readsNumber_48 : decode cX9_readsNumber 48 = .ok (.aload_n 0, 1) := by decide +kernel
theorem dX9_readsNumber_49 : decode cX9_readsNumber 49 = .ok (.dup, 1) := by decide +kernel
theorem dX9_readsNumber_50 : decode cX9_readsNumber 50 = .ok (.getfield 65, 3) := by decide +kernel
theorem dX9_readsNumber_53 : decode cX9_readsNumber 53 = .ok (.iconst 1, 1) := by decide +kernel
theorem dX9_readsNumber_54 : decode cX9_readsNumber 54 = .ok (.iadd, 1) := by decide +kernel
theorem dX9_readsNumber_55 : decode cX9_readsNumber 55 = .ok (.putfield 65, 3) := by decide +kernel
theorem dX9_readsNumber_58 : decode cX9_readsNumber 58 = .ok (.goto (-47), 3) := by decide +kernel
theorem dX9_readsNumber_61 : decode cX9_readsNumber 61 = .ok (.aload_n 0, 1) := by decide +kernel
theorem dX9_readsNumber_62 : decode cX9_readsNumber 62 = .ok (.getfield 65, 3) := by decide +kernel
theorem dX9_readsNumber_65 : decode cX9_readsNumber 65 = .ok (.iload 5, 2) := by decide +kernel
theorem dX9_readsNumber_67 : decode cX9_readsNumber 67 = .ok (.if_icmp .eq 10, 3) := by decide +kernel
theorem dX9_readsNumber_70 : decode cX9_readsNumber 70 = .ok (.aload_n 0, 1) := by decide +kernel
theorem dX9_readsNumber_71 : decode cX9_readsNumber 71 = .ok (.invokevirtual 80, 3) := by decide +kernel
theorem dX9_readsNumber_74 : decode cX9_readsNumber 74 = .ok (.ifCond .eq 13, 3) := by decide +kernel
theorem dX9_readsNumber_77 : decode cX9_readsNumber 77 = .ok (.aload_n 0, 1) := by decide +kernel
theorem dX9_readsNumber_78 : decode cX9_readsNumber 78 = .ok (.iconst 1, 1) := by decide +kernel
theorem dX9_readsNumber_79 : decode cX9_readsNumber 79 = .ok (.aload_n 0, 1) := by decide +kernel
theorem dX9_readsNumber_80 : decode cX9_readsNumber 80 = .ok (.getfield 65, 3) := by decide +kernel
theorem dX9_readsNumber_83 : decode cX9_readsNumber 83 = .ok (.invokevirtual 84, 3) := by decide +kernel
theorem dX9_readsNumber_86 : decode cX9_readsNumber 86 = .ok (.ireturn, 1) := by decide +kernel
theorem dX9_readsNumber_87 : decode cX9_readsNumber 87 = .ok (.aload_n 0, 1) := by decide +kernel
theorem dX9_readsNumber_88 : decode cX9_readsNumber 88 = .ok (.dup, 1) := by decide +kernel
theorem dX9_readsNumber_89 : decode cX9_readsNumber 89 = .ok (.getfield 77, 3) := by decide +kernel
theorem dX9_readsNumber_92 : decode cX9_readsNumber 92 = .ok (.iload_n 2, 1) := by decide +kernel
theorem dX9_readsNumber_93 : decode cX9_readsNumber 93 = .ok (.imul, 1) := by decide +kernel
theorem dX9_readsNumber_94 : decode cX9_readsNumber 94 = .ok (.putfield 77, 3) := by decide +kernel
theorem dX9_readsNumber_97 : decode cX9_readsNumber 97 = .ok (.aload_n 0, 1) := by decide +kernel
theorem dX9_readsNumber_98 : decode cX9_readsNumber 98 = .ok (.getfield 77, 3) := by decide +kernel
theorem dX9_readsNumber_101 : decode cX9_readsNumber 101 = .ok (.iload_n 3, 1) := by decide +kernel
theorem dX9_readsNumber_102 : decode cX9_readsNumber 102 = .ok (.iload 4, 2) := by decide +kernel
theorem dX9_readsNumber_104 : decode cX9_readsNumber 104 = .ok (.invokestatic 55, 3) := by decide +kernel
theorem dX9_readsNumber_107 : decode cX9_readsNumber 107 = .ok (.ifCond .ne 13, 3) := by decide +kernel
theorem dX9_readsNumber_110 : decode cX9_readsNumber 110 = .ok (.aload_n 0, 1) := by decide +kernel
theorem dX9_readsNumber_111 : decode cX9_readsNumber 111 = .ok (.iconst 2, 1) := by decide +kernel
theorem dX9_readsNumber_112 : decode cX9_readsNumber 112 = .ok (.iload 5, 2) := by decide +kernel
theorem dX9_readsNumber_114 : decode cX9_readsNumber 114 = .ok (.invokevirtual 84, 3) := by decide +kernel
theorem dX9_readsNumber_117 : decode cX9_readsNumber 117 = .ok (.ifCond .eq 7, 3) := by decide +kernel
theorem dX9_readsNumber_120 : decode cX9_readsNumber 120 = .ok (.iconst 1, 1) := by decide +kernel
theorem dX9_readsNumber_121 : decode cX9_readsNumber 121 = .ok (.goto 4, 3) := by decide +kernel
theorem dX9_readsNumber_124 : decode cX9_readsNumber 124 = .ok (.iconst 0, 1) := by decide +kernel
theorem dX9_readsNumber_125 : decode cX9_readsNumber 125 = .ok (.ireturn, 1) := by decide +kernel
theorem dX9_readsCells_0 : decode cX9_readsCells 0 = .ok (.iconst 0, 1) := by decide +kernel
theorem dX9_readsCells_1 : decode cX9_readsCells 1 = .ok (.istore_n 1, 1) := by decide +kernel
theorem dX9_readsCells_2 : decode cX9_readsCells 2 = .ok (.iload_n 1, 1) := by decide +kernel
theorem dX9_readsCells_3 : decode cX9_readsCells 3 = .ok (.bipush 60, 2) := by decide +kernel
theorem dX9_readsCells_5 : decode cX9_readsCells 5 = .ok (.if_icmp .ge 72, 3) := by decide +kernel
theorem dX9_readsCells_8 : decode cX9_readsCells 8 = .ok (.aload_n 0, 1) := by decide +kernel
theorem dX9_readsCells_9 : decode cX9_readsCells 9 = .ok (.invokevirtual 68, 3) := by decide +kernel
theorem dX9_readsCells_12 : decode cX9_readsCells 12 = .ok (.bipush 46, 2) := by decide +kernel
theorem dX9_readsCells_14 : decode cX9_readsCells 14 = .ok (.if_icmp .eq 17, 3) := by decide +kernel
theorem dX9_readsCells_17 : decode cX9_readsCells 17 = .ok (.aload_n 0, 1) := by decide +kernel
theorem dX9_readsCells_18 : decode cX9_readsCells 18 = .ok (.invokevirtual 68, 3) := by decide +kernel
theorem dX9_readsCells_21 : decode cX9_readsCells 21 = .ok (.bipush 97, 2) := by decide +kernel
theorem dX9_readsCells_23 : decode cX9_readsCells 23 = .ok (.bipush 99, 2) := by decide +kernel
theorem dX9_readsCells_25 : decode cX9_readsCells 25 = .ok (.invokestatic 55, 3) := by decide +kernel
theorem dX9_readsCells_28 : decode cX9_readsCells 28 = .ok (.ifCond .eq 49, 3) := by decide +kernel
theorem dX9_readsCells_31 : decode cX9_readsCells 31 = .ok (.aload_n 0, 1) := by decide +kernel
theorem dX9_readsCells_32 : decode cX9_readsCells 32 = .ok (.getfield 7, 3) := by decide +kernel
theorem dX9_readsCells_35 : decode cX9_readsCells 35 = .ok (.iconst 1, 1) := by decide +kernel
theorem dX9_readsCells_36 : decode cX9_readsCells 36 = .ok (.iload_n 1, 1) := by decide +kernel
theorem dX9_readsCells_37 : decode cX9_readsCells 37 = .ok (.iadd, 1) := by decide +kernel
theorem dX9_readsCells_38 : decode cX9_readsCells 38 = .ok (.aload_n 0, 1) := by decide +kernel
theorem dX9_readsCells_39 : decode cX9_readsCells 39 = .ok (.invokevirtual 68, 3) := by decide +kernel
theorem dX9_readsCells_42 : decode cX9_readsCells 42 = .ok (.bipush 46, 2) := by decide +kernel
theorem dX9_readsCells_44 : decode cX9_readsCells 44 = .ok (.if_icmp .ne 7, 3) := by decide +kernel
theorem dX9_readsCells_47 : decode cX9_readsCells 47 = .ok (.iconst 0, 1) := by decide +kernel
theorem dX9_readsCells_48 : decode cX9_readsCells 48 = .ok (.goto 12, 3) := by decide +kernel
theorem dX9_readsCells_51 : decode cX9_readsCells 51 = .ok (.aload_n 0, 1) := by decide +kernel
theorem dX9_readsCells_52 : decode cX9_readsCells 52 = .ok (.invokevirtual 68, 3) := by decide +kernel
theorem dX9_readsCells_55 : decode cX9_readsCells 55 = .ok (.bipush 97, 2) := by decide +kernel
theorem dX9_readsCells_57 : decode cX9_readsCells 57 = .ok (.isub, 1) := by decide +kernel
theorem dX9_readsCells_58 : decode cX9_readsCells 58 = .ok (.iconst 1, 1) := by decide +kernel
theorem dX9_readsCells_59 : decode cX9_readsCells 59 = .ok (.iadd, 1) := by decide +kernel
theorem dX9_readsCells_60 : decode cX9_readsCells 60 = .ok (.iastore, 1) := by decide +kernel
theorem dX9_readsCells_61 : decode cX9_readsCells 61 = .ok (.aload_n 0, 1) := by decide +kernel
theorem dX9_readsCells_62 : decode cX9_readsCells 62 = .ok (.dup, 1) := by decide +kernel
theorem dX9_readsCells_63 : decode cX9_readsCells 63 = .ok (.getfield 65, 3) := by decide +kernel
theorem dX9_readsCells_66 : decode cX9_readsCells 66 = .ok (.iconst 1, 1) := by decide +kernel
theorem dX9_readsCells_67 : decode cX9_readsCells 67 = .ok (.iadd, 1) := by decide +kernel
theorem dX9_readsCells_68 : decode cX9_readsCells 68 = .ok (.putfield 65, 3) := by decide +kernel
theorem dX9_readsCells_71 : decode cX9_readsCells 71 = .ok (.iinc 1 1, 3) := by decide +kernel
theorem dX9_readsCells_74 : decode cX9_readsCells 74 = .ok (.goto (-72), 3) := by decide +kernel
theorem dX9_readsCells_77 : decode cX9_readsCells 77 = .ok (.aload_n 0, 1) := by decide +kernel
theorem dX9_readsCells_78 : decode cX9_readsCells 78 = .ok (.getfield 7, 3) := by decide +kernel
theorem dX9_readsCells_81 : decode cX9_readsCells 81 = .ok (.iconst 0, 1) := by decide +kernel
theorem dX9_readsCells_82 : decode cX9_readsCells 82 = .ok (.iload_n 1, 1) := by decide +kernel
theorem dX9_readsCells_83 : decode cX9_readsCells 83 = .ok (.iastore, 1) := by decide +kernel
theorem dX9_readsCells_84 : decode cX9_readsCells 84 = .ok (.iload_n 1, 1) := by decide +kernel
theorem dX9_readsCells_85 : decode cX9_readsCells 85 = .ok (.ifCond .gt 15, 3) := by decide +kernel
theorem dX9_readsCells_88 : decode cX9_readsCells 88 = .ok (.aload_n 0, 1) := by decide +kernel
theorem dX9_readsCells_89 : decode cX9_readsCells 89 = .ok (.iconst 1, 1) := by decide +kernel
theorem dX9_readsCells_90 : decode cX9_readsCells 90 = .ok (.aload_n 0, 1) := by decide +kernel
theorem dX9_readsCells_91 : decode cX9_readsCells 91 = .ok (.getfield 65, 3) := by decide +kernel
theorem dX9_readsCells_94 : decode cX9_readsCells 94 = .ok (.invokevirtual 84, 3) := by decide +kernel
theorem dX9_readsCells_97 : decode cX9_readsCells 97 = .ok (.ifCond .eq 7, 3) := by decide +kernel
theorem dX9_readsCells_100 : decode cX9_readsCells 100 = .ok (.iconst 1, 1) := by decide +kernel
theorem dX9_readsCells_101 : decode cX9_readsCells 101 = .ok (.goto 4, 3) := by decide +kernel
theorem dX9_readsCells_104 : decode cX9_readsCells 104 = .ok (.iconst 0, 1) := by decide +kernel
theorem dX9_readsCells_105 : decode cX9_readsCells 105 = .ok (.ireturn, 1) := by decide +kernel
theorem dX9_readsStart_0 : decode cX9_readsStart 0 = .ok (.aload_n 0, 1) := by decide +kernel
theorem dX9_readsStart_1 : decode cX9_readsStart 1 = .ok (.invokevirtual 68, 3) := by decide +kernel
theorem dX9_readsStart_4 : decode cX9_readsStart 4 = .ok (.bipush 64, 2) := by decide +kernel
theorem dX9_readsStart_6 : decode cX9_readsStart 6 = .ok (.if_icmp .eq 5, 3) := by decide +kernel
theorem dX9_readsStart_9 : decode cX9_readsStart 9 = .ok (.iconst 1, 1) := by decide +kernel
theorem dX9_readsStart_10 : decode cX9_readsStart 10 = .ok (.ireturn, 1) := by decide +kernel
theorem dX9_readsStart_11 : decode cX9_readsStart 11 = .ok (.aload_n 0, 1) := by decide +kernel
theorem dX9_readsStart_12 : decode cX9_readsStart 12 = .ok (.dup, 1) := by decide +kernel
theorem dX9_readsStart_13 : decode cX9_readsStart 13 = .ok (.getfield 65, 3) := by decide +kernel
theorem dX9_readsStart_16 : decode cX9_readsStart 16 = .ok (.iconst 1, 1) := by decide +kernel
theorem dX9_readsStart_17 : decode cX9_readsStart 17 = .ok (.iadd, 1) := by decide +kernel
theorem dX9_readsStart_18 : decode cX9_readsStart 18 = .ok (.putfield 65, 3) := by decide +kernel
theorem dX9_readsStart_21 : decode cX9_readsStart 21 = .ok (.aload_n 0, 1) := by decide +kernel
theorem dX9_readsStart_22 : decode cX9_readsStart 22 = .ok (.iconst 2, 1) := by decide +kernel
theorem dX9_readsStart_23 : decode cX9_readsStart 23 = .ok (.iconst 1, 1) := by decide +kernel
theorem dX9_readsStart_24 : decode cX9_readsStart 24 = .ok (.iconst 0, 1) := by decide +kernel
theorem dX9_readsStart_25 : decode cX9_readsStart 25 = .ok (.bipush 59, 2) := by decide +kernel
theorem dX9_readsStart_27 : decode cX9_readsStart 27 = .ok (.invokevirtual 88, 3) := by decide +kernel
theorem dX9_readsStart_30 : decode cX9_readsStart 30 = .ok (.istore_n 1, 1) := by decide +kernel
theorem dX9_readsStart_31 : decode cX9_readsStart 31 = .ok (.aload_n 0, 1) := by decide +kernel
theorem dX9_readsStart_32 : decode cX9_readsStart 32 = .ok (.getfield 7, 3) := by decide +kernel
theorem dX9_readsStart_35 : decode cX9_readsStart 35 = .ok (.bipush 61, 2) := by decide +kernel
theorem dX9_readsStart_37 : decode cX9_readsStart 37 = .ok (.aload_n 0, 1) := by decide +kernel
theorem dX9_readsStart_38 : decode cX9_readsStart 38 = .ok (.getfield 77, 3) := by decide +kernel
theorem dX9_readsStart_41 : decode cX9_readsStart 41 = .ok (.iastore, 1) := by decide +kernel
theorem dX9_readsStart_42 : decode cX9_readsStart 42 = .ok (.iload_n 1, 1) := by decide +kernel
theorem dX9_readsStart_43 : decode cX9_readsStart 43 = .ok (.ireturn, 1) := by decide +kernel
theorem dX9_readsSpeed_0 : decode cX9_readsSpeed 0 = .ok (.aload_n 0, 1) := by decide +kernel
theorem dX9_readsSpeed_1 : decode cX9_readsSpeed 1 = .ok (.invokevirtual 68, 3) := by decide +kernel
theorem dX9_readsSpeed_4 : decode cX9_readsSpeed 4 = .ok (.bipush 42, 2) := by decide +kernel
theorem dX9_readsSpeed_6 : decode cX9_readsSpeed 6 = .ok (.if_icmp .eq 5, 3) := by decide +kernel
theorem dX9_readsSpeed_9 : decode cX9_readsSpeed 9 = .ok (.iconst 1, 1) := by decide +kernel
theorem dX9_readsSpeed_10 : decode cX9_readsSpeed 10 = .ok (.ireturn, 1) := by decide +kernel
theorem dX9_readsSpeed_11 : decode cX9_readsSpeed 11 = .ok (.aload_n 0, 1) := by decide +kernel
theorem dX9_readsSpeed_12 : decode cX9_readsSpeed 12 = .ok (.dup, 1) := by decide +kernel
theorem dX9_readsSpeed_13 : decode cX9_readsSpeed 13 = .ok (.getfield 65, 3) := by decide +kernel
theorem dX9_readsSpeed_16 : decode cX9_readsSpeed 16 = .ok (.iconst 1, 1) := by decide +kernel
theorem dX9_readsSpeed_17 : decode cX9_readsSpeed 17 = .ok (.iadd, 1) := by decide +kernel
theorem dX9_readsSpeed_18 : decode cX9_readsSpeed 18 = .ok (.putfield 65, 3) := by decide +kernel
theorem dX9_readsSpeed_21 : decode cX9_readsSpeed 21 = .ok (.aload_n 0, 1) := by decide +kernel
theorem dX9_readsSpeed_22 : decode cX9_readsSpeed 22 = .ok (.invokevirtual 68, 3) := by decide +kernel
theorem dX9_readsSpeed_25 : decode cX9_readsSpeed 25 = .ok (.bipush 45, 2) := by decide +kernel
theorem dX9_readsSpeed_27 : decode cX9_readsSpeed 27 = .ok (.if_icmp .ne 7, 3) := by decide +kernel
theorem dX9_readsSpeed_30 : decode cX9_readsSpeed 30 = .ok (.iconst (-1), 1) := by decide +kernel
theorem dX9_readsSpeed_31 : decode cX9_readsSpeed 31 = .ok (.goto 4, 3) := by decide +kernel
theorem dX9_readsSpeed_34 : decode cX9_readsSpeed 34 = .ok (.iconst 1, 1) := by decide +kernel
theorem dX9_readsSpeed_35 : decode cX9_readsSpeed 35 = .ok (.istore_n 1, 1) := by decide +kernel
theorem dX9_readsSpeed_36 : decode cX9_readsSpeed 36 = .ok (.aload_n 0, 1) := by decide +kernel
theorem dX9_readsSpeed_37 : decode cX9_readsSpeed 37 = .ok (.dup, 1) := by decide +kernel
theorem dX9_readsSpeed_38 : decode cX9_readsSpeed 38 = .ok (.getfield 65, 3) := by decide +kernel
theorem dX9_readsSpeed_41 : decode cX9_readsSpeed 41 = .ok (.iload_n 1, 1) := by decide +kernel
theorem dX9_readsSpeed_42 : decode cX9_readsSpeed 42 = .ok (.ifCond .ge 7, 3) := by decide +kernel
theorem dX9_readsSpeed_45 : decode cX9_readsSpeed 45 = .ok (.iconst 1, 1) := by decide +kernel
theorem dX9_readsSpeed_46 : decode cX9_readsSpeed 46 = .ok (.goto 4, 3) := by decide +kernel
theorem dX9_readsSpeed_49 : decode cX9_readsSpeed 49 = .ok (.iconst 0, 1) := by decide +kernel
theorem dX9_readsSpeed_50 : decode cX9_readsSpeed 50 = .ok (.iadd, 1) := by decide +kernel
theorem dX9_readsSpeed_51 : decode cX9_readsSpeed 51 = .ok (.putfield 65, 3) := by decide +kernel
theorem dX9_readsSpeed_54 : decode cX9_readsSpeed 54 = .ok (.aload_n 0, 1) := by decide +kernel
theorem dX9_readsSpeed_55 : decode cX9_readsSpeed 55 = .ok (.iconst 4, 1) := by decide +kernel
theorem dX9_readsSpeed_56 : decode cX9_readsSpeed 56 = .ok (.iload_n 1, 1) := by decide +kernel
theorem dX9_readsSpeed_57 : decode cX9_readsSpeed 57 = .ok (.sipush (-1000), 3) := by decide +kernel
theorem dX9_readsSpeed_60 : decode cX9_readsSpeed 60 = .ok (.sipush 1000, 3) := by decide +kernel
theorem dX9_readsSpeed_63 : decode cX9_readsSpeed 63 = .ok (.invokevirtual 88, 3) := by decide +kernel
theorem dX9_readsSpeed_66 : decode cX9_readsSpeed 66 = .ok (.istore_n 2, 1) := by decide +kernel
theorem dX9_readsSpeed_67 : decode cX9_readsSpeed 67 = .ok (.aload_n 0, 1) := by decide +kernel
theorem dX9_readsSpeed_68 : decode cX9_readsSpeed 68 = .ok (.getfield 7, 3) := by decide +kernel
theorem dX9_readsSpeed_71 : decode cX9_readsSpeed 71 = .ok (.bipush 62, 2) := by decide +kernel
theorem dX9_readsSpeed_73 : decode cX9_readsSpeed 73 = .ok (.aload_n 0, 1) := by decide +kernel
theorem dX9_readsSpeed_74 : decode cX9_readsSpeed 74 = .ok (.getfield 77, 3) := by decide +kernel
theorem dX9_readsSpeed_77 : decode cX9_readsSpeed 77 = .ok (.iastore, 1) := by decide +kernel
theorem dX9_readsSpeed_78 : decode cX9_readsSpeed 78 = .ok (.iload_n 2, 1) := by decide +kernel
theorem dX9_readsSpeed_79 : decode cX9_readsSpeed 79 = .ok (.ireturn, 1) := by decide +kernel
theorem dX9_load_0 : decode cX9_load 0 = .ok (.aload_n 0, 1) := by decide +kernel
theorem dX9_load_1 : decode cX9_load 1 = .ok (.iconst 0, 1) := by decide +kernel
theorem dX9_load_2 : decode cX9_load 2 = .ok (.bipush 9, 2) := by decide +kernel
theorem dX9_load_4 : decode cX9_load 4 = .ok (.invokevirtual 33, 3) := by decide +kernel
theorem dX9_load_7 : decode cX9_load 7 = .ok (.aload_n 0, 1) := by decide +kernel
theorem dX9_load_8 : decode cX9_load 8 = .ok (.iconst 0, 1) := by decide +kernel
theorem dX9_load_9 : decode cX9_load 9 = .ok (.putfield 71, 3) := by decide +kernel
theorem dX9_load_12 : decode cX9_load 12 = .ok (.aload_n 0, 1) := by decide +kernel
theorem dX9_load_13 : decode cX9_load 13 = .ok (.iconst 0, 1) := by decide +kernel
theorem dX9_load_14 : decode cX9_load 14 = .ok (.putfield 65, 3) := by decide +kernel
theorem dX9_load_17 : decode cX9_load 17 = .ok (.aload_n 0, 1) := by decide +kernel
theorem dX9_load_18 : decode cX9_load 18 = .ok (.getfield 7, 3) := by decide +kernel
theorem dX9_load_21 : decode cX9_load 21 = .ok (.bipush 61, 2) := by decide +kernel
theorem dX9_load_23 : decode cX9_load 23 = .ok (.iconst 0, 1) := by decide +kernel
theorem dX9_load_24 : decode cX9_load 24 = .ok (.iastore, 1) := by decide +kernel
theorem dX9_load_25 : decode cX9_load 25 = .ok (.aload_n 0, 1) := by decide +kernel
theorem dX9_load_26 : decode cX9_load 26 = .ok (.getfield 7, 3) := by decide +kernel
theorem dX9_load_29 : decode cX9_load 29 = .ok (.bipush 62, 2) := by decide +kernel
theorem dX9_load_31 : decode cX9_load 31 = .ok (.iconst 0, 1) := by decide +kernel
theorem dX9_load_32 : decode cX9_load 32 = .ok (.iastore, 1) := by decide +kernel
theorem dX9_load_33 : decode cX9_load 33 = .ok (.aload_n 0, 1) := by decide +kernel
theorem dX9_load_34 : decode cX9_load 34 = .ok (.getfield 7, 3) := by decide +kernel
theorem dX9_load_37 : decode cX9_load 37 = .ok (.bipush 63, 2) := by decide +kernel
theorem dX9_load_39 : decode cX9_load 39 = .ok (.iconst 0, 1) := by decide +kernel
theorem dX9_load_40 : decode cX9_load 40 = .ok (.iastore, 1) := by decide +kernel
theorem dX9_load_41 : decode cX9_load 41 = .ok (.aload_n 0, 1) := by decide +kernel
theorem dX9_load_42 : decode cX9_load 42 = .ok (.invokevirtual 92, 3) := by decide +kernel
theorem dX9_load_45 : decode cX9_load 45 = .ok (.ifCond .eq 21, 3) := by decide +kernel
theorem dX9_load_48 : decode cX9_load 48 = .ok (.aload_n 0, 1) := by decide +kernel
theorem dX9_load_49 : decode cX9_load 49 = .ok (.invokevirtual 95, 3) := by decide +kernel
theorem dX9_load_52 : decode cX9_load 52 = .ok (.ifCond .eq 14, 3) := by decide +kernel
theorem dX9_load_55 : decode cX9_load 55 = .ok (.aload_n 0, 1) := by decide +kernel
theorem dX9_load_56 : decode cX9_load 56 = .ok (.invokevirtual 98, 3) := by decide +kernel
theorem dX9_load_59 : decode cX9_load 59 = .ok (.ifCond .eq 7, 3) := by decide +kernel
theorem dX9_load_62 : decode cX9_load 62 = .ok (.iconst 1, 1) := by decide +kernel
theorem dX9_load_63 : decode cX9_load 63 = .ok (.goto 4, 3) := by decide +kernel
theorem dX9_load_66 : decode cX9_load 66 = .ok (.iconst 0, 1) := by decide +kernel
theorem dX9_load_67 : decode cX9_load 67 = .ok (.istore_n 1, 1) := by decide +kernel
theorem dX9_load_68 : decode cX9_load 68 = .ok (.iload_n 1, 1) := by decide +kernel
theorem dX9_load_69 : decode cX9_load 69 = .ok (.ifCond .eq 30, 3) := by decide +kernel
theorem dX9_load_72 : decode cX9_load 72 = .ok (.aload_n 0, 1) := by decide +kernel
theorem dX9_load_73 : decode cX9_load 73 = .ok (.getfield 65, 3) := by decide +kernel
theorem dX9_load_76 : decode cX9_load 76 = .ok (.aload_n 0, 1) := by decide +kernel
theorem dX9_load_77 : decode cX9_load 77 = .ok (.getfield 62, 3) := by decide +kernel
theorem dX9_load_80 : decode cX9_load 80 = .ok (.if_icmp .eq 15, 3) := by decide +kernel
theorem dX9_load_83 : decode cX9_load 83 = .ok (.aload_n 0, 1) := by decide +kernel
theorem dX9_load_84 : decode cX9_load 84 = .ok (.iconst 1, 1) := by decide +kernel
theorem dX9_load_85 : decode cX9_load 85 = .ok (.aload_n 0, 1) := by decide +kernel
theorem dX9_load_86 : decode cX9_load 86 = .ok (.getfield 65, 3) := by decide +kernel
theorem dX9_load_89 : decode cX9_load 89 = .ok (.invokevirtual 84, 3) := by decide +kernel
theorem dX9_load_92 : decode cX9_load 92 = .ok (.ifCond .eq 7, 3) := by decide +kernel
theorem dX9_load_95 : decode cX9_load 95 = .ok (.iconst 1, 1) := by decide +kernel
theorem dX9_load_96 : decode cX9_load 96 = .ok (.goto 4, 3) := by decide +kernel
theorem dX9_load_99 : decode cX9_load 99 = .ok (.iconst 0, 1) := by decide +kernel
theorem dX9_load_100 : decode cX9_load 100 = .ok (.istore_n 1, 1) := by decide +kernel
theorem dX9_load_101 : decode cX9_load 101 = .ok (.iload_n 1, 1) := by decide +kernel
theorem dX9_load_102 : decode cX9_load 102 = .ok (.ifCond .ne 18, 3) := by decide +kernel
theorem dX9_load_105 : decode cX9_load 105 = .ok (.aload_n 0, 1) := by decide +kernel
theorem dX9_load_106 : decode cX9_load 106 = .ok (.bipush 9, 2) := by decide +kernel
theorem dX9_load_108 : decode cX9_load 108 = .ok (.iconst 0, 1) := by decide +kernel
theorem dX9_load_109 : decode cX9_load 109 = .ok (.invokevirtual 33, 3) := by decide +kernel
theorem dX9_load_112 : decode cX9_load 112 = .ok (.bipush (-10), 2) := by decide +kernel
theorem dX9_load_114 : decode cX9_load 114 = .ok (.aload_n 0, 1) := by decide +kernel
theorem dX9_load_115 : decode cX9_load 115 = .ok (.getfield 74, 3) := by decide +kernel
theorem dX9_load_118 : decode cX9_load 118 = .ok (.isub, 1) := by decide +kernel
theorem dX9_load_119 : decode cX9_load 119 = .ok (.ireturn, 1) := by decide +kernel
theorem dX9_load_120 : decode cX9_load 120 = .ok (.iconst 0, 1) := by decide +kernel
theorem dX9_load_121 : decode cX9_load 121 = .ok (.istore_n 2, 1) := by decide +kernel
theorem dX9_load_122 : decode cX9_load 122 = .ok (.iload_n 2, 1) := by decide +kernel
theorem dX9_load_123 : decode cX9_load 123 = .ok (.bipush 98, 2) := by decide +kernel
theorem dX9_load_125 : decode cX9_load 125 = .ok (.if_icmp .ge 43, 3) := by decide +kernel
theorem dX9_load_128 : decode cX9_load 128 = .ok (.aload_n 0, 1) := by decide +kernel
theorem dX9_load_129 : decode cX9_load 129 = .ok (.getfield 7, 3) := by decide +kernel
theorem dX9_load_132 : decode cX9_load 132 = .ok (.iload_n 2, 1) := by decide +kernel
theorem dX9_load_133 : decode cX9_load 133 = .ok (.iaload, 1) := by decide +kernel
theorem dX9_load_134 : decode cX9_load 134 = .ok (.istore_n 3, 1) := by decide +kernel
theorem dX9_load_135 : decode cX9_load 135 = .ok (.aload_n 0, 1) := by decide +kernel
theorem dX9_load_136 : decode cX9_load 136 = .ok (.getfield 7, 3) := by decide +kernel
theorem dX9_load_139 : decode cX9_load 139 = .ok (.iload_n 2, 1) := by decide +kernel
theorem dX9_load_140 : decode cX9_load 140 = .ok (.aload_n 0, 1) := by decide +kernel
theorem dX9_load_141 : decode cX9_load 141 = .ok (.getfield 7, 3) := by decide +kernel
theorem dX9_load_144 : decode cX9_load 144 = .ok (.sipush 882, 3) := by decide +kernel
theorem dX9_load_147 : decode cX9_load 147 = .ok (.iload_n 2, 1) := by decide +kernel
theorem dX9_load_148 : decode cX9_load 148 = .ok (.iadd, 1) := by decide +kernel
theorem dX9_load_149 : decode cX9_load 149 = .ok (.iaload, 1) := by decide +kernel
theorem dX9_load_150 : decode cX9_load 150 = .ok (.iastore, 1) := by decide +kernel
theorem dX9_load_151 : decode cX9_load 151 = .ok (.aload_n 0, 1) := by decide +kernel
theorem dX9_load_152 : decode cX9_load 152 = .ok (.getfield 7, 3) := by decide +kernel
theorem dX9_load_155 : decode cX9_load 155 = .ok (.sipush 882, 3) := by decide +kernel
theorem dX9_load_158 : decode cX9_load 158 = .ok (.iload_n 2, 1) := by decide +kernel
theorem dX9_load_159 : decode cX9_load 159 = .ok (.iadd, 1) := by decide +kernel
theorem dX9_load_160 : decode cX9_load 160 = .ok (.iload_n 3, 1) := by decide +kernel
theorem dX9_load_161 : decode cX9_load 161 = .ok (.iastore, 1) := by decide +kernel
theorem dX9_load_162 : decode cX9_load 162 = .ok (.iinc 2 1, 3) := by decide +kernel
theorem dX9_load_165 : decode cX9_load 165 = .ok (.goto (-43), 3) := by decide +kernel
theorem dX9_load_168 : decode cX9_load 168 = .ok (.aload_n 0, 1) := by decide +kernel
theorem dX9_load_169 : decode cX9_load 169 = .ok (.invokevirtual 101, 3) := by decide +kernel
theorem dX9_load_172 : decode cX9_load 172 = .ok (.aload_n 0, 1) := by decide +kernel
theorem dX9_load_173 : decode cX9_load 173 = .ok (.bipush 9, 2) := by decide +kernel
theorem dX9_load_175 : decode cX9_load 175 = .ok (.iconst 0, 1) := by decide +kernel
theorem dX9_load_176 : decode cX9_load 176 = .ok (.invokevirtual 33, 3) := by decide +kernel
theorem dX9_load_179 : decode cX9_load 179 = .ok (.aload_n 0, 1) := by decide +kernel
theorem dX9_load_180 : decode cX9_load 180 = .ok (.invokevirtual 37, 3) := by decide +kernel
theorem dX9_load_183 : decode cX9_load 183 = .ok (.ireturn, 1) := by decide +kernel
theorem dX9_faultKind_0 : decode cX9_faultKind 0 = .ok (.aload_n 0, 1) := by decide +kernel
theorem dX9_faultKind_1 : decode cX9_faultKind 1 = .ok (.getfield 71, 3) := by decide +kernel
theorem dX9_faultKind_4 : decode cX9_faultKind 4 = .ok (.ireturn, 1) := by decide +kernel
theorem dX9_becomes_0 : decode cX9_becomes 0 = .ok (.aload_n 0, 1) := by decide +kernel
theorem dX9_becomes_1 : decode cX9_becomes 1 = .ok (.invokevirtual 101, 3) := by decide +kernel
theorem dX9_becomes_4 : decode cX9_becomes 4 = .ok (.aload_n 0, 1) := by decide +kernel
theorem dX9_becomes_5 : decode cX9_becomes 5 = .ok (.getfield 7, 3) := by decide +kernel
theorem dX9_becomes_8 : decode cX9_becomes 8 = .ok (.iload_n 1, 1) := by decide +kernel
theorem dX9_becomes_9 : decode cX9_becomes 9 = .ok (.iaload, 1) := by decide +kernel
theorem dX9_becomes_10 : decode cX9_becomes 10 = .ok (.istore_n 3, 1) := by decide +kernel
theorem dX9_becomes_11 : decode cX9_becomes 11 = .ok (.aload_n 0, 1) := by decide +kernel
theorem dX9_becomes_12 : decode cX9_becomes 12 = .ok (.getfield 7, 3) := by decide +kernel
theorem dX9_becomes_15 : decode cX9_becomes 15 = .ok (.iload_n 1, 1) := by decide +kernel
theorem dX9_becomes_16 : decode cX9_becomes 16 = .ok (.iload_n 2, 1) := by decide +kernel
theorem dX9_becomes_17 : decode cX9_becomes 17 = .ok (.iastore, 1) := by decide +kernel
theorem dX9_becomes_18 : decode cX9_becomes 18 = .ok (.iload_n 3, 1) := by decide +kernel
theorem dX9_becomes_19 : decode cX9_becomes 19 = .ok (.ireturn, 1) := by decide +kernel
theorem dX9_setMark_0 : decode cX9_setMark 0 = .ok (.aload_n 0, 1) := by decide +kernel
theorem dX9_setMark_1 : decode cX9_setMark 1 = .ok (.iload_n 1, 1) := by decide +kernel
theorem dX9_setMark_2 : decode cX9_setMark 2 = .ok (.invokevirtual 104, 3) := by decide +kernel
theorem dX9_setMark_5 : decode cX9_setMark 5 = .ok (.ifCond .eq 23, 3) := by decide +kernel
theorem dX9_setMark_8 : decode cX9_setMark 8 = .ok (.iload_n 2, 1) := by decide +kernel
theorem dX9_setMark_9 : decode cX9_setMark 9 = .ok (.iconst 0, 1) := by decide +kernel
theorem dX9_setMark_10 : decode cX9_setMark 10 = .ok (.iconst 3, 1) := by decide +kernel
theorem dX9_setMark_11 : decode cX9_setMark 11 = .ok (.invokestatic 55, 3) := by decide +kernel
theorem dX9_setMark_14 : decode cX9_setMark 14 = .ok (.ifCond .eq 14, 3) := by decide +kernel
theorem dX9_setMark_17 : decode cX9_setMark 17 = .ok (.aload_n 0, 1) := by decide +kernel
theorem dX9_setMark_18 : decode cX9_setMark 18 = .ok (.iconst 1, 1) := by decide +kernel
theorem dX9_setMark_19 : decode cX9_setMark 19 = .ok (.iload_n 1, 1) := by decide +kernel
theorem dX9_setMark_20 : decode cX9_setMark 20 = .ok (.iadd, 1) := by decide +kernel
theorem dX9_setMark_21 : decode cX9_setMark 21 = .ok (.iload_n 2, 1) := by decide +kernel
theorem dX9_setMark_22 : decode cX9_setMark 22 = .ok (.invokevirtual 108, 3) := by decide +kernel
theorem dX9_setMark_25 : decode cX9_setMark 25 = .ok (.goto 6, 3) := by decide +kernel
theorem dX9_setMark_28 : decode cX9_setMark 28 = .ok (.sipush (-1001), 3) := by decide +kernel
theorem dX9_setMark_31 : decode cX9_setMark 31 = .ok (.ireturn, 1) := by decide +kernel
theorem dX9_setStart_0 : decode cX9_setStart 0 = .ok (.iload_n 1, 1) := by decide +kernel
theorem dX9_setStart_1 : decode cX9_setStart 1 = .ok (.iconst 0, 1) := by decide +kernel
theorem dX9_setStart_2 : decode cX9_setStart 2 = .ok (.bipush 59, 2) := by decide +kernel
theorem dX9_setStart_4 : decode cX9_setStart 4 = .ok (.invokestatic 55, 3) := by decide +kernel
theorem dX9_setStart_7 : decode cX9_setStart 7 = .ok (.ifCond .eq 13, 3) := by decide +kernel
theorem dX9_setStart_10 : decode cX9_setStart 10 = .ok (.aload_n 0, 1) := by decide +kernel
theorem dX9_setStart_11 : decode cX9_setStart 11 = .ok (.bipush 61, 2) := by decide +kernel
theorem dX9_setStart_13 : decode cX9_setStart 13 = .ok (.iload_n 1, 1) := by decide +kernel
theorem dX9_setStart_14 : decode cX9_setStart 14 = .ok (.invokevirtual 108, 3) := by decide +kernel
theorem dX9_setStart_17 : decode cX9_setStart 17 = .ok (.goto 6, 3) := by decide +kernel
theorem dX9_setStart_20 : decode cX9_setStart 20 = .ok (.sipush (-1001), 3) := by decide +kernel
theorem dX9_setStart_23 : decode cX9_setStart 23 = .ok (.ireturn, 1) := by decide +kernel
theorem dX9_changeFrom_0 : decode cX9_changeFrom 0 = .ok (.iconst 0, 1) := by decide +kernel
theorem dX9_changeFrom_1 : decode cX9_changeFrom 1 = .ok (.istore_n 2, 1) := by decide +kernel
theorem dX9_changeFrom_2 : decode cX9_changeFrom 2 = .ok (.iload_n 2, 1) := by decide +kernel
theorem dX9_changeFrom_3 : decode cX9_changeFrom 3 = .ok (.aload_n 0, 1) := by decide +kernel
theorem dX9_changeFrom_4 : decode cX9_changeFrom 4 = .ok (.getfield 7, 3) := by decide +kernel
theorem dX9_changeFrom_7 : decode cX9_changeFrom 7 = .ok (.bipush 63, 2) := by decide +kernel
theorem dX9_changeFrom_9 : decode cX9_changeFrom 9 = .ok (.iaload, 1) := by decide +kernel
theorem dX9_changeFrom_10 : decode cX9_changeFrom 10 = .ok (.if_icmp .ge 18, 3) := by decide +kernel
theorem dX9_changeFrom_13 : decode cX9_changeFrom 13 = .ok (.aload_n 0, 1) := by decide +kernel
theorem dX9_changeFrom_14 : decode cX9_changeFrom 14 = .ok (.iload_n 2, 1) := by decide +kernel
theorem dX9_changeFrom_15 : decode cX9_changeFrom 15 = .ok (.invokevirtual 51, 3) := by decide +kernel
theorem dX9_changeFrom_18 : decode cX9_changeFrom 18 = .ok (.iload_n 1, 1) := by decide +kernel
theorem dX9_changeFrom_19 : decode cX9_changeFrom 19 = .ok (.if_icmp .ge 9, 3) := by decide +kernel
theorem dX9_changeFrom_22 : decode cX9_changeFrom 22 = .ok (.iinc 2 1, 3) := by decide +kernel
theorem dX9_changeFrom_25 : decode cX9_changeFrom 25 = .ok (.goto (-23), 3) := by decide +kernel
theorem dX9_changeFrom_28 : decode cX9_changeFrom 28 = .ok (.iload_n 2, 1) := by decide +kernel
theorem dX9_changeFrom_29 : decode cX9_changeFrom 29 = .ok (.ireturn, 1) := by decide +kernel
theorem dX9_isChange_0 : decode cX9_isChange 0 = .ok (.aload_n 0, 1) := by decide +kernel
theorem dX9_isChange_1 : decode cX9_isChange 1 = .ok (.iload_n 1, 1) := by decide +kernel
theorem dX9_isChange_2 : decode cX9_isChange 2 = .ok (.invokevirtual 111, 3) := by decide +kernel
theorem dX9_isChange_5 : decode cX9_isChange 5 = .ok (.istore_n 2, 1) := by decide +kernel
theorem dX9_isChange_6 : decode cX9_isChange 6 = .ok (.iload_n 2, 1) := by decide +kernel
theorem dX9_isChange_7 : decode cX9_isChange 7 = .ok (.aload_n 0, 1) := by decide +kernel
theorem dX9_isChange_8 : decode cX9_isChange 8 = .ok (.getfield 7, 3) := by decide +kernel
theorem dX9_isChange_11 : decode cX9_isChange 11 = .ok (.bipush 63, 2) := by decide +kernel
theorem dX9_isChange_13 : decode cX9_isChange 13 = .ok (.iaload, 1) := by decide +kernel
theorem dX9_isChange_14 : decode cX9_isChange 14 = .ok (.if_icmp .ge 16, 3) := by decide +kernel
theorem dX9_isChange_17 : decode cX9_isChange 17 = .ok (.aload_n 0, 1) := by decide +kernel
theorem dX9_isChange_18 : decode cX9_isChange 18 = .ok (.iload_n 2, 1) := by decide +kernel
theorem dX9_isChange_19 : decode cX9_isChange 19 = .ok (.invokevirtual 51, 3) := by decide +kernel
theorem dX9_isChange_22 : decode cX9_isChange 22 = .ok (.iload_n 1, 1) := by decide +kernel
theorem dX9_isChange_23 : decode cX9_isChange 23 = .ok (.if_icmp .ne 7, 3) := by decide +kernel
theorem dX9_isChange_26 : decode cX9_isChange 26 = .ok (.iconst 1, 1) := by decide +kernel
theorem dX9_isChange_27 : decode cX9_isChange 27 = .ok (.goto 4, 3) := by decide +kernel
theorem dX9_isChange_30 : decode cX9_isChange 30 = .ok (.iconst 0, 1) := by decide +kernel
theorem dX9_isChange_31 : decode cX9_isChange 31 = .ok (.ireturn, 1) := by decide +kernel
theorem dX9_setSpeed_0 : decode cX9_setSpeed 0 = .ok (.iload_n 1, 1) := by decide +kernel
theorem dX9_setSpeed_1 : decode cX9_setSpeed 1 = .ok (.invokestatic 114, 3) := by decide +kernel
theorem dX9_setSpeed_4 : decode cX9_setSpeed 4 = .ok (.ifCond .eq 16, 3) := by decide +kernel
theorem dX9_setSpeed_7 : decode cX9_setSpeed 7 = .ok (.iload_n 2, 1) := by decide +kernel
theorem dX9_setSpeed_8 : decode cX9_setSpeed 8 = .ok (.sipush (-1000), 3) := by decide +kernel
theorem dX9_setSpeed_11 : decode cX9_setSpeed 11 = .ok (.sipush 1000, 3) := by decide +kernel
theorem dX9_setSpeed_14 : decode cX9_setSpeed 14 = .ok (.invokestatic 55, 3) := by decide +kernel
theorem dX9_setSpeed_17 : decode cX9_setSpeed 17 = .ok (.ifCond .ne 7, 3) := by decide +kernel
theorem dX9_setSpeed_20 : decode cX9_setSpeed 20 = .ok (.sipush (-1001), 3) := by decide +kernel
theorem dX9_setSpeed_23 : decode cX9_setSpeed 23 = .ok (.ireturn, 1) := by decide +kernel
theorem dX9_setSpeed_24 : decode cX9_setSpeed 24 = .ok (.aload_n 0, 1) := by decide +kernel
theorem dX9_setSpeed_25 : decode cX9_setSpeed 25 = .ok (.iload_n 1, 1) := by decide +kernel
theorem dX9_setSpeed_26 : decode cX9_setSpeed 26 = .ok (.invokevirtual 117, 3) := by decide +kernel
theorem dX9_setSpeed_29 : decode cX9_setSpeed 29 = .ok (.istore_n 3, 1) := by decide +kernel
theorem dX9_setSpeed_30 : decode cX9_setSpeed 30 = .ok (.iload_n 1, 1) := by decide +kernel
theorem dX9_setSpeed_31 : decode cX9_setSpeed 31 = .ok (.ifCond .le 22, 3) := by decide +kernel
theorem dX9_setSpeed_34 : decode cX9_setSpeed 34 = .ok (.iload_n 3, 1) := by decide +kernel
theorem dX9_setSpeed_35 : decode cX9_setSpeed 35 = .ok (.ifCond .ne 18, 3) := by decide +kernel
theorem dX9_setSpeed_38 : decode cX9_setSpeed 38 = .ok (.aload_n 0, 1) := by decide +kernel
theorem dX9_setSpeed_39 : decode cX9_setSpeed 39 = .ok (.getfield 7, 3) := by decide +kernel
theorem dX9_setSpeed_42 : decode cX9_setSpeed 42 = .ok (.bipush 63, 2) := by decide +kernel
theorem dX9_setSpeed_44 : decode cX9_setSpeed 44 = .ok (.iaload, 1) := by decide +kernel
theorem dX9_setSpeed_45 : decode cX9_setSpeed 45 = .ok (.iconst 5, 1) := by decide +kernel
theorem dX9_setSpeed_46 : decode cX9_setSpeed 46 = .ok (.if_icmp .ne 7, 3) := by decide +kernel
theorem dX9_setSpeed_49 : decode cX9_setSpeed 49 = .ok (.sipush (-1003), 3) := by decide +kernel
theorem dX9_setSpeed_52 : decode cX9_setSpeed 52 = .ok (.ireturn, 1) := by decide +kernel
theorem dX9_setSpeed_53 : decode cX9_setSpeed 53 = .ok (.aload_n 0, 1) := by decide +kernel
theorem dX9_setSpeed_54 : decode cX9_setSpeed 54 = .ok (.invokevirtual 101, 3) := by decide +kernel
theorem dX9_setSpeed_57 : decode cX9_setSpeed 57 = .ok (.iload_n 1, 1) := by decide +kernel
theorem dX9_setSpeed_58 : decode cX9_setSpeed 58 = .ok (.ifCond .ne 19, 3) := by decide +kernel
theorem dX9_setSpeed_61 : decode cX9_setSpeed 61 = .ok (.aload_n 0, 1) := by decide +kernel
theorem dX9_setSpeed_62 : decode cX9_setSpeed 62 = .ok (.getfield 7, 3) := by decide +kernel
theorem dX9_setSpeed_65 : decode cX9_setSpeed 65 = .ok (.bipush 62, 2) := by decide +kernel
theorem dX9_setSpeed_67 : decode cX9_setSpeed 67 = .ok (.iload_n 2, 1) := by decide +kernel
theorem dX9_setSpeed_68 : decode cX9_setSpeed 68 = .ok (.iastore, 1) := by decide +kernel
theorem dX9_setSpeed_69 : decode cX9_setSpeed 69 = .ok (.aload_n 0, 1) := by decide +kernel
theorem dX9_setSpeed_70 : decode cX9_setSpeed 70 = .ok (.getfield 7, 3) := by decide +kernel
theorem dX9_setSpeed_73 : decode cX9_setSpeed 73 = .ok (.bipush 63, 2) := by decide +kernel
theorem dX9_setSpeed_75 : decode cX9_setSpeed 75 = .ok (.iaload, 1) := by decide +kernel
theorem dX9_setSpeed_76 : decode cX9_setSpeed 76 = .ok (.ireturn, 1) := by decide +kernel
theorem dX9_setSpeed_77 : decode cX9_setSpeed 77 = .ok (.aload_n 0, 1) := by decide +kernel
theorem dX9_setSpeed_78 : decode cX9_setSpeed 78 = .ok (.iload_n 1, 1) := by decide +kernel
theorem dX9_setSpeed_79 : decode cX9_setSpeed 79 = .ok (.invokevirtual 111, 3) := by decide +kernel
theorem dX9_setSpeed_82 : decode cX9_setSpeed 82 = .ok (.istore 4, 2) := by decide +kernel
theorem dX9_setSpeed_84 : decode cX9_setSpeed 84 = .ok (.iload_n 3, 1) := by decide +kernel
theorem dX9_setSpeed_85 : decode cX9_setSpeed 85 = .ok (.ifCond .ne 64, 3) := by decide +kernel
theorem dX9_setSpeed_88 : decode cX9_setSpeed 88 = .ok (.iconst 2, 1) := by decide +kernel
theorem dX9_setSpeed_89 : decode cX9_setSpeed 89 = .ok (.aload_n 0, 1) := by decide +kernel
theorem dX9_setSpeed_90 : decode cX9_setSpeed 90 = .ok (.getfield 7, 3) := by decide +kernel
theorem dX9_setSpeed_93 : decode cX9_setSpeed 93 = .ok (.bipush 63, 2) := by decide +kernel
theorem dX9_setSpeed_95 : decode cX9_setSpeed 95 = .ok (.iaload, 1) := by decide +kernel
theorem dX9_setSpeed_96 : decode cX9_setSpeed 96 = .ok (.imul, 1) := by decide +kernel
theorem dX9_setSpeed_97 : decode cX9_setSpeed 97 = .ok (.iconst 1, 1) := by decide +kernel
theorem dX9_setSpeed_98 : decode cX9_setSpeed 98 = .ok (.isub, 1) := by decide +kernel
theorem dX9_setSpeed_99 : decode cX9_setSpeed 99 = .ok (.istore 5, 2) := by decide +kernel
theorem dX9_setSpeed_101 : decode cX9_setSpeed 101 = .ok (.iload 5, 2) := by decide +kernel
theorem dX9_setSpeed_103 : decode cX9_setSpeed 103 = .ok (.iconst 2, 1) := by decide +kernel
theorem dX9_setSpeed_104 : decode cX9_setSpeed 104 = .ok (.iload 4, 2) := by decide +kernel
theorem dX9_setSpeed_106 : decode cX9_setSpeed 106 = .ok (.imul, 1) := by decide +kernel
theorem dX9_setSpeed_107 : decode cX9_setSpeed 107 = .ok (.if_icmp .lt 31, 3) := by decide +kernel
theorem dX9_setSpeed_110 : decode cX9_setSpeed 110 = .ok (.aload_n 0, 1) := by decide +kernel
theorem dX9_setSpeed_111 : decode cX9_setSpeed 111 = .ok (.getfield 7, 3) := by decide +kernel
theorem dX9_setSpeed_114 : decode cX9_setSpeed 114 = .ok (.bipush 64, 2) := by decide +kernel
theorem dX9_setSpeed_116 : decode cX9_setSpeed 116 = .ok (.iload 5, 2) := by decide +kernel
theorem dX9_setSpeed_118 : decode cX9_setSpeed 118 = .ok (.iadd, 1) := by decide +kernel
theorem dX9_setSpeed_119 : decode cX9_setSpeed 119 = .ok (.iconst 2, 1) := by decide +kernel
theorem dX9_setSpeed_120 : decode cX9_setSpeed 120 = .ok (.iadd, 1) := by decide +kernel
theorem dX9_setSpeed_121 : decode cX9_setSpeed 121 = .ok (.aload_n 0, 1) := by decide +kernel
theorem dX9_setSpeed_122 : decode cX9_setSpeed 122 = .ok (.getfield 7, 3) := by decide +kernel
theorem dX9_setSpeed_125 : decode cX9_setSpeed 125 = .ok (.bipush 64, 2) := by decide +kernel
theorem dX9_setSpeed_127 : decode cX9_setSpeed 127 = .ok (.iload 5, 2) := by decide +kernel
theorem dX9_setSpeed_129 : decode cX9_setSpeed 129 = .ok (.iadd, 1) := by decide +kernel
theorem dX9_setSpeed_130 : decode cX9_setSpeed 130 = .ok (.iaload, 1) := by decide +kernel
theorem dX9_setSpeed_131 : decode cX9_setSpeed 131 = .ok (.iastore, 1) := by decide +kernel
theorem dX9_setSpeed_132 : decode cX9_setSpeed 132 = .ok (.iinc 5 (-1), 3) := by decide +kernel
theorem dX9_setSpeed_135 : decode cX9_setSpeed 135 = .ok (.goto (-34), 3) := by decide +kernel
theorem dX9_setSpeed_138 : decode cX9_setSpeed 138 = .ok (.aload_n 0, 1) := by decide +kernel
theorem dX9_setSpeed_139 : decode cX9_setSpeed 139 = .ok (.getfield 7, 3) := by decide +kernel
theorem dX9_setSpeed_142 : decode cX9_setSpeed 142 = .ok (.bipush 63, 2) := by decide +kernel
theorem dX9_setSpeed_144 : decode cX9_setSpeed 144 = .ok (.dup2, 1) := by decide +kernel
theorem dX9_setSpeed_145 : decode cX9_setSpeed 145 = .ok (.iaload, 1) := by decide +kernel
theorem dX9_setSpeed_146 : decode cX9_setSpeed 146 = .ok (.iconst 1, 1) := by decide +kernel
theorem dX9_setSpeed_147 : decode cX9_setSpeed 147 = .ok (.iadd, 1) := by decide +kernel
theorem dX9_setSpeed_148 : decode cX9_setSpeed 148 = .ok (.iastore, 1) := by decide +kernel
theorem dX9_setSpeed_149 : decode cX9_setSpeed 149 = .ok (.aload_n 0, 1) := by decide +kernel
theorem dX9_setSpeed_150 : decode cX9_setSpeed 150 = .ok (.getfield 7, 3) := by decide +kernel
theorem dX9_setSpeed_153 : decode cX9_setSpeed 153 = .ok (.bipush 64, 2) := by decide +kernel
theorem dX9_setSpeed_155 : decode cX9_setSpeed 155 = .ok (.iconst 2, 1) := by decide +kernel
theorem dX9_setSpeed_156 : decode cX9_setSpeed 156 = .ok (.iload 4, 2) := by decide +kernel
theorem dX9_setSpeed_158 : decode cX9_setSpeed 158 = .ok (.imul, 1) := by decide +kernel
theorem dX9_setSpeed_159 : decode cX9_setSpeed 159 = .ok (.iadd, 1) := by decide +kernel
theorem dX9_setSpeed_160 : decode cX9_setSpeed 160 = .ok (.iload_n 1, 1) := by decide +kernel
theorem dX9_setSpeed_161 : decode cX9_setSpeed 161 = .ok (.iastore, 1) := by decide +kernel
theorem dX9_setSpeed_162 : decode cX9_setSpeed 162 = .ok (.aload_n 0, 1) := by decide +kernel
theorem dX9_setSpeed_163 : decode cX9_setSpeed 163 = .ok (.getfield 7, 3) := by decide +kernel
theorem dX9_setSpeed_166 : decode cX9_setSpeed 166 = .ok (.bipush 64, 2) := by decide +kernel
theorem dX9_setSpeed_168 : decode cX9_setSpeed 168 = .ok (.iconst 2, 1) := by decide +kernel
theorem dX9_setSpeed_169 : decode cX9_setSpeed 169 = .ok (.iload 4, 2) := by decide +kernel
theorem dX9_setSpeed_171 : decode cX9_setSpeed 171 = .ok (.imul, 1) := by decide +kernel
theorem dX9_setSpeed_172 : decode cX9_setSpeed 172 = .ok (.iadd, 1) := by decide +kernel
theorem dX9_setSpeed_173 : decode cX9_setSpeed 173 = .ok (.iconst 1, 1) := by decide +kernel
theorem dX9_setSpeed_174 : decode cX9_setSpeed 174 = .ok (.iadd, 1) := by decide +kernel
theorem dX9_setSpeed_175 : decode cX9_setSpeed 175 = .ok (.iload_n 2, 1) := by decide +kernel
theorem dX9_setSpeed_176 : decode cX9_setSpeed 176 = .ok (.iastore, 1) := by decide +kernel
theorem dX9_setSpeed_177 : decode cX9_setSpeed 177 = .ok (.aload_n 0, 1) := by decide +kernel
theorem dX9_setSpeed_178 : decode cX9_setSpeed 178 = .ok (.getfield 7, 3) := by decide +kernel
theorem dX9_setSpeed_181 : decode cX9_setSpeed 181 = .ok (.bipush 63, 2) := by decide +kernel
theorem dX9_setSpeed_183 : decode cX9_setSpeed 183 = .ok (.iaload, 1) := by decide +kernel
theorem dX9_setSpeed_184 : decode cX9_setSpeed 184 = .ok (.ireturn, 1) := by decide +kernel
theorem dX9_dropChange_0 : decode cX9_dropChange 0 = .ok (.aload_n 0, 1) := by decide +kernel
theorem dX9_dropChange_1 : decode cX9_dropChange 1 = .ok (.iload_n 1, 1) := by decide +kernel
theorem dX9_dropChange_2 : decode cX9_dropChange 2 = .ok (.invokevirtual 117, 3) := by decide +kernel
theorem dX9_dropChange_5 : decode cX9_dropChange 5 = .ok (.ifCond .ne 7, 3) := by decide +kernel
theorem dX9_dropChange_8 : decode cX9_dropChange 8 = .ok (.sipush (-1001), 3) := by decide +kernel
theorem dX9_dropChange_11 : decode cX9_dropChange 11 = .ok (.ireturn, 1) := by decide +kernel
theorem dX9_dropChange_12 : decode cX9_dropChange 12 = .ok (.aload_n 0, 1) := by decide +kernel
theorem dX9_dropChange_13 : decode cX9_dropChange 13 = .ok (.invokevirtual 101, 3) := by decide +kernel
theorem dX9_dropChange_16 : decode cX9_dropChange 16 = .ok (.aload_n 0, 1) := by decide +kernel
theorem dX9_dropChange_17 : decode cX9_dropChange 17 = .ok (.iload_n 1, 1) := by decide +kernel
theorem dX9_dropChange_18 : decode cX9_dropChange 18 = .ok (.invokevirtual 111, 3) := by decide +kernel
theorem dX9_dropChange_21 : decode cX9_dropChange 21 = .ok (.istore_n 2, 1) := by decide +kernel
theorem dX9_dropChange_22 : decode cX9_dropChange 22 = .ok (.aload_n 0, 1) := by decide +kernel
theorem dX9_dropChange_23 : decode cX9_dropChange 23 = .ok (.getfield 7, 3) := by decide +kernel
theorem dX9_dropChange_26 : decode cX9_dropChange 26 = .ok (.bipush 63, 2) := by decide +kernel
theorem dX9_dropChange_28 : decode cX9_dropChange 28 = .ok (.dup2, 1) := by decide +kernel
theorem dX9_dropChange_29 : decode cX9_dropChange 29 = .ok (.iaload, 1) := by decide +kernel
theorem dX9_dropChange_30 : decode cX9_dropChange 30 = .ok (.iconst 1, 1) := by decide +kernel
theorem dX9_dropChange_31 : decode cX9_dropChange 31 = .ok (.isub, 1) := by decide +kernel
theorem dX9_dropChange_32 : decode cX9_dropChange 32 = .ok (.iastore, 1) := by decide +kernel
theorem dX9_dropChange_33 : decode cX9_dropChange 33 = .ok (.iconst 2, 1) := by decide +kernel
theorem dX9_dropChange_34 : decode cX9_dropChange 34 = .ok (.iload_n 2, 1) := by decide +kernel
theorem dX9_dropChange_35 : decode cX9_dropChange 35 = .ok (.imul, 1) := by decide +kernel
theorem dX9_dropChange_36 : decode cX9_dropChange 36 = .ok (.istore_n 3, 1) := by decide +kernel
theorem dX9_dropChange_37 : decode cX9_dropChange 37 = .ok (.iload_n 3, 1) := by decide +kernel
theorem dX9_dropChange_38 : decode cX9_dropChange 38 = .ok (.iconst 2, 1) := by decide +kernel
theorem dX9_dropChange_39 : decode cX9_dropChange 39 = .ok (.aload_n 0, 1) := by decide +kernel
theorem dX9_dropChange_40 : decode cX9_dropChange 40 = .ok (.getfield 7, 3) := by decide +kernel
theorem dX9_dropChange_43 : decode cX9_dropChange 43 = .ok (.bipush 63, 2) := by decide +kernel
theorem dX9_dropChange_45 : decode cX9_dropChange 45 = .ok (.iaload, 1) := by decide +kernel
theorem dX9_dropChange_46 : decode cX9_dropChange 46 = .ok (.imul, 1) := by decide +kernel
theorem dX9_dropChange_47 : decode cX9_dropChange 47 = .ok (.if_icmp .ge 29, 3) := by decide +kernel
theorem dX9_dropChange_50 : decode cX9_dropChange 50 = .ok (.aload_n 0, 1) := by decide +kernel
theorem dX9_dropChange_51 : decode cX9_dropChange 51 = .ok (.getfield 7, 3) := by decide +kernel
theorem dX9_dropChange_54 : decode cX9_dropChange 54 = .ok (.bipush 64, 2) := by decide +kernel
theorem dX9_dropChange_56 : decode cX9_dropChange 56 = .ok (.iload_n 3, 1) := by decide +kernel
theorem dX9_dropChange_57 : decode cX9_dropChange 57 = .ok (.iadd, 1) := by decide +kernel
theorem dX9_dropChange_58 : decode cX9_dropChange 58 = .ok (.aload_n 0, 1) := by decide +kernel
theorem dX9_dropChange_59 : decode cX9_dropChange 59 = .ok (.getfield 7, 3) := by decide +kernel
theorem dX9_dropChange_62 : decode cX9_dropChange 62 = .ok (.bipush 64, 2) := by decide +kernel
theorem dX9_dropChange_64 : decode cX9_dropChange 64 = .ok (.iload_n 3, 1) := by decide +kernel
theorem dX9_dropChange_65 : decode cX9_dropChange 65 = .ok (.iadd, 1) := by decide +kernel
theorem dX9_dropChange_66 : decode cX9_dropChange 66 = .ok (.iconst 2, 1) := by decide +kernel
theorem dX9_dropChange_67 : decode cX9_dropChange 67 = .ok (.iadd, 1) := by decide +kernel
theorem dX9_dropChange_68 : decode cX9_dropChange 68 = .ok (.iaload, 1) := by decide +kernel
theorem dX9_dropChange_69 : decode cX9_dropChange 69 = .ok (.iastore, 1) := by decide +kernel
theorem dX9_dropChange_70 : decode cX9_dropChange 70 = .ok (.iinc 3 1, 3) := by decide +kernel
theorem dX9_dropChange_73 : decode cX9_dropChange 73 = .ok (.goto (-36), 3) := by decide +kernel
theorem dX9_dropChange_76 : decode cX9_dropChange 76 = .ok (.aload_n 0, 1) := by decide +kernel
theorem dX9_dropChange_77 : decode cX9_dropChange 77 = .ok (.getfield 7, 3) := by decide +kernel
theorem dX9_dropChange_80 : decode cX9_dropChange 80 = .ok (.bipush 63, 2) := by decide +kernel
theorem dX9_dropChange_82 : decode cX9_dropChange 82 = .ok (.iaload, 1) := by decide +kernel
theorem dX9_dropChange_83 : decode cX9_dropChange 83 = .ok (.ireturn, 1) := by decide +kernel
theorem dX9_markAt_0 : decode cX9_markAt 0 = .ok (.iload_n 1, 1) := by decide +kernel
theorem dX9_markAt_1 : decode cX9_markAt 1 = .ok (.invokestatic 114, 3) := by decide +kernel
theorem dX9_markAt_4 : decode cX9_markAt 4 = .ok (.ifCond .eq 11, 3) := by decide +kernel
theorem dX9_markAt_7 : decode cX9_markAt 7 = .ok (.aload_n 0, 1) := by decide +kernel
theorem dX9_markAt_8 : decode cX9_markAt 8 = .ok (.iload_n 2, 1) := by decide +kernel
theorem dX9_markAt_9 : decode cX9_markAt 9 = .ok (.invokevirtual 104, 3) := by decide +kernel
theorem dX9_markAt_12 : decode cX9_markAt 12 = .ok (.ifCond .ne 7, 3) := by decide +kernel
theorem dX9_markAt_15 : decode cX9_markAt 15 = .ok (.sipush (-1001), 3) := by decide +kernel
theorem dX9_markAt_18 : decode cX9_markAt 18 = .ok (.ireturn, 1) := by decide +kernel
theorem dX9_markAt_19 : decode cX9_markAt 19 = .ok (.aload_n 0, 1) := by decide +kernel
theorem dX9_markAt_20 : decode cX9_markAt 20 = .ok (.invokevirtual 120, 3) := by decide +kernel
theorem dX9_markAt_23 : decode cX9_markAt 23 = .ok (.aload_n 0, 1) := by decide +kernel
theorem dX9_markAt_24 : decode cX9_markAt 24 = .ok (.iload_n 1, 1) := by decide +kernel
theorem dX9_markAt_25 : decode cX9_markAt 25 = .ok (.iload_n 2, 1) := by decide +kernel
theorem dX9_markAt_26 : decode cX9_markAt 26 = .ok (.invokevirtual 123, 3) := by decide +kernel
theorem dX9_markAt_29 : decode cX9_markAt 29 = .ok (.ireturn, 1) := by decide +kernel
theorem dX9_turn_0 : decode cX9_turn 0 = .ok (.iload_n 1, 1) := by decide +kernel
theorem dX9_turn_1 : decode cX9_turn 1 = .ok (.invokestatic 114, 3) := by decide +kernel
theorem dX9_turn_4 : decode cX9_turn 4 = .ok (.ifCond .ne 7, 3) := by decide +kernel
theorem dX9_turn_7 : decode cX9_turn 7 = .ok (.sipush (-1001), 3) := by decide +kernel
theorem dX9_turn_10 : decode cX9_turn 10 = .ok (.ireturn, 1) := by decide +kernel
theorem dX9_turn_11 : decode cX9_turn 11 = .ok (.aload_n 0, 1) := by decide +kernel
theorem dX9_turn_12 : decode cX9_turn 12 = .ok (.invokevirtual 120, 3) := by decide +kernel
theorem dX9_turn_15 : decode cX9_turn 15 = .ok (.aload_n 0, 1) := by decide +kernel
theorem dX9_turn_16 : decode cX9_turn 16 = .ok (.getfield 13, 3) := by decide +kernel
theorem dX9_turn_19 : decode cX9_turn 19 = .ok (.iload_n 1, 1) := by decide +kernel
theorem dX9_turn_20 : decode cX9_turn 20 = .ok (.iaload, 1) := by decide +kernel
theorem dX9_turn_21 : decode cX9_turn 21 = .ok (.ireturn, 1) := by decide +kernel
theorem dX9_flashes_0 : decode cX9_flashes 0 = .ok (.sipush 1000, 3) := by decide +kernel
theorem dX9_flashes_3 : decode cX9_flashes 3 = .ok (.aload_n 0, 1) := by decide +kernel
theorem dX9_flashes_4 : decode cX9_flashes 4 = .ok (.getfield 7, 3) := by decide +kernel
theorem dX9_flashes_7 : decode cX9_flashes 7 = .ok (.bipush 74, 2) := by decide +kernel
theorem dX9_flashes_9 : decode cX9_flashes 9 = .ok (.iaload, 1) := by decide +kernel
theorem dX9_flashes_10 : decode cX9_flashes 10 = .ok (.isub, 1) := by decide +kernel
theorem dX9_flashes_11 : decode cX9_flashes 11 = .ok (.aload_n 0, 1) := by decide +kernel
theorem dX9_flashes_12 : decode cX9_flashes 12 = .ok (.getfield 7, 3) := by decide +kernel
theorem dX9_flashes_15 : decode cX9_flashes 15 = .ok (.bipush 75, 2) := by decide +kernel
theorem dX9_flashes_17 : decode cX9_flashes 17 = .ok (.iaload, 1) := by decide +kernel
theorem dX9_flashes_18 : decode cX9_flashes 18 = .ok (.idiv, 1) := by decide +kernel
theorem dX9_flashes_19 : decode cX9_flashes 19 = .ok (.iconst 1, 1) := by decide +kernel
theorem dX9_flashes_20 : decode cX9_flashes 20 = .ok (.iadd, 1) := by decide +kernel
theorem dX9_flashes_21 : decode cX9_flashes 21 = .ok (.ireturn, 1) := by decide +kernel
theorem dX9_tickOfFlash_0 : decode cX9_tickOfFlash 0 = .ok (.aload_n 0, 1) := by decide +kernel
theorem dX9_tickOfFlash_1 : decode cX9_tickOfFlash 1 = .ok (.getfield 7, 3) := by decide +kernel
theorem dX9_tickOfFlash_4 : decode cX9_tickOfFlash 4 = .ok (.bipush 74, 2) := by decide +kernel
theorem dX9_tickOfFlash_6 : decode cX9_tickOfFlash 6 = .ok (.iaload, 1) := by decide +kernel
theorem dX9_tickOfFlash_7 : decode cX9_tickOfFlash 7 = .ok (.iload_n 1, 1) := by decide +kernel
theorem dX9_tickOfFlash_8 : decode cX9_tickOfFlash 8 = .ok (.aload_n 0, 1) := by decide +kernel
theorem dX9_tickOfFlash_9 : decode cX9_tickOfFlash 9 = .ok (.getfield 7, 3) := by decide +kernel
theorem dX9_tickOfFlash_12 : decode cX9_tickOfFlash 12 = .ok (.bipush 75, 2) := by decide +kernel
theorem dX9_tickOfFlash_14 : decode cX9_tickOfFlash 14 = .ok (.iaload, 1) := by decide +kernel
theorem dX9_tickOfFlash_15 : decode cX9_tickOfFlash 15 = .ok (.imul, 1) := by decide +kernel
theorem dX9_tickOfFlash_16 : decode cX9_tickOfFlash 16 = .ok (.iadd, 1) := by decide +kernel
theorem dX9_tickOfFlash_17 : decode cX9_tickOfFlash 17 = .ok (.ireturn, 1) := by decide +kernel
theorem dX9_isFlash_0 : decode cX9_isFlash 0 = .ok (.iload_n 1, 1) := by decide +kernel
theorem dX9_isFlash_1 : decode cX9_isFlash 1 = .ok (.iconst 0, 1) := by decide +kernel
theorem dX9_isFlash_2 : decode cX9_isFlash 2 = .ok (.aload_n 0, 1) := by decide +kernel
theorem dX9_isFlash_3 : decode cX9_isFlash 3 = .ok (.invokevirtual 126, 3) := by decide +kernel
theorem dX9_isFlash_6 : decode cX9_isFlash 6 = .ok (.iconst 1, 1) := by decide +kernel
theorem dX9_isFlash_7 : decode cX9_isFlash 7 = .ok (.isub, 1) := by decide +kernel
theorem dX9_isFlash_8 : decode cX9_isFlash 8 = .ok (.invokestatic 55, 3) := by decide +kernel
theorem dX9_isFlash_11 : decode cX9_isFlash 11 = .ok (.ireturn, 1) := by decide +kernel
theorem dX9_setFlash_0 : decode cX9_setFlash 0 = .ok (.iload_n 1, 1) := by decide +kernel
theorem dX9_setFlash_1 : decode cX9_setFlash 1 = .ok (.invokestatic 114, 3) := by decide +kernel
theorem dX9_setFlash_4 : decode cX9_setFlash 4 = .ok (.ifCond .eq 14, 3) := by decide +kernel
theorem dX9_setFlash_7 : decode cX9_setFlash 7 = .ok (.iload_n 2, 1) := by decide +kernel
theorem dX9_setFlash_8 : decode cX9_setFlash 8 = .ok (.iconst 1, 1) := by decide +kernel
theorem dX9_setFlash_9 : decode cX9_setFlash 9 = .ok (.sipush 500, 3) := by decide +kernel
theorem dX9_setFlash_12 : decode cX9_setFlash 12 = .ok (.invokestatic 55, 3) := by decide +kernel
theorem dX9_setFlash_15 : decode cX9_setFlash 15 = .ok (.ifCond .ne 7, 3) := by decide +kernel
theorem dX9_setFlash_18 : decode cX9_setFlash 18 = .ok (.sipush (-1001), 3) := by decide +kernel
theorem dX9_setFlash_21 : decode cX9_setFlash 21 = .ok (.ireturn, 1) := by decide +kernel
theorem dX9_setFlash_22 : decode cX9_setFlash 22 = .ok (.aload_n 0, 1) := by decide +kernel
theorem dX9_setFlash_23 : decode cX9_setFlash 23 = .ok (.invokevirtual 101, 3) := by decide +kernel
theorem dX9_setFlash_26 : decode cX9_setFlash 26 = .ok (.aload_n 0, 1) := by decide +kernel
theorem dX9_setFlash_27 : decode cX9_setFlash 27 = .ok (.getfield 7, 3) := by decide +kernel
theorem dX9_setFlash_30 : decode cX9_setFlash 30 = .ok (.bipush 74, 2) := by decide +kernel
theorem dX9_setFlash_32 : decode cX9_setFlash 32 = .ok (.iload_n 1, 1) := by decide +kernel
theorem dX9_setFlash_33 : decode cX9_setFlash 33 = .ok (.iastore, 1) := by decide +kernel
theorem dX9_setFlash_34 : decode cX9_setFlash 34 = .ok (.aload_n 0, 1) := by decide +kernel
theorem dX9_setFlash_35 : decode cX9_setFlash 35 = .ok (.getfield 7, 3) := by decide +kernel
theorem dX9_setFlash_38 : decode cX9_setFlash 38 = .ok (.bipush 75, 2) := by decide +kernel
theorem dX9_setFlash_40 : decode cX9_setFlash 40 = .ok (.iload_n 2, 1) := by decide +kernel
theorem dX9_setFlash_41 : decode cX9_setFlash 41 = .ok (.iastore, 1) := by decide +kernel
theorem dX9_setFlash_42 : decode cX9_setFlash 42 = .ok (.aload_n 0, 1) := by decide +kernel
theorem dX9_setFlash_43 : decode cX9_setFlash 43 = .ok (.invokevirtual 126, 3) := by decide +kernel
theorem dX9_setFlash_46 : decode cX9_setFlash 46 = .ok (.ireturn, 1) := by decide +kernel
theorem dX9_earliest_0 : decode cX9_earliest 0 = .ok (.iconst 0, 1) := by decide +kernel
theorem dX9_earliest_1 : decode cX9_earliest 1 = .ok (.istore_n 2, 1) := by decide +kernel
theorem dX9_earliest_2 : decode cX9_earliest 2 = .ok (.aload_n 0, 1) := by decide +kernel
theorem dX9_earliest_3 : decode cX9_earliest 3 = .ok (.aload_n 0, 1) := by decide +kernel
theorem dX9_earliest_4 : decode cX9_earliest 4 = .ok (.iload_n 2, 1) := by decide +kernel
theorem dX9_earliest_5 : decode cX9_earliest 5 = .ok (.invokevirtual 129, 3) := by decide +kernel
theorem dX9_earliest_8 : decode cX9_earliest 8 = .ok (.aload_n 0, 1) := by decide +kernel
theorem dX9_earliest_9 : decode cX9_earliest 9 = .ok (.iload_n 1, 1) := by decide +kernel
theorem dX9_earliest_10 : decode cX9_earliest 10 = .ok (.invokevirtual 129, 3) := by decide +kernel
theorem dX9_earliest_13 : decode cX9_earliest 13 = .ok (.invokevirtual 132, 3) := by decide +kernel
theorem dX9_earliest_16 : decode cX9_earliest 16 = .ok (.ifCond .ne 9, 3) := by decide +kernel
theorem dX9_earliest_19 : decode cX9_earliest 19 = .ok (.iinc 2 1, 3) := by decide +kernel
theorem dX9_earliest_22 : decode cX9_earliest 22 = .ok (.goto (-20), 3) := by decide +kernel
theorem dX9_earliest_25 : decode cX9_earliest 25 = .ok (.iload_n 2, 1) := by decide +kernel
theorem dX9_earliest_26 : decode cX9_earliest 26 = .ok (.ireturn, 1) := by decide +kernel
theorem dX9_stepBehind_0 : decode cX9_stepBehind 0 = .ok (.iload_n 1, 1) := by decide +kernel
theorem dX9_stepBehind_1 : decode cX9_stepBehind 1 = .ok (.aload_n 0, 1) := by decide +kernel
theorem dX9_stepBehind_2 : decode cX9_stepBehind 2 = .ok (.invokevirtual 126, 3) := by decide +kernel
theorem dX9_stepBehind_5 : decode cX9_stepBehind 5 = .ok (.iconst 1, 1) := by decide +kernel
theorem dX9_stepBehind_6 : decode cX9_stepBehind 6 = .ok (.isub, 1) := by decide +kernel
theorem dX9_stepBehind_7 : decode cX9_stepBehind 7 = .ok (.if_icmp .ne 9, 3) := by decide +kernel
theorem dX9_stepBehind_10 : decode cX9_stepBehind 10 = .ok (.sipush (-1004), 3) := by decide +kernel
theorem dX9_stepBehind_13 : decode cX9_stepBehind 13 = .ok (.goto 19, 3) := by decide +kernel
theorem dX9_stepBehind_16 : decode cX9_stepBehind 16 = .ok (.aload_n 0, 1) := by decide +kernel
theorem dX9_stepBehind_17 : decode cX9_stepBehind 17 = .ok (.aload_n 0, 1) := by decide +kernel
theorem dX9_stepBehind_18 : decode cX9_stepBehind 18 = .ok (.iload_n 1, 1) := by decide +kernel
theorem dX9_stepBehind_19 : decode cX9_stepBehind 19 = .ok (.invokevirtual 129, 3) := by decide +kernel
theorem dX9_stepBehind_22 : decode cX9_stepBehind 22 = .ok (.aload_n 0, 1) := by decide +kernel
theorem dX9_stepBehind_23 : decode cX9_stepBehind 23 = .ok (.iload_n 1, 1) := by decide +kernel
theorem dX9_stepBehind_24 : decode cX9_stepBehind 24 = .ok (.iconst 1, 1) := by decide +kernel
theorem dX9_stepBehind_25 : decode cX9_stepBehind 25 = .ok (.iadd, 1) := by decide +kernel
theorem dX9_stepBehind_26 : decode cX9_stepBehind 26 = .ok (.invokevirtual 129, 3) := by decide +kernel
theorem dX9_stepBehind_29 : decode cX9_stepBehind 29 = .ok (.invokevirtual 59, 3) := by decide +kernel
theorem dX9_stepBehind_32 : decode cX9_stepBehind 32 = .ok (.ireturn, 1) := by decide +kernel
theorem dX9_flash_0 : decode cX9_flash 0 = .ok (.aload_n 0, 1) := by decide +kernel
theorem dX9_flash_1 : decode cX9_flash 1 = .ok (.iload_n 1, 1) := by decide +kernel
theorem dX9_flash_2 : decode cX9_flash 2 = .ok (.invokevirtual 135, 3) := by decide +kernel
theorem dX9_flash_5 : decode cX9_flash 5 = .ok (.ifCond .eq 12, 3) := by decide +kernel
theorem dX9_flash_8 : decode cX9_flash 8 = .ok (.iload_n 2, 1) := by decide +kernel
theorem dX9_flash_9 : decode cX9_flash 9 = .ok (.iconst 0, 1) := by decide +kernel
theorem dX9_flash_10 : decode cX9_flash 10 = .ok (.iconst 3, 1) := by decide +kernel
theorem dX9_flash_11 : decode cX9_flash 11 = .ok (.invokestatic 55, 3) := by decide +kernel
theorem dX9_flash_14 : decode cX9_flash 14 = .ok (.ifCond .ne 7, 3) := by decide +kernel
theorem dX9_flash_17 : decode cX9_flash 17 = .ok (.sipush (-1001), 3) := by decide +kernel
theorem dX9_flash_20 : decode cX9_flash 20 = .ok (.ireturn, 1) := by decide +kernel
theorem dX9_flash_21 : decode cX9_flash 21 = .ok (.aload_n 0, 1) := by decide +kernel
theorem dX9_flash_22 : decode cX9_flash 22 = .ok (.invokevirtual 120, 3) := by decide +kernel
theorem dX9_flash_25 : decode cX9_flash 25 = .ok (.iload_n 2, 1) := by decide +kernel
theorem dX9_flash_26 : decode cX9_flash 26 = .ok (.tableswitch 49 0 2 #[26, 32, 43], 26) := by decide +kernel
theorem dX9_flash_52 : decode cX9_flash 52 = .ok (.aload_n 0, 1) := by decide +kernel
theorem dX9_flash_53 : decode cX9_flash 53 = .ok (.iload_n 1, 1) := by decide +kernel
theorem dX9_flash_54 : decode cX9_flash 54 = .ok (.invokevirtual 129, 3) := by decide +kernel
theorem dX9_flash_57 : decode cX9_flash 57 = .ok (.ireturn, 1) := by decide +kernel
theorem dX9_flash_58 : decode cX9_flash 58 = .ok (.aload_n 0, 1) := by decide +kernel
theorem dX9_flash_59 : decode cX9_flash 59 = .ok (.getfield 13, 3) := by decide +kernel
theorem dX9_flash_62 : decode cX9_flash 62 = .ok (.aload_n 0, 1) := by decide +kernel
theorem dX9_flash_63 : decode cX9_flash 63 = .ok (.iload_n 1, 1) := by decide +kernel
theorem dX9_flash_64 : decode cX9_flash 64 = .ok (.invokevirtual 129, 3) := by decide +kernel
theorem dX9_flash_67 : decode cX9_flash 67 = .ok (.iaload, 1) := by decide +kernel
theorem dX9_flash_68 : decode cX9_flash 68 = .ok (.ireturn, 1) := by decide +kernel
theorem dX9_flash_69 : decode cX9_flash 69 = .ok (.aload_n 0, 1) := by decide +kernel
theorem dX9_flash_70 : decode cX9_flash 70 = .ok (.iload_n 1, 1) := by decide +kernel
theorem dX9_flash_71 : decode cX9_flash 71 = .ok (.invokevirtual 138, 3) := by decide +kernel
theorem dX9_flash_74 : decode cX9_flash 74 = .ok (.ireturn, 1) := by decide +kernel
theorem dX9_flash_75 : decode cX9_flash 75 = .ok (.aload_n 0, 1) := by decide +kernel
theorem dX9_flash_76 : decode cX9_flash 76 = .ok (.iload_n 1, 1) := by decide +kernel
theorem dX9_flash_77 : decode cX9_flash 77 = .ok (.invokevirtual 141, 3) := by decide +kernel
theorem dX9_flash_80 : decode cX9_flash 80 = .ok (.ireturn, 1) := by decide +kernel
theorem dX9_step_0 : decode cX9_step 0 = .ok (.iload_n 1, 1) := by decide +kernel
theorem dX9_step_1 : decode cX9_step 1 = .ok (.invokestatic 114, 3) := by decide +kernel
theorem dX9_step_4 : decode cX9_step 4 = .ok (.ifCond .eq 10, 3) := by decide +kernel
theorem dX9_step_7 : decode cX9_step 7 = .ok (.iload_n 2, 1) := by decide +kernel
theorem dX9_step_8 : decode cX9_step 8 = .ok (.invokestatic 114, 3) := by decide +kernel
theorem dX9_step_11 : decode cX9_step 11 = .ok (.ifCond .ne 7, 3) := by decide +kernel
theorem dX9_step_14 : decode cX9_step 14 = .ok (.sipush (-1001), 3) := by decide +kernel
theorem dX9_step_17 : decode cX9_step 17 = .ok (.ireturn, 1) := by decide +kernel
theorem dX9_step_18 : decode cX9_step 18 = .ok (.aload_n 0, 1) := by decide +kernel
theorem dX9_step_19 : decode cX9_step 19 = .ok (.invokevirtual 120, 3) := by decide +kernel
theorem dX9_step_22 : decode cX9_step 22 = .ok (.aload_n 0, 1) := by decide +kernel
theorem dX9_step_23 : decode cX9_step 23 = .ok (.iload_n 1, 1) := by decide +kernel
theorem dX9_step_24 : decode cX9_step 24 = .ok (.iload_n 2, 1) := by decide +kernel
theorem dX9_step_25 : decode cX9_step 25 = .ok (.invokevirtual 59, 3) := by decide +kernel
theorem dX9_step_28 : decode cX9_step 28 = .ok (.ireturn, 1) := by decide +kernel
theorem dX9_pictures_0 : decode cX9_pictures 0 = .ok (.aload_n 0, 1) := by decide +kernel
theorem dX9_pictures_1 : decode cX9_pictures 1 = .ok (.invokevirtual 41, 3) := by decide +kernel
theorem dX9_pictures_4 : decode cX9_pictures 4 = .ok (.istore_n 1, 1) := by decide +kernel
theorem dX9_pictures_5 : decode cX9_pictures 5 = .ok (.iconst 0, 1) := by decide +kernel
theorem dX9_pictures_6 : decode cX9_pictures 6 = .ok (.istore_n 2, 1) := by decide +kernel
theorem dX9_pictures_7 : decode cX9_pictures 7 = .ok (.iconst 0, 1) := by decide +kernel
theorem dX9_pictures_8 : decode cX9_pictures 8 = .ok (.istore_n 3, 1) := by decide +kernel
theorem dX9_pictures_9 : decode cX9_pictures 9 = .ok (.iload_n 3, 1) := by decide +kernel
theorem dX9_pictures_10 : decode cX9_pictures 10 = .ok (.bipush 60, 2) := by decide +kernel
theorem dX9_pictures_12 : decode cX9_pictures 12 = .ok (.if_icmp .ge 16, 3) := by decide +kernel
theorem dX9_pictures_15 : decode cX9_pictures 15 = .ok (.aload_n 0, 1) := by decide +kernel
theorem dX9_pictures_16 : decode cX9_pictures 16 = .ok (.getfield 19, 3) := by decide +kernel
theorem dX9_pictures_19 : decode cX9_pictures 19 = .ok (.iload_n 3, 1) := by decide +kernel
theorem dX9_pictures_20 : decode cX9_pictures 20 = .ok (.iconst 0, 1) := by decide +kernel
theorem dX9_pictures_21 : decode cX9_pictures 21 = .ok (.bastore, 1) := by decide +kernel
theorem dX9_pictures_22 : decode cX9_pictures 22 = .ok (.iinc 3 1, 3) := by decide +kernel
theorem dX9_pictures_25 : decode cX9_pictures 25 = .ok (.goto (-16), 3) := by decide +kernel
theorem dX9_pictures_28 : decode cX9_pictures 28 = .ok (.iconst 0, 1) := by decide +kernel
theorem dX9_pictures_29 : decode cX9_pictures 29 = .ok (.istore_n 3, 1) := by decide +kernel
theorem dX9_pictures_30 : decode cX9_pictures 30 = .ok (.iload_n 3, 1) := by decide +kernel
theorem dX9_pictures_31 : decode cX9_pictures 31 = .ok (.aload_n 0, 1) := by decide +kernel
theorem dX9_pictures_32 : decode cX9_pictures 32 = .ok (.invokevirtual 126, 3) := by decide +kernel
theorem dX9_pictures_35 : decode cX9_pictures 35 = .ok (.if_icmp .ge 49, 3) := by decide +kernel
theorem dX9_pictures_38 : decode cX9_pictures 38 = .ok (.aload_n 0, 1) := by decide +kernel
theorem dX9_pictures_39 : decode cX9_pictures 39 = .ok (.getfield 13, 3) := by decide +kernel
theorem dX9_pictures_42 : decode cX9_pictures 42 = .ok (.aload_n 0, 1) := by decide +kernel
theorem dX9_pictures_43 : decode cX9_pictures 43 = .ok (.iload_n 3, 1) := by decide +kernel
theorem dX9_pictures_44 : decode cX9_pictures 44 = .ok (.invokevirtual 129, 3) := by decide +kernel
theorem dX9_pictures_47 : decode cX9_pictures 47 = .ok (.iaload, 1) := by decide +kernel
theorem dX9_pictures_48 : decode cX9_pictures 48 = .ok (.iload_n 1, 1) := by decide +kernel
theorem dX9_pictures_49 : decode cX9_pictures 49 = .ok (.irem, 1) := by decide +kernel
theorem dX9_pictures_50 : decode cX9_pictures 50 = .ok (.istore 4, 2) := by decide +kernel
theorem dX9_pictures_52 : decode cX9_pictures 52 = .ok (.iload_n 2, 1) := by decide +kernel
theorem dX9_pictures_53 : decode cX9_pictures 53 = .ok (.aload_n 0, 1) := by decide +kernel
theorem dX9_pictures_54 : decode cX9_pictures 54 = .ok (.getfield 19, 3) := by decide +kernel
theorem dX9_pictures_57 : decode cX9_pictures 57 = .ok (.iload 4, 2) := by decide +kernel
theorem dX9_pictures_59 : decode cX9_pictures 59 = .ok (.baload, 1) := by decide +kernel
theorem dX9_pictures_60 : decode cX9_pictures 60 = .ok (.ifCond .eq 7, 3) := by decide +kernel
theorem dX9_pictures_63 : decode cX9_pictures 63 = .ok (.iconst 0, 1) := by decide +kernel
theorem dX9_pictures_64 : decode cX9_pictures 64 = .ok (.goto 4, 3) := by decide +kernel
theorem dX9_pictures_67 : decode cX9_pictures 67 = .ok (.iconst 1, 1) := by decide +kernel
theorem dX9_pictures_68 : decode cX9_pictures 68 = .ok (.iadd, 1) := by decide +kernel
theorem dX9_pictures_69 : decode cX9_pictures 69 = .ok (.istore_n 2, 1) := by decide +kernel
theorem dX9_pictures_70 : decode cX9_pictures 70 = .ok (.aload_n 0, 1) := by decide +kernel
theorem dX9_pictures_71 : decode cX9_pictures 71 = .ok (.getfield 19, 3) := by decide +kernel
theorem dX9_pictures_74 : decode cX9_pictures 74 = .ok (.iload 4, 2) := by decide +kernel
theorem dX9_pictures_76 : decode cX9_pictures 76 = .ok (.iconst 1, 1) := by decide +kernel
theorem dX9_pictures_77 : decode cX9_pictures 77 = .ok (.bastore, 1) := by decide +kernel
theorem dX9_pictures_78 : decode cX9_pictures 78 = .ok (.iinc 3 1, 3) := by decide +kernel
theorem dX9_pictures_81 : decode cX9_pictures 81 = .ok (.goto (-51), 3) := by decide +kernel
theorem dX9_pictures_84 : decode cX9_pictures 84 = .ok (.iload_n 2, 1) := by decide +kernel
theorem dX9_pictures_85 : decode cX9_pictures 85 = .ok (.ireturn, 1) := by decide +kernel
theorem dX9_seems_0 : decode cX9_seems 0 = .ok (.iload_n 1, 1) := by decide +kernel
theorem dX9_seems_1 : decode cX9_seems 1 = .ok (.iconst 0, 1) := by decide +kernel
theorem dX9_seems_2 : decode cX9_seems 2 = .ok (.iconst 3, 1) := by decide +kernel
theorem dX9_seems_3 : decode cX9_seems 3 = .ok (.invokestatic 55, 3) := by decide +kernel
theorem dX9_seems_6 : decode cX9_seems 6 = .ok (.ifCond .ne 7, 3) := by decide +kernel
theorem dX9_seems_9 : decode cX9_seems 9 = .ok (.sipush (-1001), 3) := by decide +kernel
theorem dX9_seems_12 : decode cX9_seems 12 = .ok (.ireturn, 1) := by decide +kernel
theorem dX9_seems_13 : decode cX9_seems 13 = .ok (.aload_n 0, 1) := by decide +kernel
theorem dX9_seems_14 : decode cX9_seems 14 = .ok (.invokevirtual 120, 3) := by decide +kernel
theorem dX9_seems_17 : decode cX9_seems 17 = .ok (.iload_n 1, 1) := by decide +kernel
theorem dX9_seems_18 : decode cX9_seems 18 = .ok (.iconst 3, 1) := by decide +kernel
theorem dX9_seems_19 : decode cX9_seems 19 = .ok (.if_icmp .ne 8, 3) := by decide +kernel
theorem dX9_seems_22 : decode cX9_seems 22 = .ok (.aload_n 0, 1) := by decide +kernel
theorem dX9_seems_23 : decode cX9_seems 23 = .ok (.invokevirtual 144, 3) := by decide +kernel
theorem dX9_seems_26 : decode cX9_seems 26 = .ok (.ireturn, 1) := by decide +kernel
theorem dX9_seems_27 : decode cX9_seems 27 = .ok (.iconst 0, 1) := by decide +kernel
theorem dX9_seems_28 : decode cX9_seems 28 = .ok (.istore_n 2, 1) := by decide +kernel
theorem dX9_seems_29 : decode cX9_seems 29 = .ok (.iconst 0, 1) := by decide +kernel
theorem dX9_seems_30 : decode cX9_seems 30 = .ok (.istore_n 3, 1) := by decide +kernel
theorem dX9_seems_31 : decode cX9_seems 31 = .ok (.iload_n 3, 1) := by decide +kernel
theorem dX9_seems_32 : decode cX9_seems 32 = .ok (.iconst 1, 1) := by decide +kernel
theorem dX9_seems_33 : decode cX9_seems 33 = .ok (.iadd, 1) := by decide +kernel
theorem dX9_seems_34 : decode cX9_seems 34 = .ok (.aload_n 0, 1) := by decide +kernel
theorem dX9_seems_35 : decode cX9_seems 35 = .ok (.invokevirtual 126, 3) := by decide +kernel
theorem dX9_seems_38 : decode cX9_seems 38 = .ok (.if_icmp .ge 54, 3) := by decide +kernel
theorem dX9_seems_41 : decode cX9_seems 41 = .ok (.aload_n 0, 1) := by decide +kernel
theorem dX9_seems_42 : decode cX9_seems 42 = .ok (.iload_n 3, 1) := by decide +kernel
theorem dX9_seems_43 : decode cX9_seems 43 = .ok (.invokevirtual 138, 3) := by decide +kernel
theorem dX9_seems_46 : decode cX9_seems 46 = .ok (.istore 4, 2) := by decide +kernel
theorem dX9_seems_48 : decode cX9_seems 48 = .ok (.iload_n 2, 1) := by decide +kernel
theorem dX9_seems_49 : decode cX9_seems 49 = .ok (.iload_n 1, 1) := by decide +kernel
theorem dX9_seems_50 : decode cX9_seems 50 = .ok (.ifCond .ne 11, 3) := by decide +kernel
theorem dX9_seems_53 : decode cX9_seems 53 = .ok (.iload 4, 2) := by decide +kernel
theorem dX9_seems_55 : decode cX9_seems 55 = .ok (.ifCond .ne 28, 3) := by decide +kernel
theorem dX9_seems_58 : decode cX9_seems 58 = .ok (.goto 21, 3) := by decide +kernel
theorem dX9_seems_61 : decode cX9_seems 61 = .ok (.iload_n 1, 1) := by decide +kernel
theorem dX9_seems_62 : decode cX9_seems 62 = .ok (.iconst 1, 1) := by decide +kernel
theorem dX9_seems_63 : decode cX9_seems 63 = .ok (.if_icmp .ne 11, 3) := by decide +kernel
theorem dX9_seems_66 : decode cX9_seems 66 = .ok (.iload 4, 2) := by decide +kernel
theorem dX9_seems_68 : decode cX9_seems 68 = .ok (.ifCond .le 15, 3) := by decide +kernel
theorem dX9_seems_71 : decode cX9_seems 71 = .ok (.goto 8, 3) := by decide +kernel
theorem dX9_seems_74 : decode cX9_seems 74 = .ok (.iload 4, 2) := by decide +kernel
theorem dX9_seems_76 : decode cX9_seems 76 = .ok (.ifCond .ge 7, 3) := by decide +kernel
theorem dX9_seems_79 : decode cX9_seems 79 = .ok (.iconst 1, 1) := by decide +kernel
theorem dX9_seems_80 : decode cX9_seems 80 = .ok (.goto 4, 3) := by decide +kernel
theorem dX9_seems_83 : decode cX9_seems 83 = .ok (.iconst 0, 1) := by decide +kernel
theorem dX9_seems_84 : decode cX9_seems 84 = .ok (.iadd, 1) := by decide +kernel
theorem dX9_seems_85 : decode cX9_seems 85 = .ok (.istore_n 2, 1) := by decide +kernel
theorem dX9_seems_86 : decode cX9_seems 86 = .ok (.iinc 3 1, 3) := by decide +kernel
theorem dX9_seems_89 : decode cX9_seems 89 = .ok (.goto (-58), 3) := by decide +kernel
theorem dX9_seems_92 : decode cX9_seems 92 = .ok (.iload_n 2, 1) := by decide +kernel
theorem dX9_seems_93 : decode cX9_seems 93 = .ok (.ireturn, 1) := by decide +kernel
theorem dX9_stillPeriod_0 : decode cX9_stillPeriod 0 = .ok (.iload_n 1, 1) := by decide +kernel
theorem dX9_stillPeriod_1 : decode cX9_stillPeriod 1 = .ok (.iconst 1, 1) := by decide +kernel
theorem dX9_stillPeriod_2 : decode cX9_stillPeriod 2 = .ok (.sipush 500, 3) := by decide +kernel
theorem dX9_stillPeriod_5 : decode cX9_stillPeriod 5 = .ok (.invokestatic 55, 3) := by decide +kernel
theorem dX9_stillPeriod_8 : decode cX9_stillPeriod 8 = .ok (.ifCond .eq 14, 3) := by decide +kernel
theorem dX9_stillPeriod_11 : decode cX9_stillPeriod 11 = .ok (.iload_n 2, 1) := by decide +kernel
theorem dX9_stillPeriod_12 : decode cX9_stillPeriod 12 = .ok (.iload_n 1, 1) := by decide +kernel
theorem dX9_stillPeriod_13 : decode cX9_stillPeriod 13 = .ok (.sipush 500, 3) := by decide +kernel
theorem dX9_stillPeriod_16 : decode cX9_stillPeriod 16 = .ok (.invokestatic 55, 3) := by decide +kernel
theorem dX9_stillPeriod_19 : decode cX9_stillPeriod 19 = .ok (.ifCond .ne 7, 3) := by decide +kernel
theorem dX9_stillPeriod_22 : decode cX9_stillPeriod 22 = .ok (.sipush (-1001), 3) := by decide +kernel
theorem dX9_stillPeriod_25 : decode cX9_stillPeriod 25 = .ok (.ireturn, 1) := by decide +kernel
theorem dX9_stillPeriod_26 : decode cX9_stillPeriod 26 = .ok (.aload_n 0, 1) := by decide +kernel
theorem dX9_stillPeriod_27 : decode cX9_stillPeriod 27 = .ok (.invokevirtual 41, 3) := by decide +kernel
theorem dX9_stillPeriod_30 : decode cX9_stillPeriod 30 = .ok (.istore_n 3, 1) := by decide +kernel
theorem dX9_stillPeriod_31 : decode cX9_stillPeriod 31 = .ok (.iload_n 1, 1) := by decide +kernel
theorem dX9_stillPeriod_32 : decode cX9_stillPeriod 32 = .ok (.istore 4, 2) := by decide +kernel
theorem dX9_stillPeriod_34 : decode cX9_stillPeriod 34 = .ok (.iload 4, 2) := by decide +kernel
theorem dX9_stillPeriod_36 : decode cX9_stillPeriod 36 = .ok (.iload_n 2, 1) := by decide +kernel
theorem dX9_stillPeriod_37 : decode cX9_stillPeriod 37 = .ok (.if_icmp .gt 27, 3) := by decide +kernel
theorem dX9_stillPeriod_40 : decode cX9_stillPeriod 40 = .ok (.aload_n 0, 1) := by decide +kernel
theorem dX9_stillPeriod_41 : decode cX9_stillPeriod 41 = .ok (.getfield 7, 3) := by decide +kernel
theorem dX9_stillPeriod_44 : decode cX9_stillPeriod 44 = .ok (.bipush 62, 2) := by decide +kernel
theorem dX9_stillPeriod_46 : decode cX9_stillPeriod 46 = .ok (.iaload, 1) := by decide +kernel
theorem dX9_stillPeriod_47 : decode cX9_stillPeriod 47 = .ok (.iload 4, 2) := by decide +kernel
theorem dX9_stillPeriod_49 : decode cX9_stillPeriod 49 = .ok (.imul, 1) := by decide +kernel
theorem dX9_stillPeriod_50 : decode cX9_stillPeriod 50 = .ok (.iload_n 3, 1) := by decide +kernel
theorem dX9_stillPeriod_51 : decode cX9_stillPeriod 51 = .ok (.irem, 1) := by decide +kernel
theorem dX9_stillPeriod_52 : decode cX9_stillPeriod 52 = .ok (.ifCond .ne 6, 3) := by decide +kernel
theorem dX9_stillPeriod_55 : decode cX9_stillPeriod 55 = .ok (.iload 4, 2) := by decide +kernel
theorem dX9_stillPeriod_57 : decode cX9_stillPeriod 57 = .ok (.ireturn, 1) := by decide +kernel
theorem dX9_stillPeriod_58 : decode cX9_stillPeriod 58 = .ok (.iinc 4 1, 3) := by decide +kernel
theorem dX9_stillPeriod_61 : decode cX9_stillPeriod 61 = .ok (.goto (-27), 3) := by decide +kernel
theorem dX9_stillPeriod_64 : decode cX9_stillPeriod 64 = .ok (.sipush (-1004), 3) := by decide +kernel
theorem dX9_stillPeriod_67 : decode cX9_stillPeriod 67 = .ok (.ireturn, 1) := by decide +kernel
theorem dX9_isReading_0 : decode cX9_isReading 0 = .ok (.iload_n 1, 1) := by decide +kernel
theorem dX9_isReading_1 : decode cX9_isReading 1 = .ok (.iconst 0, 1) := by decide +kernel
theorem dX9_isReading_2 : decode cX9_isReading 2 = .ok (.aload_n 0, 1) := by decide +kernel
theorem dX9_isReading_3 : decode cX9_isReading 3 = .ok (.getfield 7, 3) := by decide +kernel
theorem dX9_isReading_6 : decode cX9_isReading 6 = .ok (.bipush 76, 2) := by decide +kernel
theorem dX9_isReading_8 : decode cX9_isReading 8 = .ok (.iaload, 1) := by decide +kernel
theorem dX9_isReading_9 : decode cX9_isReading 9 = .ok (.iconst 1, 1) := by decide +kernel
theorem dX9_isReading_10 : decode cX9_isReading 10 = .ok (.isub, 1) := by decide +kernel
theorem dX9_isReading_11 : decode cX9_isReading 11 = .ok (.invokestatic 55, 3) := by decide +kernel
theorem dX9_isReading_14 : decode cX9_isReading 14 = .ok (.ireturn, 1) := by decide +kernel
theorem dX9_adds_0 : decode cX9_adds 0 = .ok (.aload_n 0, 1) := by decide +kernel
theorem dX9_adds_1 : decode cX9_adds 1 = .ok (.invokevirtual 101, 3) := by decide +kernel
theorem dX9_adds_4 : decode cX9_adds 4 = .ok (.aload_n 0, 1) := by decide +kernel
theorem dX9_adds_5 : decode cX9_adds 5 = .ok (.getfield 7, 3) := by decide +kernel
theorem dX9_adds_8 : decode cX9_adds 8 = .ok (.bipush 76, 2) := by decide +kernel
theorem dX9_adds_10 : decode cX9_adds 10 = .ok (.iaload, 1) := by decide +kernel
theorem dX9_adds_11 : decode cX9_adds 11 = .ok (.istore_n 3, 1) := by decide +kernel
theorem dX9_adds_12 : decode cX9_adds 12 = .ok (.aload_n 0, 1) := by decide +kernel
theorem dX9_adds_13 : decode cX9_adds 13 = .ok (.getfield 7, 3) := by decide +kernel
theorem dX9_adds_16 : decode cX9_adds 16 = .ok (.bipush 77, 2) := by decide +kernel
theorem dX9_adds_18 : decode cX9_adds 18 = .ok (.iconst 2, 1) := by decide +kernel
theorem dX9_adds_19 : decode cX9_adds 19 = .ok (.iload_n 3, 1) := by decide +kernel
theorem dX9_adds_20 : decode cX9_adds 20 = .ok (.imul, 1) := by decide +kernel
theorem dX9_adds_21 : decode cX9_adds 21 = .ok (.iadd, 1) := by decide +kernel
theorem dX9_adds_22 : decode cX9_adds 22 = .ok (.iload_n 1, 1) := by decide +kernel
theorem dX9_adds_23 : decode cX9_adds 23 = .ok (.iastore, 1) := by decide +kernel
theorem dX9_adds_24 : decode cX9_adds 24 = .ok (.aload_n 0, 1) := by decide +kernel
theorem dX9_adds_25 : decode cX9_adds 25 = .ok (.getfield 7, 3) := by decide +kernel
theorem dX9_adds_28 : decode cX9_adds 28 = .ok (.bipush 77, 2) := by decide +kernel
theorem dX9_adds_30 : decode cX9_adds 30 = .ok (.iconst 2, 1) := by decide +kernel
theorem dX9_adds_31 : decode cX9_adds 31 = .ok (.iload_n 3, 1) := by decide +kernel
theorem dX9_adds_32 : decode cX9_adds 32 = .ok (.imul, 1) := by decide +kernel
theorem dX9_adds_33 : decode cX9_adds 33 = .ok (.iadd, 1) := by decide +kernel
theorem dX9_adds_34 : decode cX9_adds 34 = .ok (.iconst 1, 1) := by decide +kernel
theorem dX9_adds_35 : decode cX9_adds 35 = .ok (.iadd, 1) := by decide +kernel
theorem dX9_adds_36 : decode cX9_adds 36 = .ok (.iload_n 2, 1) := by decide +kernel
theorem dX9_adds_37 : decode cX9_adds 37 = .ok (.iastore, 1) := by decide +kernel
theorem dX9_adds_38 : decode cX9_adds 38 = .ok (.aload_n 0, 1) := by decide +kernel
theorem dX9_adds_39 : decode cX9_adds 39 = .ok (.getfield 7, 3) := by decide +kernel
theorem dX9_adds_42 : decode cX9_adds 42 = .ok (.bipush 76, 2) := by decide +kernel
theorem dX9_adds_44 : decode cX9_adds 44 = .ok (.dup2, 1) := by decide +kernel
theorem dX9_adds_45 : decode cX9_adds 45 = .ok (.iaload, 1) := by decide +kernel
theorem dX9_adds_46 : decode cX9_adds 46 = .ok (.iconst 1, 1) := by decide +kernel
theorem dX9_adds_47 : decode cX9_adds 47 = .ok (.iadd, 1) := by decide +kernel
theorem dX9_adds_48 : decode cX9_adds 48 = .ok (.iastore, 1) := by decide +kernel
theorem dX9_adds_49 : decode cX9_adds 49 = .ok (.iload_n 3, 1) := by decide +kernel
theorem dX9_adds_50 : decode cX9_adds 50 = .ok (.ireturn, 1) := by decide +kernel
theorem dX9_read_0 : decode cX9_read 0 = .ok (.iload_n 1, 1) := by decide +kernel
theorem dX9_read_1 : decode cX9_read 1 = .ok (.iconst 1, 1) := by decide +kernel
theorem dX9_read_2 : decode cX9_read 2 = .ok (.sipush 500, 3) := by decide +kernel
theorem dX9_read_5 : decode cX9_read 5 = .ok (.invokestatic 55, 3) := by decide +kernel
theorem dX9_read_8 : decode cX9_read 8 = .ok (.ifCond .eq 14, 3) := by decide +kernel
theorem dX9_read_11 : decode cX9_read 11 = .ok (.iload_n 2, 1) := by decide +kernel
theorem dX9_read_12 : decode cX9_read 12 = .ok (.bipush (-30), 2) := by decide +kernel
theorem dX9_read_14 : decode cX9_read 14 = .ok (.bipush 30, 2) := by decide +kernel
theorem dX9_read_16 : decode cX9_read 16 = .ok (.invokestatic 55, 3) := by decide +kernel
theorem dX9_read_19 : decode cX9_read 19 = .ok (.ifCond .ne 7, 3) := by decide +kernel
theorem dX9_read_22 : decode cX9_read 22 = .ok (.sipush (-1001), 3) := by decide +kernel
theorem dX9_read_25 : decode cX9_read 25 = .ok (.ireturn, 1) := by decide +kernel
theorem dX9_read_26 : decode cX9_read 26 = .ok (.aload_n 0, 1) := by decide +kernel
theorem dX9_read_27 : decode cX9_read 27 = .ok (.getfield 7, 3) := by decide +kernel
theorem dX9_read_30 : decode cX9_read 30 = .ok (.bipush 76, 2) := by decide +kernel
theorem dX9_read_32 : decode cX9_read 32 = .ok (.iaload, 1) := by decide +kernel
theorem dX9_read_33 : decode cX9_read 33 = .ok (.bipush 8, 2) := by decide +kernel
theorem dX9_read_35 : decode cX9_read 35 = .ok (.if_icmp .ne 9, 3) := by decide +kernel
theorem dX9_read_38 : decode cX9_read 38 = .ok (.sipush (-1003), 3) := by decide +kernel
theorem dX9_read_41 : decode cX9_read 41 = .ok (.goto 9, 3) := by decide +kernel
theorem dX9_read_44 : decode cX9_read 44 = .ok (.aload_n 0, 1) := by decide +kernel
theorem dX9_read_45 : decode cX9_read 45 = .ok (.iload_n 1, 1) := by decide +kernel
theorem dX9_read_46 : decode cX9_read 46 = .ok (.iload_n 2, 1) := by decide +kernel
theorem dX9_read_47 : decode cX9_read 47 = .ok (.invokevirtual 147, 3) := by decide +kernel
theorem dX9_read_50 : decode cX9_read 50 = .ok (.ireturn, 1) := by decide +kernel
theorem dX9_look_0 : decode cX9_look 0 = .ok (.iload_n 1, 1) := by decide +kernel
theorem dX9_look_1 : decode cX9_look 1 = .ok (.iconst 0, 1) := by decide +kernel
theorem dX9_look_2 : decode cX9_look 2 = .ok (.aload_n 0, 1) := by decide +kernel
theorem dX9_look_3 : decode cX9_look 3 = .ok (.invokevirtual 126, 3) := by decide +kernel
theorem dX9_look_6 : decode cX9_look 6 = .ok (.iconst 2, 1) := by decide +kernel
theorem dX9_look_7 : decode cX9_look 7 = .ok (.isub, 1) := by decide +kernel
theorem dX9_look_8 : decode cX9_look 8 = .ok (.invokestatic 55, 3) := by decide +kernel
theorem dX9_look_11 : decode cX9_look 11 = .ok (.ifCond .ne 7, 3) := by decide +kernel
theorem dX9_look_14 : decode cX9_look 14 = .ok (.sipush (-1001), 3) := by decide +kernel
theorem dX9_look_17 : decode cX9_look 17 = .ok (.ireturn, 1) := by decide +kernel
theorem dX9_look_18 : decode cX9_look 18 = .ok (.aload_n 0, 1) := by decide +kernel
theorem dX9_look_19 : decode cX9_look 19 = .ok (.getfield 7, 3) := by decide +kernel
theorem dX9_look_22 : decode cX9_look 22 = .ok (.bipush 76, 2) := by decide +kernel
theorem dX9_look_24 : decode cX9_look 24 = .ok (.iaload, 1) := by decide +kernel
theorem dX9_look_25 : decode cX9_look 25 = .ok (.bipush 8, 2) := by decide +kernel
theorem dX9_look_27 : decode cX9_look 27 = .ok (.if_icmp .ne 7, 3) := by decide +kernel
theorem dX9_look_30 : decode cX9_look 30 = .ok (.sipush (-1003), 3) := by decide +kernel
theorem dX9_look_33 : decode cX9_look 33 = .ok (.ireturn, 1) := by decide +kernel
theorem dX9_look_34 : decode cX9_look 34 = .ok (.aload_n 0, 1) := by decide +kernel
theorem dX9_look_35 : decode cX9_look 35 = .ok (.invokevirtual 120, 3) := by decide +kernel
theorem dX9_look_38 : decode cX9_look 38 = .ok (.aload_n 0, 1) := by decide +kernel
theorem dX9_look_39 : decode cX9_look 39 = .ok (.aload_n 0, 1) := by decide +kernel
theorem dX9_look_40 : decode cX9_look 40 = .ok (.getfield 7, 3) := by decide +kernel
theorem dX9_look_43 : decode cX9_look 43 = .ok (.bipush 75, 2) := by decide +kernel
theorem dX9_look_45 : decode cX9_look 45 = .ok (.iaload, 1) := by decide +kernel
theorem dX9_look_46 : decode cX9_look 46 = .ok (.aload_n 0, 1) := by decide +kernel
theorem dX9_look_47 : decode cX9_look 47 = .ok (.iload_n 1, 1) := by decide +kernel
theorem dX9_look_48 : decode cX9_look 48 = .ok (.invokevirtual 138, 3) := by decide +kernel
theorem dX9_look_51 : decode cX9_look 51 = .ok (.invokevirtual 147, 3) := by decide +kernel
theorem dX9_look_54 : decode cX9_look 54 = .ok (.ireturn, 1) := by decide +kernel
theorem dX9_dropReading_0 : decode cX9_dropReading 0 = .ok (.aload_n 0, 1) := by decide +kernel
theorem dX9_dropReading_1 : decode cX9_dropReading 1 = .ok (.iload_n 1, 1) := by decide +kernel
theorem dX9_dropReading_2 : decode cX9_dropReading 2 = .ok (.invokevirtual 150, 3) := by decide +kernel
theorem dX9_dropReading_5 : decode cX9_dropReading 5 = .ok (.ifCond .ne 7, 3) := by decide +kernel
theorem dX9_dropReading_8 : decode cX9_dropReading 8 = .ok (.sipush (-1001), 3) := by decide +kernel
theorem dX9_dropReading_11 : decode cX9_dropReading 11 = .ok (.ireturn, 1) := by decide +kernel
theorem dX9_dropReading_12 : decode cX9_dropReading 12 = .ok (.aload_n 0, 1) := by decide +kernel
theorem dX9_dropReading_13 : decode cX9_dropReading 13 = .ok (.invokevirtual 101, 3) := by decide +kernel
theorem dX9_dropReading_16 : decode cX9_dropReading 16 = .ok (.aload_n 0, 1) := by decide +kernel
theorem dX9_dropReading_17 : decode cX9_dropReading 17 = .ok (.getfield 7, 3) := by decide +kernel
theorem dX9_dropReading_20 : decode cX9_dropReading 20 = .ok (.bipush 76, 2) := by decide +kernel
theorem dX9_dropReading_22 : decode cX9_dropReading 22 = .ok (.dup2, 1) := by decide +kernel
theorem dX9_dropReading_23 : decode cX9_dropReading 23 = .ok (.iaload, 1) := by decide +kernel
theorem dX9_dropReading_24 : decode cX9_dropReading 24 = .ok (.iconst 1, 1) := by decide +kernel
theorem dX9_dropReading_25 : decode cX9_dropReading 25 = .ok (.isub, 1) := by decide +kernel
theorem dX9_dropReading_26 : decode cX9_dropReading 26 = .ok (.iastore, 1) := by decide +kernel
theorem dX9_dropReading_27 : decode cX9_dropReading 27 = .ok (.iconst 2, 1) := by decide +kernel
theorem dX9_dropReading_28 : decode cX9_dropReading 28 = .ok (.iload_n 1, 1) := by decide +kernel
theorem dX9_dropReading_29 : decode cX9_dropReading 29 = .ok (.imul, 1) := by decide +kernel
theorem dX9_dropReading_30 : decode cX9_dropReading 30 = .ok (.istore_n 2, 1) := by decide +kernel
theorem dX9_dropReading_31 : decode cX9_dropReading 31 = .ok (.iload_n 2, 1) := by decide +kernel
theorem dX9_dropReading_32 : decode cX9_dropReading 32 = .ok (.iconst 2, 1) := by decide +kernel
theorem dX9_dropReading_33 : decode cX9_dropReading 33 = .ok (.aload_n 0, 1) := by decide +kernel
theorem dX9_dropReading_34 : decode cX9_dropReading 34 = .ok (.getfield 7, 3) := by decide +kernel
theorem dX9_dropReading_37 : decode cX9_dropReading 37 = .ok (.bipush 76, 2) := by decide +kernel
theorem dX9_dropReading_39 : decode cX9_dropReading 39 = .ok (.iaload, 1) := by decide +kernel
theorem dX9_dropReading_40 : decode cX9_dropReading 40 = .ok (.imul, 1) := by decide +kernel
theorem dX9_dropReading_41 : decode cX9_dropReading 41 = .ok (.if_icmp .ge 29, 3) := by decide +kernel
theorem dX9_dropReading_44 : decode cX9_dropReading 44 = .ok (.aload_n 0, 1) := by decide +kernel
theorem dX9_dropReading_45 : decode cX9_dropReading 45 = .ok (.getfield 7, 3) := by decide +kernel
theorem dX9_dropReading_48 : decode cX9_dropReading 48 = .ok (.bipush 77, 2) := by decide +kernel
theorem dX9_dropReading_50 : decode cX9_dropReading 50 = .ok (.iload_n 2, 1) := by decide +kernel
theorem dX9_dropReading_51 : decode cX9_dropReading 51 = .ok (.iadd, 1) := by decide +kernel
theorem dX9_dropReading_52 : decode cX9_dropReading 52 = .ok (.aload_n 0, 1) := by decide +kernel
theorem dX9_dropReading_53 : decode cX9_dropReading 53 = .ok (.getfield 7, 3) := by decide +kernel
theorem dX9_dropReading_56 : decode cX9_dropReading 56 = .ok (.bipush 77, 2) := by decide +kernel
theorem dX9_dropReading_58 : decode cX9_dropReading 58 = .ok (.iload_n 2, 1) := by decide +kernel
theorem dX9_dropReading_59 : decode cX9_dropReading 59 = .ok (.iadd, 1) := by decide +kernel
theorem dX9_dropReading_60 : decode cX9_dropReading 60 = .ok (.iconst 2, 1) := by decide +kernel
theorem dX9_dropReading_61 : decode cX9_dropReading 61 = .ok (.iadd, 1) := by decide +kernel
theorem dX9_dropReading_62 : decode cX9_dropReading 62 = .ok (.iaload, 1) := by decide +kernel
theorem dX9_dropReading_63 : decode cX9_dropReading 63 = .ok (.iastore, 1) := by decide +kernel
theorem dX9_dropReading_64 : decode cX9_dropReading 64 = .ok (.iinc 2 1, 3) := by decide +kernel
theorem dX9_dropReading_67 : decode cX9_dropReading 67 = .ok (.goto (-36), 3) := by decide +kernel
theorem dX9_dropReading_70 : decode cX9_dropReading 70 = .ok (.aload_n 0, 1) := by decide +kernel
theorem dX9_dropReading_71 : decode cX9_dropReading 71 = .ok (.getfield 7, 3) := by decide +kernel
theorem dX9_dropReading_74 : decode cX9_dropReading 74 = .ok (.bipush 76, 2) := by decide +kernel
theorem dX9_dropReading_76 : decode cX9_dropReading 76 = .ok (.iaload, 1) := by decide +kernel
theorem dX9_dropReading_77 : decode cX9_dropReading 77 = .ok (.ireturn, 1) := by decide +kernel
theorem dX9_finds_0 : decode cX9_finds 0 = .ok (.aload_n 0, 1) := by decide +kernel
theorem dX9_finds_1 : decode cX9_finds 1 = .ok (.invokevirtual 41, 3) := by decide +kernel
theorem dX9_finds_4 : decode cX9_finds 4 = .ok (.istore_n 2, 1) := by decide +kernel
theorem dX9_finds_5 : decode cX9_finds 5 = .ok (.aload_n 0, 1) := by decide +kernel
theorem dX9_finds_6 : decode cX9_finds 6 = .ok (.iconst 0, 1) := by decide +kernel
theorem dX9_finds_7 : decode cX9_finds 7 = .ok (.putfield 153, 3) := by decide +kernel
theorem dX9_finds_10 : decode cX9_finds 10 = .ok (.aload_n 0, 1) := by decide +kernel
theorem dX9_finds_11 : decode cX9_finds 11 = .ok (.getfield 7, 3) := by decide +kernel
theorem dX9_finds_14 : decode cX9_finds 14 = .ok (.bipush 93, 2) := by decide +kernel
theorem dX9_finds_16 : decode cX9_finds 16 = .ok (.iaload, 1) := by decide +kernel
theorem dX9_finds_17 : decode cX9_finds 17 = .ok (.ineg, 1) := by decide +kernel
theorem dX9_finds_18 : decode cX9_finds 18 = .ok (.istore_n 3, 1) := by decide +kernel
theorem dX9_finds_19 : decode cX9_finds 19 = .ok (.iload_n 3, 1) := by decide +kernel
theorem dX9_finds_20 : decode cX9_finds 20 = .ok (.aload_n 0, 1) := by decide +kernel
theorem dX9_finds_21 : decode cX9_finds 21 = .ok (.getfield 7, 3) := by decide +kernel
theorem dX9_finds_24 : decode cX9_finds 24 = .ok (.bipush 93, 2) := by decide +kernel
theorem dX9_finds_26 : decode cX9_finds 26 = .ok (.iaload, 1) := by decide +kernel
theorem dX9_finds_27 : decode cX9_finds 27 = .ok (.if_icmp .gt 110, 3) := by decide +kernel
theorem dX9_finds_30 : decode cX9_finds 30 = .ok (.iconst 1, 1) := by decide +kernel
theorem dX9_finds_31 : decode cX9_finds 31 = .ok (.istore 4, 2) := by decide +kernel
theorem dX9_finds_33 : decode cX9_finds 33 = .ok (.iconst 0, 1) := by decide +kernel
theorem dX9_finds_34 : decode cX9_finds 34 = .ok (.istore 5, 2) := by decide +kernel
theorem dX9_finds_36 : decode cX9_finds 36 = .ok (.iload 5, 2) := by decide +kernel
theorem dX9_finds_38 : decode cX9_finds 38 = .ok (.aload_n 0, 1) := by decide +kernel
theorem dX9_finds_39 : decode cX9_finds 39 = .ok (.getfield 7, 3) := by decide +kernel
theorem dX9_finds_42 : decode cX9_finds 42 = .ok (.bipush 76, 2) := by decide +kernel
theorem dX9_finds_44 : decode cX9_finds 44 = .ok (.iaload, 1) := by decide +kernel
theorem dX9_finds_45 : decode cX9_finds 45 = .ok (.if_icmp .ge 61, 3) := by decide +kernel
theorem dX9_finds_48 : decode cX9_finds 48 = .ok (.iload 4, 2) := by decide +kernel
theorem dX9_finds_50 : decode cX9_finds 50 = .ok (.ifCond .eq 56, 3) := by decide +kernel
theorem dX9_finds_53 : decode cX9_finds 53 = .ok (.iload 5, 2) := by decide +kernel
theorem dX9_finds_55 : decode cX9_finds 55 = .ok (.iload_n 1, 1) := by decide +kernel
theorem dX9_finds_56 : decode cX9_finds 56 = .ok (.if_icmp .eq 37, 3) := by decide +kernel
theorem dX9_finds_59 : decode cX9_finds 59 = .ok (.iload_n 3, 1) := by decide +kernel
theorem dX9_finds_60 : decode cX9_finds 60 = .ok (.aload_n 0, 1) := by decide +kernel
theorem dX9_finds_61 : decode cX9_finds 61 = .ok (.getfield 7, 3) := by decide +kernel
theorem dX9_finds_64 : decode cX9_finds 64 = .ok (.bipush 77, 2) := by decide +kernel
theorem dX9_finds_66 : decode cX9_finds 66 = .ok (.iconst 2, 1) := by decide +kernel
theorem dX9_finds_67 : decode cX9_finds 67 = .ok (.iload 5, 2) := by decide +kernel
theorem dX9_finds_69 : decode cX9_finds 69 = .ok (.imul, 1) := by decide +kernel
theorem dX9_finds_70 : decode cX9_finds 70 = .ok (.iadd, 1) := by decide +kernel
theorem dX9_finds_71 : decode cX9_finds 71 = .ok (.iaload, 1) := by decide +kernel
theorem dX9_finds_72 : decode cX9_finds 72 = .ok (.imul, 1) := by decide +kernel
theorem dX9_finds_73 : decode cX9_finds 73 = .ok (.aload_n 0, 1) := by decide +kernel
theorem dX9_finds_74 : decode cX9_finds 74 = .ok (.getfield 7, 3) := by decide +kernel
theorem dX9_finds_77 : decode cX9_finds 77 = .ok (.bipush 77, 2) := by decide +kernel
theorem dX9_finds_79 : decode cX9_finds 79 = .ok (.iconst 2, 1) := by decide +kernel
theorem dX9_finds_80 : decode cX9_finds 80 = .ok (.iload 5, 2) := by decide +kernel
theorem dX9_finds_82 : decode cX9_finds 82 = .ok (.imul, 1) := by decide +kernel
theorem dX9_finds_83 : decode cX9_finds 83 = .ok (.iadd, 1) := by decide +kernel
theorem dX9_finds_84 : decode cX9_finds 84 = .ok (.iconst 1, 1) := by decide +kernel
theorem dX9_finds_85 : decode cX9_finds 85 = .ok (.iadd, 1) := by decide +kernel
theorem dX9_finds_86 : decode cX9_finds 86 = .ok (.iaload, 1) := by decide +kernel
theorem dX9_finds_87 : decode cX9_finds 87 = .ok (.isub, 1) := by decide +kernel
theorem dX9_finds_88 : decode cX9_finds 88 = .ok (.iload_n 2, 1) := by decide +kernel
theorem dX9_finds_89 : decode cX9_finds 89 = .ok (.irem, 1) := by decide +kernel
theorem dX9_finds_90 : decode cX9_finds 90 = .ok (.ifCond .ne 7, 3) := by decide +kernel
theorem dX9_finds_93 : decode cX9_finds 93 = .ok (.iconst 1, 1) := by decide +kernel
theorem dX9_finds_94 : decode cX9_finds 94 = .ok (.goto 4, 3) := by decide +kernel
theorem dX9_finds_97 : decode cX9_finds 97 = .ok (.iconst 0, 1) := by decide +kernel
theorem dX9_finds_98 : decode cX9_finds 98 = .ok (.istore 4, 2) := by decide +kernel
theorem dX9_finds_100 : decode cX9_finds 100 = .ok (.iinc 5 1, 3) := by decide +kernel
theorem dX9_finds_103 : decode cX9_finds 103 = .ok (.goto (-67), 3) := by decide +kernel
theorem dX9_finds_106 : decode cX9_finds 106 = .ok (.iload 4, 2) := by decide +kernel
theorem dX9_finds_108 : decode cX9_finds 108 = .ok (.ifCond .eq 23, 3) := by decide +kernel
theorem dX9_finds_111 : decode cX9_finds 111 = .ok (.aload_n 0, 1) := by decide +kernel
theorem dX9_finds_112 : decode cX9_finds 112 = .ok (.getfield 23, 3) := by decide +kernel
theorem dX9_finds_115 : decode cX9_finds 115 = .ok (.aload_n 0, 1) := by decide +kernel
theorem dX9_finds_116 : decode cX9_finds 116 = .ok (.getfield 153, 3) := by decide +kernel
theorem dX9_finds_119 : decode cX9_finds 119 = .ok (.iload_n 3, 1) := by decide +kernel
theorem dX9_finds_120 : decode cX9_finds 120 = .ok (.iastore, 1) := by decide +kernel
theorem dX9_finds_121 : decode cX9_finds 121 = .ok (.aload_n 0, 1) := by decide +kernel
theorem dX9_finds_122 : decode cX9_finds 122 = .ok (.dup, 1) := by decide +kernel
theorem dX9_finds_123 : decode cX9_finds 123 = .ok (.getfield 153, 3) := by decide +kernel
theorem dX9_finds_126 : decode cX9_finds 126 = .ok (.iconst 1, 1) := by decide +kernel
theorem dX9_finds_127 : decode cX9_finds 127 = .ok (.iadd, 1) := by decide +kernel
theorem dX9_finds_128 : decode cX9_finds 128 = .ok (.putfield 153, 3) := by decide +kernel
theorem dX9_finds_131 : decode cX9_finds 131 = .ok (.iinc 3 1, 3) := by decide +kernel
theorem dX9_finds_134 : decode cX9_finds 134 = .ok (.goto (-115), 3) := by decide +kernel
theorem dX9_finds_137 : decode cX9_finds 137 = .ok (.return_, 1) := by decide +kernel
theorem dX9_reading_0 : decode cX9_reading 0 = .ok (.aload_n 0, 1) := by decide +kernel
theorem dX9_reading_1 : decode cX9_reading 1 = .ok (.iload_n 1, 1) := by decide +kernel
theorem dX9_reading_2 : decode cX9_reading 2 = .ok (.invokevirtual 150, 3) := by decide +kernel
theorem dX9_reading_5 : decode cX9_reading 5 = .ok (.ifCond .eq 12, 3) := by decide +kernel
theorem dX9_reading_8 : decode cX9_reading 8 = .ok (.iload_n 2, 1) := by decide +kernel
theorem dX9_reading_9 : decode cX9_reading 9 = .ok (.iconst 0, 1) := by decide +kernel
theorem dX9_reading_10 : decode cX9_reading 10 = .ok (.iconst 2, 1) := by decide +kernel
theorem dX9_reading_11 : decode cX9_reading 11 = .ok (.invokestatic 55, 3) := by decide +kernel
theorem dX9_reading_14 : decode cX9_reading 14 = .ok (.ifCond .ne 7, 3) := by decide +kernel
theorem dX9_reading_17 : decode cX9_reading 17 = .ok (.sipush (-1001), 3) := by decide +kernel
theorem dX9_reading_20 : decode cX9_reading 20 = .ok (.ireturn, 1) := by decide +kernel
theorem dX9_reading_21 : decode cX9_reading 21 = .ok (.iload_n 2, 1) := by decide +kernel
theorem dX9_reading_22 : decode cX9_reading 22 = .ok (.iconst 2, 1) := by decide +kernel
theorem dX9_reading_23 : decode cX9_reading 23 = .ok (.if_icmp .ge 17, 3) := by decide +kernel
theorem dX9_reading_26 : decode cX9_reading 26 = .ok (.aload_n 0, 1) := by decide +kernel
theorem dX9_reading_27 : decode cX9_reading 27 = .ok (.getfield 7, 3) := by decide +kernel
theorem dX9_reading_30 : decode cX9_reading 30 = .ok (.bipush 77, 2) := by decide +kernel
theorem dX9_reading_32 : decode cX9_reading 32 = .ok (.iconst 2, 1) := by decide +kernel
theorem dX9_reading_33 : decode cX9_reading 33 = .ok (.iload_n 1, 1) := by decide +kernel
theorem dX9_reading_34 : decode cX9_reading 34 = .ok (.imul, 1) := by decide +kernel
theorem dX9_reading_35 : decode cX9_reading 35 = .ok (.iadd, 1) := by decide +kernel
theorem dX9_reading_36 : decode cX9_reading 36 = .ok (.iload_n 2, 1) := by decide +kernel
theorem dX9_reading_37 : decode cX9_reading 37 = .ok (.iadd, 1) := by decide +kernel
theorem dX9_reading_38 : decode cX9_reading 38 = .ok (.iaload, 1) := by decide +kernel
theorem dX9_reading_39 : decode cX9_reading 39 = .ok (.ireturn, 1) := by decide +kernel
theorem dX9_reading_40 : decode cX9_reading 40 = .ok (.aload_n 0, 1) := by decide +kernel
theorem dX9_reading_41 : decode cX9_reading 41 = .ok (.iload_n 1, 1) := by decide +kernel
theorem dX9_reading_42 : decode cX9_reading 42 = .ok (.invokevirtual 156, 3) := by decide +kernel
theorem dX9_reading_45 : decode cX9_reading 45 = .ok (.aload_n 0, 1) := by decide +kernel
theorem dX9_reading_46 : decode cX9_reading 46 = .ok (.getfield 153, 3) := by decide +kernel
theorem dX9_reading_49 : decode cX9_reading 49 = .ok (.ireturn, 1) := by decide +kernel
theorem dX9_setLimit_0 : decode cX9_setLimit 0 = .ok (.iload_n 1, 1) := by decide +kernel
theorem dX9_setLimit_1 : decode cX9_setLimit 1 = .ok (.iconst 1, 1) := by decide +kernel
theorem dX9_setLimit_2 : decode cX9_setLimit 2 = .ok (.sipush 1000, 3) := by decide +kernel
theorem dX9_setLimit_5 : decode cX9_setLimit 5 = .ok (.invokestatic 55, 3) := by decide +kernel
theorem dX9_setLimit_8 : decode cX9_setLimit 8 = .ok (.ifCond .eq 13, 3) := by decide +kernel
theorem dX9_setLimit_11 : decode cX9_setLimit 11 = .ok (.aload_n 0, 1) := by decide +kernel
theorem dX9_setLimit_12 : decode cX9_setLimit 12 = .ok (.bipush 93, 2) := by decide +kernel
theorem dX9_setLimit_14 : decode cX9_setLimit 14 = .ok (.iload_n 1, 1) := by decide +kernel
theorem dX9_setLimit_15 : decode cX9_setLimit 15 = .ok (.invokevirtual 108, 3) := by decide +kernel
theorem dX9_setLimit_18 : decode cX9_setLimit 18 = .ok (.goto 6, 3) := by decide +kernel
theorem dX9_setLimit_21 : decode cX9_setLimit 21 = .ok (.sipush (-1001), 3) := by decide +kernel
theorem dX9_setLimit_24 : decode cX9_setLimit 24 = .ok (.ireturn, 1) := by decide +kernel
theorem dX9_candidates_0 : decode cX9_candidates 0 = .ok (.aload_n 0, 1) := by decide +kernel
theorem dX9_candidates_1 : decode cX9_candidates 1 = .ok (.sipush (-1004), 3) := by decide +kernel
theorem dX9_candidates_4 : decode cX9_candidates 4 = .ok (.invokevirtual 156, 3) := by decide +kernel
theorem dX9_candidates_7 : decode cX9_candidates 7 = .ok (.aload_n 0, 1) := by decide +kernel
theorem dX9_candidates_8 : decode cX9_candidates 8 = .ok (.getfield 153, 3) := by decide +kernel
theorem dX9_candidates_11 : decode cX9_candidates 11 = .ok (.ireturn, 1) := by decide +kernel
theorem dX9_candidate_0 : decode cX9_candidate 0 = .ok (.iload_n 1, 1) := by decide +kernel
theorem dX9_candidate_1 : decode cX9_candidate 1 = .ok (.ifCond .ge 7, 3) := by decide +kernel
theorem dX9_candidate_4 : decode cX9_candidate 4 = .ok (.sipush (-1001), 3) := by decide +kernel
theorem dX9_candidate_7 : decode cX9_candidate 7 = .ok (.ireturn, 1) := by decide +kernel
theorem dX9_candidate_8 : decode cX9_candidate 8 = .ok (.aload_n 0, 1) := by decide +kernel
theorem dX9_candidate_9 : decode cX9_candidate 9 = .ok (.sipush (-1004), 3) := by decide +kernel
theorem dX9_candidate_12 : decode cX9_candidate 12 = .ok (.invokevirtual 156, 3) := by decide +kernel
theorem dX9_candidate_15 : decode cX9_candidate 15 = .ok (.iload_n 1, 1) := by decide +kernel
theorem dX9_candidate_16 : decode cX9_candidate 16 = .ok (.aload_n 0, 1) := by decide +kernel
theorem dX9_candidate_17 : decode cX9_candidate 17 = .ok (.getfield 153, 3) := by decide +kernel
theorem dX9_candidate_20 : decode cX9_candidate 20 = .ok (.if_icmp .ge 12, 3) := by decide +kernel
theorem dX9_candidate_23 : decode cX9_candidate 23 = .ok (.aload_n 0, 1) := by decide +kernel
theorem dX9_candidate_24 : decode cX9_candidate 24 = .ok (.getfield 23, 3) := by decide +kernel
theorem dX9_candidate_27 : decode cX9_candidate 27 = .ok (.iload_n 1, 1) := by decide +kernel
theorem dX9_candidate_28 : decode cX9_candidate 28 = .ok (.iaload, 1) := by decide +kernel
theorem dX9_candidate_29 : decode cX9_candidate 29 = .ok (.goto 6, 3) := by decide +kernel
theorem dX9_candidate_32 : decode cX9_candidate 32 = .ok (.sipush (-1004), 3) := by decide +kernel
theorem dX9_candidate_35 : decode cX9_candidate 35 = .ok (.ireturn, 1) := by decide +kernel
theorem dX9_apart_0 : decode cX9_apart 0 = .ok (.iload_n 0, 1) := by decide +kernel
theorem dX9_apart_1 : decode cX9_apart 1 = .ok (.iload_n 1, 1) := by decide +kernel
theorem dX9_apart_2 : decode cX9_apart 2 = .ok (.if_icmp .ge 9, 3) := by decide +kernel
theorem dX9_apart_5 : decode cX9_apart 5 = .ok (.iload_n 1, 1) := by decide +kernel
theorem dX9_apart_6 : decode cX9_apart 6 = .ok (.iload_n 0, 1) := by decide +kernel
theorem dX9_apart_7 : decode cX9_apart 7 = .ok (.isub, 1) := by decide +kernel
theorem dX9_apart_8 : decode cX9_apart 8 = .ok (.goto 6, 3) := by decide +kernel
theorem dX9_apart_11 : decode cX9_apart 11 = .ok (.iload_n 0, 1) := by decide +kernel
theorem dX9_apart_12 : decode cX9_apart 12 = .ok (.iload_n 1, 1) := by decide +kernel
theorem dX9_apart_13 : decode cX9_apart 13 = .ok (.isub, 1) := by decide +kernel
theorem dX9_apart_14 : decode cX9_apart 14 = .ok (.ireturn, 1) := by decide +kernel
theorem dX9_nearest_0 : decode cX9_nearest 0 = .ok (.iload_n 1, 1) := by decide +kernel
theorem dX9_nearest_1 : decode cX9_nearest 1 = .ok (.sipush (-1000), 3) := by decide +kernel
theorem dX9_nearest_4 : decode cX9_nearest 4 = .ok (.sipush 1000, 3) := by decide +kernel
theorem dX9_nearest_7 : decode cX9_nearest 7 = .ok (.invokestatic 55, 3) := by decide +kernel
theorem dX9_nearest_10 : decode cX9_nearest 10 = .ok (.ifCond .ne 7, 3) := by decide +kernel
theorem dX9_nearest_13 : decode cX9_nearest 13 = .ok (.sipush (-1001), 3) := by decide +kernel
theorem dX9_nearest_16 : decode cX9_nearest 16 = .ok (.ireturn, 1) := by decide +kernel
theorem dX9_nearest_17 : decode cX9_nearest 17 = .ok (.aload_n 0, 1) := by decide +kernel
theorem dX9_nearest_18 : decode cX9_nearest 18 = .ok (.sipush (-1004), 3) := by decide +kernel
theorem dX9_nearest_21 : decode cX9_nearest 21 = .ok (.invokevirtual 156, 3) := by decide +kernel
theorem dX9_nearest_24 : decode cX9_nearest 24 = .ok (.sipush (-1004), 3) := by decide +kernel
theorem dX9_nearest_27 : decode cX9_nearest 27 = .ok (.istore_n 2, 1) := by decide +kernel
theorem dX9_nearest_28 : decode cX9_nearest 28 = .ok (.iconst 0, 1) := by decide +kernel
theorem dX9_nearest_29 : decode cX9_nearest 29 = .ok (.istore_n 3, 1) := by decide +kernel
theorem dX9_nearest_30 : decode cX9_nearest 30 = .ok (.iconst 0, 1) := by decide +kernel
theorem dX9_nearest_31 : decode cX9_nearest 31 = .ok (.istore 4, 2) := by decide +kernel
theorem dX9_nearest_33 : decode cX9_nearest 33 = .ok (.iload 4, 2) := by decide +kernel
theorem dX9_nearest_35 : decode cX9_nearest 35 = .ok (.aload_n 0, 1) := by decide +kernel
theorem dX9_nearest_36 : decode cX9_nearest 36 = .ok (.getfield 153, 3) := by decide +kernel
theorem dX9_nearest_39 : decode cX9_nearest 39 = .ok (.if_icmp .ge 69, 3) := by decide +kernel
theorem dX9_nearest_42 : decode cX9_nearest 42 = .ok (.aload_n 0, 1) := by decide +kernel
theorem dX9_nearest_43 : decode cX9_nearest 43 = .ok (.getfield 23, 3) := by decide +kernel
theorem dX9_nearest_46 : decode cX9_nearest 46 = .ok (.iload 4, 2) := by decide +kernel
theorem dX9_nearest_48 : decode cX9_nearest 48 = .ok (.iaload, 1) := by decide +kernel
theorem dX9_nearest_49 : decode cX9_nearest 49 = .ok (.iload_n 1, 1) := by decide +kernel
theorem dX9_nearest_50 : decode cX9_nearest 50 = .ok (.invokestatic 160, 3) := by decide +kernel
theorem dX9_nearest_53 : decode cX9_nearest 53 = .ok (.istore 5, 2) := by decide +kernel
theorem dX9_nearest_55 : decode cX9_nearest 55 = .ok (.iload 4, 2) := by decide +kernel
theorem dX9_nearest_57 : decode cX9_nearest 57 = .ok (.ifCond .eq 9, 3) := by decide +kernel
theorem dX9_nearest_60 : decode cX9_nearest 60 = .ok (.iload 5, 2) := by decide +kernel
theorem dX9_nearest_62 : decode cX9_nearest 62 = .ok (.iload_n 3, 1) := by decide +kernel
theorem dX9_nearest_63 : decode cX9_nearest 63 = .ok (.if_icmp .ge 7, 3) := by decide +kernel
theorem dX9_nearest_66 : decode cX9_nearest 66 = .ok (.iconst 1, 1) := by decide +kernel
theorem dX9_nearest_67 : decode cX9_nearest 67 = .ok (.goto 4, 3) := by decide +kernel
theorem dX9_nearest_70 : decode cX9_nearest 70 = .ok (.iconst 0, 1) := by decide +kernel
theorem dX9_nearest_71 : decode cX9_nearest 71 = .ok (.istore 6, 2) := by decide +kernel
theorem dX9_nearest_73 : decode cX9_nearest 73 = .ok (.iload 6, 2) := by decide +kernel
theorem dX9_nearest_75 : decode cX9_nearest 75 = .ok (.ifCond .eq 13, 3) := by decide +kernel
theorem dX9_nearest_78 : decode cX9_nearest 78 = .ok (.aload_n 0, 1) := by decide +kernel
theorem dX9_nearest_79 : decode cX9_nearest 79 = .ok (.getfield 23, 3) := by decide +kernel
theorem dX9_nearest_82 : decode cX9_nearest 82 = .ok (.iload 4, 2) := by decide +kernel
theorem dX9_nearest_84 : decode cX9_nearest 84 = .ok (.iaload, 1) := by decide +kernel
theorem dX9_nearest_85 : decode cX9_nearest 85 = .ok (.goto 4, 3) := by decide +kernel
theorem dX9_nearest_88 : decode cX9_nearest 88 = .ok (.iload_n 2, 1) := by decide +kernel
theorem dX9_nearest_89 : decode cX9_nearest 89 = .ok (.istore_n 2, 1) := by decide +kernel
theorem dX9_nearest_90 : decode cX9_nearest 90 = .ok (.iload 6, 2) := by decide +kernel
theorem dX9_nearest_92 : decode cX9_nearest 92 = .ok (.ifCond .eq 8, 3) := by decide +kernel
theorem dX9_nearest_95 : decode cX9_nearest 95 = .ok (.iload 5, 2) := by decide +kernel
theorem dX9_nearest_97 : decode cX9_nearest 97 = .ok (.goto 4, 3) := by decide +kernel
theorem dX9_nearest_100 : decode cX9_nearest 100 = .ok (.iload_n 3, 1) := by decide +kernel
theorem dX9_nearest_101 : decode cX9_nearest 101 = .ok (.istore_n 3, 1) := by decide +kernel
theorem dX9_nearest_102 : decode cX9_nearest 102 = .ok (.iinc 4 1, 3) := by decide +kernel
theorem dX9_nearest_105 : decode cX9_nearest 105 = .ok (.goto (-72), 3) := by decide +kernel
theorem dX9_nearest_108 : decode cX9_nearest 108 = .ok (.iload_n 2, 1) := by decide +kernel
theorem dX9_nearest_109 : decode cX9_nearest 109 = .ok (.ireturn, 1) := by decide +kernel
theorem dX9_odd_0 : decode cX9_odd 0 = .ok (.aload_n 0, 1) := by decide +kernel
theorem dX9_odd_1 : decode cX9_odd 1 = .ok (.sipush (-1004), 3) := by decide +kernel
theorem dX9_odd_4 : decode cX9_odd 4 = .ok (.invokevirtual 156, 3) := by decide +kernel
theorem dX9_odd_7 : decode cX9_odd 7 = .ok (.aload_n 0, 1) := by decide +kernel
theorem dX9_odd_8 : decode cX9_odd 8 = .ok (.getfield 153, 3) := by decide +kernel
theorem dX9_odd_11 : decode cX9_odd 11 = .ok (.ifCond .le 7, 3) := by decide +kernel
theorem dX9_odd_14 : decode cX9_odd 14 = .ok (.sipush (-1002), 3) := by decide +kernel
theorem dX9_odd_17 : decode cX9_odd 17 = .ok (.ireturn, 1) := by decide +kernel
theorem dX9_odd_18 : decode cX9_odd 18 = .ok (.iconst 0, 1) := by decide +kernel
theorem dX9_odd_19 : decode cX9_odd 19 = .ok (.istore_n 1, 1) := by decide +kernel
theorem dX9_odd_20 : decode cX9_odd 20 = .ok (.iload_n 1, 1) := by decide +kernel
theorem dX9_odd_21 : decode cX9_odd 21 = .ok (.aload_n 0, 1) := by decide +kernel
theorem dX9_odd_22 : decode cX9_odd 22 = .ok (.getfield 7, 3) := by decide +kernel
theorem dX9_odd_25 : decode cX9_odd 25 = .ok (.bipush 76, 2) := by decide +kernel
theorem dX9_odd_27 : decode cX9_odd 27 = .ok (.iaload, 1) := by decide +kernel
theorem dX9_odd_28 : decode cX9_odd 28 = .ok (.if_icmp .ge 23, 3) := by decide +kernel
theorem dX9_odd_31 : decode cX9_odd 31 = .ok (.aload_n 0, 1) := by decide +kernel
theorem dX9_odd_32 : decode cX9_odd 32 = .ok (.iload_n 1, 1) := by decide +kernel
theorem dX9_odd_33 : decode cX9_odd 33 = .ok (.invokevirtual 156, 3) := by decide +kernel
theorem dX9_odd_36 : decode cX9_odd 36 = .ok (.aload_n 0, 1) := by decide +kernel
theorem dX9_odd_37 : decode cX9_odd 37 = .ok (.getfield 153, 3) := by decide +kernel
theorem dX9_odd_40 : decode cX9_odd 40 = .ok (.ifCond .le 5, 3) := by decide +kernel
theorem dX9_odd_43 : decode cX9_odd 43 = .ok (.iload_n 1, 1) := by decide +kernel
theorem dX9_odd_44 : decode cX9_odd 44 = .ok (.ireturn, 1) := by decide +kernel
theorem dX9_odd_45 : decode cX9_odd 45 = .ok (.iinc 1 1, 3) := by decide +kernel
theorem dX9_odd_48 : decode cX9_odd 48 = .ok (.goto (-28), 3) := by decide +kernel
theorem dX9_odd_51 : decode cX9_odd 51 = .ok (.sipush (-1004), 3) := by decide +kernel
theorem dX9_odd_54 : decode cX9_odd 54 = .ok (.ireturn, 1) := by decide +kernel
theorem dX9_restOf_0 : decode cX9_restOf 0 = .ok (.iconst 0, 1) := by decide +kernel
theorem dX9_restOf_1 : decode cX9_restOf 1 = .ok (.istore_n 3, 1) := by decide +kernel
theorem dX9_restOf_2 : decode cX9_restOf 2 = .ok (.iconst 0, 1) := by decide +kernel
theorem dX9_restOf_3 : decode cX9_restOf 3 = .ok (.istore 4, 2) := by decide +kernel
theorem dX9_restOf_5 : decode cX9_restOf 5 = .ok (.iload 4, 2) := by decide +kernel
theorem dX9_restOf_7 : decode cX9_restOf 7 = .ok (.iload_n 2, 1) := by decide +kernel
theorem dX9_restOf_8 : decode cX9_restOf 8 = .ok (.if_icmp .ge 17, 3) := by decide +kernel
theorem dX9_restOf_11 : decode cX9_restOf 11 = .ok (.aload_n 0, 1) := by decide +kernel
theorem dX9_restOf_12 : decode cX9_restOf 12 = .ok (.getfield 26, 3) := by decide +kernel
theorem dX9_restOf_15 : decode cX9_restOf 15 = .ok (.iload 4, 2) := by decide +kernel
theorem dX9_restOf_17 : decode cX9_restOf 17 = .ok (.iconst 0, 1) := by decide +kernel
theorem dX9_restOf_18 : decode cX9_restOf 18 = .ok (.iastore, 1) := by decide +kernel
theorem dX9_restOf_19 : decode cX9_restOf 19 = .ok (.iinc 4 1, 3) := by decide +kernel
theorem dX9_restOf_22 : decode cX9_restOf 22 = .ok (.goto (-17), 3) := by decide +kernel
theorem dX9_restOf_25 : decode cX9_restOf 25 = .ok (.iconst 0, 1) := by decide +kernel
theorem dX9_restOf_26 : decode cX9_restOf 26 = .ok (.istore 4, 2) := by decide +kernel
theorem dX9_restOf_28 : decode cX9_restOf 28 = .ok (.iload 4, 2) := by decide +kernel
theorem dX9_restOf_30 : decode cX9_restOf 30 = .ok (.aload_n 0, 1) := by decide +kernel
theorem dX9_restOf_31 : decode cX9_restOf 31 = .ok (.getfield 153, 3) := by decide +kernel
theorem dX9_restOf_34 : decode cX9_restOf 34 = .ok (.if_icmp .ge 58, 3) := by decide +kernel
theorem dX9_restOf_37 : decode cX9_restOf 37 = .ok (.aload_n 0, 1) := by decide +kernel
theorem dX9_restOf_38 : decode cX9_restOf 38 = .ok (.getfield 23, 3) := by decide +kernel
theorem dX9_restOf_41 : decode cX9_restOf 41 = .ok (.iload 4, 2) := by decide +kernel
theorem dX9_restOf_43 : decode cX9_restOf 43 = .ok (.iaload, 1) := by decide +kernel
theorem dX9_restOf_44 : decode cX9_restOf 44 = .ok (.iload_n 1, 1) := by decide +kernel
theorem dX9_restOf_45 : decode cX9_restOf 45 = .ok (.imul, 1) := by decide +kernel
theorem dX9_restOf_46 : decode cX9_restOf 46 = .ok (.iload_n 2, 1) := by decide +kernel
theorem dX9_restOf_47 : decode cX9_restOf 47 = .ok (.invokestatic 47, 3) := by decide +kernel
theorem dX9_restOf_50 : decode cX9_restOf 50 = .ok (.istore 5, 2) := by decide +kernel
theorem dX9_restOf_52 : decode cX9_restOf 52 = .ok (.aload_n 0, 1) := by decide +kernel
theorem dX9_restOf_53 : decode cX9_restOf 53 = .ok (.getfield 26, 3) := by decide +kernel
theorem dX9_restOf_56 : decode cX9_restOf 56 = .ok (.iload 5, 2) := by decide +kernel
theorem dX9_restOf_58 : decode cX9_restOf 58 = .ok (.dup2, 1) := by decide +kernel
theorem dX9_restOf_59 : decode cX9_restOf 59 = .ok (.iaload, 1) := by decide +kernel
theorem dX9_restOf_60 : decode cX9_restOf 60 = .ok (.iconst 1, 1) := by decide +kernel
theorem dX9_restOf_61 : decode cX9_restOf 61 = .ok (.iadd, 1) := by decide +kernel
theorem dX9_restOf_62 : decode cX9_restOf 62 = .ok (.iastore, 1) := by decide +kernel
theorem dX9_restOf_63 : decode cX9_restOf 63 = .ok (.aload_n 0, 1) := by decide +kernel
theorem dX9_restOf_64 : decode cX9_restOf 64 = .ok (.getfield 26, 3) := by decide +kernel
theorem dX9_restOf_67 : decode cX9_restOf 67 = .ok (.iload 5, 2) := by decide +kernel
theorem dX9_restOf_69 : decode cX9_restOf 69 = .ok (.iaload, 1) := by decide +kernel
theorem dX9_restOf_70 : decode cX9_restOf 70 = .ok (.iload_n 3, 1) := by decide +kernel
theorem dX9_restOf_71 : decode cX9_restOf 71 = .ok (.if_icmp .le 13, 3) := by decide +kernel
theorem dX9_restOf_74 : decode cX9_restOf 74 = .ok (.aload_n 0, 1) := by decide +kernel
theorem dX9_restOf_75 : decode cX9_restOf 75 = .ok (.getfield 26, 3) := by decide +kernel
theorem dX9_restOf_78 : decode cX9_restOf 78 = .ok (.iload 5, 2) := by decide +kernel
theorem dX9_restOf_80 : decode cX9_restOf 80 = .ok (.iaload, 1) := by decide +kernel
theorem dX9_restOf_81 : decode cX9_restOf 81 = .ok (.goto 4, 3) := by decide +kernel
theorem dX9_restOf_84 : decode cX9_restOf 84 = .ok (.iload_n 3, 1) := by decide +kernel
theorem dX9_restOf_85 : decode cX9_restOf 85 = .ok (.istore_n 3, 1) := by decide +kernel
theorem dX9_restOf_86 : decode cX9_restOf 86 = .ok (.iinc 4 1, 3) := by decide +kernel
theorem dX9_restOf_89 : decode cX9_restOf 89 = .ok (.goto (-61), 3) := by decide +kernel
theorem dX9_restOf_92 : decode cX9_restOf 92 = .ok (.iload_n 3, 1) := by decide +kernel
theorem dX9_restOf_93 : decode cX9_restOf 93 = .ok (.ireturn, 1) := by decide +kernel
theorem dX9_bestPeriod_0 : decode cX9_bestPeriod 0 = .ok (.iload_n 1, 1) := by decide +kernel
theorem dX9_bestPeriod_1 : decode cX9_bestPeriod 1 = .ok (.iconst 1, 1) := by decide +kernel
theorem dX9_bestPeriod_2 : decode cX9_bestPeriod 2 = .ok (.sipush 500, 3) := by decide +kernel
theorem dX9_bestPeriod_5 : decode cX9_bestPeriod 5 = .ok (.invokestatic 55, 3) := by decide +kernel
theorem dX9_bestPeriod_8 : decode cX9_bestPeriod 8 = .ok (.ifCond .ne 7, 3) := by decide +kernel
theorem dX9_bestPeriod_11 : decode cX9_bestPeriod 11 = .ok (.sipush (-1001), 3) := by decide +kernel
theorem dX9_bestPeriod_14 : decode cX9_bestPeriod 14 = .ok (.ireturn, 1) := by decide +kernel
theorem dX9_bestPeriod_15 : decode cX9_bestPeriod 15 = .ok (.aload_n 0, 1) := by decide +kernel
theorem dX9_bestPeriod_16 : decode cX9_bestPeriod 16 = .ok (.sipush (-1004), 3) := by decide +kernel
theorem dX9_bestPeriod_19 : decode cX9_bestPeriod 19 = .ok (.invokevirtual 156, 3) := by decide +kernel
theorem dX9_bestPeriod_22 : decode cX9_bestPeriod 22 = .ok (.aload_n 0, 1) := by decide +kernel
theorem dX9_bestPeriod_23 : decode cX9_bestPeriod 23 = .ok (.getfield 153, 3) := by decide +kernel
theorem dX9_bestPeriod_26 : decode cX9_bestPeriod 26 = .ok (.ifCond .ne 7, 3) := by decide +kernel
theorem dX9_bestPeriod_29 : decode cX9_bestPeriod 29 = .ok (.sipush (-1004), 3) := by decide +kernel
theorem dX9_bestPeriod_32 : decode cX9_bestPeriod 32 = .ok (.ireturn, 1) := by decide +kernel
theorem dX9_bestPeriod_33 : decode cX9_bestPeriod 33 = .ok (.aload_n 0, 1) := by decide +kernel
theorem dX9_bestPeriod_34 : decode cX9_bestPeriod 34 = .ok (.invokevirtual 41, 3) := by decide +kernel
theorem dX9_bestPeriod_37 : decode cX9_bestPeriod 37 = .ok (.istore_n 3, 1) := by decide +kernel
theorem dX9_bestPeriod_38 : decode cX9_bestPeriod 38 = .ok (.sipush (-1004), 3) := by decide +kernel
theorem dX9_bestPeriod_41 : decode cX9_bestPeriod 41 = .ok (.istore 4, 2) := by decide +kernel
theorem dX9_bestPeriod_43 : decode cX9_bestPeriod 43 = .ok (.iconst 0, 1) := by decide +kernel
theorem dX9_bestPeriod_44 : decode cX9_bestPeriod 44 = .ok (.istore 5, 2) := by decide +kernel
theorem dX9_bestPeriod_46 : decode cX9_bestPeriod 46 = .ok (.iconst 1, 1) := by decide +kernel
theorem dX9_bestPeriod_47 : decode cX9_bestPeriod 47 = .ok (.istore 6, 2) := by decide +kernel
theorem dX9_bestPeriod_49 : decode cX9_bestPeriod 49 = .ok (.iload 6, 2) := by decide +kernel
theorem dX9_bestPeriod_51 : decode cX9_bestPeriod 51 = .ok (.iload_n 1, 1) := by decide +kernel
theorem dX9_bestPeriod_52 : decode cX9_bestPeriod 52 = .ok (.if_icmp .gt 66, 3) := by decide +kernel
theorem dX9_bestPeriod_55 : decode cX9_bestPeriod 55 = .ok (.aload_n 0, 1) := by decide +kernel
theorem dX9_bestPeriod_56 : decode cX9_bestPeriod 56 = .ok (.iload 6, 2) := by decide +kernel
theorem dX9_bestPeriod_58 : decode cX9_bestPeriod 58 = .ok (.iload_n 3, 1) := by decide +kernel
theorem dX9_bestPeriod_59 : decode cX9_bestPeriod 59 = .ok (.invokevirtual 163, 3) := by decide +kernel
theorem dX9_bestPeriod_62 : decode cX9_bestPeriod 62 = .ok (.istore 7, 2) := by decide +kernel
theorem dX9_bestPeriod_64 : decode cX9_bestPeriod 64 = .ok (.iload 6, 2) := by decide +kernel
theorem dX9_bestPeriod_66 : decode cX9_bestPeriod 66 = .ok (.iconst 1, 1) := by decide +kernel
theorem dX9_bestPeriod_67 : decode cX9_bestPeriod 67 = .ok (.if_icmp .eq 10, 3) := by decide +kernel
theorem dX9_bestPeriod_70 : decode cX9_bestPeriod 70 = .ok (.iload 7, 2) := by decide +kernel
theorem dX9_bestPeriod_72 : decode cX9_bestPeriod 72 = .ok (.iload 5, 2) := by decide +kernel
theorem dX9_bestPeriod_74 : decode cX9_bestPeriod 74 = .ok (.if_icmp .ge 7, 3) := by decide +kernel
theorem dX9_bestPeriod_77 : decode cX9_bestPeriod 77 = .ok (.iconst 1, 1) := by decide +kernel
theorem dX9_bestPeriod_78 : decode cX9_bestPeriod 78 = .ok (.goto 4, 3) := by decide +kernel
theorem dX9_bestPeriod_81 : decode cX9_bestPeriod 81 = .ok (.iconst 0, 1) := by decide +kernel
theorem dX9_bestPeriod_82 : decode cX9_bestPeriod 82 = .ok (.istore 8, 2) := by decide +kernel
