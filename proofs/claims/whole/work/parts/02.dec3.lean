theorem dX9_bestPeriod_84 : decode cX9_bestPeriod 84 = .ok (.iload 8, 2) := by decide +kernel
theorem dX9_bestPeriod_86 : decode cX9_bestPeriod 86 = .ok (.ifCond .eq 8, 3) := by decide +kernel
theorem dX9_bestPeriod_89 : decode cX9_bestPeriod 89 = .ok (.iload 6, 2) := by decide +kernel
theorem dX9_bestPeriod_91 : decode cX9_bestPeriod 91 = .ok (.goto 5, 3) := by decide +kernel
theorem dX9_bestPeriod_94 : decode cX9_bestPeriod 94 = .ok (.iload 4, 2) := by decide +kernel
theorem dX9_bestPeriod_96 : decode cX9_bestPeriod 96 = .ok (.istore 4, 2) := by decide +kernel
theorem dX9_bestPeriod_98 : decode cX9_bestPeriod 98 = .ok (.iload 8, 2) := by decide +kernel
theorem dX9_bestPeriod_100 : decode cX9_bestPeriod 100 = .ok (.ifCond .eq 8, 3) := by decide +kernel
theorem dX9_bestPeriod_103 : decode cX9_bestPeriod 103 = .ok (.iload 7, 2) := by decide +kernel
theorem dX9_bestPeriod_105 : decode cX9_bestPeriod 105 = .ok (.goto 5, 3) := by decide +kernel
theorem dX9_bestPeriod_108 : decode cX9_bestPeriod 108 = .ok (.iload 5, 2) := by decide +kernel
theorem dX9_bestPeriod_110 : decode cX9_bestPeriod 110 = .ok (.istore 5, 2) := by decide +kernel
theorem dX9_bestPeriod_112 : decode cX9_bestPeriod 112 = .ok (.iinc 6 1, 3) := by decide +kernel
theorem dX9_bestPeriod_115 : decode cX9_bestPeriod 115 = .ok (.goto (-66), 3) := by decide +kernel
theorem dX9_bestPeriod_118 : decode cX9_bestPeriod 118 = .ok (.iload_n 2, 1) := by decide +kernel
theorem dX9_bestPeriod_119 : decode cX9_bestPeriod 119 = .ok (.ifCond .eq 8, 3) := by decide +kernel
theorem dX9_bestPeriod_122 : decode cX9_bestPeriod 122 = .ok (.iload 5, 2) := by decide +kernel
theorem dX9_bestPeriod_124 : decode cX9_bestPeriod 124 = .ok (.goto 5, 3) := by decide +kernel
theorem dX9_bestPeriod_127 : decode cX9_bestPeriod 127 = .ok (.iload 4, 2) := by decide +kernel
theorem dX9_bestPeriod_129 : decode cX9_bestPeriod 129 = .ok (.ireturn, 1) := by decide +kernel
theorem dX9_setDisc_0 : decode cX9_setDisc 0 = .ok (.iload_n 1, 1) := by decide +kernel
theorem dX9_setDisc_1 : decode cX9_setDisc 1 = .ok (.iconst 1, 1) := by decide +kernel
theorem dX9_setDisc_2 : decode cX9_setDisc 2 = .ok (.bipush 30, 2) := by decide +kernel
theorem dX9_setDisc_4 : decode cX9_setDisc 4 = .ok (.invokestatic 55, 3) := by decide +kernel
theorem dX9_setDisc_7 : decode cX9_setDisc 7 = .ok (.ifCond .eq 16, 3) := by decide +kernel
theorem dX9_setDisc_10 : decode cX9_setDisc 10 = .ok (.iload_n 2, 1) := by decide +kernel
theorem dX9_setDisc_11 : decode cX9_setDisc 11 = .ok (.iconst 0, 1) := by decide +kernel
theorem dX9_setDisc_12 : decode cX9_setDisc 12 = .ok (.iconst 1, 1) := by decide +kernel
theorem dX9_setDisc_13 : decode cX9_setDisc 13 = .ok (.iload_n 1, 1) := by decide +kernel
theorem dX9_setDisc_14 : decode cX9_setDisc 14 = .ok (.ishl, 1) := by decide +kernel
theorem dX9_setDisc_15 : decode cX9_setDisc 15 = .ok (.iconst 1, 1) := by decide +kernel
theorem dX9_setDisc_16 : decode cX9_setDisc 16 = .ok (.isub, 1) := by decide +kernel
theorem dX9_setDisc_17 : decode cX9_setDisc 17 = .ok (.invokestatic 55, 3) := by decide +kernel
theorem dX9_setDisc_20 : decode cX9_setDisc 20 = .ok (.ifCond .ne 7, 3) := by decide +kernel
theorem dX9_setDisc_23 : decode cX9_setDisc 23 = .ok (.sipush (-1001), 3) := by decide +kernel
theorem dX9_setDisc_26 : decode cX9_setDisc 26 = .ok (.ireturn, 1) := by decide +kernel
theorem dX9_setDisc_27 : decode cX9_setDisc 27 = .ok (.aload_n 0, 1) := by decide +kernel
theorem dX9_setDisc_28 : decode cX9_setDisc 28 = .ok (.invokevirtual 101, 3) := by decide +kernel
theorem dX9_setDisc_31 : decode cX9_setDisc 31 = .ok (.aload_n 0, 1) := by decide +kernel
theorem dX9_setDisc_32 : decode cX9_setDisc 32 = .ok (.getfield 7, 3) := by decide +kernel
theorem dX9_setDisc_35 : decode cX9_setDisc 35 = .ok (.bipush 94, 2) := by decide +kernel
theorem dX9_setDisc_37 : decode cX9_setDisc 37 = .ok (.iload_n 1, 1) := by decide +kernel
theorem dX9_setDisc_38 : decode cX9_setDisc 38 = .ok (.iastore, 1) := by decide +kernel
theorem dX9_setDisc_39 : decode cX9_setDisc 39 = .ok (.aload_n 0, 1) := by decide +kernel
theorem dX9_setDisc_40 : decode cX9_setDisc 40 = .ok (.getfield 7, 3) := by decide +kernel
theorem dX9_setDisc_43 : decode cX9_setDisc 43 = .ok (.bipush 95, 2) := by decide +kernel
theorem dX9_setDisc_45 : decode cX9_setDisc 45 = .ok (.iload_n 2, 1) := by decide +kernel
theorem dX9_setDisc_46 : decode cX9_setDisc 46 = .ok (.iastore, 1) := by decide +kernel
theorem dX9_setDisc_47 : decode cX9_setDisc 47 = .ok (.iconst 0, 1) := by decide +kernel
theorem dX9_setDisc_48 : decode cX9_setDisc 48 = .ok (.istore_n 3, 1) := by decide +kernel
theorem dX9_setDisc_49 : decode cX9_setDisc 49 = .ok (.iconst 0, 1) := by decide +kernel
theorem dX9_setDisc_50 : decode cX9_setDisc 50 = .ok (.istore 4, 2) := by decide +kernel
theorem dX9_setDisc_52 : decode cX9_setDisc 52 = .ok (.iload 4, 2) := by decide +kernel
theorem dX9_setDisc_54 : decode cX9_setDisc 54 = .ok (.iload_n 1, 1) := by decide +kernel
theorem dX9_setDisc_55 : decode cX9_setDisc 55 = .ok (.if_icmp .ge 18, 3) := by decide +kernel
theorem dX9_setDisc_58 : decode cX9_setDisc 58 = .ok (.iload_n 3, 1) := by decide +kernel
theorem dX9_setDisc_59 : decode cX9_setDisc 59 = .ok (.iload_n 2, 1) := by decide +kernel
theorem dX9_setDisc_60 : decode cX9_setDisc 60 = .ok (.iload 4, 2) := by decide +kernel
theorem dX9_setDisc_62 : decode cX9_setDisc 62 = .ok (.ishr, 1) := by decide +kernel
theorem dX9_setDisc_63 : decode cX9_setDisc 63 = .ok (.iconst 1, 1) := by decide +kernel
theorem dX9_setDisc_64 : decode cX9_setDisc 64 = .ok (.iand, 1) := by decide +kernel
theorem dX9_setDisc_65 : decode cX9_setDisc 65 = .ok (.iadd, 1) := by decide +kernel
theorem dX9_setDisc_66 : decode cX9_setDisc 66 = .ok (.istore_n 3, 1) := by decide +kernel
theorem dX9_setDisc_67 : decode cX9_setDisc 67 = .ok (.iinc 4 1, 3) := by decide +kernel
theorem dX9_setDisc_70 : decode cX9_setDisc 70 = .ok (.goto (-18), 3) := by decide +kernel
theorem dX9_setDisc_73 : decode cX9_setDisc 73 = .ok (.iload_n 3, 1) := by decide +kernel
theorem dX9_setDisc_74 : decode cX9_setDisc 74 = .ok (.ireturn, 1) := by decide +kernel
theorem dX9_turnDisc_0 : decode cX9_turnDisc 0 = .ok (.iload_n 1, 1) := by decide +kernel
theorem dX9_turnDisc_1 : decode cX9_turnDisc 1 = .ok (.iconst 0, 1) := by decide +kernel
theorem dX9_turnDisc_2 : decode cX9_turnDisc 2 = .ok (.bipush 29, 2) := by decide +kernel
theorem dX9_turnDisc_4 : decode cX9_turnDisc 4 = .ok (.invokestatic 55, 3) := by decide +kernel
theorem dX9_turnDisc_7 : decode cX9_turnDisc 7 = .ok (.ifCond .eq 16, 3) := by decide +kernel
theorem dX9_turnDisc_10 : decode cX9_turnDisc 10 = .ok (.iload_n 2, 1) := by decide +kernel
theorem dX9_turnDisc_11 : decode cX9_turnDisc 11 = .ok (.sipush (-1000), 3) := by decide +kernel
theorem dX9_turnDisc_14 : decode cX9_turnDisc 14 = .ok (.sipush 1000, 3) := by decide +kernel
theorem dX9_turnDisc_17 : decode cX9_turnDisc 17 = .ok (.invokestatic 55, 3) := by decide +kernel
theorem dX9_turnDisc_20 : decode cX9_turnDisc 20 = .ok (.ifCond .ne 7, 3) := by decide +kernel
theorem dX9_turnDisc_23 : decode cX9_turnDisc 23 = .ok (.sipush (-1001), 3) := by decide +kernel
theorem dX9_turnDisc_26 : decode cX9_turnDisc 26 = .ok (.ireturn, 1) := by decide +kernel
theorem dX9_turnDisc_27 : decode cX9_turnDisc 27 = .ok (.aload_n 0, 1) := by decide +kernel
theorem dX9_turnDisc_28 : decode cX9_turnDisc 28 = .ok (.invokevirtual 101, 3) := by decide +kernel
theorem dX9_turnDisc_31 : decode cX9_turnDisc 31 = .ok (.aload_n 0, 1) := by decide +kernel
theorem dX9_turnDisc_32 : decode cX9_turnDisc 32 = .ok (.getfield 7, 3) := by decide +kernel
theorem dX9_turnDisc_35 : decode cX9_turnDisc 35 = .ok (.bipush 97, 2) := by decide +kernel
theorem dX9_turnDisc_37 : decode cX9_turnDisc 37 = .ok (.iaload, 1) := by decide +kernel
theorem dX9_turnDisc_38 : decode cX9_turnDisc 38 = .ok (.istore_n 3, 1) := by decide +kernel
theorem dX9_turnDisc_39 : decode cX9_turnDisc 39 = .ok (.aload_n 0, 1) := by decide +kernel
theorem dX9_turnDisc_40 : decode cX9_turnDisc 40 = .ok (.getfield 7, 3) := by decide +kernel
theorem dX9_turnDisc_43 : decode cX9_turnDisc 43 = .ok (.bipush 96, 2) := by decide +kernel
theorem dX9_turnDisc_45 : decode cX9_turnDisc 45 = .ok (.iload_n 1, 1) := by decide +kernel
theorem dX9_turnDisc_46 : decode cX9_turnDisc 46 = .ok (.iastore, 1) := by decide +kernel
theorem dX9_turnDisc_47 : decode cX9_turnDisc 47 = .ok (.aload_n 0, 1) := by decide +kernel
theorem dX9_turnDisc_48 : decode cX9_turnDisc 48 = .ok (.getfield 7, 3) := by decide +kernel
theorem dX9_turnDisc_51 : decode cX9_turnDisc 51 = .ok (.bipush 97, 2) := by decide +kernel
theorem dX9_turnDisc_53 : decode cX9_turnDisc 53 = .ok (.iload_n 2, 1) := by decide +kernel
theorem dX9_turnDisc_54 : decode cX9_turnDisc 54 = .ok (.iastore, 1) := by decide +kernel
theorem dX9_turnDisc_55 : decode cX9_turnDisc 55 = .ok (.iload_n 3, 1) := by decide +kernel
theorem dX9_turnDisc_56 : decode cX9_turnDisc 56 = .ok (.ireturn, 1) := by decide +kernel
theorem dX9_isOpen_0 : decode cX9_isOpen 0 = .ok (.aload_n 0, 1) := by decide +kernel
theorem dX9_isOpen_1 : decode cX9_isOpen 1 = .ok (.getfield 7, 3) := by decide +kernel
theorem dX9_isOpen_4 : decode cX9_isOpen 4 = .ok (.bipush 94, 2) := by decide +kernel
theorem dX9_isOpen_6 : decode cX9_isOpen 6 = .ok (.iaload, 1) := by decide +kernel
theorem dX9_isOpen_7 : decode cX9_isOpen 7 = .ok (.istore_n 2, 1) := by decide +kernel
theorem dX9_isOpen_8 : decode cX9_isOpen 8 = .ok (.iload_n 2, 1) := by decide +kernel
theorem dX9_isOpen_9 : decode cX9_isOpen 9 = .ok (.aload_n 0, 1) := by decide +kernel
theorem dX9_isOpen_10 : decode cX9_isOpen 10 = .ok (.getfield 7, 3) := by decide +kernel
theorem dX9_isOpen_13 : decode cX9_isOpen 13 = .ok (.bipush 96, 2) := by decide +kernel
theorem dX9_isOpen_15 : decode cX9_isOpen 15 = .ok (.iaload, 1) := by decide +kernel
theorem dX9_isOpen_16 : decode cX9_isOpen 16 = .ok (.aload_n 0, 1) := by decide +kernel
theorem dX9_isOpen_17 : decode cX9_isOpen 17 = .ok (.getfield 7, 3) := by decide +kernel
theorem dX9_isOpen_20 : decode cX9_isOpen 20 = .ok (.bipush 97, 2) := by decide +kernel
theorem dX9_isOpen_22 : decode cX9_isOpen 22 = .ok (.iaload, 1) := by decide +kernel
theorem dX9_isOpen_23 : decode cX9_isOpen 23 = .ok (.iload_n 1, 1) := by decide +kernel
theorem dX9_isOpen_24 : decode cX9_isOpen 24 = .ok (.imul, 1) := by decide +kernel
theorem dX9_isOpen_25 : decode cX9_isOpen 25 = .ok (.iadd, 1) := by decide +kernel
theorem dX9_isOpen_26 : decode cX9_isOpen 26 = .ok (.iload_n 2, 1) := by decide +kernel
theorem dX9_isOpen_27 : decode cX9_isOpen 27 = .ok (.invokestatic 47, 3) := by decide +kernel
theorem dX9_isOpen_30 : decode cX9_isOpen 30 = .ok (.isub, 1) := by decide +kernel
theorem dX9_isOpen_31 : decode cX9_isOpen 31 = .ok (.iload_n 2, 1) := by decide +kernel
theorem dX9_isOpen_32 : decode cX9_isOpen 32 = .ok (.irem, 1) := by decide +kernel
theorem dX9_isOpen_33 : decode cX9_isOpen 33 = .ok (.istore_n 3, 1) := by decide +kernel
theorem dX9_isOpen_34 : decode cX9_isOpen 34 = .ok (.aload_n 0, 1) := by decide +kernel
theorem dX9_isOpen_35 : decode cX9_isOpen 35 = .ok (.getfield 7, 3) := by decide +kernel
theorem dX9_isOpen_38 : decode cX9_isOpen 38 = .ok (.bipush 95, 2) := by decide +kernel
theorem dX9_isOpen_40 : decode cX9_isOpen 40 = .ok (.iaload, 1) := by decide +kernel
theorem dX9_isOpen_41 : decode cX9_isOpen 41 = .ok (.iload_n 3, 1) := by decide +kernel
theorem dX9_isOpen_42 : decode cX9_isOpen 42 = .ok (.ishr, 1) := by decide +kernel
theorem dX9_isOpen_43 : decode cX9_isOpen 43 = .ok (.iconst 1, 1) := by decide +kernel
theorem dX9_isOpen_44 : decode cX9_isOpen 44 = .ok (.iand, 1) := by decide +kernel
theorem dX9_isOpen_45 : decode cX9_isOpen 45 = .ok (.iconst 1, 1) := by decide +kernel
theorem dX9_isOpen_46 : decode cX9_isOpen 46 = .ok (.if_icmp .ne 7, 3) := by decide +kernel
theorem dX9_isOpen_49 : decode cX9_isOpen 49 = .ok (.iconst 1, 1) := by decide +kernel
theorem dX9_isOpen_50 : decode cX9_isOpen 50 = .ok (.goto 4, 3) := by decide +kernel
theorem dX9_isOpen_53 : decode cX9_isOpen 53 = .ok (.iconst 0, 1) := by decide +kernel
theorem dX9_isOpen_54 : decode cX9_isOpen 54 = .ok (.ireturn, 1) := by decide +kernel
theorem dX9_isSeen_0 : decode cX9_isSeen 0 = .ok (.iload_n 1, 1) := by decide +kernel
theorem dX9_isSeen_1 : decode cX9_isSeen 1 = .ok (.invokestatic 114, 3) := by decide +kernel
theorem dX9_isSeen_4 : decode cX9_isSeen 4 = .ok (.ifCond .ne 9, 3) := by decide +kernel
theorem dX9_isSeen_7 : decode cX9_isSeen 7 = .ok (.sipush (-1001), 3) := by decide +kernel
theorem dX9_isSeen_10 : decode cX9_isSeen 10 = .ok (.goto 16, 3) := by decide +kernel
theorem dX9_isSeen_13 : decode cX9_isSeen 13 = .ok (.aload_n 0, 1) := by decide +kernel
theorem dX9_isSeen_14 : decode cX9_isSeen 14 = .ok (.iload_n 1, 1) := by decide +kernel
theorem dX9_isSeen_15 : decode cX9_isSeen 15 = .ok (.invokevirtual 166, 3) := by decide +kernel
theorem dX9_isSeen_18 : decode cX9_isSeen 18 = .ok (.ifCond .eq 7, 3) := by decide +kernel
theorem dX9_isSeen_21 : decode cX9_isSeen 21 = .ok (.iconst 1, 1) := by decide +kernel
theorem dX9_isSeen_22 : decode cX9_isSeen 22 = .ok (.goto 4, 3) := by decide +kernel
theorem dX9_isSeen_25 : decode cX9_isSeen 25 = .ok (.iconst 0, 1) := by decide +kernel
theorem dX9_isSeen_26 : decode cX9_isSeen 26 = .ok (.ireturn, 1) := by decide +kernel
theorem dX9_goesTo_0 : decode cX9_goesTo 0 = .ok (.iconst 0, 1) := by decide +kernel
theorem dX9_goesTo_1 : decode cX9_goesTo 1 = .ok (.istore_n 2, 1) := by decide +kernel
theorem dX9_goesTo_2 : decode cX9_goesTo 2 = .ok (.iconst 0, 1) := by decide +kernel
theorem dX9_goesTo_3 : decode cX9_goesTo 3 = .ok (.istore_n 3, 1) := by decide +kernel
theorem dX9_goesTo_4 : decode cX9_goesTo 4 = .ok (.iconst 0, 1) := by decide +kernel
theorem dX9_goesTo_5 : decode cX9_goesTo 5 = .ok (.istore 4, 2) := by decide +kernel
theorem dX9_goesTo_7 : decode cX9_goesTo 7 = .ok (.iload 4, 2) := by decide +kernel
theorem dX9_goesTo_9 : decode cX9_goesTo 9 = .ok (.sipush 1000, 3) := by decide +kernel
theorem dX9_goesTo_12 : decode cX9_goesTo 12 = .ok (.if_icmp .gt 65, 3) := by decide +kernel
theorem dX9_goesTo_15 : decode cX9_goesTo 15 = .ok (.aload_n 0, 1) := by decide +kernel
theorem dX9_goesTo_16 : decode cX9_goesTo 16 = .ok (.iload 4, 2) := by decide +kernel
theorem dX9_goesTo_18 : decode cX9_goesTo 18 = .ok (.invokevirtual 166, 3) := by decide +kernel
theorem dX9_goesTo_21 : decode cX9_goesTo 21 = .ok (.istore 5, 2) := by decide +kernel
theorem dX9_goesTo_23 : decode cX9_goesTo 23 = .ok (.iload 5, 2) := by decide +kernel
theorem dX9_goesTo_25 : decode cX9_goesTo 25 = .ok (.ifCond .eq 25, 3) := by decide +kernel
theorem dX9_goesTo_28 : decode cX9_goesTo 28 = .ok (.iload_n 3, 1) := by decide +kernel
theorem dX9_goesTo_29 : decode cX9_goesTo 29 = .ok (.ifCond .ne 21, 3) := by decide +kernel
theorem dX9_goesTo_32 : decode cX9_goesTo 32 = .ok (.iload_n 2, 1) := by decide +kernel
theorem dX9_goesTo_33 : decode cX9_goesTo 33 = .ok (.iconst 1, 1) := by decide +kernel
theorem dX9_goesTo_34 : decode cX9_goesTo 34 = .ok (.isub, 1) := by decide +kernel
theorem dX9_goesTo_35 : decode cX9_goesTo 35 = .ok (.iload_n 1, 1) := by decide +kernel
theorem dX9_goesTo_36 : decode cX9_goesTo 36 = .ok (.if_icmp .ne 5, 3) := by decide +kernel
theorem dX9_goesTo_39 : decode cX9_goesTo 39 = .ok (.iload_n 2, 1) := by decide +kernel
theorem dX9_goesTo_40 : decode cX9_goesTo 40 = .ok (.ireturn, 1) := by decide +kernel
theorem dX9_goesTo_41 : decode cX9_goesTo 41 = .ok (.iinc 2 1, 3) := by decide +kernel
theorem dX9_goesTo_44 : decode cX9_goesTo 44 = .ok (.aload_n 0, 1) := by decide +kernel
theorem dX9_goesTo_45 : decode cX9_goesTo 45 = .ok (.iload 4, 2) := by decide +kernel
theorem dX9_goesTo_47 : decode cX9_goesTo 47 = .ok (.putfield 169, 3) := by decide +kernel
theorem dX9_goesTo_50 : decode cX9_goesTo 50 = .ok (.aload_n 0, 1) := by decide +kernel
theorem dX9_goesTo_51 : decode cX9_goesTo 51 = .ok (.iload 5, 2) := by decide +kernel
theorem dX9_goesTo_53 : decode cX9_goesTo 53 = .ok (.ifCond .eq 8, 3) := by decide +kernel
theorem dX9_goesTo_56 : decode cX9_goesTo 56 = .ok (.iload 4, 2) := by decide +kernel
theorem dX9_goesTo_58 : decode cX9_goesTo 58 = .ok (.goto 7, 3) := by decide +kernel
theorem dX9_goesTo_61 : decode cX9_goesTo 61 = .ok (.aload_n 0, 1) := by decide +kernel
theorem dX9_goesTo_62 : decode cX9_goesTo 62 = .ok (.getfield 172, 3) := by decide +kernel
theorem dX9_goesTo_65 : decode cX9_goesTo 65 = .ok (.putfield 172, 3) := by decide +kernel
theorem dX9_goesTo_68 : decode cX9_goesTo 68 = .ok (.iload 5, 2) := by decide +kernel
theorem dX9_goesTo_70 : decode cX9_goesTo 70 = .ok (.istore_n 3, 1) := by decide +kernel
theorem dX9_goesTo_71 : decode cX9_goesTo 71 = .ok (.iinc 4 1, 3) := by decide +kernel
theorem dX9_goesTo_74 : decode cX9_goesTo 74 = .ok (.goto (-67), 3) := by decide +kernel
theorem dX9_goesTo_77 : decode cX9_goesTo 77 = .ok (.iload_n 2, 1) := by decide +kernel
theorem dX9_goesTo_78 : decode cX9_goesTo 78 = .ok (.ireturn, 1) := by decide +kernel
theorem dX9_smearAt_0 : decode cX9_smearAt 0 = .ok (.iconst 0, 1) := by decide +kernel
theorem dX9_smearAt_1 : decode cX9_smearAt 1 = .ok (.istore_n 2, 1) := by decide +kernel
theorem dX9_smearAt_2 : decode cX9_smearAt 2 = .ok (.aload_n 0, 1) := by decide +kernel
theorem dX9_smearAt_3 : decode cX9_smearAt 3 = .ok (.getfield 169, 3) := by decide +kernel
theorem dX9_smearAt_6 : decode cX9_smearAt 6 = .ok (.istore_n 3, 1) := by decide +kernel
theorem dX9_smearAt_7 : decode cX9_smearAt 7 = .ok (.iload_n 3, 1) := by decide +kernel
theorem dX9_smearAt_8 : decode cX9_smearAt 8 = .ok (.aload_n 0, 1) := by decide +kernel
theorem dX9_smearAt_9 : decode cX9_smearAt 9 = .ok (.getfield 172, 3) := by decide +kernel
theorem dX9_smearAt_12 : decode cX9_smearAt 12 = .ok (.if_icmp .gt 35, 3) := by decide +kernel
theorem dX9_smearAt_15 : decode cX9_smearAt 15 = .ok (.aload_n 0, 1) := by decide +kernel
theorem dX9_smearAt_16 : decode cX9_smearAt 16 = .ok (.iload_n 3, 1) := by decide +kernel
theorem dX9_smearAt_17 : decode cX9_smearAt 17 = .ok (.iload_n 1, 1) := by decide +kernel
theorem dX9_smearAt_18 : decode cX9_smearAt 18 = .ok (.invokevirtual 123, 3) := by decide +kernel
theorem dX9_smearAt_21 : decode cX9_smearAt 21 = .ok (.istore 4, 2) := by decide +kernel
theorem dX9_smearAt_23 : decode cX9_smearAt 23 = .ok (.iload_n 2, 1) := by decide +kernel
theorem dX9_smearAt_24 : decode cX9_smearAt 24 = .ok (.iload 4, 2) := by decide +kernel
theorem dX9_smearAt_26 : decode cX9_smearAt 26 = .ok (.ifCond .le 12, 3) := by decide +kernel
theorem dX9_smearAt_29 : decode cX9_smearAt 29 = .ok (.iconst 1, 1) := by decide +kernel
theorem dX9_smearAt_30 : decode cX9_smearAt 30 = .ok (.iload 4, 2) := by decide +kernel
theorem dX9_smearAt_32 : decode cX9_smearAt 32 = .ok (.iconst 1, 1) := by decide +kernel
theorem dX9_smearAt_33 : decode cX9_smearAt 33 = .ok (.isub, 1) := by decide +kernel
theorem dX9_smearAt_34 : decode cX9_smearAt 34 = .ok (.ishl, 1) := by decide +kernel
theorem dX9_smearAt_35 : decode cX9_smearAt 35 = .ok (.goto 4, 3) := by decide +kernel
theorem dX9_smearAt_38 : decode cX9_smearAt 38 = .ok (.iconst 0, 1) := by decide +kernel
theorem dX9_smearAt_39 : decode cX9_smearAt 39 = .ok (.ior, 1) := by decide +kernel
theorem dX9_smearAt_40 : decode cX9_smearAt 40 = .ok (.istore_n 2, 1) := by decide +kernel
theorem dX9_smearAt_41 : decode cX9_smearAt 41 = .ok (.iinc 3 1, 3) := by decide +kernel
theorem dX9_smearAt_44 : decode cX9_smearAt 44 = .ok (.goto (-37), 3) := by decide +kernel
theorem dX9_smearAt_47 : decode cX9_smearAt 47 = .ok (.iload_n 2, 1) := by decide +kernel
theorem dX9_smearAt_48 : decode cX9_smearAt 48 = .ok (.ireturn, 1) := by decide +kernel
theorem dX9_smeared_0 : decode cX9_smeared 0 = .ok (.iconst 0, 1) := by decide +kernel
theorem dX9_smeared_1 : decode cX9_smeared 1 = .ok (.istore_n 1, 1) := by decide +kernel
theorem dX9_smeared_2 : decode cX9_smeared 2 = .ok (.iconst 0, 1) := by decide +kernel
theorem dX9_smeared_3 : decode cX9_smeared 3 = .ok (.istore_n 2, 1) := by decide +kernel
theorem dX9_smeared_4 : decode cX9_smeared 4 = .ok (.iload_n 2, 1) := by decide +kernel
theorem dX9_smeared_5 : decode cX9_smeared 5 = .ok (.aload_n 0, 1) := by decide +kernel
theorem dX9_smeared_6 : decode cX9_smeared 6 = .ok (.invokevirtual 37, 3) := by decide +kernel
theorem dX9_smeared_9 : decode cX9_smeared 9 = .ok (.if_icmp .ge 31, 3) := by decide +kernel
theorem dX9_smeared_12 : decode cX9_smeared 12 = .ok (.aload_n 0, 1) := by decide +kernel
theorem dX9_smeared_13 : decode cX9_smeared 13 = .ok (.iload_n 2, 1) := by decide +kernel
theorem dX9_smeared_14 : decode cX9_smeared 14 = .ok (.invokevirtual 175, 3) := by decide +kernel
theorem dX9_smeared_17 : decode cX9_smeared 17 = .ok (.istore_n 3, 1) := by decide +kernel
theorem dX9_smeared_18 : decode cX9_smeared 18 = .ok (.iload_n 1, 1) := by decide +kernel
theorem dX9_smeared_19 : decode cX9_smeared 19 = .ok (.iload_n 3, 1) := by decide +kernel
theorem dX9_smeared_20 : decode cX9_smeared 20 = .ok (.iload_n 3, 1) := by decide +kernel
theorem dX9_smeared_21 : decode cX9_smeared 21 = .ok (.iconst 1, 1) := by decide +kernel
theorem dX9_smeared_22 : decode cX9_smeared 22 = .ok (.isub, 1) := by decide +kernel
theorem dX9_smeared_23 : decode cX9_smeared 23 = .ok (.iand, 1) := by decide +kernel
theorem dX9_smeared_24 : decode cX9_smeared 24 = .ok (.ifCond .eq 7, 3) := by decide +kernel
theorem dX9_smeared_27 : decode cX9_smeared 27 = .ok (.iconst 1, 1) := by decide +kernel
theorem dX9_smeared_28 : decode cX9_smeared 28 = .ok (.goto 4, 3) := by decide +kernel
theorem dX9_smeared_31 : decode cX9_smeared 31 = .ok (.iconst 0, 1) := by decide +kernel
theorem dX9_smeared_32 : decode cX9_smeared 32 = .ok (.iadd, 1) := by decide +kernel
theorem dX9_smeared_33 : decode cX9_smeared 33 = .ok (.istore_n 1, 1) := by decide +kernel
theorem dX9_smeared_34 : decode cX9_smeared 34 = .ok (.iinc 2 1, 3) := by decide +kernel
theorem dX9_smeared_37 : decode cX9_smeared 37 = .ok (.goto (-33), 3) := by decide +kernel
theorem dX9_smeared_40 : decode cX9_smeared 40 = .ok (.iload_n 1, 1) := by decide +kernel
theorem dX9_smeared_41 : decode cX9_smeared 41 = .ok (.ireturn, 1) := by decide +kernel
theorem dX9_isStill_0 : decode cX9_isStill 0 = .ok (.aload_n 0, 1) := by decide +kernel
theorem dX9_isStill_1 : decode cX9_isStill 1 = .ok (.invokevirtual 41, 3) := by decide +kernel
theorem dX9_isStill_4 : decode cX9_isStill 4 = .ok (.istore_n 1, 1) := by decide +kernel
theorem dX9_isStill_5 : decode cX9_isStill 5 = .ok (.iconst 1, 1) := by decide +kernel
theorem dX9_isStill_6 : decode cX9_isStill 6 = .ok (.istore_n 2, 1) := by decide +kernel
theorem dX9_isStill_7 : decode cX9_isStill 7 = .ok (.aload_n 0, 1) := by decide +kernel
theorem dX9_isStill_8 : decode cX9_isStill 8 = .ok (.getfield 169, 3) := by decide +kernel
theorem dX9_isStill_11 : decode cX9_isStill 11 = .ok (.istore_n 3, 1) := by decide +kernel
theorem dX9_isStill_12 : decode cX9_isStill 12 = .ok (.iload_n 3, 1) := by decide +kernel
theorem dX9_isStill_13 : decode cX9_isStill 13 = .ok (.aload_n 0, 1) := by decide +kernel
theorem dX9_isStill_14 : decode cX9_isStill 14 = .ok (.getfield 172, 3) := by decide +kernel
theorem dX9_isStill_17 : decode cX9_isStill 17 = .ok (.if_icmp .gt 40, 3) := by decide +kernel
theorem dX9_isStill_20 : decode cX9_isStill 20 = .ok (.iload_n 2, 1) := by decide +kernel
theorem dX9_isStill_21 : decode cX9_isStill 21 = .ok (.ifCond .eq 28, 3) := by decide +kernel
theorem dX9_isStill_24 : decode cX9_isStill 24 = .ok (.aload_n 0, 1) := by decide +kernel
theorem dX9_isStill_25 : decode cX9_isStill 25 = .ok (.getfield 13, 3) := by decide +kernel
theorem dX9_isStill_28 : decode cX9_isStill 28 = .ok (.iload_n 3, 1) := by decide +kernel
theorem dX9_isStill_29 : decode cX9_isStill 29 = .ok (.iaload, 1) := by decide +kernel
theorem dX9_isStill_30 : decode cX9_isStill 30 = .ok (.aload_n 0, 1) := by decide +kernel
theorem dX9_isStill_31 : decode cX9_isStill 31 = .ok (.getfield 13, 3) := by decide +kernel
theorem dX9_isStill_34 : decode cX9_isStill 34 = .ok (.aload_n 0, 1) := by decide +kernel
theorem dX9_isStill_35 : decode cX9_isStill 35 = .ok (.getfield 169, 3) := by decide +kernel
theorem dX9_isStill_38 : decode cX9_isStill 38 = .ok (.iaload, 1) := by decide +kernel
theorem dX9_isStill_39 : decode cX9_isStill 39 = .ok (.isub, 1) := by decide +kernel
theorem dX9_isStill_40 : decode cX9_isStill 40 = .ok (.iload_n 1, 1) := by decide +kernel
theorem dX9_isStill_41 : decode cX9_isStill 41 = .ok (.irem, 1) := by decide +kernel
theorem dX9_isStill_42 : decode cX9_isStill 42 = .ok (.ifCond .ne 7, 3) := by decide +kernel
theorem dX9_isStill_45 : decode cX9_isStill 45 = .ok (.iconst 1, 1) := by decide +kernel
theorem dX9_isStill_46 : decode cX9_isStill 46 = .ok (.goto 4, 3) := by decide +kernel
theorem dX9_isStill_49 : decode cX9_isStill 49 = .ok (.iconst 0, 1) := by decide +kernel
theorem dX9_isStill_50 : decode cX9_isStill 50 = .ok (.istore_n 2, 1) := by decide +kernel
theorem dX9_isStill_51 : decode cX9_isStill 51 = .ok (.iinc 3 1, 3) := by decide +kernel
theorem dX9_isStill_54 : decode cX9_isStill 54 = .ok (.goto (-42), 3) := by decide +kernel
theorem dX9_isStill_57 : decode cX9_isStill 57 = .ok (.iload_n 2, 1) := by decide +kernel
theorem dX9_isStill_58 : decode cX9_isStill 58 = .ok (.ireturn, 1) := by decide +kernel
theorem dX9_opening_0 : decode cX9_opening 0 = .ok (.iload_n 1, 1) := by decide +kernel
theorem dX9_opening_1 : decode cX9_opening 1 = .ok (.ifCond .lt 12, 3) := by decide +kernel
theorem dX9_opening_4 : decode cX9_opening 4 = .ok (.iload_n 2, 1) := by decide +kernel
theorem dX9_opening_5 : decode cX9_opening 5 = .ok (.iconst 0, 1) := by decide +kernel
theorem dX9_opening_6 : decode cX9_opening 6 = .ok (.iconst 3, 1) := by decide +kernel
theorem dX9_opening_7 : decode cX9_opening 7 = .ok (.invokestatic 55, 3) := by decide +kernel
theorem dX9_opening_10 : decode cX9_opening 10 = .ok (.ifCond .ne 7, 3) := by decide +kernel
theorem dX9_opening_13 : decode cX9_opening 13 = .ok (.sipush (-1001), 3) := by decide +kernel
theorem dX9_opening_16 : decode cX9_opening 16 = .ok (.ireturn, 1) := by decide +kernel
theorem dX9_opening_17 : decode cX9_opening 17 = .ok (.aload_n 0, 1) := by decide +kernel
theorem dX9_opening_18 : decode cX9_opening 18 = .ok (.iload_n 1, 1) := by decide +kernel
theorem dX9_opening_19 : decode cX9_opening 19 = .ok (.invokevirtual 178, 3) := by decide +kernel
theorem dX9_opening_22 : decode cX9_opening 22 = .ok (.iload_n 1, 1) := by decide +kernel
theorem dX9_opening_23 : decode cX9_opening 23 = .ok (.if_icmp .gt 7, 3) := by decide +kernel
theorem dX9_opening_26 : decode cX9_opening 26 = .ok (.sipush (-1004), 3) := by decide +kernel
theorem dX9_opening_29 : decode cX9_opening 29 = .ok (.ireturn, 1) := by decide +kernel
theorem dX9_opening_30 : decode cX9_opening 30 = .ok (.aload_n 0, 1) := by decide +kernel
theorem dX9_opening_31 : decode cX9_opening 31 = .ok (.invokevirtual 120, 3) := by decide +kernel
theorem dX9_opening_34 : decode cX9_opening 34 = .ok (.iload_n 2, 1) := by decide +kernel
theorem dX9_opening_35 : decode cX9_opening 35 = .ok (.tableswitch 47 0 2 #[25, 30, 42], 25) := by decide +kernel
theorem dX9_opening_60 : decode cX9_opening 60 = .ok (.aload_n 0, 1) := by decide +kernel
theorem dX9_opening_61 : decode cX9_opening 61 = .ok (.getfield 169, 3) := by decide +kernel
theorem dX9_opening_64 : decode cX9_opening 64 = .ok (.ireturn, 1) := by decide +kernel
theorem dX9_opening_65 : decode cX9_opening 65 = .ok (.aload_n 0, 1) := by decide +kernel
theorem dX9_opening_66 : decode cX9_opening 66 = .ok (.getfield 172, 3) := by decide +kernel
theorem dX9_opening_69 : decode cX9_opening 69 = .ok (.aload_n 0, 1) := by decide +kernel
theorem dX9_opening_70 : decode cX9_opening 70 = .ok (.getfield 169, 3) := by decide +kernel
theorem dX9_opening_73 : decode cX9_opening 73 = .ok (.isub, 1) := by decide +kernel
theorem dX9_opening_74 : decode cX9_opening 74 = .ok (.iconst 1, 1) := by decide +kernel
theorem dX9_opening_75 : decode cX9_opening 75 = .ok (.iadd, 1) := by decide +kernel
theorem dX9_opening_76 : decode cX9_opening 76 = .ok (.ireturn, 1) := by decide +kernel
theorem dX9_opening_77 : decode cX9_opening 77 = .ok (.aload_n 0, 1) := by decide +kernel
theorem dX9_opening_78 : decode cX9_opening 78 = .ok (.invokevirtual 181, 3) := by decide +kernel
theorem dX9_opening_81 : decode cX9_opening 81 = .ok (.ireturn, 1) := by decide +kernel
theorem dX9_opening_82 : decode cX9_opening 82 = .ok (.aload_n 0, 1) := by decide +kernel
theorem dX9_opening_83 : decode cX9_opening 83 = .ok (.invokevirtual 184, 3) := by decide +kernel
theorem dX9_opening_86 : decode cX9_opening 86 = .ok (.ifCond .eq 7, 3) := by decide +kernel
theorem dX9_opening_89 : decode cX9_opening 89 = .ok (.iconst 1, 1) := by decide +kernel
theorem dX9_opening_90 : decode cX9_opening 90 = .ok (.goto 4, 3) := by decide +kernel
theorem dX9_opening_93 : decode cX9_opening 93 = .ok (.iconst 0, 1) := by decide +kernel
theorem dX9_opening_94 : decode cX9_opening 94 = .ok (.ireturn, 1) := by decide +kernel
theorem dX9_smear_0 : decode cX9_smear 0 = .ok (.iload_n 1, 1) := by decide +kernel
theorem dX9_smear_1 : decode cX9_smear 1 = .ok (.ifCond .lt 11, 3) := by decide +kernel
theorem dX9_smear_4 : decode cX9_smear 4 = .ok (.aload_n 0, 1) := by decide +kernel
theorem dX9_smear_5 : decode cX9_smear 5 = .ok (.iload_n 2, 1) := by decide +kernel
theorem dX9_smear_6 : decode cX9_smear 6 = .ok (.invokevirtual 104, 3) := by decide +kernel
theorem dX9_smear_9 : decode cX9_smear 9 = .ok (.ifCond .ne 7, 3) := by decide +kernel
theorem dX9_smear_12 : decode cX9_smear 12 = .ok (.sipush (-1001), 3) := by decide +kernel
theorem dX9_smear_15 : decode cX9_smear 15 = .ok (.ireturn, 1) := by decide +kernel
theorem dX9_smear_16 : decode cX9_smear 16 = .ok (.aload_n 0, 1) := by decide +kernel
theorem dX9_smear_17 : decode cX9_smear 17 = .ok (.iload_n 1, 1) := by decide +kernel
theorem dX9_smear_18 : decode cX9_smear 18 = .ok (.invokevirtual 178, 3) := by decide +kernel
theorem dX9_smear_21 : decode cX9_smear 21 = .ok (.iload_n 1, 1) := by decide +kernel
theorem dX9_smear_22 : decode cX9_smear 22 = .ok (.if_icmp .gt 7, 3) := by decide +kernel
theorem dX9_smear_25 : decode cX9_smear 25 = .ok (.sipush (-1004), 3) := by decide +kernel
theorem dX9_smear_28 : decode cX9_smear 28 = .ok (.ireturn, 1) := by decide +kernel
theorem dX9_smear_29 : decode cX9_smear 29 = .ok (.aload_n 0, 1) := by decide +kernel
theorem dX9_smear_30 : decode cX9_smear 30 = .ok (.invokevirtual 120, 3) := by decide +kernel
theorem dX9_smear_33 : decode cX9_smear 33 = .ok (.aload_n 0, 1) := by decide +kernel
theorem dX9_smear_34 : decode cX9_smear 34 = .ok (.iload_n 2, 1) := by decide +kernel
theorem dX9_smear_35 : decode cX9_smear 35 = .ok (.invokevirtual 175, 3) := by decide +kernel
theorem dX9_smear_38 : decode cX9_smear 38 = .ok (.ireturn, 1) := by decide +kernel
theorem dX9_marks_0 : decode cX9_marks 0 = .ok (.iconst 0, 1) := by decide +kernel
theorem dX9_marks_1 : decode cX9_marks 1 = .ok (.istore_n 1, 1) := by decide +kernel
theorem dX9_marks_2 : decode cX9_marks 2 = .ok (.iconst 0, 1) := by decide +kernel
theorem dX9_marks_3 : decode cX9_marks 3 = .ok (.istore_n 2, 1) := by decide +kernel
theorem dX9_marks_4 : decode cX9_marks 4 = .ok (.iload_n 2, 1) := by decide +kernel
theorem dX9_marks_5 : decode cX9_marks 5 = .ok (.aload_n 0, 1) := by decide +kernel
theorem dX9_marks_6 : decode cX9_marks 6 = .ok (.invokevirtual 37, 3) := by decide +kernel
theorem dX9_marks_9 : decode cX9_marks 9 = .ok (.if_icmp .ge 28, 3) := by decide +kernel
theorem dX9_marks_12 : decode cX9_marks 12 = .ok (.iload_n 1, 1) := by decide +kernel
theorem dX9_marks_13 : decode cX9_marks 13 = .ok (.aload_n 0, 1) := by decide +kernel
theorem dX9_marks_14 : decode cX9_marks 14 = .ok (.getfield 7, 3) := by decide +kernel
theorem dX9_marks_17 : decode cX9_marks 17 = .ok (.iconst 1, 1) := by decide +kernel
theorem dX9_marks_18 : decode cX9_marks 18 = .ok (.iload_n 2, 1) := by decide +kernel
theorem dX9_marks_19 : decode cX9_marks 19 = .ok (.iadd, 1) := by decide +kernel
theorem dX9_marks_20 : decode cX9_marks 20 = .ok (.iaload, 1) := by decide +kernel
theorem dX9_marks_21 : decode cX9_marks 21 = .ok (.ifCond .le 7, 3) := by decide +kernel
theorem dX9_marks_24 : decode cX9_marks 24 = .ok (.iconst 1, 1) := by decide +kernel
theorem dX9_marks_25 : decode cX9_marks 25 = .ok (.goto 4, 3) := by decide +kernel
theorem dX9_marks_28 : decode cX9_marks 28 = .ok (.iconst 0, 1) := by decide +kernel
theorem dX9_marks_29 : decode cX9_marks 29 = .ok (.iadd, 1) := by decide +kernel
theorem dX9_marks_30 : decode cX9_marks 30 = .ok (.istore_n 1, 1) := by decide +kernel
theorem dX9_marks_31 : decode cX9_marks 31 = .ok (.iinc 2 1, 3) := by decide +kernel
theorem dX9_marks_34 : decode cX9_marks 34 = .ok (.goto (-30), 3) := by decide +kernel
theorem dX9_marks_37 : decode cX9_marks 37 = .ok (.iload_n 1, 1) := by decide +kernel
theorem dX9_marks_38 : decode cX9_marks 38 = .ok (.ireturn, 1) := by decide +kernel
theorem dX9_count_0 : decode cX9_count 0 = .ok (.iload_n 1, 1) := by decide +kernel
theorem dX9_count_1 : decode cX9_count 1 = .ok (.tableswitch 171 0 17 #[87, 92, 97, 102, 102, 102, 114, 114, 127, 132, 140, 140, 140, 140, 140, 153, 161, 166], 87) := by decide +kernel
theorem dX9_count_88 : decode cX9_count 88 = .ok (.aload_n 0, 1) := by decide +kernel
theorem dX9_count_89 : decode cX9_count 89 = .ok (.invokevirtual 37, 3) := by decide +kernel
theorem dX9_count_92 : decode cX9_count 92 = .ok (.ireturn, 1) := by decide +kernel
theorem dX9_count_93 : decode cX9_count 93 = .ok (.aload_n 0, 1) := by decide +kernel
theorem dX9_count_94 : decode cX9_count 94 = .ok (.invokevirtual 187, 3) := by decide +kernel
theorem dX9_count_97 : decode cX9_count 97 = .ok (.ireturn, 1) := by decide +kernel
theorem dX9_count_98 : decode cX9_count 98 = .ok (.aload_n 0, 1) := by decide +kernel
theorem dX9_count_99 : decode cX9_count 99 = .ok (.invokevirtual 41, 3) := by decide +kernel
theorem dX9_count_102 : decode cX9_count 102 = .ok (.ireturn, 1) := by decide +kernel
theorem dX9_count_103 : decode cX9_count 103 = .ok (.aload_n 0, 1) := by decide +kernel
theorem dX9_count_104 : decode cX9_count 104 = .ok (.getfield 7, 3) := by decide +kernel
theorem dX9_count_107 : decode cX9_count 107 = .ok (.bipush 61, 2) := by decide +kernel
theorem dX9_count_109 : decode cX9_count 109 = .ok (.iload_n 1, 1) := by decide +kernel
theorem dX9_count_110 : decode cX9_count 110 = .ok (.iadd, 1) := by decide +kernel
theorem dX9_count_111 : decode cX9_count 111 = .ok (.iconst 3, 1) := by decide +kernel
theorem dX9_count_112 : decode cX9_count 112 = .ok (.isub, 1) := by decide +kernel
theorem dX9_count_113 : decode cX9_count 113 = .ok (.iaload, 1) := by decide +kernel
theorem dX9_count_114 : decode cX9_count 114 = .ok (.ireturn, 1) := by decide +kernel
theorem dX9_count_115 : decode cX9_count 115 = .ok (.aload_n 0, 1) := by decide +kernel
theorem dX9_count_116 : decode cX9_count 116 = .ok (.getfield 7, 3) := by decide +kernel
theorem dX9_count_119 : decode cX9_count 119 = .ok (.bipush 74, 2) := by decide +kernel
theorem dX9_count_121 : decode cX9_count 121 = .ok (.iload_n 1, 1) := by decide +kernel
theorem dX9_count_122 : decode cX9_count 122 = .ok (.iadd, 1) := by decide +kernel
theorem dX9_count_123 : decode cX9_count 123 = .ok (.bipush 6, 2) := by decide +kernel
theorem dX9_count_125 : decode cX9_count 125 = .ok (.isub, 1) := by decide +kernel
theorem dX9_count_126 : decode cX9_count 126 = .ok (.iaload, 1) := by decide +kernel
theorem dX9_count_127 : decode cX9_count 127 = .ok (.ireturn, 1) := by decide +kernel
theorem dX9_count_128 : decode cX9_count 128 = .ok (.aload_n 0, 1) := by decide +kernel
theorem dX9_count_129 : decode cX9_count 129 = .ok (.invokevirtual 126, 3) := by decide +kernel
theorem dX9_count_132 : decode cX9_count 132 = .ok (.ireturn, 1) := by decide +kernel
theorem dX9_count_133 : decode cX9_count 133 = .ok (.aload_n 0, 1) := by decide +kernel
theorem dX9_count_134 : decode cX9_count 134 = .ok (.getfield 7, 3) := by decide +kernel
theorem dX9_count_137 : decode cX9_count 137 = .ok (.bipush 76, 2) := by decide +kernel
theorem dX9_count_139 : decode cX9_count 139 = .ok (.iaload, 1) := by decide +kernel
theorem dX9_count_140 : decode cX9_count 140 = .ok (.ireturn, 1) := by decide +kernel
theorem dX9_count_141 : decode cX9_count 141 = .ok (.aload_n 0, 1) := by decide +kernel
theorem dX9_count_142 : decode cX9_count 142 = .ok (.getfield 7, 3) := by decide +kernel
theorem dX9_count_145 : decode cX9_count 145 = .ok (.bipush 93, 2) := by decide +kernel
theorem dX9_count_147 : decode cX9_count 147 = .ok (.iload_n 1, 1) := by decide +kernel
theorem dX9_count_148 : decode cX9_count 148 = .ok (.iadd, 1) := by decide +kernel
theorem dX9_count_149 : decode cX9_count 149 = .ok (.bipush 10, 2) := by decide +kernel
theorem dX9_count_151 : decode cX9_count 151 = .ok (.isub, 1) := by decide +kernel
theorem dX9_count_152 : decode cX9_count 152 = .ok (.iaload, 1) := by decide +kernel
theorem dX9_count_153 : decode cX9_count 153 = .ok (.ireturn, 1) := by decide +kernel
theorem dX9_count_154 : decode cX9_count 154 = .ok (.aload_n 0, 1) := by decide +kernel
theorem dX9_count_155 : decode cX9_count 155 = .ok (.sipush (-1004), 3) := by decide +kernel
theorem dX9_count_158 : decode cX9_count 158 = .ok (.invokevirtual 178, 3) := by decide +kernel
theorem dX9_count_161 : decode cX9_count 161 = .ok (.ireturn, 1) := by decide +kernel
theorem dX9_count_162 : decode cX9_count 162 = .ok (.aload_n 0, 1) := by decide +kernel
theorem dX9_count_163 : decode cX9_count 163 = .ok (.getfield 62, 3) := by decide +kernel
theorem dX9_count_166 : decode cX9_count 166 = .ok (.ireturn, 1) := by decide +kernel
theorem dX9_count_167 : decode cX9_count 167 = .ok (.aload_n 0, 1) := by decide +kernel
theorem dX9_count_168 : decode cX9_count 168 = .ok (.getfield 29, 3) := by decide +kernel
theorem dX9_count_171 : decode cX9_count 171 = .ok (.ireturn, 1) := by decide +kernel
theorem dX9_count_172 : decode cX9_count 172 = .ok (.sipush (-1001), 3) := by decide +kernel
theorem dX9_count_175 : decode cX9_count 175 = .ok (.ireturn, 1) := by decide +kernel
theorem dX9_mixes_0 : decode cX9_mixes 0 = .ok (.aload_n 0, 1) := by decide +kernel
theorem dX9_mixes_1 : decode cX9_mixes 1 = .ok (.ldc2_w 190, 3) := by decide +kernel
theorem dX9_mixes_4 : decode cX9_mixes 4 = .ok (.aload_n 0, 1) := by decide +kernel
theorem dX9_mixes_5 : decode cX9_mixes 5 = .ok (.getfield 192, 3) := by decide +kernel
theorem dX9_mixes_8 : decode cX9_mixes 8 = .ok (.lmul, 1) := by decide +kernel
theorem dX9_mixes_9 : decode cX9_mixes 9 = .ok (.iload_n 1, 1) := by decide +kernel
theorem dX9_mixes_10 : decode cX9_mixes 10 = .ok (.i2l, 1) := by decide +kernel
theorem dX9_mixes_11 : decode cX9_mixes 11 = .ok (.ladd, 1) := by decide +kernel
theorem dX9_mixes_12 : decode cX9_mixes 12 = .ok (.putfield 192, 3) := by decide +kernel
theorem dX9_mixes_15 : decode cX9_mixes 15 = .ok (.return_, 1) := by decide +kernel
theorem dX9_mixesReadings_0 : decode cX9_mixesReadings 0 = .ok (.iconst 0, 1) := by decide +kernel
theorem dX9_mixesReadings_1 : decode cX9_mixesReadings 1 = .ok (.istore_n 1, 1) := by decide +kernel
theorem dX9_mixesReadings_2 : decode cX9_mixesReadings 2 = .ok (.iload_n 1, 1) := by decide +kernel
theorem dX9_mixesReadings_3 : decode cX9_mixesReadings 3 = .ok (.aload_n 0, 1) := by decide +kernel
theorem dX9_mixesReadings_4 : decode cX9_mixesReadings 4 = .ok (.getfield 7, 3) := by decide +kernel
theorem dX9_mixesReadings_7 : decode cX9_mixesReadings 7 = .ok (.bipush 76, 2) := by decide +kernel
theorem dX9_mixesReadings_9 : decode cX9_mixesReadings 9 = .ok (.iaload, 1) := by decide +kernel
theorem dX9_mixesReadings_10 : decode cX9_mixesReadings 10 = .ok (.if_icmp .ge 32, 3) := by decide +kernel
theorem dX9_mixesReadings_13 : decode cX9_mixesReadings 13 = .ok (.iconst 0, 1) := by decide +kernel
theorem dX9_mixesReadings_14 : decode cX9_mixesReadings 14 = .ok (.istore_n 2, 1) := by decide +kernel
theorem dX9_mixesReadings_15 : decode cX9_mixesReadings 15 = .ok (.iload_n 2, 1) := by decide +kernel
theorem dX9_mixesReadings_16 : decode cX9_mixesReadings 16 = .ok (.iconst 3, 1) := by decide +kernel
theorem dX9_mixesReadings_17 : decode cX9_mixesReadings 17 = .ok (.if_icmp .ge 19, 3) := by decide +kernel
theorem dX9_mixesReadings_20 : decode cX9_mixesReadings 20 = .ok (.aload_n 0, 1) := by decide +kernel
theorem dX9_mixesReadings_21 : decode cX9_mixesReadings 21 = .ok (.aload_n 0, 1) := by decide +kernel
theorem dX9_mixesReadings_22 : decode cX9_mixesReadings 22 = .ok (.iload_n 1, 1) := by decide +kernel
theorem dX9_mixesReadings_23 : decode cX9_mixesReadings 23 = .ok (.iload_n 2, 1) := by decide +kernel
theorem dX9_mixesReadings_24 : decode cX9_mixesReadings 24 = .ok (.invokevirtual 196, 3) := by decide +kernel
theorem dX9_mixesReadings_27 : decode cX9_mixesReadings 27 = .ok (.invokevirtual 199, 3) := by decide +kernel
theorem dX9_mixesReadings_30 : decode cX9_mixesReadings 30 = .ok (.iinc 2 1, 3) := by decide +kernel
theorem dX9_mixesReadings_33 : decode cX9_mixesReadings 33 = .ok (.goto (-18), 3) := by decide +kernel
theorem dX9_mixesReadings_36 : decode cX9_mixesReadings 36 = .ok (.iinc 1 1, 3) := by decide +kernel
theorem dX9_mixesReadings_39 : decode cX9_mixesReadings 39 = .ok (.goto (-37), 3) := by decide +kernel
theorem dX9_mixesReadings_42 : decode cX9_mixesReadings 42 = .ok (.aload_n 0, 1) := by decide +kernel
theorem dX9_mixesReadings_43 : decode cX9_mixesReadings 43 = .ok (.aload_n 0, 1) := by decide +kernel
theorem dX9_mixesReadings_44 : decode cX9_mixesReadings 44 = .ok (.invokevirtual 202, 3) := by decide +kernel
theorem dX9_mixesReadings_47 : decode cX9_mixesReadings 47 = .ok (.invokevirtual 199, 3) := by decide +kernel
theorem dX9_mixesReadings_50 : decode cX9_mixesReadings 50 = .ok (.iconst 0, 1) := by decide +kernel
theorem dX9_mixesReadings_51 : decode cX9_mixesReadings 51 = .ok (.istore_n 1, 1) := by decide +kernel
theorem dX9_mixesReadings_52 : decode cX9_mixesReadings 52 = .ok (.iload_n 1, 1) := by decide +kernel
theorem dX9_mixesReadings_53 : decode cX9_mixesReadings 53 = .ok (.iconst 5, 1) := by decide +kernel
theorem dX9_mixesReadings_54 : decode cX9_mixesReadings 54 = .ok (.if_icmp .ge 18, 3) := by decide +kernel
theorem dX9_mixesReadings_57 : decode cX9_mixesReadings 57 = .ok (.aload_n 0, 1) := by decide +kernel
theorem dX9_mixesReadings_58 : decode cX9_mixesReadings 58 = .ok (.aload_n 0, 1) := by decide +kernel
theorem dX9_mixesReadings_59 : decode cX9_mixesReadings 59 = .ok (.iload_n 1, 1) := by decide +kernel
theorem dX9_mixesReadings_60 : decode cX9_mixesReadings 60 = .ok (.invokevirtual 205, 3) := by decide +kernel
theorem dX9_mixesReadings_63 : decode cX9_mixesReadings 63 = .ok (.invokevirtual 199, 3) := by decide +kernel
theorem dX9_mixesReadings_66 : decode cX9_mixesReadings 66 = .ok (.iinc 1 1, 3) := by decide +kernel
theorem dX9_mixesReadings_69 : decode cX9_mixesReadings 69 = .ok (.goto (-17), 3) := by decide +kernel
theorem dX9_mixesReadings_72 : decode cX9_mixesReadings 72 = .ok (.aload_n 0, 1) := by decide +kernel
theorem dX9_mixesReadings_73 : decode cX9_mixesReadings 73 = .ok (.aload_n 0, 1) := by decide +kernel
theorem dX9_mixesReadings_74 : decode cX9_mixesReadings 74 = .ok (.iconst 0, 1) := by decide +kernel
theorem dX9_mixesReadings_75 : decode cX9_mixesReadings 75 = .ok (.invokevirtual 208, 3) := by decide +kernel
theorem dX9_mixesReadings_78 : decode cX9_mixesReadings 78 = .ok (.invokevirtual 199, 3) := by decide +kernel
theorem dX9_mixesReadings_81 : decode cX9_mixesReadings 81 = .ok (.aload_n 0, 1) := by decide +kernel
theorem dX9_mixesReadings_82 : decode cX9_mixesReadings 82 = .ok (.aload_n 0, 1) := by decide +kernel
theorem dX9_mixesReadings_83 : decode cX9_mixesReadings 83 = .ok (.bipush 20, 2) := by decide +kernel
theorem dX9_mixesReadings_85 : decode cX9_mixesReadings 85 = .ok (.iconst 0, 1) := by decide +kernel
theorem dX9_mixesReadings_86 : decode cX9_mixesReadings 86 = .ok (.invokevirtual 211, 3) := by decide +kernel
theorem dX9_mixesReadings_89 : decode cX9_mixesReadings 89 = .ok (.invokevirtual 199, 3) := by decide +kernel
theorem dX9_mixesReadings_92 : decode cX9_mixesReadings 92 = .ok (.aload_n 0, 1) := by decide +kernel
theorem dX9_mixesReadings_93 : decode cX9_mixesReadings 93 = .ok (.aload_n 0, 1) := by decide +kernel
theorem dX9_mixesReadings_94 : decode cX9_mixesReadings 94 = .ok (.bipush 20, 2) := by decide +kernel
theorem dX9_mixesReadings_96 : decode cX9_mixesReadings 96 = .ok (.iconst 1, 1) := by decide +kernel
theorem dX9_mixesReadings_97 : decode cX9_mixesReadings 97 = .ok (.invokevirtual 211, 3) := by decide +kernel
theorem dX9_mixesReadings_100 : decode cX9_mixesReadings 100 = .ok (.invokevirtual 199, 3) := by decide +kernel
theorem dX9_mixesReadings_103 : decode cX9_mixesReadings 103 = .ok (.return_, 1) := by decide +kernel
theorem dX9_digest_0 : decode cX9_digest 0 = .ok (.aload_n 0, 1) := by decide +kernel
theorem dX9_digest_1 : decode cX9_digest 1 = .ok (.ldc2_w 215, 3) := by decide +kernel
theorem dX9_digest_4 : decode cX9_digest 4 = .ok (.putfield 192, 3) := by decide +kernel
theorem dX9_digest_7 : decode cX9_digest 7 = .ok (.iconst 0, 1) := by decide +kernel
theorem dX9_digest_8 : decode cX9_digest 8 = .ok (.istore_n 1, 1) := by decide +kernel
theorem dX9_digest_9 : decode cX9_digest 9 = .ok (.iload_n 1, 1) := by decide +kernel
theorem dX9_digest_10 : decode cX9_digest 10 = .ok (.bipush 18, 2) := by decide +kernel
theorem dX9_digest_12 : decode cX9_digest 12 = .ok (.if_icmp .ge 18, 3) := by decide +kernel
theorem dX9_digest_15 : decode cX9_digest 15 = .ok (.aload_n 0, 1) := by decide +kernel
theorem dX9_digest_16 : decode cX9_digest 16 = .ok (.aload_n 0, 1) := by decide +kernel
theorem dX9_digest_17 : decode cX9_digest 17 = .ok (.iload_n 1, 1) := by decide +kernel
theorem dX9_digest_18 : decode cX9_digest 18 = .ok (.invokevirtual 217, 3) := by decide +kernel
theorem dX9_digest_21 : decode cX9_digest 21 = .ok (.invokevirtual 199, 3) := by decide +kernel
theorem dX9_digest_24 : decode cX9_digest 24 = .ok (.iinc 1 1, 3) := by decide +kernel
theorem dX9_digest_27 : decode cX9_digest 27 = .ok (.goto (-18), 3) := by decide +kernel
theorem dX9_digest_30 : decode cX9_digest 30 = .ok (.iconst 0, 1) := by decide +kernel
theorem dX9_digest_31 : decode cX9_digest 31 = .ok (.istore_n 1, 1) := by decide +kernel
theorem dX9_digest_32 : decode cX9_digest 32 = .ok (.iload_n 1, 1) := by decide +kernel
theorem dX9_digest_33 : decode cX9_digest 33 = .ok (.aload_n 0, 1) := by decide +kernel
theorem dX9_digest_34 : decode cX9_digest 34 = .ok (.invokevirtual 37, 3) := by decide +kernel
theorem dX9_digest_37 : decode cX9_digest 37 = .ok (.if_icmp .ge 31, 3) := by decide +kernel
theorem dX9_digest_40 : decode cX9_digest 40 = .ok (.aload_n 0, 1) := by decide +kernel
theorem dX9_digest_41 : decode cX9_digest 41 = .ok (.aload_n 0, 1) := by decide +kernel
theorem dX9_digest_42 : decode cX9_digest 42 = .ok (.iconst 0, 1) := by decide +kernel
theorem dX9_digest_43 : decode cX9_digest 43 = .ok (.iload_n 1, 1) := by decide +kernel
theorem dX9_digest_44 : decode cX9_digest 44 = .ok (.invokevirtual 220, 3) := by decide +kernel
theorem dX9_digest_47 : decode cX9_digest 47 = .ok (.invokevirtual 199, 3) := by decide +kernel
theorem dX9_digest_50 : decode cX9_digest 50 = .ok (.aload_n 0, 1) := by decide +kernel
theorem dX9_digest_51 : decode cX9_digest 51 = .ok (.aload_n 0, 1) := by decide +kernel
theorem dX9_digest_52 : decode cX9_digest 52 = .ok (.sipush 1000, 3) := by decide +kernel
theorem dX9_digest_55 : decode cX9_digest 55 = .ok (.iload_n 1, 1) := by decide +kernel
theorem dX9_digest_56 : decode cX9_digest 56 = .ok (.invokevirtual 220, 3) := by decide +kernel
theorem dX9_digest_59 : decode cX9_digest 59 = .ok (.invokevirtual 199, 3) := by decide +kernel
theorem dX9_digest_62 : decode cX9_digest 62 = .ok (.iinc 1 1, 3) := by decide +kernel
theorem dX9_digest_65 : decode cX9_digest 65 = .ok (.goto (-33), 3) := by decide +kernel
theorem dX9_digest_68 : decode cX9_digest 68 = .ok (.iconst 0, 1) := by decide +kernel
theorem dX9_digest_69 : decode cX9_digest 69 = .ok (.istore_n 1, 1) := by decide +kernel
theorem dX9_digest_70 : decode cX9_digest 70 = .ok (.iload_n 1, 1) := by decide +kernel
theorem dX9_digest_71 : decode cX9_digest 71 = .ok (.bipush 20, 2) := by decide +kernel
theorem dX9_digest_73 : decode cX9_digest 73 = .ok (.if_icmp .ge 40, 3) := by decide +kernel
theorem dX9_digest_76 : decode cX9_digest 76 = .ok (.iload_n 1, 1) := by decide +kernel
theorem dX9_digest_77 : decode cX9_digest 77 = .ok (.aload_n 0, 1) := by decide +kernel
theorem dX9_digest_78 : decode cX9_digest 78 = .ok (.invokevirtual 126, 3) := by decide +kernel
theorem dX9_digest_81 : decode cX9_digest 81 = .ok (.if_icmp .ge 32, 3) := by decide +kernel
theorem dX9_digest_84 : decode cX9_digest 84 = .ok (.iconst 0, 1) := by decide +kernel
theorem dX9_digest_85 : decode cX9_digest 85 = .ok (.istore_n 2, 1) := by decide +kernel
theorem dX9_digest_86 : decode cX9_digest 86 = .ok (.iload_n 2, 1) := by decide +kernel
theorem dX9_digest_87 : decode cX9_digest 87 = .ok (.iconst 4, 1) := by decide +kernel
theorem dX9_digest_88 : decode cX9_digest 88 = .ok (.if_icmp .ge 19, 3) := by decide +kernel
theorem dX9_digest_91 : decode cX9_digest 91 = .ok (.aload_n 0, 1) := by decide +kernel
theorem dX9_digest_92 : decode cX9_digest 92 = .ok (.aload_n 0, 1) := by decide +kernel
theorem dX9_digest_93 : decode cX9_digest 93 = .ok (.iload_n 1, 1) := by decide +kernel
theorem dX9_digest_94 : decode cX9_digest 94 = .ok (.iload_n 2, 1) := by decide +kernel
theorem dX9_digest_95 : decode cX9_digest 95 = .ok (.invokevirtual 223, 3) := by decide +kernel
theorem dX9_digest_98 : decode cX9_digest 98 = .ok (.invokevirtual 199, 3) := by decide +kernel
theorem dX9_digest_101 : decode cX9_digest 101 = .ok (.iinc 2 1, 3) := by decide +kernel
theorem dX9_digest_104 : decode cX9_digest 104 = .ok (.goto (-18), 3) := by decide +kernel
theorem dX9_digest_107 : decode cX9_digest 107 = .ok (.iinc 1 1, 3) := by decide +kernel
theorem dX9_digest_110 : decode cX9_digest 110 = .ok (.goto (-40), 3) := by decide +kernel
theorem dX9_digest_113 : decode cX9_digest 113 = .ok (.iconst 0, 1) := by decide +kernel
theorem dX9_digest_114 : decode cX9_digest 114 = .ok (.istore_n 1, 1) := by decide +kernel
theorem dX9_digest_115 : decode cX9_digest 115 = .ok (.iload_n 1, 1) := by decide +kernel
theorem dX9_digest_116 : decode cX9_digest 116 = .ok (.iconst 4, 1) := by decide +kernel
theorem dX9_digest_117 : decode cX9_digest 117 = .ok (.if_icmp .ge 18, 3) := by decide +kernel
theorem dX9_digest_120 : decode cX9_digest 120 = .ok (.aload_n 0, 1) := by decide +kernel
theorem dX9_digest_121 : decode cX9_digest 121 = .ok (.aload_n 0, 1) := by decide +kernel
theorem dX9_digest_122 : decode cX9_digest 122 = .ok (.iload_n 1, 1) := by decide +kernel
theorem dX9_digest_123 : decode cX9_digest 123 = .ok (.invokevirtual 226, 3) := by decide +kernel
theorem dX9_digest_126 : decode cX9_digest 126 = .ok (.invokevirtual 199, 3) := by decide +kernel
theorem dX9_digest_129 : decode cX9_digest 129 = .ok (.iinc 1 1, 3) := by decide +kernel
theorem dX9_digest_132 : decode cX9_digest 132 = .ok (.goto (-17), 3) := by decide +kernel
theorem dX9_digest_135 : decode cX9_digest 135 = .ok (.aload_n 0, 1) := by decide +kernel
theorem dX9_digest_136 : decode cX9_digest 136 = .ok (.invokevirtual 229, 3) := by decide +kernel
theorem dX9_digest_139 : decode cX9_digest 139 = .ok (.iconst 0, 1) := by decide +kernel
theorem dX9_digest_140 : decode cX9_digest 140 = .ok (.istore_n 1, 1) := by decide +kernel
theorem dX9_digest_141 : decode cX9_digest 141 = .ok (.iload_n 1, 1) := by decide +kernel
theorem dX9_digest_142 : decode cX9_digest 142 = .ok (.iconst 5, 1) := by decide +kernel
theorem dX9_digest_143 : decode cX9_digest 143 = .ok (.if_icmp .ge 42, 3) := by decide +kernel
theorem dX9_digest_146 : decode cX9_digest 146 = .ok (.iconst 0, 1) := by decide +kernel
theorem dX9_digest_147 : decode cX9_digest 147 = .ok (.istore_n 2, 1) := by decide +kernel
theorem dX9_digest_148 : decode cX9_digest 148 = .ok (.iload_n 2, 1) := by decide +kernel
theorem dX9_digest_149 : decode cX9_digest 149 = .ok (.iconst 4, 1) := by decide +kernel
theorem dX9_digest_150 : decode cX9_digest 150 = .ok (.if_icmp .ge 19, 3) := by decide +kernel
theorem dX9_digest_153 : decode cX9_digest 153 = .ok (.aload_n 0, 1) := by decide +kernel
theorem dX9_digest_154 : decode cX9_digest 154 = .ok (.aload_n 0, 1) := by decide +kernel
theorem dX9_digest_155 : decode cX9_digest 155 = .ok (.iload_n 1, 1) := by decide +kernel
theorem dX9_digest_156 : decode cX9_digest 156 = .ok (.iload_n 2, 1) := by decide +kernel
theorem dX9_digest_157 : decode cX9_digest 157 = .ok (.invokevirtual 232, 3) := by decide +kernel
theorem dX9_digest_160 : decode cX9_digest 160 = .ok (.invokevirtual 199, 3) := by decide +kernel
theorem dX9_digest_163 : decode cX9_digest 163 = .ok (.iinc 2 1, 3) := by decide +kernel
theorem dX9_digest_166 : decode cX9_digest 166 = .ok (.goto (-18), 3) := by decide +kernel
theorem dX9_digest_169 : decode cX9_digest 169 = .ok (.aload_n 0, 1) := by decide +kernel
theorem dX9_digest_170 : decode cX9_digest 170 = .ok (.aload_n 0, 1) := by decide +kernel
theorem dX9_digest_171 : decode cX9_digest 171 = .ok (.iload_n 1, 1) := by decide +kernel
theorem dX9_digest_172 : decode cX9_digest 172 = .ok (.iconst 0, 1) := by decide +kernel
theorem dX9_digest_173 : decode cX9_digest 173 = .ok (.invokevirtual 235, 3) := by decide +kernel
theorem dX9_digest_176 : decode cX9_digest 176 = .ok (.invokevirtual 199, 3) := by decide +kernel
theorem dX9_digest_179 : decode cX9_digest 179 = .ok (.iinc 1 1, 3) := by decide +kernel
theorem dX9_digest_182 : decode cX9_digest 182 = .ok (.goto (-41), 3) := by decide +kernel
theorem dX9_digest_185 : decode cX9_digest 185 = .ok (.aload_n 0, 1) := by decide +kernel
theorem dX9_digest_186 : decode cX9_digest 186 = .ok (.getfield 192, 3) := by decide +kernel
theorem dX9_digest_189 : decode cX9_digest 189 = .ok (.lreturn, 1) := by decide +kernel
theorem dJ6_bitCount_0f7a4_0 : decode cJ6_bitCount_0f7a4 0 = .ok (.iload_n 0, 1) := by decide +kernel
theorem dJ6_bitCount_0f7a4_1 : decode cJ6_bitCount_0f7a4 1 = .ok (.iload_n 0, 1) := by decide +kernel
theorem dJ6_bitCount_0f7a4_2 : decode cJ6_bitCount_0f7a4 2 = .ok (.iconst 1, 1) := by decide +kernel
theorem dJ6_bitCount_0f7a4_3 : decode cJ6_bitCount_0f7a4 3 = .ok (.iushr, 1) := by decide +kernel
theorem dJ6_bitCount_0f7a4_4 : decode cJ6_bitCount_0f7a4 4 = .ok (.ldc_w 265, 3) := by decide +kernel
theorem dJ6_bitCount_0f7a4_7 : decode cJ6_bitCount_0f7a4 7 = .ok (.iand, 1) := by decide +kernel
theorem dJ6_bitCount_0f7a4_8 : decode cJ6_bitCount_0f7a4 8 = .ok (.isub, 1) := by decide +kernel
theorem dJ6_bitCount_0f7a4_9 : decode cJ6_bitCount_0f7a4 9 = .ok (.istore_n 0, 1) := by decide +kernel
theorem dJ6_bitCount_0f7a4_10 : decode cJ6_bitCount_0f7a4 10 = .ok (.iload_n 0, 1) := by decide +kernel
theorem dJ6_bitCount_0f7a4_11 : decode cJ6_bitCount_0f7a4 11 = .ok (.ldc_w 266, 3) := by decide +kernel
theorem dJ6_bitCount_0f7a4_14 : decode cJ6_bitCount_0f7a4 14 = .ok (.iand, 1) := by decide +kernel
theorem dJ6_bitCount_0f7a4_15 : decode cJ6_bitCount_0f7a4 15 = .ok (.iload_n 0, 1) := by decide +kernel
theorem dJ6_bitCount_0f7a4_16 : decode cJ6_bitCount_0f7a4 16 = .ok (.iconst 2, 1) := by decide +kernel
theorem dJ6_bitCount_0f7a4_17 : decode cJ6_bitCount_0f7a4 17 = .ok (.iushr, 1) := by decide +kernel
theorem dJ6_bitCount_0f7a4_18 : decode cJ6_bitCount_0f7a4 18 = .ok (.ldc_w 266, 3) := by decide +kernel
theorem dJ6_bitCount_0f7a4_21 : decode cJ6_bitCount_0f7a4 21 = .ok (.iand, 1) := by decide +kernel
theorem dJ6_bitCount_0f7a4_22 : decode cJ6_bitCount_0f7a4 22 = .ok (.iadd, 1) := by decide +kernel
theorem dJ6_bitCount_0f7a4_23 : decode cJ6_bitCount_0f7a4 23 = .ok (.istore_n 0, 1) := by decide +kernel
theorem dJ6_bitCount_0f7a4_24 : decode cJ6_bitCount_0f7a4 24 = .ok (.iload_n 0, 1) := by decide +kernel
theorem dJ6_bitCount_0f7a4_25 : decode cJ6_bitCount_0f7a4 25 = .ok (.iload_n 0, 1) := by decide +kernel
theorem dJ6_bitCount_0f7a4_26 : decode cJ6_bitCount_0f7a4 26 = .ok (.iconst 4, 1) := by decide +kernel
theorem dJ6_bitCount_0f7a4_27 : decode cJ6_bitCount_0f7a4 27 = .ok (.iushr, 1) := by decide +kernel
theorem dJ6_bitCount_0f7a4_28 : decode cJ6_bitCount_0f7a4 28 = .ok (.iadd, 1) := by decide +kernel
theorem dJ6_bitCount_0f7a4_29 : decode cJ6_bitCount_0f7a4 29 = .ok (.ldc_w 267, 3) := by decide +kernel
theorem dJ6_bitCount_0f7a4_32 : decode cJ6_bitCount_0f7a4 32 = .ok (.iand, 1) := by decide +kernel
theorem dJ6_bitCount_0f7a4_33 : decode cJ6_bitCount_0f7a4 33 = .ok (.istore_n 0, 1) := by decide +kernel
theorem dJ6_bitCount_0f7a4_34 : decode cJ6_bitCount_0f7a4 34 = .ok (.iload_n 0, 1) := by decide +kernel
theorem dJ6_bitCount_0f7a4_35 : decode cJ6_bitCount_0f7a4 35 = .ok (.iload_n 0, 1) := by decide +kernel
theorem dJ6_bitCount_0f7a4_36 : decode cJ6_bitCount_0f7a4 36 = .ok (.bipush 8, 2) := by decide +kernel
theorem dJ6_bitCount_0f7a4_38 : decode cJ6_bitCount_0f7a4 38 = .ok (.iushr, 1) := by decide +kernel
theorem dJ6_bitCount_0f7a4_39 : decode cJ6_bitCount_0f7a4 39 = .ok (.iadd, 1) := by decide +kernel
theorem dJ6_bitCount_0f7a4_40 : decode cJ6_bitCount_0f7a4 40 = .ok (.istore_n 0, 1) := by decide +kernel
theorem dJ6_bitCount_0f7a4_41 : decode cJ6_bitCount_0f7a4 41 = .ok (.iload_n 0, 1) := by decide +kernel
theorem dJ6_bitCount_0f7a4_42 : decode cJ6_bitCount_0f7a4 42 = .ok (.iload_n 0, 1) := by decide +kernel
theorem dJ6_bitCount_0f7a4_43 : decode cJ6_bitCount_0f7a4 43 = .ok (.bipush 16, 2) := by decide +kernel
theorem dJ6_bitCount_0f7a4_45 : decode cJ6_bitCount_0f7a4 45 = .ok (.iushr, 1) := by decide +kernel
theorem dJ6_bitCount_0f7a4_46 : decode cJ6_bitCount_0f7a4 46 = .ok (.iadd, 1) := by decide +kernel
theorem dJ6_bitCount_0f7a4_47 : decode cJ6_bitCount_0f7a4 47 = .ok (.istore_n 0, 1) := by decide +kernel
theorem dJ6_bitCount_0f7a4_48 : decode cJ6_bitCount_0f7a4 48 = .ok (.iload_n 0, 1) := by decide +kernel
theorem dJ6_bitCount_0f7a4_49 : decode cJ6_bitCount_0f7a4 49 = .ok (.bipush 63, 2) := by decide +kernel
theorem dJ6_bitCount_0f7a4_51 : decode cJ6_bitCount_0f7a4 51 = .ok (.iand, 1) := by decide +kernel
theorem dJ6_bitCount_0f7a4_52 : decode cJ6_bitCount_0f7a4 52 = .ok (.ireturn, 1) := by decide +kernel
theorem dJ13_bitCount_95d88_0 : decode cJ13_bitCount_95d88 0 = .ok (.lload_n 0, 1) := by decide +kernel
theorem dJ13_bitCount_95d88_1 : decode cJ13_bitCount_95d88 1 = .ok (.lload_n 0, 1) := by decide +kernel
theorem dJ13_bitCount_95d88_2 : decode cJ13_bitCount_95d88 2 = .ok (.iconst 1, 1) := by decide +kernel
theorem dJ13_bitCount_95d88_3 : decode cJ13_bitCount_95d88 3 = .ok (.lushr, 1) := by decide +kernel
theorem dJ13_bitCount_95d88_4 : decode cJ13_bitCount_95d88 4 = .ok (.ldc2_w 314, 3) := by decide +kernel
theorem dJ13_bitCount_95d88_7 : decode cJ13_bitCount_95d88 7 = .ok (.land, 1) := by decide +kernel
theorem dJ13_bitCount_95d88_8 : decode cJ13_bitCount_95d88 8 = .ok (.lsub, 1) := by decide +kernel
theorem dJ13_bitCount_95d88_9 : decode cJ13_bitCount_95d88 9 = .ok (.lstore_n 0, 1) := by decide +kernel
theorem dJ13_bitCount_95d88_10 : decode cJ13_bitCount_95d88 10 = .ok (.lload_n 0, 1) := by decide +kernel
theorem dJ13_bitCount_95d88_11 : decode cJ13_bitCount_95d88 11 = .ok (.ldc2_w 316, 3) := by decide +kernel
theorem dJ13_bitCount_95d88_14 : decode cJ13_bitCount_95d88 14 = .ok (.land, 1) := by decide +kernel
theorem dJ13_bitCount_95d88_15 : decode cJ13_bitCount_95d88 15 = .ok (.lload_n 0, 1) := by decide +kernel
theorem dJ13_bitCount_95d88_16 : decode cJ13_bitCount_95d88 16 = .ok (.iconst 2, 1) := by decide +kernel
theorem dJ13_bitCount_95d88_17 : decode cJ13_bitCount_95d88 17 = .ok (.lushr, 1) := by decide +kernel
theorem dJ13_bitCount_95d88_18 : decode cJ13_bitCount_95d88 18 = .ok (.ldc2_w 316, 3) := by decide +kernel
theorem dJ13_bitCount_95d88_21 : decode cJ13_bitCount_95d88 21 = .ok (.land, 1) := by decide +kernel
theorem dJ13_bitCount_95d88_22 : decode cJ13_bitCount_95d88 22 = .ok (.ladd, 1) := by decide +kernel
theorem dJ13_bitCount_95d88_23 : decode cJ13_bitCount_95d88 23 = .ok (.lstore_n 0, 1) := by decide +kernel
theorem dJ13_bitCount_95d88_24 : decode cJ13_bitCount_95d88 24 = .ok (.lload_n 0, 1) := by decide +kernel
theorem dJ13_bitCount_95d88_25 : decode cJ13_bitCount_95d88 25 = .ok (.lload_n 0, 1) := by decide +kernel
theorem dJ13_bitCount_95d88_26 : decode cJ13_bitCount_95d88 26 = .ok (.iconst 4, 1) := by decide +kernel
theorem dJ13_bitCount_95d88_27 : decode cJ13_bitCount_95d88 27 = .ok (.lushr, 1) := by decide +kernel
theorem dJ13_bitCount_95d88_28 : decode cJ13_bitCount_95d88 28 = .ok (.ladd, 1) := by decide +kernel
theorem dJ13_bitCount_95d88_29 : decode cJ13_bitCount_95d88 29 = .ok (.ldc2_w 318, 3) := by decide +kernel
theorem dJ13_bitCount_95d88_32 : decode cJ13_bitCount_95d88 32 = .ok (.land, 1) := by decide +kernel
theorem dJ13_bitCount_95d88_33 : decode cJ13_bitCount_95d88 33 = .ok (.lstore_n 0, 1) := by decide +kernel
theorem dJ13_bitCount_95d88_34 : decode cJ13_bitCount_95d88 34 = .ok (.lload_n 0, 1) := by decide +kernel
theorem dJ13_bitCount_95d88_35 : decode cJ13_bitCount_95d88 35 = .ok (.lload_n 0, 1) := by decide +kernel
theorem dJ13_bitCount_95d88_36 : decode cJ13_bitCount_95d88 36 = .ok (.bipush 8, 2) := by decide +kernel
theorem dJ13_bitCount_95d88_38 : decode cJ13_bitCount_95d88 38 = .ok (.lushr, 1) := by decide +kernel
theorem dJ13_bitCount_95d88_39 : decode cJ13_bitCount_95d88 39 = .ok (.ladd, 1) := by decide +kernel
theorem dJ13_bitCount_95d88_40 : decode cJ13_bitCount_95d88 40 = .ok (.lstore_n 0, 1) := by decide +kernel
theorem dJ13_bitCount_95d88_41 : decode cJ13_bitCount_95d88 41 = .ok (.lload_n 0, 1) := by decide +kernel
theorem dJ13_bitCount_95d88_42 : decode cJ13_bitCount_95d88 42 = .ok (.lload_n 0, 1) := by decide +kernel
theorem dJ13_bitCount_95d88_43 : decode cJ13_bitCount_95d88 43 = .ok (.bipush 16, 2) := by decide +kernel
theorem dJ13_bitCount_95d88_45 : decode cJ13_bitCount_95d88 45 = .ok (.lushr, 1) := by decide +kernel
theorem dJ13_bitCount_95d88_46 : decode cJ13_bitCount_95d88 46 = .ok (.ladd, 1) := by decide +kernel
theorem dJ13_bitCount_95d88_47 : decode cJ13_bitCount_95d88 47 = .ok (.lstore_n 0, 1) := by decide +kernel
theorem dJ13_bitCount_95d88_48 : decode cJ13_bitCount_95d88 48 = .ok (.lload_n 0, 1) := by decide +kernel
theorem dJ13_bitCount_95d88_49 : decode cJ13_bitCount_95d88 49 = .ok (.lload_n 0, 1) := by decide +kernel
theorem dJ13_bitCount_95d88_50 : decode cJ13_bitCount_95d88 50 = .ok (.bipush 32, 2) := by decide +kernel
theorem dJ13_bitCount_95d88_52 : decode cJ13_bitCount_95d88 52 = .ok (.lushr, 1) := by decide +kernel
theorem dJ13_bitCount_95d88_53 : decode cJ13_bitCount_95d88 53 = .ok (.ladd, 1) := by decide +kernel
theorem dJ13_bitCount_95d88_54 : decode cJ13_bitCount_95d88 54 = .ok (.lstore_n 0, 1) := by decide +kernel
theorem dJ13_bitCount_95d88_55 : decode cJ13_bitCount_95d88 55 = .ok (.lload_n 0, 1) := by decide +kernel
theorem dJ13_bitCount_95d88_56 : decode cJ13_bitCount_95d88 56 = .ok (.l2i, 1) := by decide +kernel
theorem dJ13_bitCount_95d88_57 : decode cJ13_bitCount_95d88 57 = .ok (.bipush 127, 2) := by decide +kernel
theorem dJ13_bitCount_95d88_59 : decode cJ13_bitCount_95d88 59 = .ok (.iand, 1) := by decide +kernel
theorem dJ13_bitCount_95d88_60 : decode cJ13_bitCount_95d88 60 = .ok (.ireturn, 1) := by decide +kernel
theorem dJ9_abs_0f7a4_0 : decode cJ9_abs_0f7a4 0 = .ok (.iload_n 0, 1) := by decide +kernel
theorem dJ9_abs_0f7a4_1 : decode cJ9_abs_0f7a4 1 = .ok (.ifCond .ge 8, 3) := by decide +kernel
theorem dJ9_abs_0f7a4_4 : decode cJ9_abs_0f7a4 4 = .ok (.iload_n 0, 1) := by decide +kernel
theorem dJ9_abs_0f7a4_5 : decode cJ9_abs_0f7a4 5 = .ok (.ineg, 1) := by decide +kernel
theorem dJ9_abs_0f7a4_6 : decode cJ9_abs_0f7a4 6 = .ok (.goto 4, 3) := by decide +kernel
theorem dJ9_abs_0f7a4_9 : decode cJ9_abs_0f7a4 9 = .ok (.iload_n 0, 1) := by decide +kernel
theorem dJ9_abs_0f7a4_10 : decode cJ9_abs_0f7a4 10 = .ok (.ireturn, 1) := by decide +kernel
theorem dJ9_max_7cf53_0 : decode cJ9_max_7cf53 0 = .ok (.iload_n 0, 1) := by decide +kernel
theorem dJ9_max_7cf53_1 : decode cJ9_max_7cf53 1 = .ok (.iload_n 1, 1) := by decide +kernel
theorem dJ9_max_7cf53_2 : decode cJ9_max_7cf53 2 = .ok (.if_icmp .lt 7, 3) := by decide +kernel
theorem dJ9_max_7cf53_5 : decode cJ9_max_7cf53 5 = .ok (.iload_n 0, 1) := by decide +kernel
theorem dJ9_max_7cf53_6 : decode cJ9_max_7cf53 6 = .ok (.goto 4, 3) := by decide +kernel
theorem dJ9_max_7cf53_9 : decode cJ9_max_7cf53 9 = .ok (.iload_n 1, 1) := by decide +kernel
theorem dJ9_max_7cf53_10 : decode cJ9_max_7cf53 10 = .ok (.ireturn, 1) := by decide +kernel
theorem dL_law_0 : decode cL_law 0 = .ok (.new 7, 3) := by decide +kernel
theorem dL_law_3 : decode cL_law 3 = .ok (.dup, 1) := by decide +kernel
theorem dL_law_4 : decode cL_law 4 = .ok (.invokespecial 9, 3) := by decide +kernel
theorem dL_law_7 : decode cL_law 7 = .ok (.astore_n 1, 1) := by decide +kernel
theorem dL_law_8 : decode cL_law 8 = .ok (.new 10, 3) := by decide +kernel
theorem dL_law_11 : decode cL_law 11 = .ok (.dup, 1) := by decide +kernel
theorem dL_law_12 : decode cL_law 12 = .ok (.invokespecial 12, 3) := by decide +kernel
theorem dL_law_15 : decode cL_law 15 = .ok (.astore_n 2, 1) := by decide +kernel
theorem dL_law_16 : decode cL_law 16 = .ok (.iconst 0, 1) := by decide +kernel
theorem dL_law_17 : decode cL_law 17 = .ok (.istore_n 3, 1) := by decide +kernel
theorem dL_law_18 : decode cL_law 18 = .ok (.iload_n 3, 1) := by decide +kernel
theorem dL_law_19 : decode cL_law 19 = .ok (.aload_n 0, 1) := by decide +kernel
theorem dL_law_20 : decode cL_law 20 = .ok (.arraylength, 1) := by decide +kernel
theorem dL_law_21 : decode cL_law 21 = .ok (.iconst 3, 1) := by decide +kernel
theorem dL_law_22 : decode cL_law 22 = .ok (.isub, 1) := by decide +kernel
theorem dL_law_23 : decode cL_law 23 = .ok (.if_icmp .gt 1009, 3) := by decide +kernel
theorem dL_law_26 : decode cL_law 26 = .ok (.aload_n 0, 1) := by decide +kernel
theorem dL_law_27 : decode cL_law 27 = .ok (.iload_n 3, 1) := by decide +kernel
theorem dL_law_28 : decode cL_law 28 = .ok (.iaload, 1) := by decide +kernel
theorem dL_law_29 : decode cL_law 29 = .ok (.bipush 63, 2) := by decide +kernel
theorem dL_law_31 : decode cL_law 31 = .ok (.iand, 1) := by decide +kernel
theorem dL_law_32 : decode cL_law 32 = .ok (.tableswitch 994 0 32 #[148, 171, 184, 197, 210, 243, 266, 299, 322, 355, 378, 411, 444, 477, 500, 533, 566, 589, 612, 645, 668, 681, 704, 727, 740, 789, 822, 855, 878, 911, 944, 957, 980], 148) := by decide +kernel
theorem dL_law_180 : decode cL_law 180 = .ok (.aload_n 1, 1) := by decide +kernel
theorem dL_law_181 : decode cL_law 181 = .ok (.aload_n 0, 1) := by decide +kernel
theorem dL_law_182 : decode cL_law 182 = .ok (.iload_n 3, 1) := by decide +kernel
theorem dL_law_183 : decode cL_law 183 = .ok (.iconst 1, 1) := by decide +kernel
theorem dL_law_184 : decode cL_law 184 = .ok (.iadd, 1) := by decide +kernel
theorem dL_law_185 : decode cL_law 185 = .ok (.iaload, 1) := by decide +kernel
theorem dL_law_186 : decode cL_law 186 = .ok (.invokevirtual 13, 3) := by decide +kernel
theorem dL_law_189 : decode cL_law 189 = .ok (.aload_n 2, 1) := by decide +kernel
theorem dL_law_190 : decode cL_law 190 = .ok (.aload_n 0, 1) := by decide +kernel
theorem dL_law_191 : decode cL_law 191 = .ok (.iload_n 3, 1) := by decide +kernel
theorem dL_law_192 : decode cL_law 192 = .ok (.iconst 1, 1) := by decide +kernel
theorem dL_law_193 : decode cL_law 193 = .ok (.iadd, 1) := by decide +kernel
theorem dL_law_194 : decode cL_law 194 = .ok (.iaload, 1) := by decide +kernel
theorem dL_law_195 : decode cL_law 195 = .ok (.invokevirtual 17, 3) := by decide +kernel
theorem dL_law_198 : decode cL_law 198 = .ok (.if_icmp .eq 828, 3) := by decide +kernel
theorem dL_law_201 : decode cL_law 201 = .ok (.iconst 0, 1) := by decide +kernel
theorem dL_law_202 : decode cL_law 202 = .ok (.ireturn, 1) := by decide +kernel
theorem dL_law_203 : decode cL_law 203 = .ok (.aload_n 1, 1) := by decide +kernel
theorem dL_law_204 : decode cL_law 204 = .ok (.invokevirtual 18, 3) := by decide +kernel
theorem dL_law_207 : decode cL_law 207 = .ok (.aload_n 2, 1) := by decide +kernel
theorem dL_law_208 : decode cL_law 208 = .ok (.invokevirtual 22, 3) := by decide +kernel
theorem dL_law_211 : decode cL_law 211 = .ok (.if_icmp .eq 815, 3) := by decide +kernel
theorem dL_law_214 : decode cL_law 214 = .ok (.iconst 0, 1) := by decide +kernel
theorem dL_law_215 : decode cL_law 215 = .ok (.ireturn, 1) := by decide +kernel
theorem dL_law_216 : decode cL_law 216 = .ok (.aload_n 1, 1) := by decide +kernel
theorem dL_law_217 : decode cL_law 217 = .ok (.invokevirtual 23, 3) := by decide +kernel
theorem dL_law_220 : decode cL_law 220 = .ok (.aload_n 2, 1) := by decide +kernel
theorem dL_law_221 : decode cL_law 221 = .ok (.invokevirtual 26, 3) := by decide +kernel
theorem dL_law_224 : decode cL_law 224 = .ok (.if_icmp .eq 802, 3) := by decide +kernel
theorem dL_law_227 : decode cL_law 227 = .ok (.iconst 0, 1) := by decide +kernel
theorem dL_law_228 : decode cL_law 228 = .ok (.ireturn, 1) := by decide +kernel
theorem dL_law_229 : decode cL_law 229 = .ok (.aload_n 1, 1) := by decide +kernel
theorem dL_law_230 : decode cL_law 230 = .ok (.invokevirtual 27, 3) := by decide +kernel
theorem dL_law_233 : decode cL_law 233 = .ok (.aload_n 2, 1) := by decide +kernel
theorem dL_law_234 : decode cL_law 234 = .ok (.invokevirtual 30, 3) := by decide +kernel
theorem dL_law_237 : decode cL_law 237 = .ok (.if_icmp .eq 789, 3) := by decide +kernel
theorem dL_law_240 : decode cL_law 240 = .ok (.iconst 0, 1) := by decide +kernel
theorem dL_law_241 : decode cL_law 241 = .ok (.ireturn, 1) := by decide +kernel
theorem dL_law_242 : decode cL_law 242 = .ok (.aload_n 1, 1) := by decide +kernel
theorem dL_law_243 : decode cL_law 243 = .ok (.aload_n 0, 1) := by decide +kernel
theorem dL_law_244 : decode cL_law 244 = .ok (.iload_n 3, 1) := by decide +kernel
theorem dL_law_245 : decode cL_law 245 = .ok (.iconst 1, 1) := by decide +kernel
theorem dL_law_246 : decode cL_law 246 = .ok (.iadd, 1) := by decide +kernel
theorem dL_law_247 : decode cL_law 247 = .ok (.iaload, 1) := by decide +kernel
theorem dL_law_248 : decode cL_law 248 = .ok (.aload_n 0, 1) := by decide +kernel
theorem dL_law_249 : decode cL_law 249 = .ok (.iload_n 3, 1) := by decide +kernel
theorem dL_law_250 : decode cL_law 250 = .ok (.iconst 2, 1) := by decide +kernel
theorem dL_law_251 : decode cL_law 251 = .ok (.iadd, 1) := by decide +kernel
theorem dL_law_252 : decode cL_law 252 = .ok (.iaload, 1) := by decide +kernel
theorem dL_law_253 : decode cL_law 253 = .ok (.invokevirtual 31, 3) := by decide +kernel
theorem dL_law_256 : decode cL_law 256 = .ok (.aload_n 2, 1) := by decide +kernel
theorem dL_law_257 : decode cL_law 257 = .ok (.aload_n 0, 1) := by decide +kernel
theorem dL_law_258 : decode cL_law 258 = .ok (.iload_n 3, 1) := by decide +kernel
theorem dL_law_259 : decode cL_law 259 = .ok (.iconst 1, 1) := by decide +kernel
theorem dL_law_260 : decode cL_law 260 = .ok (.iadd, 1) := by decide +kernel
theorem dL_law_261 : decode cL_law 261 = .ok (.iaload, 1) := by decide +kernel
theorem dL_law_262 : decode cL_law 262 = .ok (.aload_n 0, 1) := by decide +kernel
theorem dL_law_263 : decode cL_law 263 = .ok (.iload_n 3, 1) := by decide +kernel
theorem dL_law_264 : decode cL_law 264 = .ok (.iconst 2, 1) := by decide +kernel
theorem dL_law_265 : decode cL_law 265 = .ok (.iadd, 1) := by decide +kernel
theorem dL_law_266 : decode cL_law 266 = .ok (.iaload, 1) := by decide +kernel
theorem dL_law_267 : decode cL_law 267 = .ok (.invokevirtual 35, 3) := by decide +kernel
theorem dL_law_270 : decode cL_law 270 = .ok (.if_icmp .eq 756, 3) := by decide +kernel
theorem dL_law_273 : decode cL_law 273 = .ok (.iconst 0, 1) := by decide +kernel
theorem dL_law_274 : decode cL_law 274 = .ok (.ireturn, 1) := by decide +kernel
theorem dL_law_275 : decode cL_law 275 = .ok (.aload_n 1, 1) := by decide +kernel
theorem dL_law_276 : decode cL_law 276 = .ok (.aload_n 0, 1) := by decide +kernel
theorem dL_law_277 : decode cL_law 277 = .ok (.iload_n 3, 1) := by decide +kernel
theorem dL_law_278 : decode cL_law 278 = .ok (.iconst 1, 1) := by decide +kernel
theorem dL_law_279 : decode cL_law 279 = .ok (.iadd, 1) := by decide +kernel
theorem dL_law_280 : decode cL_law 280 = .ok (.iaload, 1) := by decide +kernel
theorem dL_law_281 : decode cL_law 281 = .ok (.invokevirtual 36, 3) := by decide +kernel
theorem dL_law_284 : decode cL_law 284 = .ok (.aload_n 2, 1) := by decide +kernel
theorem dL_law_285 : decode cL_law 285 = .ok (.aload_n 0, 1) := by decide +kernel
theorem dL_law_286 : decode cL_law 286 = .ok (.iload_n 3, 1) := by decide +kernel
theorem dL_law_287 : decode cL_law 287 = .ok (.iconst 1, 1) := by decide +kernel
theorem dL_law_288 : decode cL_law 288 = .ok (.iadd, 1) := by decide +kernel
theorem dL_law_289 : decode cL_law 289 = .ok (.iaload, 1) := by decide +kernel
theorem dL_law_290 : decode cL_law 290 = .ok (.invokevirtual 39, 3) := by decide +kernel
theorem dL_law_293 : decode cL_law 293 = .ok (.if_icmp .eq 733, 3) := by decide +kernel
theorem dL_law_296 : decode cL_law 296 = .ok (.iconst 0, 1) := by decide +kernel
theorem dL_law_297 : decode cL_law 297 = .ok (.ireturn, 1) := by decide +kernel
theorem dL_law_298 : decode cL_law 298 = .ok (.aload_n 1, 1) := by decide +kernel
theorem dL_law_299 : decode cL_law 299 = .ok (.aload_n 0, 1) := by decide +kernel
theorem dL_law_300 : decode cL_law 300 = .ok (.iload_n 3, 1) := by decide +kernel
theorem dL_law_301 : decode cL_law 301 = .ok (.iconst 1, 1) := by decide +kernel
theorem dL_law_302 : decode cL_law 302 = .ok (.iadd, 1) := by decide +kernel
theorem dL_law_303 : decode cL_law 303 = .ok (.iaload, 1) := by decide +kernel
theorem dL_law_304 : decode cL_law 304 = .ok (.aload_n 0, 1) := by decide +kernel
theorem dL_law_305 : decode cL_law 305 = .ok (.iload_n 3, 1) := by decide +kernel
theorem dL_law_306 : decode cL_law 306 = .ok (.iconst 2, 1) := by decide +kernel
theorem dL_law_307 : decode cL_law 307 = .ok (.iadd, 1) := by decide +kernel
theorem dL_law_308 : decode cL_law 308 = .ok (.iaload, 1) := by decide +kernel
theorem dL_law_309 : decode cL_law 309 = .ok (.invokevirtual 40, 3) := by decide +kernel
theorem dL_law_312 : decode cL_law 312 = .ok (.aload_n 2, 1) := by decide +kernel
theorem dL_law_313 : decode cL_law 313 = .ok (.aload_n 0, 1) := by decide +kernel
theorem dL_law_314 : decode cL_law 314 = .ok (.iload_n 3, 1) := by decide +kernel
theorem dL_law_315 : decode cL_law 315 = .ok (.iconst 1, 1) := by decide +kernel
theorem dL_law_316 : decode cL_law 316 = .ok (.iadd, 1) := by decide +kernel
theorem dL_law_317 : decode cL_law 317 = .ok (.iaload, 1) := by decide +kernel
theorem dL_law_318 : decode cL_law 318 = .ok (.aload_n 0, 1) := by decide +kernel
theorem dL_law_319 : decode cL_law 319 = .ok (.iload_n 3, 1) := by decide +kernel
theorem dL_law_320 : decode cL_law 320 = .ok (.iconst 2, 1) := by decide +kernel
theorem dL_law_321 : decode cL_law 321 = .ok (.iadd, 1) := by decide +kernel
theorem dL_law_322 : decode cL_law 322 = .ok (.iaload, 1) := by decide +kernel
theorem dL_law_323 : decode cL_law 323 = .ok (.invokevirtual 43, 3) := by decide +kernel
theorem dL_law_326 : decode cL_law 326 = .ok (.if_icmp .eq 700, 3) := by decide +kernel
theorem dL_law_329 : decode cL_law 329 = .ok (.iconst 0, 1) := by decide +kernel
theorem dL_law_330 : decode cL_law 330 = .ok (.ireturn, 1) := by decide +kernel
theorem dL_law_331 : decode cL_law 331 = .ok (.aload_n 1, 1) := by decide +kernel
theorem dL_law_332 : decode cL_law 332 = .ok (.aload_n 0, 1) := by decide +kernel
theorem dL_law_333 : decode cL_law 333 = .ok (.iload_n 3, 1) := by decide +kernel
theorem dL_law_334 : decode cL_law 334 = .ok (.iconst 1, 1) := by decide +kernel
theorem dL_law_335 : decode cL_law 335 = .ok (.iadd, 1) := by decide +kernel
theorem dL_law_336 : decode cL_law 336 = .ok (.iaload, 1) := by decide +kernel
theorem dL_law_337 : decode cL_law 337 = .ok (.invokevirtual 44, 3) := by decide +kernel
theorem dL_law_340 : decode cL_law 340 = .ok (.aload_n 2, 1) := by decide +kernel
theorem dL_law_341 : decode cL_law 341 = .ok (.aload_n 0, 1) := by decide +kernel
theorem dL_law_342 : decode cL_law 342 = .ok (.iload_n 3, 1) := by decide +kernel
theorem dL_law_343 : decode cL_law 343 = .ok (.iconst 1, 1) := by decide +kernel
theorem dL_law_344 : decode cL_law 344 = .ok (.iadd, 1) := by decide +kernel
theorem dL_law_345 : decode cL_law 345 = .ok (.iaload, 1) := by decide +kernel
theorem dL_law_346 : decode cL_law 346 = .ok (.invokevirtual 47, 3) := by decide +kernel
theorem dL_law_349 : decode cL_law 349 = .ok (.if_icmp .eq 677, 3) := by decide +kernel
theorem dL_law_352 : decode cL_law 352 = .ok (.iconst 0, 1) := by decide +kernel
theorem dL_law_353 : decode cL_law 353 = .ok (.ireturn, 1) := by decide +kernel
theorem dL_law_354 : decode cL_law 354 = .ok (.aload_n 1, 1) := by decide +kernel
theorem dL_law_355 : decode cL_law 355 = .ok (.aload_n 0, 1) := by decide +kernel
theorem dL_law_356 : decode cL_law 356 = .ok (.iload_n 3, 1) := by decide +kernel
theorem dL_law_357 : decode cL_law 357 = .ok (.iconst 1, 1) := by decide +kernel
theorem dL_law_358 : decode cL_law 358 = .ok (.iadd, 1) := by decide +kernel
theorem dL_law_359 : decode cL_law 359 = .ok (.iaload, 1) := by decide +kernel
theorem dL_law_360 : decode cL_law 360 = .ok (.aload_n 0, 1) := by decide +kernel
theorem dL_law_361 : decode cL_law 361 = .ok (.iload_n 3, 1) := by decide +kernel
theorem dL_law_362 : decode cL_law 362 = .ok (.iconst 2, 1) := by decide +kernel
theorem dL_law_363 : decode cL_law 363 = .ok (.iadd, 1) := by decide +kernel
theorem dL_law_364 : decode cL_law 364 = .ok (.iaload, 1) := by decide +kernel
theorem dL_law_365 : decode cL_law 365 = .ok (.invokevirtual 48, 3) := by decide +kernel
theorem dL_law_368 : decode cL_law 368 = .ok (.aload_n 2, 1) := by decide +kernel
theorem dL_law_369 : decode cL_law 369 = .ok (.aload_n 0, 1) := by decide +kernel
theorem dL_law_370 : decode cL_law 370 = .ok (.iload_n 3, 1) := by decide +kernel
theorem dL_law_371 : decode cL_law 371 = .ok (.iconst 1, 1) := by decide +kernel
theorem dL_law_372 : decode cL_law 372 = .ok (.iadd, 1) := by decide +kernel
theorem dL_law_373 : decode cL_law 373 = .ok (.iaload, 1) := by decide +kernel
theorem dL_law_374 : decode cL_law 374 = .ok (.aload_n 0, 1) := by decide +kernel
theorem dL_law_375 : decode cL_law 375 = .ok (.iload_n 3, 1) := by decide +kernel
theorem dL_law_376 : decode cL_law 376 = .ok (.iconst 2, 1) := by decide +kernel
theorem dL_law_377 : decode cL_law 377 = .ok (.iadd, 1) := by decide +kernel
theorem dL_law_378 : decode cL_law 378 = .ok (.iaload, 1) := by decide +kernel
theorem dL_law_379 : decode cL_law 379 = .ok (.invokevirtual 51, 3) := by decide +kernel
theorem dL_law_382 : decode cL_law 382 = .ok (.if_icmp .eq 644, 3) := by decide +kernel
theorem dL_law_385 : decode cL_law 385 = .ok (.iconst 0, 1) := by decide +kernel
theorem dL_law_386 : decode cL_law 386 = .ok (.ireturn, 1) := by decide +kernel
theorem dL_law_387 : decode cL_law 387 = .ok (.aload_n 1, 1) := by decide +kernel
theorem dL_law_388 : decode cL_law 388 = .ok (.aload_n 0, 1) := by decide +kernel
theorem dL_law_389 : decode cL_law 389 = .ok (.iload_n 3, 1) := by decide +kernel
theorem dL_law_390 : decode cL_law 390 = .ok (.iconst 1, 1) := by decide +kernel
theorem dL_law_391 : decode cL_law 391 = .ok (.iadd, 1) := by decide +kernel
theorem dL_law_392 : decode cL_law 392 = .ok (.iaload, 1) := by decide +kernel
theorem dL_law_393 : decode cL_law 393 = .ok (.invokevirtual 52, 3) := by decide +kernel
theorem dL_law_396 : decode cL_law 396 = .ok (.aload_n 2, 1) := by decide +kernel
theorem dL_law_397 : decode cL_law 397 = .ok (.aload_n 0, 1) := by decide +kernel
theorem dL_law_398 : decode cL_law 398 = .ok (.iload_n 3, 1) := by decide +kernel
theorem dL_law_399 : decode cL_law 399 = .ok (.iconst 1, 1) := by decide +kernel
theorem dL_law_400 : decode cL_law 400 = .ok (.iadd, 1) := by decide +kernel
theorem dL_law_401 : decode cL_law 401 = .ok (.iaload, 1) := by decide +kernel
theorem dL_law_402 : decode cL_law 402 = .ok (.invokevirtual 55, 3) := by decide +kernel
theorem dL_law_405 : decode cL_law 405 = .ok (.if_icmp .eq 621, 3) := by decide +kernel
theorem dL_law_408 : decode cL_law 408 = .ok (.iconst 0, 1) := by decide +kernel
theorem dL_law_409 : decode cL_law 409 = .ok (.ireturn, 1) := by decide +kernel
theorem dL_law_410 : decode cL_law 410 = .ok (.aload_n 1, 1) := by decide +kernel
theorem dL_law_411 : decode cL_law 411 = .ok (.aload_n 0, 1) := by decide +kernel
theorem dL_law_412 : decode cL_law 412 = .ok (.iload_n 3, 1) := by decide +kernel
theorem dL_law_413 : decode cL_law 413 = .ok (.iconst 1, 1) := by decide +kernel
theorem dL_law_414 : decode cL_law 414 = .ok (.iadd, 1) := by decide +kernel
theorem dL_law_415 : decode cL_law 415 = .ok (.iaload, 1) := by decide +kernel
theorem dL_law_416 : decode cL_law 416 = .ok (.aload_n 0, 1) := by decide +kernel
theorem dL_law_417 : decode cL_law 417 = .ok (.iload_n 3, 1) := by decide +kernel
theorem dL_law_418 : decode cL_law 418 = .ok (.iconst 2, 1) := by decide +kernel
theorem dL_law_419 : decode cL_law 419 = .ok (.iadd, 1) := by decide +kernel
theorem dL_law_420 : decode cL_law 420 = .ok (.iaload, 1) := by decide +kernel
theorem dL_law_421 : decode cL_law 421 = .ok (.invokevirtual 56, 3) := by decide +kernel
theorem dL_law_424 : decode cL_law 424 = .ok (.aload_n 2, 1) := by decide +kernel
theorem dL_law_425 : decode cL_law 425 = .ok (.aload_n 0, 1) := by decide +kernel
theorem dL_law_426 : decode cL_law 426 = .ok (.iload_n 3, 1) := by decide +kernel
theorem dL_law_427 : decode cL_law 427 = .ok (.iconst 1, 1) := by decide +kernel
theorem dL_law_428 : decode cL_law 428 = .ok (.iadd, 1) := by decide +kernel
theorem dL_law_429 : decode cL_law 429 = .ok (.iaload, 1) := by decide +kernel
theorem dL_law_430 : decode cL_law 430 = .ok (.aload_n 0, 1) := by decide +kernel
theorem dL_law_431 : decode cL_law 431 = .ok (.iload_n 3, 1) := by decide +kernel
theorem dL_law_432 : decode cL_law 432 = .ok (.iconst 2, 1) := by decide +kernel
theorem dL_law_433 : decode cL_law 433 = .ok (.iadd, 1) := by decide +kernel
theorem dL_law_434 : decode cL_law 434 = .ok (.iaload, 1) := by decide +kernel
theorem dL_law_435 : decode cL_law 435 = .ok (.invokevirtual 59, 3) := by decide +kernel
theorem dL_law_438 : decode cL_law 438 = .ok (.if_icmp .eq 588, 3) := by decide +kernel
theorem dL_law_441 : decode cL_law 441 = .ok (.iconst 0, 1) := by decide +kernel
theorem dL_law_442 : decode cL_law 442 = .ok (.ireturn, 1) := by decide +kernel
theorem dL_law_443 : decode cL_law 443 = .ok (.aload_n 1, 1) := by decide +kernel
theorem dL_law_444 : decode cL_law 444 = .ok (.aload_n 0, 1) := by decide +kernel
theorem dL_law_445 : decode cL_law 445 = .ok (.iload_n 3, 1) := by decide +kernel
theorem dL_law_446 : decode cL_law 446 = .ok (.iconst 1, 1) := by decide +kernel
theorem dL_law_447 : decode cL_law 447 = .ok (.iadd, 1) := by decide +kernel
theorem dL_law_448 : decode cL_law 448 = .ok (.iaload, 1) := by decide +kernel
theorem dL_law_449 : decode cL_law 449 = .ok (.aload_n 0, 1) := by decide +kernel
theorem dL_law_450 : decode cL_law 450 = .ok (.iload_n 3, 1) := by decide +kernel
theorem dL_law_451 : decode cL_law 451 = .ok (.iconst 2, 1) := by decide +kernel
theorem dL_law_452 : decode cL_law 452 = .ok (.iadd, 1) := by decide +kernel
theorem dL_law_453 : decode cL_law 453 = .ok (.iaload, 1) := by decide +kernel
theorem dL_law_454 : decode cL_law 454 = .ok (.invokevirtual 60, 3) := by decide +kernel
theorem dL_law_457 : decode cL_law 457 = .ok (.aload_n 2, 1) := by decide +kernel
theorem dL_law_458 : decode cL_law 458 = .ok (.aload_n 0, 1) := by decide +kernel
theorem dL_law_459 : decode cL_law 459 = .ok (.iload_n 3, 1) := by decide +kernel
theorem dL_law_460 : decode cL_law 460 = .ok (.iconst 1, 1) := by decide +kernel
theorem dL_law_461 : decode cL_law 461 = .ok (.iadd, 1) := by decide +kernel
theorem dL_law_462 : decode cL_law 462 = .ok (.iaload, 1) := by decide +kernel
theorem dL_law_463 : decode cL_law 463 = .ok (.aload_n 0, 1) := by decide +kernel
theorem dL_law_464 : decode cL_law 464 = .ok (.iload_n 3, 1) := by decide +kernel
theorem dL_law_465 : decode cL_law 465 = .ok (.iconst 2, 1) := by decide +kernel
theorem dL_law_466 : decode cL_law 466 = .ok (.iadd, 1) := by decide +kernel
theorem dL_law_467 : decode cL_law 467 = .ok (.iaload, 1) := by decide +kernel
theorem dL_law_468 : decode cL_law 468 = .ok (.invokevirtual 63, 3) := by decide +kernel
theorem dL_law_471 : decode cL_law 471 = .ok (.if_icmp .eq 555, 3) := by decide +kernel
theorem dL_law_474 : decode cL_law 474 = .ok (.iconst 0, 1) := by decide +kernel
theorem dL_law_475 : decode cL_law 475 = .ok (.ireturn, 1) := by decide +kernel
theorem dL_law_476 : decode cL_law 476 = .ok (.aload_n 1, 1) := by decide +kernel
theorem dL_law_477 : decode cL_law 477 = .ok (.aload_n 0, 1) := by decide +kernel
theorem dL_law_478 : decode cL_law 478 = .ok (.iload_n 3, 1) := by decide +kernel
theorem dL_law_479 : decode cL_law 479 = .ok (.iconst 1, 1) := by decide +kernel
theorem dL_law_480 : decode cL_law 480 = .ok (.iadd, 1) := by decide +kernel
theorem dL_law_481 : decode cL_law 481 = .ok (.iaload, 1) := by decide +kernel
theorem dL_law_482 : decode cL_law 482 = .ok (.aload_n 0, 1) := by decide +kernel
theorem dL_law_483 : decode cL_law 483 = .ok (.iload_n 3, 1) := by decide +kernel
theorem dL_law_484 : decode cL_law 484 = .ok (.iconst 2, 1) := by decide +kernel
theorem dL_law_485 : decode cL_law 485 = .ok (.iadd, 1) := by decide +kernel
theorem dL_law_486 : decode cL_law 486 = .ok (.iaload, 1) := by decide +kernel
theorem dL_law_487 : decode cL_law 487 = .ok (.invokevirtual 64, 3) := by decide +kernel
theorem dL_law_490 : decode cL_law 490 = .ok (.aload_n 2, 1) := by decide +kernel
theorem dL_law_491 : decode cL_law 491 = .ok (.aload_n 0, 1) := by decide +kernel
theorem dL_law_492 : decode cL_law 492 = .ok (.iload_n 3, 1) := by decide +kernel
theorem dL_law_493 : decode cL_law 493 = .ok (.iconst 1, 1) := by decide +kernel
theorem dL_law_494 : decode cL_law 494 = .ok (.iadd, 1) := by decide +kernel
theorem dL_law_495 : decode cL_law 495 = .ok (.iaload, 1) := by decide +kernel
theorem dL_law_496 : decode cL_law 496 = .ok (.aload_n 0, 1) := by decide +kernel
theorem dL_law_497 : decode cL_law 497 = .ok (.iload_n 3, 1) := by decide +kernel
theorem dL_law_498 : decode cL_law 498 = .ok (.iconst 2, 1) := by decide +kernel
theorem dL_law_499 : decode cL_law 499 = .ok (.iadd, 1) := by decide +kernel
theorem dL_law_500 : decode cL_law 500 = .ok (.iaload, 1) := by decide +kernel
theorem dL_law_501 : decode cL_law 501 = .ok (.invokevirtual 67, 3) := by decide +kernel
theorem dL_law_504 : decode cL_law 504 = .ok (.if_icmp .eq 522, 3) := by decide +kernel
theorem dL_law_507 : decode cL_law 507 = .ok (.iconst 0, 1) := by decide +kernel
theorem dL_law_508 : decode cL_law 508 = .ok (.ireturn, 1) := by decide +kernel
theorem dL_law_509 : decode cL_law 509 = .ok (.aload_n 1, 1) := by decide +kernel
theorem dL_law_510 : decode cL_law 510 = .ok (.aload_n 0, 1) := by decide +kernel
theorem dL_law_511 : decode cL_law 511 = .ok (.iload_n 3, 1) := by decide +kernel
theorem dL_law_512 : decode cL_law 512 = .ok (.iconst 1, 1) := by decide +kernel
theorem dL_law_513 : decode cL_law 513 = .ok (.iadd, 1) := by decide +kernel
theorem dL_law_514 : decode cL_law 514 = .ok (.iaload, 1) := by decide +kernel
theorem dL_law_515 : decode cL_law 515 = .ok (.invokevirtual 68, 3) := by decide +kernel
theorem dL_law_518 : decode cL_law 518 = .ok (.aload_n 2, 1) := by decide +kernel
theorem dL_law_519 : decode cL_law 519 = .ok (.aload_n 0, 1) := by decide +kernel
theorem dL_law_520 : decode cL_law 520 = .ok (.iload_n 3, 1) := by decide +kernel
theorem dL_law_521 : decode cL_law 521 = .ok (.iconst 1, 1) := by decide +kernel
theorem dL_law_522 : decode cL_law 522 = .ok (.iadd, 1) := by decide +kernel
theorem dL_law_523 : decode cL_law 523 = .ok (.iaload, 1) := by decide +kernel
theorem dL_law_524 : decode cL_law 524 = .ok (.invokevirtual 71, 3) := by decide +kernel
theorem dL_law_527 : decode cL_law 527 = .ok (.if_icmp .eq 499, 3) := by decide +kernel
theorem dL_law_530 : decode cL_law 530 = .ok (.iconst 0, 1) := by decide +kernel
theorem dL_law_531 : decode cL_law 531 = .ok (.ireturn, 1) := by decide +kernel
theorem dL_law_532 : decode cL_law 532 = .ok (.aload_n 1, 1) := by decide +kernel
theorem dL_law_533 : decode cL_law 533 = .ok (.aload_n 0, 1) := by decide +kernel
theorem dL_law_534 : decode cL_law 534 = .ok (.iload_n 3, 1) := by decide +kernel
theorem dL_law_535 : decode cL_law 535 = .ok (.iconst 1, 1) := by decide +kernel
theorem dL_law_536 : decode cL_law 536 = .ok (.iadd, 1) := by decide +kernel
theorem dL_law_537 : decode cL_law 537 = .ok (.iaload, 1) := by decide +kernel
theorem dL_law_538 : decode cL_law 538 = .ok (.aload_n 0, 1) := by decide +kernel
theorem dL_law_539 : decode cL_law 539 = .ok (.iload_n 3, 1) := by decide +kernel
theorem dL_law_540 : decode cL_law 540 = .ok (.iconst 2, 1) := by decide +kernel
theorem dL_law_541 : decode cL_law 541 = .ok (.iadd, 1) := by decide +kernel
theorem dL_law_542 : decode cL_law 542 = .ok (.iaload, 1) := by decide +kernel
theorem dL_law_543 : decode cL_law 543 = .ok (.invokevirtual 72, 3) := by decide +kernel
theorem dL_law_546 : decode cL_law 546 = .ok (.aload_n 2, 1) := by decide +kernel
theorem dL_law_547 : decode cL_law 547 = .ok (.aload_n 0, 1) := by decide +kernel
theorem dL_law_548 : decode cL_law 548 = .ok (.iload_n 3, 1) := by decide +kernel
theorem dL_law_549 : decode cL_law 549 = .ok (.iconst 1, 1) := by decide +kernel
theorem dL_law_550 : decode cL_law 550 = .ok (.iadd, 1) := by decide +kernel
theorem dL_law_551 : decode cL_law 551 = .ok (.iaload, 1) := by decide +kernel
theorem dL_law_552 : decode cL_law 552 = .ok (.aload_n 0, 1) := by decide +kernel
theorem dL_law_553 : decode cL_law 553 = .ok (.iload_n 3, 1) := by decide +kernel
theorem dL_law_554 : decode cL_law 554 = .ok (.iconst 2, 1) := by decide +kernel
theorem dL_law_555 : decode cL_law 555 = .ok (.iadd, 1) := by decide +kernel
theorem dL_law_556 : decode cL_law 556 = .ok (.iaload, 1) := by decide +kernel
theorem dL_law_557 : decode cL_law 557 = .ok (.invokevirtual 75, 3) := by decide +kernel
theorem dL_law_560 : decode cL_law 560 = .ok (.if_icmp .eq 466, 3) := by decide +kernel
theorem dL_law_563 : decode cL_law 563 = .ok (.iconst 0, 1) := by decide +kernel
theorem dL_law_564 : decode cL_law 564 = .ok (.ireturn, 1) := by decide +kernel
theorem dL_law_565 : decode cL_law 565 = .ok (.aload_n 1, 1) := by decide +kernel
theorem dL_law_566 : decode cL_law 566 = .ok (.aload_n 0, 1) := by decide +kernel
theorem dL_law_567 : decode cL_law 567 = .ok (.iload_n 3, 1) := by decide +kernel
theorem dL_law_568 : decode cL_law 568 = .ok (.iconst 1, 1) := by decide +kernel
theorem dL_law_569 : decode cL_law 569 = .ok (.iadd, 1) := by decide +kernel
theorem dL_law_570 : decode cL_law 570 = .ok (.iaload, 1) := by decide +kernel
theorem dL_law_571 : decode cL_law 571 = .ok (.aload_n 0, 1) := by decide +kernel
theorem dL_law_572 : decode cL_law 572 = .ok (.iload_n 3, 1) := by decide +kernel
theorem dL_law_573 : decode cL_law 573 = .ok (.iconst 2, 1) := by decide +kernel
theorem dL_law_574 : decode cL_law 574 = .ok (.iadd, 1) := by decide +kernel
theorem dL_law_575 : decode cL_law 575 = .ok (.iaload, 1) := by decide +kernel
theorem dL_law_576 : decode cL_law 576 = .ok (.invokevirtual 76, 3) := by decide +kernel
theorem dL_law_579 : decode cL_law 579 = .ok (.aload_n 2, 1) := by decide +kernel
theorem dL_law_580 : decode cL_law 580 = .ok (.aload_n 0, 1) := by decide +kernel
theorem dL_law_581 : decode cL_law 581 = .ok (.iload_n 3, 1) := by decide +kernel
theorem dL_law_582 : decode cL_law 582 = .ok (.iconst 1, 1) := by decide +kernel
theorem dL_law_583 : decode cL_law 583 = .ok (.iadd, 1) := by decide +kernel
theorem dL_law_584 : decode cL_law 584 = .ok (.iaload, 1) := by decide +kernel
theorem dL_law_585 : decode cL_law 585 = .ok (.aload_n 0, 1) := by decide +kernel
theorem dL_law_586 : decode cL_law 586 = .ok (.iload_n 3, 1) := by decide +kernel
theorem dL_law_587 : decode cL_law 587 = .ok (.iconst 2, 1) := by decide +kernel
theorem dL_law_588 : decode cL_law 588 = .ok (.iadd, 1) := by decide +kernel
theorem dL_law_589 : decode cL_law 589 = .ok (.iaload, 1) := by decide +kernel
theorem dL_law_590 : decode cL_law 590 = .ok (.invokevirtual 79, 3) := by decide +kernel
theorem dL_law_593 : decode cL_law 593 = .ok (.if_icmp .eq 433, 3) := by decide +kernel
theorem dL_law_596 : decode cL_law 596 = .ok (.iconst 0, 1) := by decide +kernel
theorem dL_law_597 : decode cL_law 597 = .ok (.ireturn, 1) := by decide +kernel
theorem dL_law_598 : decode cL_law 598 = .ok (.aload_n 1, 1) := by decide +kernel
theorem dL_law_599 : decode cL_law 599 = .ok (.aload_n 0, 1) := by decide +kernel
theorem dL_law_600 : decode cL_law 600 = .ok (.iload_n 3, 1) := by decide +kernel
theorem dL_law_601 : decode cL_law 601 = .ok (.iconst 1, 1) := by decide +kernel
theorem dL_law_602 : decode cL_law 602 = .ok (.iadd, 1) := by decide +kernel
theorem dL_law_603 : decode cL_law 603 = .ok (.iaload, 1) := by decide +kernel
theorem dL_law_604 : decode cL_law 604 = .ok (.invokevirtual 80, 3) := by decide +kernel
theorem dL_law_607 : decode cL_law 607 = .ok (.aload_n 2, 1) := by decide +kernel
theorem dL_law_608 : decode cL_law 608 = .ok (.aload_n 0, 1) := by decide +kernel
theorem dL_law_609 : decode cL_law 609 = .ok (.iload_n 3, 1) := by decide +kernel
theorem dL_law_610 : decode cL_law 610 = .ok (.iconst 1, 1) := by decide +kernel
theorem dL_law_611 : decode cL_law 611 = .ok (.iadd, 1) := by decide +kernel
theorem dL_law_612 : decode cL_law 612 = .ok (.iaload, 1) := by decide +kernel
theorem dL_law_613 : decode cL_law 613 = .ok (.invokevirtual 83, 3) := by decide +kernel
theorem dL_law_616 : decode cL_law 616 = .ok (.if_icmp .eq 410, 3) := by decide +kernel
theorem dL_law_619 : decode cL_law 619 = .ok (.iconst 0, 1) := by decide +kernel
theorem dL_law_620 : decode cL_law 620 = .ok (.ireturn, 1) := by decide +kernel
theorem dL_law_621 : decode cL_law 621 = .ok (.aload_n 1, 1) := by decide +kernel
theorem dL_law_622 : decode cL_law 622 = .ok (.aload_n 0, 1) := by decide +kernel
theorem dL_law_623 : decode cL_law 623 = .ok (.iload_n 3, 1) := by decide +kernel
theorem dL_law_624 : decode cL_law 624 = .ok (.iconst 1, 1) := by decide +kernel
theorem dL_law_625 : decode cL_law 625 = .ok (.iadd, 1) := by decide +kernel
theorem dL_law_626 : decode cL_law 626 = .ok (.iaload, 1) := by decide +kernel
theorem dL_law_627 : decode cL_law 627 = .ok (.invokevirtual 84, 3) := by decide +kernel
theorem dL_law_630 : decode cL_law 630 = .ok (.aload_n 2, 1) := by decide +kernel
theorem dL_law_631 : decode cL_law 631 = .ok (.aload_n 0, 1) := by decide +kernel
theorem dL_law_632 : decode cL_law 632 = .ok (.iload_n 3, 1) := by decide +kernel
theorem dL_law_633 : decode cL_law 633 = .ok (.iconst 1, 1) := by decide +kernel
theorem dL_law_634 : decode cL_law 634 = .ok (.iadd, 1) := by decide +kernel
theorem dL_law_635 : decode cL_law 635 = .ok (.iaload, 1) := by decide +kernel
theorem dL_law_636 : decode cL_law 636 = .ok (.invokevirtual 87, 3) := by decide +kernel
theorem dL_law_639 : decode cL_law 639 = .ok (.if_icmp .eq 387, 3) := by decide +kernel
theorem dL_law_642 : decode cL_law 642 = .ok (.iconst 0, 1) := by decide +kernel
theorem dL_law_643 : decode cL_law 643 = .ok (.ireturn, 1) := by decide +kernel
theorem dL_law_644 : decode cL_law 644 = .ok (.aload_n 1, 1) := by decide +kernel
theorem dL_law_645 : decode cL_law 645 = .ok (.aload_n 0, 1) := by decide +kernel
theorem dL_law_646 : decode cL_law 646 = .ok (.iload_n 3, 1) := by decide +kernel
theorem dL_law_647 : decode cL_law 647 = .ok (.iconst 1, 1) := by decide +kernel
theorem dL_law_648 : decode cL_law 648 = .ok (.iadd, 1) := by decide +kernel
theorem dL_law_649 : decode cL_law 649 = .ok (.iaload, 1) := by decide +kernel
theorem dL_law_650 : decode cL_law 650 = .ok (.aload_n 0, 1) := by decide +kernel
theorem dL_law_651 : decode cL_law 651 = .ok (.iload_n 3, 1) := by decide +kernel
theorem dL_law_652 : decode cL_law 652 = .ok (.iconst 2, 1) := by decide +kernel
theorem dL_law_653 : decode cL_law 653 = .ok (.iadd, 1) := by decide +kernel
theorem dL_law_654 : decode cL_law 654 = .ok (.iaload, 1) := by decide +kernel
theorem dL_law_655 : decode cL_law 655 = .ok (.invokevirtual 88, 3) := by decide +kernel
theorem dL_law_658 : decode cL_law 658 = .ok (.aload_n 2, 1) := by decide +kernel
theorem dL_law_659 : decode cL_law 659 = .ok (.aload_n 0, 1) := by decide +kernel
theorem dL_law_660 : decode cL_law 660 = .ok (.iload_n 3, 1) := by decide +kernel
theorem dL_law_661 : decode cL_law 661 = .ok (.iconst 1, 1) := by decide +kernel
theorem dL_law_662 : decode cL_law 662 = .ok (.iadd, 1) := by decide +kernel
theorem dL_law_663 : decode cL_law 663 = .ok (.iaload, 1) := by decide +kernel
theorem dL_law_664 : decode cL_law 664 = .ok (.aload_n 0, 1) := by decide +kernel
theorem dL_law_665 : decode cL_law 665 = .ok (.iload_n 3, 1) := by decide +kernel
theorem dL_law_666 : decode cL_law 666 = .ok (.iconst 2, 1) := by decide +kernel
theorem dL_law_667 : decode cL_law 667 = .ok (.iadd, 1) := by decide +kernel
theorem dL_law_668 : decode cL_law 668 = .ok (.iaload, 1) := by decide +kernel
theorem dL_law_669 : decode cL_law 669 = .ok (.invokevirtual 91, 3) := by decide +kernel
theorem dL_law_672 : decode cL_law 672 = .ok (.if_icmp .eq 354, 3) := by decide +kernel
theorem dL_law_675 : decode cL_law 675 = .ok (.iconst 0, 1) := by decide +kernel
theorem dL_law_676 : decode cL_law 676 = .ok (.ireturn, 1) := by decide +kernel
theorem dL_law_677 : decode cL_law 677 = .ok (.aload_n 1, 1) := by decide +kernel
theorem dL_law_678 : decode cL_law 678 = .ok (.aload_n 0, 1) := by decide +kernel
theorem dL_law_679 : decode cL_law 679 = .ok (.iload_n 3, 1) := by decide +kernel
theorem dL_law_680 : decode cL_law 680 = .ok (.iconst 1, 1) := by decide +kernel
theorem dL_law_681 : decode cL_law 681 = .ok (.iadd, 1) := by decide +kernel
theorem dL_law_682 : decode cL_law 682 = .ok (.iaload, 1) := by decide +kernel
theorem dL_law_683 : decode cL_law 683 = .ok (.invokevirtual 92, 3) := by decide +kernel
theorem dL_law_686 : decode cL_law 686 = .ok (.aload_n 2, 1) := by decide +kernel
theorem dL_law_687 : decode cL_law 687 = .ok (.aload_n 0, 1) := by decide +kernel
theorem dL_law_688 : decode cL_law 688 = .ok (.iload_n 3, 1) := by decide +kernel
theorem dL_law_689 : decode cL_law 689 = .ok (.iconst 1, 1) := by decide +kernel
theorem dL_law_690 : decode cL_law 690 = .ok (.iadd, 1) := by decide +kernel
theorem dL_law_691 : decode cL_law 691 = .ok (.iaload, 1) := by decide +kernel
theorem dL_law_692 : decode cL_law 692 = .ok (.invokevirtual 95, 3) := by decide +kernel
theorem dL_law_695 : decode cL_law 695 = .ok (.if_icmp .eq 331, 3) := by decide +kernel
theorem dL_law_698 : decode cL_law 698 = .ok (.iconst 0, 1) := by decide +kernel
theorem dL_law_699 : decode cL_law 699 = .ok (.ireturn, 1) := by decide +kernel
theorem dL_law_700 : decode cL_law 700 = .ok (.aload_n 1, 1) := by decide +kernel
theorem dL_law_701 : decode cL_law 701 = .ok (.invokevirtual 96, 3) := by decide +kernel
theorem dL_law_704 : decode cL_law 704 = .ok (.aload_n 2, 1) := by decide +kernel
theorem dL_law_705 : decode cL_law 705 = .ok (.invokevirtual 99, 3) := by decide +kernel
theorem dL_law_708 : decode cL_law 708 = .ok (.if_icmp .eq 318, 3) := by decide +kernel
theorem dL_law_711 : decode cL_law 711 = .ok (.iconst 0, 1) := by decide +kernel
theorem dL_law_712 : decode cL_law 712 = .ok (.ireturn, 1) := by decide +kernel
theorem dL_law_713 : decode cL_law 713 = .ok (.aload_n 1, 1) := by decide +kernel
theorem dL_law_714 : decode cL_law 714 = .ok (.aload_n 0, 1) := by decide +kernel
theorem dL_law_715 : decode cL_law 715 = .ok (.iload_n 3, 1) := by decide +kernel
theorem dL_law_716 : decode cL_law 716 = .ok (.iconst 1, 1) := by decide +kernel
theorem dL_law_717 : decode cL_law 717 = .ok (.iadd, 1) := by decide +kernel
theorem dL_law_718 : decode cL_law 718 = .ok (.iaload, 1) := by decide +kernel
theorem dL_law_719 : decode cL_law 719 = .ok (.invokevirtual 100, 3) := by decide +kernel
theorem dL_law_722 : decode cL_law 722 = .ok (.aload_n 2, 1) := by decide +kernel
theorem dL_law_723 : decode cL_law 723 = .ok (.aload_n 0, 1) := by decide +kernel
theorem dL_law_724 : decode cL_law 724 = .ok (.iload_n 3, 1) := by decide +kernel
theorem dL_law_725 : decode cL_law 725 = .ok (.iconst 1, 1) := by decide +kernel
theorem dL_law_726 : decode cL_law 726 = .ok (.iadd, 1) := by decide +kernel
theorem dL_law_727 : decode cL_law 727 = .ok (.iaload, 1) := by decide +kernel
theorem dL_law_728 : decode cL_law 728 = .ok (.invokevirtual 103, 3) := by decide +kernel
theorem dL_law_731 : decode cL_law 731 = .ok (.if_icmp .eq 295, 3) := by decide +kernel
theorem dL_law_734 : decode cL_law 734 = .ok (.iconst 0, 1) := by decide +kernel
theorem dL_law_735 : decode cL_law 735 = .ok (.ireturn, 1) := by decide +kernel
theorem dL_law_736 : decode cL_law 736 = .ok (.aload_n 1, 1) := by decide +kernel
theorem dL_law_737 : decode cL_law 737 = .ok (.aload_n 0, 1) := by decide +kernel
theorem dL_law_738 : decode cL_law 738 = .ok (.iload_n 3, 1) := by decide +kernel
theorem dL_law_739 : decode cL_law 739 = .ok (.iconst 1, 1) := by decide +kernel
theorem dL_law_740 : decode cL_law 740 = .ok (.iadd, 1) := by decide +kernel
theorem dL_law_741 : decode cL_law 741 = .ok (.iaload, 1) := by decide +kernel
theorem dL_law_742 : decode cL_law 742 = .ok (.invokevirtual 104, 3) := by decide +kernel
theorem dL_law_745 : decode cL_law 745 = .ok (.aload_n 2, 1) := by decide +kernel
theorem dL_law_746 : decode cL_law 746 = .ok (.aload_n 0, 1) := by decide +kernel
theorem dL_law_747 : decode cL_law 747 = .ok (.iload_n 3, 1) := by decide +kernel
theorem dL_law_748 : decode cL_law 748 = .ok (.iconst 1, 1) := by decide +kernel
theorem dL_law_749 : decode cL_law 749 = .ok (.iadd, 1) := by decide +kernel
theorem dL_law_750 : decode cL_law 750 = .ok (.iaload, 1) := by decide +kernel
theorem dL_law_751 : decode cL_law 751 = .ok (.invokevirtual 107, 3) := by decide +kernel
theorem dL_law_754 : decode cL_law 754 = .ok (.if_icmp .eq 272, 3) := by decide +kernel
theorem dL_law_757 : decode cL_law 757 = .ok (.iconst 0, 1) := by decide +kernel
theorem dL_law_758 : decode cL_law 758 = .ok (.ireturn, 1) := by decide +kernel
theorem dL_law_759 : decode cL_law 759 = .ok (.aload_n 1, 1) := by decide +kernel
theorem dL_law_760 : decode cL_law 760 = .ok (.invokevirtual 108, 3) := by decide +kernel
theorem dL_law_763 : decode cL_law 763 = .ok (.aload_n 2, 1) := by decide +kernel
theorem dL_law_764 : decode cL_law 764 = .ok (.invokevirtual 111, 3) := by decide +kernel
theorem dL_law_767 : decode cL_law 767 = .ok (.if_icmp .eq 259, 3) := by decide +kernel
theorem dL_law_770 : decode cL_law 770 = .ok (.iconst 0, 1) := by decide +kernel
theorem dL_law_771 : decode cL_law 771 = .ok (.ireturn, 1) := by decide +kernel
theorem dL_law_772 : decode cL_law 772 = .ok (.aload_n 1, 1) := by decide +kernel
theorem dL_law_773 : decode cL_law 773 = .ok (.aload_n 0, 1) := by decide +kernel
theorem dL_law_774 : decode cL_law 774 = .ok (.iload_n 3, 1) := by decide +kernel
theorem dL_law_775 : decode cL_law 775 = .ok (.iconst 1, 1) := by decide +kernel
theorem dL_law_776 : decode cL_law 776 = .ok (.iadd, 1) := by decide +kernel
theorem dL_law_777 : decode cL_law 777 = .ok (.iaload, 1) := by decide +kernel
theorem dL_law_778 : decode cL_law 778 = .ok (.aload_n 0, 1) := by decide +kernel
theorem dL_law_779 : decode cL_law 779 = .ok (.iload_n 3, 1) := by decide +kernel
theorem dL_law_780 : decode cL_law 780 = .ok (.iconst 2, 1) := by decide +kernel
theorem dL_law_781 : decode cL_law 781 = .ok (.iadd, 1) := by decide +kernel
theorem dL_law_782 : decode cL_law 782 = .ok (.iaload, 1) := by decide +kernel
theorem dL_law_783 : decode cL_law 783 = .ok (.ifCond .eq 7, 3) := by decide +kernel
theorem dL_law_786 : decode cL_law 786 = .ok (.iconst 1, 1) := by decide +kernel
theorem dL_law_787 : decode cL_law 787 = .ok (.goto 4, 3) := by decide +kernel
theorem dL_law_790 : decode cL_law 790 = .ok (.iconst 0, 1) := by decide +kernel
theorem dL_law_791 : decode cL_law 791 = .ok (.invokevirtual 112, 3) := by decide +kernel
theorem dL_law_794 : decode cL_law 794 = .ok (.aload_n 2, 1) := by decide +kernel
theorem dL_law_795 : decode cL_law 795 = .ok (.aload_n 0, 1) := by decide +kernel
theorem dL_law_796 : decode cL_law 796 = .ok (.iload_n 3, 1) := by decide +kernel
theorem dL_law_797 : decode cL_law 797 = .ok (.iconst 1, 1) := by decide +kernel
theorem dL_law_798 : decode cL_law 798 = .ok (.iadd, 1) := by decide +kernel
theorem dL_law_799 : decode cL_law 799 = .ok (.iaload, 1) := by decide +kernel
theorem dL_law_800 : decode cL_law 800 = .ok (.aload_n 0, 1) := by decide +kernel
theorem dL_law_801 : decode cL_law 801 = .ok (.iload_n 3, 1) := by decide +kernel
theorem dL_law_802 : decode cL_law 802 = .ok (.iconst 2, 1) := by decide +kernel
theorem dL_law_803 : decode cL_law 803 = .ok (.iadd, 1) := by decide +kernel
theorem dL_law_804 : decode cL_law 804 = .ok (.iaload, 1) := by decide +kernel
theorem dL_law_805 : decode cL_law 805 = .ok (.ifCond .eq 7, 3) := by decide +kernel
theorem dL_law_808 : decode cL_law 808 = .ok (.iconst 1, 1) := by decide +kernel
theorem dL_law_809 : decode cL_law 809 = .ok (.goto 4, 3) := by decide +kernel
theorem dL_law_812 : decode cL_law 812 = .ok (.iconst 0, 1) := by decide +kernel
theorem dL_law_813 : decode cL_law 813 = .ok (.invokevirtual 116, 3) := by decide +kernel
theorem dL_law_816 : decode cL_law 816 = .ok (.if_icmp .eq 210, 3) := by decide +kernel
theorem dL_law_819 : decode cL_law 819 = .ok (.iconst 0, 1) := by decide +kernel
theorem dL_law_820 : decode cL_law 820 = .ok (.ireturn, 1) := by decide +kernel
theorem dL_law_821 : decode cL_law 821 = .ok (.aload_n 1, 1) := by decide +kernel
theorem dL_law_822 : decode cL_law 822 = .ok (.aload_n 0, 1) := by decide +kernel
theorem dL_law_823 : decode cL_law 823 = .ok (.iload_n 3, 1) := by decide +kernel
theorem dL_law_824 : decode cL_law 824 = .ok (.iconst 1, 1) := by decide +kernel
theorem dL_law_825 : decode cL_law 825 = .ok (.iadd, 1) := by decide +kernel
theorem dL_law_826 : decode cL_law 826 = .ok (.iaload, 1) := by decide +kernel
theorem dL_law_827 : decode cL_law 827 = .ok (.aload_n 0, 1) := by decide +kernel
theorem dL_law_828 : decode cL_law 828 = .ok (.iload_n 3, 1) := by decide +kernel
theorem dL_law_829 : decode cL_law 829 = .ok (.iconst 2, 1) := by decide +kernel
theorem dL_law_830 : decode cL_law 830 = .ok (.iadd, 1) := by decide +kernel
theorem dL_law_831 : decode cL_law 831 = .ok (.iaload, 1) := by decide +kernel
theorem dL_law_832 : decode cL_law 832 = .ok (.invokevirtual 117, 3) := by decide +kernel
theorem dL_law_835 : decode cL_law 835 = .ok (.aload_n 2, 1) := by decide +kernel
theorem dL_law_836 : decode cL_law 836 = .ok (.aload_n 0, 1) := by decide +kernel
theorem dL_law_837 : decode cL_law 837 = .ok (.iload_n 3, 1) := by decide +kernel
theorem dL_law_838 : decode cL_law 838 = .ok (.iconst 1, 1) := by decide +kernel
theorem dL_law_839 : decode cL_law 839 = .ok (.iadd, 1) := by decide +kernel
theorem dL_law_840 : decode cL_law 840 = .ok (.iaload, 1) := by decide +kernel
theorem dL_law_841 : decode cL_law 841 = .ok (.aload_n 0, 1) := by decide +kernel
theorem dL_law_842 : decode cL_law 842 = .ok (.iload_n 3, 1) := by decide +kernel
theorem dL_law_843 : decode cL_law 843 = .ok (.iconst 2, 1) := by decide +kernel
theorem dL_law_844 : decode cL_law 844 = .ok (.iadd, 1) := by decide +kernel
theorem dL_law_845 : decode cL_law 845 = .ok (.iaload, 1) := by decide +kernel
theorem dL_law_846 : decode cL_law 846 = .ok (.invokevirtual 120, 3) := by decide +kernel
theorem dL_law_849 : decode cL_law 849 = .ok (.if_icmp .eq 177, 3) := by decide +kernel
theorem dL_law_852 : decode cL_law 852 = .ok (.iconst 0, 1) := by decide +kernel
theorem dL_law_853 : decode cL_law 853 = .ok (.ireturn, 1) := by decide +kernel
theorem dL_law_854 : decode cL_law 854 = .ok (.aload_n 1, 1) := by decide +kernel
theorem dL_law_855 : decode cL_law 855 = .ok (.aload_n 0, 1) := by decide +kernel
theorem dL_law_856 : decode cL_law 856 = .ok (.iload_n 3, 1) := by decide +kernel
theorem dL_law_857 : decode cL_law 857 = .ok (.iconst 1, 1) := by decide +kernel
theorem dL_law_858 : decode cL_law 858 = .ok (.iadd, 1) := by decide +kernel
theorem dL_law_859 : decode cL_law 859 = .ok (.iaload, 1) := by decide +kernel
theorem dL_law_860 : decode cL_law 860 = .ok (.aload_n 0, 1) := by decide +kernel
theorem dL_law_861 : decode cL_law 861 = .ok (.iload_n 3, 1) := by decide +kernel
theorem dL_law_862 : decode cL_law 862 = .ok (.iconst 2, 1) := by decide +kernel
theorem dL_law_863 : decode cL_law 863 = .ok (.iadd, 1) := by decide +kernel
theorem dL_law_864 : decode cL_law 864 = .ok (.iaload, 1) := by decide +kernel
theorem dL_law_865 : decode cL_law 865 = .ok (.invokevirtual 121, 3) := by decide +kernel
theorem dL_law_868 : decode cL_law 868 = .ok (.aload_n 2, 1) := by decide +kernel
theorem dL_law_869 : decode cL_law 869 = .ok (.aload_n 0, 1) := by decide +kernel
theorem dL_law_870 : decode cL_law 870 = .ok (.iload_n 3, 1) := by decide +kernel
theorem dL_law_871 : decode cL_law 871 = .ok (.iconst 1, 1) := by decide +kernel
theorem dL_law_872 : decode cL_law 872 = .ok (.iadd, 1) := by decide +kernel
theorem dL_law_873 : decode cL_law 873 = .ok (.iaload, 1) := by decide +kernel
theorem dL_law_874 : decode cL_law 874 = .ok (.aload_n 0, 1) := by decide +kernel
theorem dL_law_875 : decode cL_law 875 = .ok (.iload_n 3, 1) := by decide +kernel
theorem dL_law_876 : decode cL_law 876 = .ok (.iconst 2, 1) := by decide +kernel
theorem dL_law_877 : decode cL_law 877 = .ok (.iadd, 1) := by decide +kernel
theorem dL_law_878 : decode cL_law 878 = .ok (.iaload, 1) := by decide +kernel
theorem dL_law_879 : decode cL_law 879 = .ok (.invokevirtual 124, 3) := by decide +kernel
theorem dL_law_882 : decode cL_law 882 = .ok (.if_icmp .eq 144, 3) := by decide +kernel
theorem dL_law_885 : decode cL_law 885 = .ok (.iconst 0, 1) := by decide +kernel
theorem dL_law_886 : decode cL_law 886 = .ok (.ireturn, 1) := by decide +kernel
theorem dL_law_887 : decode cL_law 887 = .ok (.aload_n 1, 1) := by decide +kernel
theorem dL_law_888 : decode cL_law 888 = .ok (.aload_n 0, 1) := by decide +kernel
theorem dL_law_889 : decode cL_law 889 = .ok (.iload_n 3, 1) := by decide +kernel
theorem dL_law_890 : decode cL_law 890 = .ok (.iconst 1, 1) := by decide +kernel
theorem dL_law_891 : decode cL_law 891 = .ok (.iadd, 1) := by decide +kernel
theorem dL_law_892 : decode cL_law 892 = .ok (.iaload, 1) := by decide +kernel
theorem dL_law_893 : decode cL_law 893 = .ok (.invokevirtual 125, 3) := by decide +kernel
theorem dL_law_896 : decode cL_law 896 = .ok (.aload_n 2, 1) := by decide +kernel
theorem dL_law_897 : decode cL_law 897 = .ok (.aload_n 0, 1) := by decide +kernel
theorem dL_law_898 : decode cL_law 898 = .ok (.iload_n 3, 1) := by decide +kernel
theorem dL_law_899 : decode cL_law 899 = .ok (.iconst 1, 1) := by decide +kernel
theorem dL_law_900 : decode cL_law 900 = .ok (.iadd, 1) := by decide +kernel
theorem dL_law_901 : decode cL_law 901 = .ok (.iaload, 1) := by decide +kernel
theorem dL_law_902 : decode cL_law 902 = .ok (.invokevirtual 128, 3) := by decide +kernel
theorem dL_law_905 : decode cL_law 905 = .ok (.if_icmp .eq 121, 3) := by decide +kernel
theorem dL_law_908 : decode cL_law 908 = .ok (.iconst 0, 1) := by decide +kernel
theorem dL_law_909 : decode cL_law 909 = .ok (.ireturn, 1) := by decide +kernel
theorem dL_law_910 : decode cL_law 910 = .ok (.aload_n 1, 1) := by decide +kernel
theorem dL_law_911 : decode cL_law 911 = .ok (.aload_n 0, 1) := by decide +kernel
theorem dL_law_912 : decode cL_law 912 = .ok (.iload_n 3, 1) := by decide +kernel
theorem dL_law_913 : decode cL_law 913 = .ok (.iconst 1, 1) := by decide +kernel
theorem dL_law_914 : decode cL_law 914 = .ok (.iadd, 1) := by decide +kernel
theorem dL_law_915 : decode cL_law 915 = .ok (.iaload, 1) := by decide +kernel
theorem dL_law_916 : decode cL_law 916 = .ok (.aload_n 0, 1) := by decide +kernel
theorem dL_law_917 : decode cL_law 917 = .ok (.iload_n 3, 1) := by decide +kernel
theorem dL_law_918 : decode cL_law 918 = .ok (.iconst 2, 1) := by decide +kernel
theorem dL_law_919 : decode cL_law 919 = .ok (.iadd, 1) := by decide +kernel
theorem dL_law_920 : decode cL_law 920 = .ok (.iaload, 1) := by decide +kernel
theorem dL_law_921 : decode cL_law 921 = .ok (.invokevirtual 129, 3) := by decide +kernel
theorem dL_law_924 : decode cL_law 924 = .ok (.aload_n 2, 1) := by decide +kernel
theorem dL_law_925 : decode cL_law 925 = .ok (.aload_n 0, 1) := by decide +kernel
theorem dL_law_926 : decode cL_law 926 = .ok (.iload_n 3, 1) := by decide +kernel
theorem dL_law_927 : decode cL_law 927 = .ok (.iconst 1, 1) := by decide +kernel
theorem dL_law_928 : decode cL_law 928 = .ok (.iadd, 1) := by decide +kernel
theorem dL_law_929 : decode cL_law 929 = .ok (.iaload, 1) := by decide +kernel
theorem dL_law_930 : decode cL_law 930 = .ok (.aload_n 0, 1) := by decide +kernel
theorem dL_law_931 : decode cL_law 931 = .ok (.iload_n 3, 1) := by decide +kernel
theorem dL_law_932 : decode cL_law 932 = .ok (.iconst 2, 1) := by decide +kernel
theorem dL_law_933 : decode cL_law 933 = .ok (.iadd, 1) := by decide +kernel
theorem dL_law_934 : decode cL_law 934 = .ok (.iaload, 1) := by decide +kernel
theorem dL_law_935 : decode cL_law 935 = .ok (.invokevirtual 132, 3) := by decide +kernel
theorem dL_law_938 : decode cL_law 938 = .ok (.if_icmp .eq 88, 3) := by decide +kernel
theorem dL_law_941 : decode cL_law 941 = .ok (.iconst 0, 1) := by decide +kernel
theorem dL_law_942 : decode cL_law 942 = .ok (.ireturn, 1) := by decide +kernel
theorem dL_law_943 : decode cL_law 943 = .ok (.aload_n 1, 1) := by decide +kernel
theorem dL_law_944 : decode cL_law 944 = .ok (.aload_n 0, 1) := by decide +kernel
theorem dL_law_945 : decode cL_law 945 = .ok (.iload_n 3, 1) := by decide +kernel
theorem dL_law_946 : decode cL_law 946 = .ok (.iconst 1, 1) := by decide +kernel
theorem dL_law_947 : decode cL_law 947 = .ok (.iadd, 1) := by decide +kernel
theorem dL_law_948 : decode cL_law 948 = .ok (.iaload, 1) := by decide +kernel
theorem dL_law_949 : decode cL_law 949 = .ok (.aload_n 0, 1) := by decide +kernel
theorem dL_law_950 : decode cL_law 950 = .ok (.iload_n 3, 1) := by decide +kernel
theorem dL_law_951 : decode cL_law 951 = .ok (.iconst 2, 1) := by decide +kernel
theorem dL_law_952 : decode cL_law 952 = .ok (.iadd, 1) := by decide +kernel
theorem dL_law_953 : decode cL_law 953 = .ok (.iaload, 1) := by decide +kernel
theorem dL_law_954 : decode cL_law 954 = .ok (.invokevirtual 133, 3) := by decide +kernel
theorem dL_law_957 : decode cL_law 957 = .ok (.aload_n 2, 1) := by decide +kernel
theorem dL_law_958 : decode cL_law 958 = .ok (.aload_n 0, 1) := by decide +kernel
theorem dL_law_959 : decode cL_law 959 = .ok (.iload_n 3, 1) := by decide +kernel
theorem dL_law_960 : decode cL_law 960 = .ok (.iconst 1, 1) := by decide +kernel
theorem dL_law_961 : decode cL_law 961 = .ok (.iadd, 1) := by decide +kernel
theorem dL_law_962 : decode cL_law 962 = .ok (.iaload, 1) := by decide +kernel
theorem dL_law_963 : decode cL_law 963 = .ok (.aload_n 0, 1) := by decide +kernel
theorem dL_law_964 : decode cL_law 964 = .ok (.iload_n 3, 1) := by decide +kernel
theorem dL_law_965 : decode cL_law 965 = .ok (.iconst 2, 1) := by decide +kernel
theorem dL_law_966 : decode cL_law 966 = .ok (.iadd, 1) := by decide +kernel
theorem dL_law_967 : decode cL_law 967 = .ok (.iaload, 1) := by decide +kernel
theorem dL_law_968 : decode cL_law 968 = .ok (.invokevirtual 136, 3) := by decide +kernel
theorem dL_law_971 : decode cL_law 971 = .ok (.if_icmp .eq 55, 3) := by decide +kernel
theorem dL_law_974 : decode cL_law 974 = .ok (.iconst 0, 1) := by decide +kernel
theorem dL_law_975 : decode cL_law 975 = .ok (.ireturn, 1) := by decide +kernel
theorem dL_law_976 : decode cL_law 976 = .ok (.aload_n 1, 1) := by decide +kernel
theorem dL_law_977 : decode cL_law 977 = .ok (.invokevirtual 137, 3) := by decide +kernel
theorem dL_law_980 : decode cL_law 980 = .ok (.aload_n 2, 1) := by decide +kernel
theorem dL_law_981 : decode cL_law 981 = .ok (.invokevirtual 140, 3) := by decide +kernel
theorem dL_law_984 : decode cL_law 984 = .ok (.if_icmp .eq 42, 3) := by decide +kernel
theorem dL_law_987 : decode cL_law 987 = .ok (.iconst 0, 1) := by decide +kernel
theorem dL_law_988 : decode cL_law 988 = .ok (.ireturn, 1) := by decide +kernel
theorem dL_law_989 : decode cL_law 989 = .ok (.aload_n 1, 1) := by decide +kernel
theorem dL_law_990 : decode cL_law 990 = .ok (.aload_n 0, 1) := by decide +kernel
theorem dL_law_991 : decode cL_law 991 = .ok (.iload_n 3, 1) := by decide +kernel
theorem dL_law_992 : decode cL_law 992 = .ok (.iconst 1, 1) := by decide +kernel
theorem dL_law_993 : decode cL_law 993 = .ok (.iadd, 1) := by decide +kernel
theorem dL_law_994 : decode cL_law 994 = .ok (.iaload, 1) := by decide +kernel
theorem dL_law_995 : decode cL_law 995 = .ok (.invokevirtual 141, 3) := by decide +kernel
theorem dL_law_998 : decode cL_law 998 = .ok (.aload_n 2, 1) := by decide +kernel
theorem dL_law_999 : decode cL_law 999 = .ok (.aload_n 0, 1) := by decide +kernel
theorem dL_law_1000 : decode cL_law 1000 = .ok (.iload_n 3, 1) := by decide +kernel
theorem dL_law_1001 : decode cL_law 1001 = .ok (.iconst 1, 1) := by decide +kernel
theorem dL_law_1002 : decode cL_law 1002 = .ok (.iadd, 1) := by decide +kernel
theorem dL_law_1003 : decode cL_law 1003 = .ok (.iaload, 1) := by decide +kernel
theorem dL_law_1004 : decode cL_law 1004 = .ok (.invokevirtual 144, 3) := by decide +kernel
theorem dL_law_1007 : decode cL_law 1007 = .ok (.if_icmp .eq 19, 3) := by decide +kernel
theorem dL_law_1010 : decode cL_law 1010 = .ok (.iconst 0, 1) := by decide +kernel
theorem dL_law_1011 : decode cL_law 1011 = .ok (.ireturn, 1) := by decide +kernel
theorem dL_law_1012 : decode cL_law 1012 = .ok (.aload_n 1, 1) := by decide +kernel
theorem dL_law_1013 : decode cL_law 1013 = .ok (.invokevirtual 145, 3) := by decide +kernel
theorem dL_law_1016 : decode cL_law 1016 = .ok (.aload_n 2, 1) := by decide +kernel
theorem dL_law_1017 : decode cL_law 1017 = .ok (.invokevirtual 149, 3) := by decide +kernel
theorem dL_law_1020 : decode cL_law 1020 = .ok (.lcmp, 1) := by decide +kernel
theorem dL_law_1021 : decode cL_law 1021 = .ok (.ifCond .eq 5, 3) := by decide +kernel
theorem dL_law_1024 : decode cL_law 1024 = .ok (.iconst 0, 1) := by decide +kernel
theorem dL_law_1025 : decode cL_law 1025 = .ok (.ireturn, 1) := by decide +kernel
theorem dL_law_1026 : decode cL_law 1026 = .ok (.iinc 3 3, 3) := by decide +kernel
theorem dL_law_1029 : decode cL_law 1029 = .ok (.goto (-1011), 3) := by decide +kernel
theorem dL_law_1032 : decode cL_law 1032 = .ok (.iconst 1, 1) := by decide +kernel
theorem dL_law_1033 : decode cL_law 1033 = .ok (.ireturn, 1) := by decide +kernel
