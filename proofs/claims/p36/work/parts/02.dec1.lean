theorem dX8_step_31 : decode cX8_step 31 = .ok (.getfield 67, 3) := by decide +kernel
theorem dX8_step_34 : decode cX8_step 34 = .ok (.invokevirtual 156, 3) := by decide +kernel
theorem dX8_step_37 : decode cX8_step 37 = .ok (.invokevirtual 159, 3) := by decide +kernel
theorem dX8_step_40 : decode cX8_step 40 = .ok (.ireturn, 1) := by decide +kernel
theorem dX8_seems_0 : decode cX8_seems 0 = .ok (.iload_n 1, 1) := by decide +kernel
theorem dX8_seems_1 : decode cX8_seems 1 = .ok (.iconst 0, 1) := by decide +kernel
theorem dX8_seems_2 : decode cX8_seems 2 = .ok (.iconst 3, 1) := by decide +kernel
theorem dX8_seems_3 : decode cX8_seems 3 = .ok (.invokestatic 44, 3) := by decide +kernel
theorem dX8_seems_6 : decode cX8_seems 6 = .ok (.ifCond .ne 7, 3) := by decide +kernel
theorem dX8_seems_9 : decode cX8_seems 9 = .ok (.sipush (-1001), 3) := by decide +kernel
theorem dX8_seems_12 : decode cX8_seems 12 = .ok (.ireturn, 1) := by decide +kernel
theorem dX8_seems_13 : decode cX8_seems 13 = .ok (.iload_n 1, 1) := by decide +kernel
theorem dX8_seems_14 : decode cX8_seems 14 = .ok (.iconst 3, 1) := by decide +kernel
theorem dX8_seems_15 : decode cX8_seems 15 = .ok (.if_icmp .ne 13, 3) := by decide +kernel
theorem dX8_seems_18 : decode cX8_seems 18 = .ok (.aload_n 0, 1) := by decide +kernel
theorem dX8_seems_19 : decode cX8_seems 19 = .ok (.getfield 10, 3) := by decide +kernel
theorem dX8_seems_22 : decode cX8_seems 22 = .ok (.invokevirtual 163, 3) := by decide +kernel
theorem dX8_seems_25 : decode cX8_seems 25 = .ok (.goto 11, 3) := by decide +kernel
theorem dX8_seems_28 : decode cX8_seems 28 = .ok (.aload_n 0, 1) := by decide +kernel
theorem dX8_seems_29 : decode cX8_seems 29 = .ok (.getfield 10, 3) := by decide +kernel
theorem dX8_seems_32 : decode cX8_seems 32 = .ok (.iload_n 1, 1) := by decide +kernel
theorem dX8_seems_33 : decode cX8_seems 33 = .ok (.invokevirtual 166, 3) := by decide +kernel
theorem dX8_seems_36 : decode cX8_seems 36 = .ok (.ireturn, 1) := by decide +kernel
theorem dX8_stillPeriod_0 : decode cX8_stillPeriod 0 = .ok (.iload_n 1, 1) := by decide +kernel
theorem dX8_stillPeriod_1 : decode cX8_stillPeriod 1 = .ok (.iconst 1, 1) := by decide +kernel
theorem dX8_stillPeriod_2 : decode cX8_stillPeriod 2 = .ok (.sipush 500, 3) := by decide +kernel
theorem dX8_stillPeriod_5 : decode cX8_stillPeriod 5 = .ok (.invokestatic 44, 3) := by decide +kernel
theorem dX8_stillPeriod_8 : decode cX8_stillPeriod 8 = .ok (.ifCond .eq 14, 3) := by decide +kernel
theorem dX8_stillPeriod_11 : decode cX8_stillPeriod 11 = .ok (.iload_n 2, 1) := by decide +kernel
theorem dX8_stillPeriod_12 : decode cX8_stillPeriod 12 = .ok (.iload_n 1, 1) := by decide +kernel
theorem dX8_stillPeriod_13 : decode cX8_stillPeriod 13 = .ok (.sipush 500, 3) := by decide +kernel
theorem dX8_stillPeriod_16 : decode cX8_stillPeriod 16 = .ok (.invokestatic 44, 3) := by decide +kernel
theorem dX8_stillPeriod_19 : decode cX8_stillPeriod 19 = .ok (.ifCond .ne 7, 3) := by decide +kernel
theorem dX8_stillPeriod_22 : decode cX8_stillPeriod 22 = .ok (.sipush (-1001), 3) := by decide +kernel
theorem dX8_stillPeriod_25 : decode cX8_stillPeriod 25 = .ok (.ireturn, 1) := by decide +kernel
theorem dX8_stillPeriod_26 : decode cX8_stillPeriod 26 = .ok (.aload_n 0, 1) := by decide +kernel
theorem dX8_stillPeriod_27 : decode cX8_stillPeriod 27 = .ok (.getfield 10, 3) := by decide +kernel
theorem dX8_stillPeriod_30 : decode cX8_stillPeriod 30 = .ok (.getfield 67, 3) := by decide +kernel
theorem dX8_stillPeriod_33 : decode cX8_stillPeriod 33 = .ok (.invokevirtual 156, 3) := by decide +kernel
theorem dX8_stillPeriod_36 : decode cX8_stillPeriod 36 = .ok (.istore_n 3, 1) := by decide +kernel
theorem dX8_stillPeriod_37 : decode cX8_stillPeriod 37 = .ok (.iload_n 1, 1) := by decide +kernel
theorem dX8_stillPeriod_38 : decode cX8_stillPeriod 38 = .ok (.istore 4, 2) := by decide +kernel
theorem dX8_stillPeriod_40 : decode cX8_stillPeriod 40 = .ok (.iload 4, 2) := by decide +kernel
theorem dX8_stillPeriod_42 : decode cX8_stillPeriod 42 = .ok (.iload_n 2, 1) := by decide +kernel
theorem dX8_stillPeriod_43 : decode cX8_stillPeriod 43 = .ok (.if_icmp .gt 32, 3) := by decide +kernel
theorem dX8_stillPeriod_46 : decode cX8_stillPeriod 46 = .ok (.aload_n 0, 1) := by decide +kernel
theorem dX8_stillPeriod_47 : decode cX8_stillPeriod 47 = .ok (.getfield 10, 3) := by decide +kernel
theorem dX8_stillPeriod_50 : decode cX8_stillPeriod 50 = .ok (.getfield 67, 3) := by decide +kernel
theorem dX8_stillPeriod_53 : decode cX8_stillPeriod 53 = .ok (.getfield 169, 3) := by decide +kernel
theorem dX8_stillPeriod_56 : decode cX8_stillPeriod 56 = .ok (.iload 4, 2) := by decide +kernel
theorem dX8_stillPeriod_58 : decode cX8_stillPeriod 58 = .ok (.imul, 1) := by decide +kernel
theorem dX8_stillPeriod_59 : decode cX8_stillPeriod 59 = .ok (.iload_n 3, 1) := by decide +kernel
theorem dX8_stillPeriod_60 : decode cX8_stillPeriod 60 = .ok (.invokestatic 121, 3) := by decide +kernel
theorem dX8_stillPeriod_63 : decode cX8_stillPeriod 63 = .ok (.ifCond .ne 6, 3) := by decide +kernel
theorem dX8_stillPeriod_66 : decode cX8_stillPeriod 66 = .ok (.iload 4, 2) := by decide +kernel
theorem dX8_stillPeriod_68 : decode cX8_stillPeriod 68 = .ok (.ireturn, 1) := by decide +kernel
theorem dX8_stillPeriod_69 : decode cX8_stillPeriod 69 = .ok (.iinc 4 1, 3) := by decide +kernel
theorem dX8_stillPeriod_72 : decode cX8_stillPeriod 72 = .ok (.goto (-32), 3) := by decide +kernel
theorem dX8_stillPeriod_75 : decode cX8_stillPeriod 75 = .ok (.sipush (-1004), 3) := by decide +kernel
theorem dX8_stillPeriod_78 : decode cX8_stillPeriod 78 = .ok (.ireturn, 1) := by decide +kernel
theorem dX8_read_0 : decode cX8_read 0 = .ok (.iload_n 1, 1) := by decide +kernel
theorem dX8_read_1 : decode cX8_read 1 = .ok (.iconst 1, 1) := by decide +kernel
theorem dX8_read_2 : decode cX8_read 2 = .ok (.sipush 500, 3) := by decide +kernel
theorem dX8_read_5 : decode cX8_read 5 = .ok (.invokestatic 44, 3) := by decide +kernel
theorem dX8_read_8 : decode cX8_read 8 = .ok (.ifCond .eq 14, 3) := by decide +kernel
theorem dX8_read_11 : decode cX8_read 11 = .ok (.iload_n 2, 1) := by decide +kernel
theorem dX8_read_12 : decode cX8_read 12 = .ok (.bipush (-30), 2) := by decide +kernel
theorem dX8_read_14 : decode cX8_read 14 = .ok (.bipush 30, 2) := by decide +kernel
theorem dX8_read_16 : decode cX8_read 16 = .ok (.invokestatic 44, 3) := by decide +kernel
theorem dX8_read_19 : decode cX8_read 19 = .ok (.ifCond .ne 7, 3) := by decide +kernel
theorem dX8_read_22 : decode cX8_read 22 = .ok (.sipush (-1001), 3) := by decide +kernel
theorem dX8_read_25 : decode cX8_read 25 = .ok (.ireturn, 1) := by decide +kernel
theorem dX8_read_26 : decode cX8_read 26 = .ok (.aload_n 0, 1) := by decide +kernel
theorem dX8_read_27 : decode cX8_read 27 = .ok (.iload_n 1, 1) := by decide +kernel
theorem dX8_read_28 : decode cX8_read 28 = .ok (.iload_n 2, 1) := by decide +kernel
theorem dX8_read_29 : decode cX8_read 29 = .ok (.invokevirtual 172, 3) := by decide +kernel
theorem dX8_read_32 : decode cX8_read 32 = .ok (.ireturn, 1) := by decide +kernel
theorem dX8_look_0 : decode cX8_look 0 = .ok (.aload_n 0, 1) := by decide +kernel
theorem dX8_look_1 : decode cX8_look 1 = .ok (.iload_n 1, 1) := by decide +kernel
theorem dX8_look_2 : decode cX8_look 2 = .ok (.invokevirtual 141, 3) := by decide +kernel
theorem dX8_look_5 : decode cX8_look 5 = .ok (.ifCond .eq 19, 3) := by decide +kernel
theorem dX8_look_8 : decode cX8_look 8 = .ok (.iload_n 1, 1) := by decide +kernel
theorem dX8_look_9 : decode cX8_look 9 = .ok (.aload_n 0, 1) := by decide +kernel
theorem dX8_look_10 : decode cX8_look 10 = .ok (.getfield 10, 3) := by decide +kernel
theorem dX8_look_13 : decode cX8_look 13 = .ok (.getfield 125, 3) := by decide +kernel
theorem dX8_look_16 : decode cX8_look 16 = .ok (.invokevirtual 137, 3) := by decide +kernel
theorem dX8_look_19 : decode cX8_look 19 = .ok (.iconst 1, 1) := by decide +kernel
theorem dX8_look_20 : decode cX8_look 20 = .ok (.isub, 1) := by decide +kernel
theorem dX8_look_21 : decode cX8_look 21 = .ok (.if_icmp .ne 7, 3) := by decide +kernel
theorem dX8_look_24 : decode cX8_look 24 = .ok (.sipush (-1001), 3) := by decide +kernel
theorem dX8_look_27 : decode cX8_look 27 = .ok (.ireturn, 1) := by decide +kernel
theorem dX8_look_28 : decode cX8_look 28 = .ok (.aload_n 0, 1) := by decide +kernel
theorem dX8_look_29 : decode cX8_look 29 = .ok (.aload_n 0, 1) := by decide +kernel
theorem dX8_look_30 : decode cX8_look 30 = .ok (.getfield 10, 3) := by decide +kernel
theorem dX8_look_33 : decode cX8_look 33 = .ok (.getfield 125, 3) := by decide +kernel
theorem dX8_look_36 : decode cX8_look 36 = .ok (.getfield 134, 3) := by decide +kernel
theorem dX8_look_39 : decode cX8_look 39 = .ok (.aload_n 0, 1) := by decide +kernel
theorem dX8_look_40 : decode cX8_look 40 = .ok (.iload_n 1, 1) := by decide +kernel
theorem dX8_look_41 : decode cX8_look 41 = .ok (.iconst 2, 1) := by decide +kernel
theorem dX8_look_42 : decode cX8_look 42 = .ok (.invokevirtual 175, 3) := by decide +kernel
theorem dX8_look_45 : decode cX8_look 45 = .ok (.invokevirtual 172, 3) := by decide +kernel
theorem dX8_look_48 : decode cX8_look 48 = .ok (.ireturn, 1) := by decide +kernel
theorem dX8_reading_0 : decode cX8_reading 0 = .ok (.aload_n 0, 1) := by decide +kernel
theorem dX8_reading_1 : decode cX8_reading 1 = .ok (.iload_n 1, 1) := by decide +kernel
theorem dX8_reading_2 : decode cX8_reading 2 = .ok (.invokevirtual 178, 3) := by decide +kernel
theorem dX8_reading_5 : decode cX8_reading 5 = .ok (.ifCond .eq 12, 3) := by decide +kernel
theorem dX8_reading_8 : decode cX8_reading 8 = .ok (.iload_n 2, 1) := by decide +kernel
theorem dX8_reading_9 : decode cX8_reading 9 = .ok (.iconst 0, 1) := by decide +kernel
theorem dX8_reading_10 : decode cX8_reading 10 = .ok (.iconst 2, 1) := by decide +kernel
theorem dX8_reading_11 : decode cX8_reading 11 = .ok (.invokestatic 44, 3) := by decide +kernel
theorem dX8_reading_14 : decode cX8_reading 14 = .ok (.ifCond .ne 7, 3) := by decide +kernel
theorem dX8_reading_17 : decode cX8_reading 17 = .ok (.sipush (-1001), 3) := by decide +kernel
theorem dX8_reading_20 : decode cX8_reading 20 = .ok (.ireturn, 1) := by decide +kernel
theorem dX8_reading_21 : decode cX8_reading 21 = .ok (.iload_n 2, 1) := by decide +kernel
theorem dX8_reading_22 : decode cX8_reading 22 = .ok (.lookupswitch 56 #[(0, 26), (1, 41)], 26) := by decide +kernel
theorem dX8_reading_48 : decode cX8_reading 48 = .ok (.aload_n 0, 1) := by decide +kernel
theorem dX8_reading_49 : decode cX8_reading 49 = .ok (.getfield 10, 3) := by decide +kernel
theorem dX8_reading_52 : decode cX8_reading 52 = .ok (.getfield 181, 3) := by decide +kernel
theorem dX8_reading_55 : decode cX8_reading 55 = .ok (.getfield 193, 3) := by decide +kernel
theorem dX8_reading_58 : decode cX8_reading 58 = .ok (.iload_n 1, 1) := by decide +kernel
theorem dX8_reading_59 : decode cX8_reading 59 = .ok (.invokestatic 196, 3) := by decide +kernel
theorem dX8_reading_62 : decode cX8_reading 62 = .ok (.ireturn, 1) := by decide +kernel
theorem dX8_reading_63 : decode cX8_reading 63 = .ok (.aload_n 0, 1) := by decide +kernel
theorem dX8_reading_64 : decode cX8_reading 64 = .ok (.getfield 10, 3) := by decide +kernel
theorem dX8_reading_67 : decode cX8_reading 67 = .ok (.getfield 181, 3) := by decide +kernel
theorem dX8_reading_70 : decode cX8_reading 70 = .ok (.getfield 200, 3) := by decide +kernel
theorem dX8_reading_73 : decode cX8_reading 73 = .ok (.iload_n 1, 1) := by decide +kernel
theorem dX8_reading_74 : decode cX8_reading 74 = .ok (.invokestatic 196, 3) := by decide +kernel
theorem dX8_reading_77 : decode cX8_reading 77 = .ok (.ireturn, 1) := by decide +kernel
theorem dX8_reading_78 : decode cX8_reading 78 = .ok (.aload_n 0, 1) := by decide +kernel
theorem dX8_reading_79 : decode cX8_reading 79 = .ok (.iload_n 1, 1) := by decide +kernel
theorem dX8_reading_80 : decode cX8_reading 80 = .ok (.invokevirtual 203, 3) := by decide +kernel
theorem dX8_reading_83 : decode cX8_reading 83 = .ok (.invokevirtual 207, 3) := by decide +kernel
theorem dX8_reading_86 : decode cX8_reading 86 = .ok (.ireturn, 1) := by decide +kernel
theorem dX8_setLimit_0 : decode cX8_setLimit 0 = .ok (.iload_n 1, 1) := by decide +kernel
theorem dX8_setLimit_1 : decode cX8_setLimit 1 = .ok (.iconst 1, 1) := by decide +kernel
theorem dX8_setLimit_2 : decode cX8_setLimit 2 = .ok (.sipush 1000, 3) := by decide +kernel
theorem dX8_setLimit_5 : decode cX8_setLimit 5 = .ok (.invokestatic 44, 3) := by decide +kernel
theorem dX8_setLimit_8 : decode cX8_setLimit 8 = .ok (.ifCond .ne 7, 3) := by decide +kernel
theorem dX8_setLimit_11 : decode cX8_setLimit 11 = .ok (.sipush (-1001), 3) := by decide +kernel
theorem dX8_setLimit_14 : decode cX8_setLimit 14 = .ok (.ireturn, 1) := by decide +kernel
theorem dX8_setLimit_15 : decode cX8_setLimit 15 = .ok (.aload_n 0, 1) := by decide +kernel
theorem dX8_setLimit_16 : decode cX8_setLimit 16 = .ok (.getfield 19, 3) := by decide +kernel
theorem dX8_setLimit_19 : decode cX8_setLimit 19 = .ok (.aload_n 0, 1) := by decide +kernel
theorem dX8_setLimit_20 : decode cX8_setLimit 20 = .ok (.getfield 10, 3) := by decide +kernel
theorem dX8_setLimit_23 : decode cX8_setLimit 23 = .ok (.invokevirtual 63, 3) := by decide +kernel
theorem dX8_setLimit_26 : decode cX8_setLimit 26 = .ok (.aload_n 0, 1) := by decide +kernel
theorem dX8_setLimit_27 : decode cX8_setLimit 27 = .ok (.getfield 10, 3) := by decide +kernel
theorem dX8_setLimit_30 : decode cX8_setLimit 30 = .ok (.getfield 181, 3) := by decide +kernel
theorem dX8_setLimit_33 : decode cX8_setLimit 33 = .ok (.getfield 208, 3) := by decide +kernel
theorem dX8_setLimit_36 : decode cX8_setLimit 36 = .ok (.istore_n 2, 1) := by decide +kernel
theorem dX8_setLimit_37 : decode cX8_setLimit 37 = .ok (.aload_n 0, 1) := by decide +kernel
theorem dX8_setLimit_38 : decode cX8_setLimit 38 = .ok (.getfield 10, 3) := by decide +kernel
theorem dX8_setLimit_41 : decode cX8_setLimit 41 = .ok (.getfield 181, 3) := by decide +kernel
theorem dX8_setLimit_44 : decode cX8_setLimit 44 = .ok (.iload_n 1, 1) := by decide +kernel
theorem dX8_setLimit_45 : decode cX8_setLimit 45 = .ok (.putfield 208, 3) := by decide +kernel
theorem dX8_setLimit_48 : decode cX8_setLimit 48 = .ok (.iload_n 2, 1) := by decide +kernel
theorem dX8_setLimit_49 : decode cX8_setLimit 49 = .ok (.ireturn, 1) := by decide +kernel
theorem dX8_candidates_0 : decode cX8_candidates 0 = .ok (.aload_n 0, 1) := by decide +kernel
theorem dX8_candidates_1 : decode cX8_candidates 1 = .ok (.iconst (-1), 1) := by decide +kernel
theorem dX8_candidates_2 : decode cX8_candidates 2 = .ok (.invokevirtual 203, 3) := by decide +kernel
theorem dX8_candidates_5 : decode cX8_candidates 5 = .ok (.invokevirtual 207, 3) := by decide +kernel
theorem dX8_candidates_8 : decode cX8_candidates 8 = .ok (.ireturn, 1) := by decide +kernel
theorem dX8_candidate_0 : decode cX8_candidate 0 = .ok (.iload_n 1, 1) := by decide +kernel
theorem dX8_candidate_1 : decode cX8_candidate 1 = .ok (.ifCond .ge 7, 3) := by decide +kernel
theorem dX8_candidate_4 : decode cX8_candidate 4 = .ok (.sipush (-1001), 3) := by decide +kernel
theorem dX8_candidate_7 : decode cX8_candidate 7 = .ok (.ireturn, 1) := by decide +kernel
theorem dX8_candidate_8 : decode cX8_candidate 8 = .ok (.aload_n 0, 1) := by decide +kernel
theorem dX8_candidate_9 : decode cX8_candidate 9 = .ok (.iconst (-1), 1) := by decide +kernel
theorem dX8_candidate_10 : decode cX8_candidate 10 = .ok (.invokevirtual 203, 3) := by decide +kernel
theorem dX8_candidate_13 : decode cX8_candidate 13 = .ok (.iload_n 1, 1) := by decide +kernel
theorem dX8_candidate_14 : decode cX8_candidate 14 = .ok (.invokevirtual 211, 3) := by decide +kernel
theorem dX8_candidate_17 : decode cX8_candidate 17 = .ok (.ireturn, 1) := by decide +kernel
theorem dX8_nearest_0 : decode cX8_nearest 0 = .ok (.iload_n 1, 1) := by decide +kernel
theorem dX8_nearest_1 : decode cX8_nearest 1 = .ok (.sipush (-1000), 3) := by decide +kernel
theorem dX8_nearest_4 : decode cX8_nearest 4 = .ok (.sipush 1000, 3) := by decide +kernel
theorem dX8_nearest_7 : decode cX8_nearest 7 = .ok (.invokestatic 44, 3) := by decide +kernel
theorem dX8_nearest_10 : decode cX8_nearest 10 = .ok (.ifCond .ne 7, 3) := by decide +kernel
theorem dX8_nearest_13 : decode cX8_nearest 13 = .ok (.sipush (-1001), 3) := by decide +kernel
theorem dX8_nearest_16 : decode cX8_nearest 16 = .ok (.ireturn, 1) := by decide +kernel
theorem dX8_nearest_17 : decode cX8_nearest 17 = .ok (.aload_n 0, 1) := by decide +kernel
theorem dX8_nearest_18 : decode cX8_nearest 18 = .ok (.iconst (-1), 1) := by decide +kernel
theorem dX8_nearest_19 : decode cX8_nearest 19 = .ok (.invokevirtual 203, 3) := by decide +kernel
theorem dX8_nearest_22 : decode cX8_nearest 22 = .ok (.iload_n 1, 1) := by decide +kernel
theorem dX8_nearest_23 : decode cX8_nearest 23 = .ok (.invokevirtual 214, 3) := by decide +kernel
theorem dX8_nearest_26 : decode cX8_nearest 26 = .ok (.ireturn, 1) := by decide +kernel
theorem dX8_odd_0 : decode cX8_odd 0 = .ok (.aload_n 0, 1) := by decide +kernel
theorem dX8_odd_1 : decode cX8_odd 1 = .ok (.invokevirtual 217, 3) := by decide +kernel
theorem dX8_odd_4 : decode cX8_odd 4 = .ok (.ifCond .le 7, 3) := by decide +kernel
theorem dX8_odd_7 : decode cX8_odd 7 = .ok (.sipush (-1002), 3) := by decide +kernel
theorem dX8_odd_10 : decode cX8_odd 10 = .ok (.ireturn, 1) := by decide +kernel
theorem dX8_odd_11 : decode cX8_odd 11 = .ok (.iconst 0, 1) := by decide +kernel
theorem dX8_odd_12 : decode cX8_odd 12 = .ok (.istore_n 1, 1) := by decide +kernel
theorem dX8_odd_13 : decode cX8_odd 13 = .ok (.iload_n 1, 1) := by decide +kernel
theorem dX8_odd_14 : decode cX8_odd 14 = .ok (.aload_n 0, 1) := by decide +kernel
theorem dX8_odd_15 : decode cX8_odd 15 = .ok (.getfield 10, 3) := by decide +kernel
theorem dX8_odd_18 : decode cX8_odd 18 = .ok (.getfield 181, 3) := by decide +kernel
theorem dX8_odd_21 : decode cX8_odd 21 = .ok (.getfield 190, 3) := by decide +kernel
theorem dX8_odd_24 : decode cX8_odd 24 = .ok (.if_icmp .ge 22, 3) := by decide +kernel
theorem dX8_odd_27 : decode cX8_odd 27 = .ok (.aload_n 0, 1) := by decide +kernel
theorem dX8_odd_28 : decode cX8_odd 28 = .ok (.iload_n 1, 1) := by decide +kernel
theorem dX8_odd_29 : decode cX8_odd 29 = .ok (.invokevirtual 203, 3) := by decide +kernel
theorem dX8_odd_32 : decode cX8_odd 32 = .ok (.invokevirtual 207, 3) := by decide +kernel
theorem dX8_odd_35 : decode cX8_odd 35 = .ok (.ifCond .le 5, 3) := by decide +kernel
theorem dX8_odd_38 : decode cX8_odd 38 = .ok (.iload_n 1, 1) := by decide +kernel
theorem dX8_odd_39 : decode cX8_odd 39 = .ok (.ireturn, 1) := by decide +kernel
theorem dX8_odd_40 : decode cX8_odd 40 = .ok (.iinc 1 1, 3) := by decide +kernel
theorem dX8_odd_43 : decode cX8_odd 43 = .ok (.goto (-30), 3) := by decide +kernel
theorem dX8_odd_46 : decode cX8_odd 46 = .ok (.sipush (-1004), 3) := by decide +kernel
theorem dX8_odd_49 : decode cX8_odd 49 = .ok (.ireturn, 1) := by decide +kernel
theorem dX8_bestPeriod_0 : decode cX8_bestPeriod 0 = .ok (.iload_n 1, 1) := by decide +kernel
theorem dX8_bestPeriod_1 : decode cX8_bestPeriod 1 = .ok (.iconst 1, 1) := by decide +kernel
theorem dX8_bestPeriod_2 : decode cX8_bestPeriod 2 = .ok (.sipush 500, 3) := by decide +kernel
theorem dX8_bestPeriod_5 : decode cX8_bestPeriod 5 = .ok (.invokestatic 44, 3) := by decide +kernel
theorem dX8_bestPeriod_8 : decode cX8_bestPeriod 8 = .ok (.ifCond .ne 7, 3) := by decide +kernel
theorem dX8_bestPeriod_11 : decode cX8_bestPeriod 11 = .ok (.sipush (-1001), 3) := by decide +kernel
theorem dX8_bestPeriod_14 : decode cX8_bestPeriod 14 = .ok (.ireturn, 1) := by decide +kernel
theorem dX8_bestPeriod_15 : decode cX8_bestPeriod 15 = .ok (.aload_n 0, 1) := by decide +kernel
theorem dX8_bestPeriod_16 : decode cX8_bestPeriod 16 = .ok (.iconst (-1), 1) := by decide +kernel
theorem dX8_bestPeriod_17 : decode cX8_bestPeriod 17 = .ok (.invokevirtual 203, 3) := by decide +kernel
theorem dX8_bestPeriod_20 : decode cX8_bestPeriod 20 = .ok (.astore_n 3, 1) := by decide +kernel
theorem dX8_bestPeriod_21 : decode cX8_bestPeriod 21 = .ok (.aload_n 3, 1) := by decide +kernel
theorem dX8_bestPeriod_22 : decode cX8_bestPeriod 22 = .ok (.invokevirtual 207, 3) := by decide +kernel
theorem dX8_bestPeriod_25 : decode cX8_bestPeriod 25 = .ok (.ifCond .ne 7, 3) := by decide +kernel
theorem dX8_bestPeriod_28 : decode cX8_bestPeriod 28 = .ok (.sipush (-1004), 3) := by decide +kernel
theorem dX8_bestPeriod_31 : decode cX8_bestPeriod 31 = .ok (.ireturn, 1) := by decide +kernel
theorem dX8_bestPeriod_32 : decode cX8_bestPeriod 32 = .ok (.aload_n 3, 1) := by decide +kernel
theorem dX8_bestPeriod_33 : decode cX8_bestPeriod 33 = .ok (.invokevirtual 220, 3) := by decide +kernel
theorem dX8_bestPeriod_36 : decode cX8_bestPeriod 36 = .ok (.iconst 1, 1) := by decide +kernel
theorem dX8_bestPeriod_37 : decode cX8_bestPeriod 37 = .ok (.istore 4, 2) := by decide +kernel
theorem dX8_bestPeriod_39 : decode cX8_bestPeriod 39 = .ok (.aload_n 3, 1) := by decide +kernel
theorem dX8_bestPeriod_40 : decode cX8_bestPeriod 40 = .ok (.iconst 1, 1) := by decide +kernel
theorem dX8_bestPeriod_41 : decode cX8_bestPeriod 41 = .ok (.invokevirtual 223, 3) := by decide +kernel
theorem dX8_bestPeriod_44 : decode cX8_bestPeriod 44 = .ok (.istore 5, 2) := by decide +kernel
theorem dX8_bestPeriod_46 : decode cX8_bestPeriod 46 = .ok (.iconst 2, 1) := by decide +kernel
theorem dX8_bestPeriod_47 : decode cX8_bestPeriod 47 = .ok (.istore 6, 2) := by decide +kernel
theorem dX8_bestPeriod_49 : decode cX8_bestPeriod 49 = .ok (.iload 6, 2) := by decide +kernel
theorem dX8_bestPeriod_51 : decode cX8_bestPeriod 51 = .ok (.iload_n 1, 1) := by decide +kernel
theorem dX8_bestPeriod_52 : decode cX8_bestPeriod 52 = .ok (.if_icmp .gt 32, 3) := by decide +kernel
theorem dX8_bestPeriod_55 : decode cX8_bestPeriod 55 = .ok (.aload_n 3, 1) := by decide +kernel
theorem dX8_bestPeriod_56 : decode cX8_bestPeriod 56 = .ok (.iload 6, 2) := by decide +kernel
theorem dX8_bestPeriod_58 : decode cX8_bestPeriod 58 = .ok (.invokevirtual 223, 3) := by decide +kernel
theorem dX8_bestPeriod_61 : decode cX8_bestPeriod 61 = .ok (.istore 7, 2) := by decide +kernel
theorem dX8_bestPeriod_63 : decode cX8_bestPeriod 63 = .ok (.iload 7, 2) := by decide +kernel
theorem dX8_bestPeriod_65 : decode cX8_bestPeriod 65 = .ok (.iload 5, 2) := by decide +kernel
theorem dX8_bestPeriod_67 : decode cX8_bestPeriod 67 = .ok (.if_icmp .ge 11, 3) := by decide +kernel
theorem dX8_bestPeriod_70 : decode cX8_bestPeriod 70 = .ok (.iload 7, 2) := by decide +kernel
theorem dX8_bestPeriod_72 : decode cX8_bestPeriod 72 = .ok (.istore 5, 2) := by decide +kernel
theorem dX8_bestPeriod_74 : decode cX8_bestPeriod 74 = .ok (.iload 6, 2) := by decide +kernel
theorem dX8_bestPeriod_76 : decode cX8_bestPeriod 76 = .ok (.istore 4, 2) := by decide +kernel
theorem dX8_bestPeriod_78 : decode cX8_bestPeriod 78 = .ok (.iinc 6 1, 3) := by decide +kernel
theorem dX8_bestPeriod_81 : decode cX8_bestPeriod 81 = .ok (.goto (-32), 3) := by decide +kernel
theorem dX8_bestPeriod_84 : decode cX8_bestPeriod 84 = .ok (.iload_n 2, 1) := by decide +kernel
theorem dX8_bestPeriod_85 : decode cX8_bestPeriod 85 = .ok (.ifCond .eq 8, 3) := by decide +kernel
theorem dX8_bestPeriod_88 : decode cX8_bestPeriod 88 = .ok (.iload 5, 2) := by decide +kernel
theorem dX8_bestPeriod_90 : decode cX8_bestPeriod 90 = .ok (.goto 5, 3) := by decide +kernel
theorem dX8_bestPeriod_93 : decode cX8_bestPeriod 93 = .ok (.iload 4, 2) := by decide +kernel
theorem dX8_bestPeriod_95 : decode cX8_bestPeriod 95 = .ok (.ireturn, 1) := by decide +kernel
theorem dX8_count_0 : decode cX8_count 0 = .ok (.iload_n 1, 1) := by decide +kernel
theorem dX8_count_1 : decode cX8_count 1 = .ok (.tableswitch 279 0 17 #[87, 98, 109, 120, 131, 142, 153, 164, 175, 186, 197, 208, 219, 230, 241, 252, 263, 271], 87) := by decide +kernel
theorem dX8_count_88 : decode cX8_count 88 = .ok (.aload_n 0, 1) := by decide +kernel
theorem dX8_count_89 : decode cX8_count 89 = .ok (.getfield 10, 3) := by decide +kernel
theorem dX8_count_92 : decode cX8_count 92 = .ok (.getfield 67, 3) := by decide +kernel
theorem dX8_count_95 : decode cX8_count 95 = .ok (.getfield 74, 3) := by decide +kernel
theorem dX8_count_98 : decode cX8_count 98 = .ok (.ireturn, 1) := by decide +kernel
theorem dX8_count_99 : decode cX8_count 99 = .ok (.aload_n 0, 1) := by decide +kernel
theorem dX8_count_100 : decode cX8_count 100 = .ok (.getfield 10, 3) := by decide +kernel
theorem dX8_count_103 : decode cX8_count 103 = .ok (.getfield 67, 3) := by decide +kernel
theorem dX8_count_106 : decode cX8_count 106 = .ok (.invokevirtual 271, 3) := by decide +kernel
theorem dX8_count_109 : decode cX8_count 109 = .ok (.ireturn, 1) := by decide +kernel
theorem dX8_count_110 : decode cX8_count 110 = .ok (.aload_n 0, 1) := by decide +kernel
theorem dX8_count_111 : decode cX8_count 111 = .ok (.getfield 10, 3) := by decide +kernel
theorem dX8_count_114 : decode cX8_count 114 = .ok (.getfield 67, 3) := by decide +kernel
theorem dX8_count_117 : decode cX8_count 117 = .ok (.invokevirtual 156, 3) := by decide +kernel
theorem dX8_count_120 : decode cX8_count 120 = .ok (.ireturn, 1) := by decide +kernel
theorem dX8_count_121 : decode cX8_count 121 = .ok (.aload_n 0, 1) := by decide +kernel
theorem dX8_count_122 : decode cX8_count 122 = .ok (.getfield 10, 3) := by decide +kernel
theorem dX8_count_125 : decode cX8_count 125 = .ok (.getfield 67, 3) := by decide +kernel
theorem dX8_count_128 : decode cX8_count 128 = .ok (.getfield 96, 3) := by decide +kernel
theorem dX8_count_131 : decode cX8_count 131 = .ok (.ireturn, 1) := by decide +kernel
theorem dX8_count_132 : decode cX8_count 132 = .ok (.aload_n 0, 1) := by decide +kernel
theorem dX8_count_133 : decode cX8_count 133 = .ok (.getfield 10, 3) := by decide +kernel
theorem dX8_count_136 : decode cX8_count 136 = .ok (.getfield 67, 3) := by decide +kernel
theorem dX8_count_139 : decode cX8_count 139 = .ok (.getfield 169, 3) := by decide +kernel
theorem dX8_count_142 : decode cX8_count 142 = .ok (.ireturn, 1) := by decide +kernel
theorem dX8_count_143 : decode cX8_count 143 = .ok (.aload_n 0, 1) := by decide +kernel
theorem dX8_count_144 : decode cX8_count 144 = .ok (.getfield 10, 3) := by decide +kernel
theorem dX8_count_147 : decode cX8_count 147 = .ok (.getfield 67, 3) := by decide +kernel
theorem dX8_count_150 : decode cX8_count 150 = .ok (.getfield 109, 3) := by decide +kernel
theorem dX8_count_153 : decode cX8_count 153 = .ok (.ireturn, 1) := by decide +kernel
theorem dX8_count_154 : decode cX8_count 154 = .ok (.aload_n 0, 1) := by decide +kernel
theorem dX8_count_155 : decode cX8_count 155 = .ok (.getfield 10, 3) := by decide +kernel
theorem dX8_count_158 : decode cX8_count 158 = .ok (.getfield 125, 3) := by decide +kernel
theorem dX8_count_161 : decode cX8_count 161 = .ok (.getfield 129, 3) := by decide +kernel
theorem dX8_count_164 : decode cX8_count 164 = .ok (.ireturn, 1) := by decide +kernel
theorem dX8_count_165 : decode cX8_count 165 = .ok (.aload_n 0, 1) := by decide +kernel
theorem dX8_count_166 : decode cX8_count 166 = .ok (.getfield 10, 3) := by decide +kernel
theorem dX8_count_169 : decode cX8_count 169 = .ok (.getfield 125, 3) := by decide +kernel
theorem dX8_count_172 : decode cX8_count 172 = .ok (.getfield 134, 3) := by decide +kernel
theorem dX8_count_175 : decode cX8_count 175 = .ok (.ireturn, 1) := by decide +kernel
theorem dX8_count_176 : decode cX8_count 176 = .ok (.aload_n 0, 1) := by decide +kernel
theorem dX8_count_177 : decode cX8_count 177 = .ok (.getfield 10, 3) := by decide +kernel
theorem dX8_count_180 : decode cX8_count 180 = .ok (.getfield 125, 3) := by decide +kernel
theorem dX8_count_183 : decode cX8_count 183 = .ok (.invokevirtual 137, 3) := by decide +kernel
theorem dX8_count_186 : decode cX8_count 186 = .ok (.ireturn, 1) := by decide +kernel
theorem dX8_count_187 : decode cX8_count 187 = .ok (.aload_n 0, 1) := by decide +kernel
theorem dX8_count_188 : decode cX8_count 188 = .ok (.getfield 10, 3) := by decide +kernel
theorem dX8_count_191 : decode cX8_count 191 = .ok (.getfield 181, 3) := by decide +kernel
theorem dX8_count_194 : decode cX8_count 194 = .ok (.getfield 190, 3) := by decide +kernel
theorem dX8_count_197 : decode cX8_count 197 = .ok (.ireturn, 1) := by decide +kernel
theorem dX8_count_198 : decode cX8_count 198 = .ok (.aload_n 0, 1) := by decide +kernel
theorem dX8_count_199 : decode cX8_count 199 = .ok (.getfield 10, 3) := by decide +kernel
theorem dX8_count_202 : decode cX8_count 202 = .ok (.getfield 181, 3) := by decide +kernel
theorem dX8_count_205 : decode cX8_count 205 = .ok (.getfield 208, 3) := by decide +kernel
theorem dX8_count_208 : decode cX8_count 208 = .ok (.ireturn, 1) := by decide +kernel
theorem dX8_count_209 : decode cX8_count 209 = .ok (.aload_n 0, 1) := by decide +kernel
theorem dX8_count_210 : decode cX8_count 210 = .ok (.getfield 10, 3) := by decide +kernel
theorem dX8_count_213 : decode cX8_count 213 = .ok (.getfield 226, 3) := by decide +kernel
theorem dX8_count_216 : decode cX8_count 216 = .ok (.getfield 230, 3) := by decide +kernel
theorem dX8_count_219 : decode cX8_count 219 = .ok (.ireturn, 1) := by decide +kernel
theorem dX8_count_220 : decode cX8_count 220 = .ok (.aload_n 0, 1) := by decide +kernel
theorem dX8_count_221 : decode cX8_count 221 = .ok (.getfield 10, 3) := by decide +kernel
theorem dX8_count_224 : decode cX8_count 224 = .ok (.getfield 226, 3) := by decide +kernel
theorem dX8_count_227 : decode cX8_count 227 = .ok (.getfield 233, 3) := by decide +kernel
theorem dX8_count_230 : decode cX8_count 230 = .ok (.ireturn, 1) := by decide +kernel
theorem dX8_count_231 : decode cX8_count 231 = .ok (.aload_n 0, 1) := by decide +kernel
theorem dX8_count_232 : decode cX8_count 232 = .ok (.getfield 10, 3) := by decide +kernel
theorem dX8_count_235 : decode cX8_count 235 = .ok (.getfield 226, 3) := by decide +kernel
theorem dX8_count_238 : decode cX8_count 238 = .ok (.getfield 242, 3) := by decide +kernel
theorem dX8_count_241 : decode cX8_count 241 = .ok (.ireturn, 1) := by decide +kernel
theorem dX8_count_242 : decode cX8_count 242 = .ok (.aload_n 0, 1) := by decide +kernel
theorem dX8_count_243 : decode cX8_count 243 = .ok (.getfield 10, 3) := by decide +kernel
theorem dX8_count_246 : decode cX8_count 246 = .ok (.getfield 226, 3) := by decide +kernel
theorem dX8_count_249 : decode cX8_count 249 = .ok (.getfield 241, 3) := by decide +kernel
theorem dX8_count_252 : decode cX8_count 252 = .ok (.ireturn, 1) := by decide +kernel
theorem dX8_count_253 : decode cX8_count 253 = .ok (.aload_n 0, 1) := by decide +kernel
theorem dX8_count_254 : decode cX8_count 254 = .ok (.getfield 10, 3) := by decide +kernel
theorem dX8_count_257 : decode cX8_count 257 = .ok (.getfield 226, 3) := by decide +kernel
theorem dX8_count_260 : decode cX8_count 260 = .ok (.invokevirtual 274, 3) := by decide +kernel
theorem dX8_count_263 : decode cX8_count 263 = .ok (.ireturn, 1) := by decide +kernel
theorem dX8_count_264 : decode cX8_count 264 = .ok (.aload_n 0, 1) := by decide +kernel
theorem dX8_count_265 : decode cX8_count 265 = .ok (.getfield 26, 3) := by decide +kernel
theorem dX8_count_268 : decode cX8_count 268 = .ok (.getfield 48, 3) := by decide +kernel
theorem dX8_count_271 : decode cX8_count 271 = .ok (.ireturn, 1) := by decide +kernel
theorem dX8_count_272 : decode cX8_count 272 = .ok (.aload_n 0, 1) := by decide +kernel
theorem dX8_count_273 : decode cX8_count 273 = .ok (.getfield 19, 3) := by decide +kernel
theorem dX8_count_276 : decode cX8_count 276 = .ok (.getfield 267, 3) := by decide +kernel
theorem dX8_count_279 : decode cX8_count 279 = .ok (.ireturn, 1) := by decide +kernel
theorem dX8_count_280 : decode cX8_count 280 = .ok (.sipush (-1001), 3) := by decide +kernel
theorem dX8_count_283 : decode cX8_count 283 = .ok (.ireturn, 1) := by decide +kernel
theorem dX8_addReading_0 : decode cX8_addReading 0 = .ok (.aload_n 0, 1) := by decide +kernel
theorem dX8_addReading_1 : decode cX8_addReading 1 = .ok (.getfield 10, 3) := by decide +kernel
theorem dX8_addReading_4 : decode cX8_addReading 4 = .ok (.getfield 181, 3) := by decide +kernel
theorem dX8_addReading_7 : decode cX8_addReading 7 = .ok (.getfield 190, 3) := by decide +kernel
theorem dX8_addReading_10 : decode cX8_addReading 10 = .ok (.bipush 8, 2) := by decide +kernel
theorem dX8_addReading_12 : decode cX8_addReading 12 = .ok (.if_icmp .lt 7, 3) := by decide +kernel
theorem dX8_addReading_15 : decode cX8_addReading 15 = .ok (.sipush (-1003), 3) := by decide +kernel
theorem dX8_addReading_18 : decode cX8_addReading 18 = .ok (.ireturn, 1) := by decide +kernel
theorem dX8_addReading_19 : decode cX8_addReading 19 = .ok (.aload_n 0, 1) := by decide +kernel
theorem dX8_addReading_20 : decode cX8_addReading 20 = .ok (.getfield 19, 3) := by decide +kernel
theorem dX8_addReading_23 : decode cX8_addReading 23 = .ok (.aload_n 0, 1) := by decide +kernel
theorem dX8_addReading_24 : decode cX8_addReading 24 = .ok (.getfield 10, 3) := by decide +kernel
theorem dX8_addReading_27 : decode cX8_addReading 27 = .ok (.invokevirtual 63, 3) := by decide +kernel
theorem dX8_addReading_30 : decode cX8_addReading 30 = .ok (.aload_n 0, 1) := by decide +kernel
theorem dX8_addReading_31 : decode cX8_addReading 31 = .ok (.getfield 10, 3) := by decide +kernel
theorem dX8_addReading_34 : decode cX8_addReading 34 = .ok (.getfield 181, 3) := by decide +kernel
theorem dX8_addReading_37 : decode cX8_addReading 37 = .ok (.iload_n 1, 1) := by decide +kernel
theorem dX8_addReading_38 : decode cX8_addReading 38 = .ok (.iload_n 2, 1) := by decide +kernel
theorem dX8_addReading_39 : decode cX8_addReading 39 = .ok (.invokevirtual 319, 3) := by decide +kernel
theorem dX8_addReading_42 : decode cX8_addReading 42 = .ok (.aload_n 0, 1) := by decide +kernel
theorem dX8_addReading_43 : decode cX8_addReading 43 = .ok (.getfield 10, 3) := by decide +kernel
theorem dX8_addReading_46 : decode cX8_addReading 46 = .ok (.getfield 181, 3) := by decide +kernel
theorem dX8_addReading_49 : decode cX8_addReading 49 = .ok (.getfield 190, 3) := by decide +kernel
theorem dX8_addReading_52 : decode cX8_addReading 52 = .ok (.iconst 1, 1) := by decide +kernel
theorem dX8_addReading_53 : decode cX8_addReading 53 = .ok (.isub, 1) := by decide +kernel
theorem dX8_addReading_54 : decode cX8_addReading 54 = .ok (.ireturn, 1) := by decide +kernel
theorem dX8_findWithout_0 : decode cX8_findWithout 0 = .ok (.aload_n 0, 1) := by decide +kernel
theorem dX8_findWithout_1 : decode cX8_findWithout 1 = .ok (.getfield 40, 3) := by decide +kernel
theorem dX8_findWithout_4 : decode cX8_findWithout 4 = .ok (.aload_n 0, 1) := by decide +kernel
theorem dX8_findWithout_5 : decode cX8_findWithout 5 = .ok (.getfield 10, 3) := by decide +kernel
theorem dX8_findWithout_8 : decode cX8_findWithout 8 = .ok (.getfield 67, 3) := by decide +kernel
theorem dX8_findWithout_11 : decode cX8_findWithout 11 = .ok (.invokevirtual 156, 3) := by decide +kernel
theorem dX8_findWithout_14 : decode cX8_findWithout 14 = .ok (.aload_n 0, 1) := by decide +kernel
theorem dX8_findWithout_15 : decode cX8_findWithout 15 = .ok (.getfield 10, 3) := by decide +kernel
theorem dX8_findWithout_18 : decode cX8_findWithout 18 = .ok (.getfield 181, 3) := by decide +kernel
theorem dX8_findWithout_21 : decode cX8_findWithout 21 = .ok (.iload_n 1, 1) := by decide +kernel
theorem dX8_findWithout_22 : decode cX8_findWithout 22 = .ok (.invokevirtual 322, 3) := by decide +kernel
theorem dX8_findWithout_25 : decode cX8_findWithout 25 = .ok (.aload_n 0, 1) := by decide +kernel
theorem dX8_findWithout_26 : decode cX8_findWithout 26 = .ok (.getfield 40, 3) := by decide +kernel
theorem dX8_findWithout_29 : decode cX8_findWithout 29 = .ok (.areturn, 1) := by decide +kernel
theorem dX8_isPlace_0 : decode cX8_isPlace 0 = .ok (.iload_n 1, 1) := by decide +kernel
theorem dX8_isPlace_1 : decode cX8_isPlace 1 = .ok (.iconst 0, 1) := by decide +kernel
theorem dX8_isPlace_2 : decode cX8_isPlace 2 = .ok (.aload_n 0, 1) := by decide +kernel
theorem dX8_isPlace_3 : decode cX8_isPlace 3 = .ok (.getfield 10, 3) := by decide +kernel
theorem dX8_isPlace_6 : decode cX8_isPlace 6 = .ok (.getfield 67, 3) := by decide +kernel
theorem dX8_isPlace_9 : decode cX8_isPlace 9 = .ok (.getfield 74, 3) := by decide +kernel
theorem dX8_isPlace_12 : decode cX8_isPlace 12 = .ok (.iconst 1, 1) := by decide +kernel
theorem dX8_isPlace_13 : decode cX8_isPlace 13 = .ok (.isub, 1) := by decide +kernel
theorem dX8_isPlace_14 : decode cX8_isPlace 14 = .ok (.invokestatic 44, 3) := by decide +kernel
theorem dX8_isPlace_17 : decode cX8_isPlace 17 = .ok (.ireturn, 1) := by decide +kernel
theorem dX8_isFlash_0 : decode cX8_isFlash 0 = .ok (.iload_n 1, 1) := by decide +kernel
theorem dX8_isFlash_1 : decode cX8_isFlash 1 = .ok (.iconst 0, 1) := by decide +kernel
theorem dX8_isFlash_2 : decode cX8_isFlash 2 = .ok (.aload_n 0, 1) := by decide +kernel
theorem dX8_isFlash_3 : decode cX8_isFlash 3 = .ok (.getfield 10, 3) := by decide +kernel
theorem dX8_isFlash_6 : decode cX8_isFlash 6 = .ok (.getfield 125, 3) := by decide +kernel
theorem dX8_isFlash_9 : decode cX8_isFlash 9 = .ok (.invokevirtual 137, 3) := by decide +kernel
theorem dX8_isFlash_12 : decode cX8_isFlash 12 = .ok (.iconst 1, 1) := by decide +kernel
theorem dX8_isFlash_13 : decode cX8_isFlash 13 = .ok (.isub, 1) := by decide +kernel
theorem dX8_isFlash_14 : decode cX8_isFlash 14 = .ok (.invokestatic 44, 3) := by decide +kernel
theorem dX8_isFlash_17 : decode cX8_isFlash 17 = .ok (.ireturn, 1) := by decide +kernel
theorem dX8_isReading_0 : decode cX8_isReading 0 = .ok (.iload_n 1, 1) := by decide +kernel
theorem dX8_isReading_1 : decode cX8_isReading 1 = .ok (.iconst 0, 1) := by decide +kernel
theorem dX8_isReading_2 : decode cX8_isReading 2 = .ok (.aload_n 0, 1) := by decide +kernel
theorem dX8_isReading_3 : decode cX8_isReading 3 = .ok (.getfield 10, 3) := by decide +kernel
theorem dX8_isReading_6 : decode cX8_isReading 6 = .ok (.getfield 181, 3) := by decide +kernel
theorem dX8_isReading_9 : decode cX8_isReading 9 = .ok (.getfield 190, 3) := by decide +kernel
theorem dX8_isReading_12 : decode cX8_isReading 12 = .ok (.iconst 1, 1) := by decide +kernel
theorem dX8_isReading_13 : decode cX8_isReading 13 = .ok (.isub, 1) := by decide +kernel
theorem dX8_isReading_14 : decode cX8_isReading 14 = .ok (.invokestatic 44, 3) := by decide +kernel
theorem dX8_isReading_17 : decode cX8_isReading 17 = .ok (.ireturn, 1) := by decide +kernel
theorem dX8_isTick_0 : decode cX8_isTick 0 = .ok (.iload_n 0, 1) := by decide +kernel
theorem dX8_isTick_1 : decode cX8_isTick 1 = .ok (.iconst 0, 1) := by decide +kernel
theorem dX8_isTick_2 : decode cX8_isTick 2 = .ok (.sipush 1000, 3) := by decide +kernel
theorem dX8_isTick_5 : decode cX8_isTick 5 = .ok (.invokestatic 44, 3) := by decide +kernel
theorem dX8_isTick_8 : decode cX8_isTick 8 = .ok (.ireturn, 1) := by decide +kernel
theorem dX8_within_0 : decode cX8_within 0 = .ok (.iload_n 0, 1) := by decide +kernel
theorem dX8_within_1 : decode cX8_within 1 = .ok (.iload_n 1, 1) := by decide +kernel
theorem dX8_within_2 : decode cX8_within 2 = .ok (.if_icmp .lt 12, 3) := by decide +kernel
theorem dX8_within_5 : decode cX8_within 5 = .ok (.iload_n 0, 1) := by decide +kernel
theorem dX8_within_6 : decode cX8_within 6 = .ok (.iload_n 2, 1) := by decide +kernel
theorem dX8_within_7 : decode cX8_within 7 = .ok (.if_icmp .gt 7, 3) := by decide +kernel
theorem dX8_within_10 : decode cX8_within 10 = .ok (.iconst 1, 1) := by decide +kernel
theorem dX8_within_11 : decode cX8_within 11 = .ok (.goto 4, 3) := by decide +kernel
theorem dX8_within_14 : decode cX8_within 14 = .ok (.iconst 0, 1) := by decide +kernel
theorem dX8_within_15 : decode cX8_within 15 = .ok (.ireturn, 1) := by decide +kernel
theorem dX8_mod_0 : decode cX8_mod 0 = .ok (.iload_n 1, 1) := by decide +kernel
theorem dX8_mod_1 : decode cX8_mod 1 = .ok (.ifCond .gt 5, 3) := by decide +kernel
theorem dX8_mod_4 : decode cX8_mod 4 = .ok (.iconst 0, 1) := by decide +kernel
theorem dX8_mod_5 : decode cX8_mod 5 = .ok (.ireturn, 1) := by decide +kernel
theorem dX8_mod_6 : decode cX8_mod 6 = .ok (.iload_n 0, 1) := by decide +kernel
theorem dX8_mod_7 : decode cX8_mod 7 = .ok (.iload_n 1, 1) := by decide +kernel
theorem dX8_mod_8 : decode cX8_mod 8 = .ok (.irem, 1) := by decide +kernel
theorem dX8_mod_9 : decode cX8_mod 9 = .ok (.istore_n 2, 1) := by decide +kernel
theorem dX8_mod_10 : decode cX8_mod 10 = .ok (.iload_n 2, 1) := by decide +kernel
theorem dX8_mod_11 : decode cX8_mod 11 = .ok (.ifCond .ge 9, 3) := by decide +kernel
theorem dX8_mod_14 : decode cX8_mod 14 = .ok (.iload_n 2, 1) := by decide +kernel
theorem dX8_mod_15 : decode cX8_mod 15 = .ok (.iload_n 1, 1) := by decide +kernel
theorem dX8_mod_16 : decode cX8_mod 16 = .ok (.iadd, 1) := by decide +kernel
theorem dX8_mod_17 : decode cX8_mod 17 = .ok (.goto 4, 3) := by decide +kernel
theorem dX8_mod_20 : decode cX8_mod 20 = .ok (.iload_n 2, 1) := by decide +kernel
theorem dX8_mod_21 : decode cX8_mod 21 = .ok (.ireturn, 1) := by decide +kernel
theorem dX8_hasBit_0 : decode cX8_hasBit 0 = .ok (.lload_n 0, 1) := by decide +kernel
theorem dX8_hasBit_1 : decode cX8_hasBit 1 = .ok (.iload_n 2, 1) := by decide +kernel
theorem dX8_hasBit_2 : decode cX8_hasBit 2 = .ok (.lushr, 1) := by decide +kernel
theorem dX8_hasBit_3 : decode cX8_hasBit 3 = .ok (.lconst 1, 1) := by decide +kernel
theorem dX8_hasBit_4 : decode cX8_hasBit 4 = .ok (.land, 1) := by decide +kernel
theorem dX8_hasBit_5 : decode cX8_hasBit 5 = .ok (.lconst 1, 1) := by decide +kernel
theorem dX8_hasBit_6 : decode cX8_hasBit 6 = .ok (.lcmp, 1) := by decide +kernel
theorem dX8_hasBit_7 : decode cX8_hasBit 7 = .ok (.ifCond .ne 7, 3) := by decide +kernel
theorem dX8_hasBit_10 : decode cX8_hasBit 10 = .ok (.iconst 1, 1) := by decide +kernel
theorem dX8_hasBit_11 : decode cX8_hasBit 11 = .ok (.goto 4, 3) := by decide +kernel
theorem dX8_hasBit_14 : decode cX8_hasBit 14 = .ok (.iconst 0, 1) := by decide +kernel
theorem dX8_hasBit_15 : decode cX8_hasBit 15 = .ok (.ireturn, 1) := by decide +kernel
theorem dX8_at_0 : decode cX8_at 0 = .ok (.iload_n 1, 1) := by decide +kernel
theorem dX8_at_1 : decode cX8_at 1 = .ok (.ifCond .lt 15, 3) := by decide +kernel
theorem dX8_at_4 : decode cX8_at 4 = .ok (.iload_n 1, 1) := by decide +kernel
theorem dX8_at_5 : decode cX8_at 5 = .ok (.aload_n 0, 1) := by decide +kernel
theorem dX8_at_6 : decode cX8_at 6 = .ok (.arraylength, 1) := by decide +kernel
theorem dX8_at_7 : decode cX8_at 7 = .ok (.if_icmp .ge 9, 3) := by decide +kernel
theorem dX8_at_10 : decode cX8_at 10 = .ok (.aload_n 0, 1) := by decide +kernel
theorem dX8_at_11 : decode cX8_at 11 = .ok (.iload_n 1, 1) := by decide +kernel
theorem dX8_at_12 : decode cX8_at 12 = .ok (.iaload, 1) := by decide +kernel
theorem dX8_at_13 : decode cX8_at 13 = .ok (.goto 4, 3) := by decide +kernel
theorem dX8_at_16 : decode cX8_at 16 = .ok (.iconst 0, 1) := by decide +kernel
theorem dX8_at_17 : decode cX8_at 17 = .ok (.ireturn, 1) := by decide +kernel
theorem dX8_put_0 : decode cX8_put 0 = .ok (.iload_n 1, 1) := by decide +kernel
theorem dX8_put_1 : decode cX8_put 1 = .ok (.ifCond .lt 13, 3) := by decide +kernel
theorem dX8_put_4 : decode cX8_put 4 = .ok (.iload_n 1, 1) := by decide +kernel
theorem dX8_put_5 : decode cX8_put 5 = .ok (.aload_n 0, 1) := by decide +kernel
theorem dX8_put_6 : decode cX8_put 6 = .ok (.arraylength, 1) := by decide +kernel
theorem dX8_put_7 : decode cX8_put 7 = .ok (.if_icmp .ge 7, 3) := by decide +kernel
theorem dX8_put_10 : decode cX8_put 10 = .ok (.aload_n 0, 1) := by decide +kernel
theorem dX8_put_11 : decode cX8_put 11 = .ok (.iload_n 1, 1) := by decide +kernel
theorem dX8_put_12 : decode cX8_put 12 = .ok (.iload_n 2, 1) := by decide +kernel
theorem dX8_put_13 : decode cX8_put 13 = .ok (.iastore, 1) := by decide +kernel
theorem dX8_put_14 : decode cX8_put 14 = .ok (.return_, 1) := by decide +kernel
theorem dX8_copyRow_0 : decode cX8_copyRow 0 = .ok (.iconst 0, 1) := by decide +kernel
theorem dX8_copyRow_1 : decode cX8_copyRow 1 = .ok (.istore_n 2, 1) := by decide +kernel
theorem dX8_copyRow_2 : decode cX8_copyRow 2 = .ok (.iload_n 2, 1) := by decide +kernel
theorem dX8_copyRow_3 : decode cX8_copyRow 3 = .ok (.aload_n 0, 1) := by decide +kernel
theorem dX8_copyRow_4 : decode cX8_copyRow 4 = .ok (.arraylength, 1) := by decide +kernel
theorem dX8_copyRow_5 : decode cX8_copyRow 5 = .ok (.if_icmp .ge 21, 3) := by decide +kernel
theorem dX8_copyRow_8 : decode cX8_copyRow 8 = .ok (.iload_n 2, 1) := by decide +kernel
theorem dX8_copyRow_9 : decode cX8_copyRow 9 = .ok (.aload_n 1, 1) := by decide +kernel
theorem dX8_copyRow_10 : decode cX8_copyRow 10 = .ok (.arraylength, 1) := by decide +kernel
theorem dX8_copyRow_11 : decode cX8_copyRow 11 = .ok (.if_icmp .ge 15, 3) := by decide +kernel
theorem dX8_copyRow_14 : decode cX8_copyRow 14 = .ok (.aload_n 1, 1) := by decide +kernel
theorem dX8_copyRow_15 : decode cX8_copyRow 15 = .ok (.iload_n 2, 1) := by decide +kernel
theorem dX8_copyRow_16 : decode cX8_copyRow 16 = .ok (.aload_n 0, 1) := by decide +kernel
theorem dX8_copyRow_17 : decode cX8_copyRow 17 = .ok (.iload_n 2, 1) := by decide +kernel
theorem dX8_copyRow_18 : decode cX8_copyRow 18 = .ok (.iaload, 1) := by decide +kernel
theorem dX8_copyRow_19 : decode cX8_copyRow 19 = .ok (.iastore, 1) := by decide +kernel
theorem dX8_copyRow_20 : decode cX8_copyRow 20 = .ok (.iinc 2 1, 3) := by decide +kernel
theorem dX8_copyRow_23 : decode cX8_copyRow 23 = .ok (.goto (-21), 3) := by decide +kernel
theorem dX8_copyRow_26 : decode cX8_copyRow 26 = .ok (.return_, 1) := by decide +kernel
theorem dJ13_bitCount_95d88_0 : decode cJ13_bitCount_95d88 0 = .ok (.lload_n 0, 1) := by decide +kernel
theorem dJ13_bitCount_95d88_1 : decode cJ13_bitCount_95d88 1 = .ok (.lload_n 0, 1) := by decide +kernel
theorem dJ13_bitCount_95d88_2 : decode cJ13_bitCount_95d88 2 = .ok (.iconst 1, 1) := by decide +kernel
theorem dJ13_bitCount_95d88_3 : decode cJ13_bitCount_95d88 3 = .ok (.lushr, 1) := by decide +kernel
theorem dJ13_bitCount_95d88_4 : decode cJ13_bitCount_95d88 4 = .ok (.ldc2_w 314, 3) := by decide +kernel
theorem dJ13_bitCount_95d88_7 : decode cJ13_bitCount_95d88 7 = .ok (.land, 1) := by decide +kernel
theorem dJ13_bitCount_95d88_8 : decode cJ13_bitCount_95d88 8 = .ok (.lsub, 1) := by decide +kernel
theorem dJ13_bitCount_95d88_9 : decode cJ13_bitCount_95d88 9 = .ok (.lstore_n 0, 1) := by decide +kernel
theorem dJ13_bitCount_95d88_10 : decode cJ13_bitCount_95d88 10 = .ok (.lload_n 0, 1) := by decide +kernel
theorem dJ13_bitCount_95d88_11 : decode cJ13_bitCount_95d88 11 = .ok (.ldc2_w 316, 3) := by decide +kernel
theorem dJ13_bitCount_95d88_14 : decode cJ13_bitCount_95d88 14 = .ok (.land, 1) := by decide +kernel
theorem dJ13_bitCount_95d88_15 : decode cJ13_bitCount_95d88 15 = .ok (.lload_n 0, 1) := by decide +kernel
theorem dJ13_bitCount_95d88_16 : decode cJ13_bitCount_95d88 16 = .ok (.iconst 2, 1) := by decide +kernel
theorem dJ13_bitCount_95d88_17 : decode cJ13_bitCount_95d88 17 = .ok (.lushr, 1) := by decide +kernel
theorem dJ13_bitCount_95d88_18 : decode cJ13_bitCount_95d88 18 = .ok (.ldc2_w 316, 3) := by decide +kernel
theorem dJ13_bitCount_95d88_21 : decode cJ13_bitCount_95d88 21 = .ok (.land, 1) := by decide +kernel
theorem dJ13_bitCount_95d88_22 : decode cJ13_bitCount_95d88 22 = .ok (.ladd, 1) := by decide +kernel
theorem dJ13_bitCount_95d88_23 : decode cJ13_bitCount_95d88 23 = .ok (.lstore_n 0, 1) := by decide +kernel
theorem dJ13_bitCount_95d88_24 : decode cJ13_bitCount_95d88 24 = .ok (.lload_n 0, 1) := by decide +kernel
theorem dJ13_bitCount_95d88_25 : decode cJ13_bitCount_95d88 25 = .ok (.lload_n 0, 1) := by decide +kernel
theorem dJ13_bitCount_95d88_26 : decode cJ13_bitCount_95d88 26 = .ok (.iconst 4, 1) := by decide +kernel
theorem dJ13_bitCount_95d88_27 : decode cJ13_bitCount_95d88 27 = .ok (.lushr, 1) := by decide +kernel
theorem dJ13_bitCount_95d88_28 : decode cJ13_bitCount_95d88 28 = .ok (.ladd, 1) := by decide +kernel
theorem dJ13_bitCount_95d88_29 : decode cJ13_bitCount_95d88 29 = .ok (.ldc2_w 318, 3) := by decide +kernel
theorem dJ13_bitCount_95d88_32 : decode cJ13_bitCount_95d88 32 = .ok (.land, 1) := by decide +kernel
theorem dJ13_bitCount_95d88_33 : decode cJ13_bitCount_95d88 33 = .ok (.lstore_n 0, 1) := by decide +kernel
theorem dJ13_bitCount_95d88_34 : decode cJ13_bitCount_95d88 34 = .ok (.lload_n 0, 1) := by decide +kernel
theorem dJ13_bitCount_95d88_35 : decode cJ13_bitCount_95d88 35 = .ok (.lload_n 0, 1) := by decide +kernel
theorem dJ13_bitCount_95d88_36 : decode cJ13_bitCount_95d88 36 = .ok (.bipush 8, 2) := by decide +kernel
theorem dJ13_bitCount_95d88_38 : decode cJ13_bitCount_95d88 38 = .ok (.lushr, 1) := by decide +kernel
theorem dJ13_bitCount_95d88_39 : decode cJ13_bitCount_95d88 39 = .ok (.ladd, 1) := by decide +kernel
theorem dJ13_bitCount_95d88_40 : decode cJ13_bitCount_95d88 40 = .ok (.lstore_n 0, 1) := by decide +kernel
theorem dJ13_bitCount_95d88_41 : decode cJ13_bitCount_95d88 41 = .ok (.lload_n 0, 1) := by decide +kernel
theorem dJ13_bitCount_95d88_42 : decode cJ13_bitCount_95d88 42 = .ok (.lload_n 0, 1) := by decide +kernel
theorem dJ13_bitCount_95d88_43 : decode cJ13_bitCount_95d88 43 = .ok (.bipush 16, 2) := by decide +kernel
theorem dJ13_bitCount_95d88_45 : decode cJ13_bitCount_95d88 45 = .ok (.lushr, 1) := by decide +kernel
theorem dJ13_bitCount_95d88_46 : decode cJ13_bitCount_95d88 46 = .ok (.ladd, 1) := by decide +kernel
theorem dJ13_bitCount_95d88_47 : decode cJ13_bitCount_95d88 47 = .ok (.lstore_n 0, 1) := by decide +kernel
theorem dJ13_bitCount_95d88_48 : decode cJ13_bitCount_95d88 48 = .ok (.lload_n 0, 1) := by decide +kernel
theorem dJ13_bitCount_95d88_49 : decode cJ13_bitCount_95d88 49 = .ok (.lload_n 0, 1) := by decide +kernel
theorem dJ13_bitCount_95d88_50 : decode cJ13_bitCount_95d88 50 = .ok (.bipush 32, 2) := by decide +kernel
theorem dJ13_bitCount_95d88_52 : decode cJ13_bitCount_95d88 52 = .ok (.lushr, 1) := by decide +kernel
theorem dJ13_bitCount_95d88_53 : decode cJ13_bitCount_95d88 53 = .ok (.ladd, 1) := by decide +kernel
theorem dJ13_bitCount_95d88_54 : decode cJ13_bitCount_95d88 54 = .ok (.lstore_n 0, 1) := by decide +kernel
theorem dJ13_bitCount_95d88_55 : decode cJ13_bitCount_95d88 55 = .ok (.lload_n 0, 1) := by decide +kernel
theorem dJ13_bitCount_95d88_56 : decode cJ13_bitCount_95d88 56 = .ok (.l2i, 1) := by decide +kernel
theorem dJ13_bitCount_95d88_57 : decode cJ13_bitCount_95d88 57 = .ok (.bipush 127, 2) := by decide +kernel
theorem dJ13_bitCount_95d88_59 : decode cJ13_bitCount_95d88 59 = .ok (.iand, 1) := by decide +kernel
theorem dJ13_bitCount_95d88_60 : decode cJ13_bitCount_95d88 60 = .ok (.ireturn, 1) := by decide +kernel
theorem dJ9_abs_0f7a4_0 : decode cJ9_abs_0f7a4 0 = .ok (.iload_n 0, 1) := by decide +kernel
theorem dJ9_abs_0f7a4_1 : decode cJ9_abs_0f7a4 1 = .ok (.ifCond .ge 8, 3) := by decide +kernel
theorem dJ9_abs_0f7a4_4 : decode cJ9_abs_0f7a4 4 = .ok (.iload_n 0, 1) := by decide +kernel
theorem dJ9_abs_0f7a4_5 : decode cJ9_abs_0f7a4 5 = .ok (.ineg, 1) := by decide +kernel
theorem dJ9_abs_0f7a4_6 : decode cJ9_abs_0f7a4 6 = .ok (.goto 4, 3) := by decide +kernel
theorem dJ9_abs_0f7a4_9 : decode cJ9_abs_0f7a4 9 = .ok (.iload_n 0, 1) := by decide +kernel
theorem dJ9_abs_0f7a4_10 : decode cJ9_abs_0f7a4 10 = .ok (.ireturn, 1) := by decide +kernel
theorem dJ9_max_7cf53_0 : decode cJ9_max_7cf53 0 = .ok (.iload_n 0, 1) := by decide +kernel
theorem dJ9_max_7cf53_1 : decode cJ9_max_7cf53 1 = .ok (.iload_n 1, 1) := by decide +kernel
theorem dJ9_max_7cf53_2 : decode cJ9_max_7cf53 2 = .ok (.if_icmp .lt 7, 3) := by decide +kernel
theorem dJ9_max_7cf53_5 : decode cJ9_max_7cf53 5 = .ok (.iload_n 0, 1) := by decide +kernel
theorem dJ9_max_7cf53_6 : decode cJ9_max_7cf53 6 = .ok (.goto 4, 3) := by decide +kernel
theorem dJ9_max_7cf53_9 : decode cJ9_max_7cf53 9 = .ok (.iload_n 1, 1) := by decide +kernel
theorem dJ9_max_7cf53_10 : decode cJ9_max_7cf53 10 = .ok (.ireturn, 1) := by decide +kernel
theorem dL_cell_0 : decode cL_cell 0 = .ok (.iload_n 1, 1) := by decide +kernel
theorem dL_cell_1 : decode cL_cell 1 = .ok (.aload_n 0, 1) := by decide +kernel
theorem dL_cell_2 : decode cL_cell 2 = .ok (.arraylength, 1) := by decide +kernel
theorem dL_cell_3 : decode cL_cell 3 = .ok (.if_icmp .ge 9, 3) := by decide +kernel
theorem dL_cell_6 : decode cL_cell 6 = .ok (.aload_n 0, 1) := by decide +kernel
theorem dL_cell_7 : decode cL_cell 7 = .ok (.iload_n 1, 1) := by decide +kernel
theorem dL_cell_8 : decode cL_cell 8 = .ok (.iaload, 1) := by decide +kernel
theorem dL_cell_9 : decode cL_cell 9 = .ok (.goto 10, 3) := by decide +kernel
theorem dL_cell_12 : decode cL_cell 12 = .ok (.ldc 7, 2) := by decide +kernel
theorem dL_cell_14 : decode cL_cell 14 = .ok (.iload_n 1, 1) := by decide +kernel
theorem dL_cell_15 : decode cL_cell 15 = .ok (.imul, 1) := by decide +kernel
theorem dL_cell_16 : decode cL_cell 16 = .ok (.ldc 8, 2) := by decide +kernel
theorem dL_cell_18 : decode cL_cell 18 = .ok (.iadd, 1) := by decide +kernel
theorem dL_cell_19 : decode cL_cell 19 = .ok (.ireturn, 1) := by decide +kernel
theorem dL_low_0 : decode cL_low 0 = .ok (.iload_n 0, 1) := by decide +kernel
theorem dL_low_1 : decode cL_low 1 = .ok (.ldc 9, 2) := by decide +kernel
theorem dL_low_3 : decode cL_low 3 = .ok (.iand, 1) := by decide +kernel
theorem dL_low_4 : decode cL_low 4 = .ok (.iload_n 1, 1) := by decide +kernel
theorem dL_low_5 : decode cL_low 5 = .ok (.irem, 1) := by decide +kernel
theorem dL_low_6 : decode cL_low 6 = .ok (.ireturn, 1) := by decide +kernel
theorem dL_mod_0 : decode cL_mod 0 = .ok (.iload_n 0, 1) := by decide +kernel
theorem dL_mod_1 : decode cL_mod 1 = .ok (.iload_n 1, 1) := by decide +kernel
theorem dL_mod_2 : decode cL_mod 2 = .ok (.irem, 1) := by decide +kernel
theorem dL_mod_3 : decode cL_mod 3 = .ok (.iload_n 1, 1) := by decide +kernel
theorem dL_mod_4 : decode cL_mod 4 = .ok (.iadd, 1) := by decide +kernel
theorem dL_mod_5 : decode cL_mod 5 = .ok (.iload_n 1, 1) := by decide +kernel
theorem dL_mod_6 : decode cL_mod 6 = .ok (.irem, 1) := by decide +kernel
theorem dL_mod_7 : decode cL_mod 7 = .ok (.ireturn, 1) := by decide +kernel
theorem dL_wheel_0 : decode cL_wheel 0 = .ok (.aload_n 1, 1) := by decide +kernel
theorem dL_wheel_1 : decode cL_wheel 1 = .ok (.iload_n 2, 1) := by decide +kernel
theorem dL_wheel_2 : decode cL_wheel 2 = .ok (.invokestatic 10, 3) := by decide +kernel
theorem dL_wheel_5 : decode cL_wheel 5 = .ok (.istore 4, 2) := by decide +kernel
theorem dL_wheel_7 : decode cL_wheel 7 = .ok (.iconst 1, 1) := by decide +kernel
theorem dL_wheel_8 : decode cL_wheel 8 = .ok (.iload 4, 2) := by decide +kernel
theorem dL_wheel_10 : decode cL_wheel 10 = .ok (.iload 4, 2) := by decide +kernel
theorem dL_wheel_12 : decode cL_wheel 12 = .ok (.iconst 3, 1) := by decide +kernel
theorem dL_wheel_13 : decode cL_wheel 13 = .ok (.ishr, 1) := by decide +kernel
theorem dL_wheel_14 : decode cL_wheel 14 = .ok (.iconst 3, 1) := by decide +kernel
theorem dL_wheel_15 : decode cL_wheel 15 = .ok (.invokestatic 16, 3) := by decide +kernel
theorem dL_wheel_18 : decode cL_wheel 18 = .ok (.ifCond .ne 8, 3) := by decide +kernel
theorem dL_wheel_21 : decode cL_wheel 21 = .ok (.bipush 20, 2) := by decide +kernel
theorem dL_wheel_23 : decode cL_wheel 23 = .ok (.goto 5, 3) := by decide +kernel
theorem dL_wheel_26 : decode cL_wheel 26 = .ok (.bipush 6, 2) := by decide +kernel
theorem dL_wheel_28 : decode cL_wheel 28 = .ok (.invokestatic 16, 3) := by decide +kernel
theorem dL_wheel_31 : decode cL_wheel 31 = .ok (.iadd, 1) := by decide +kernel
theorem dL_wheel_32 : decode cL_wheel 32 = .ok (.istore 5, 2) := by decide +kernel
theorem dL_wheel_34 : decode cL_wheel 34 = .ok (.iconst 1, 1) := by decide +kernel
theorem dL_wheel_35 : decode cL_wheel 35 = .ok (.iload 4, 2) := by decide +kernel
theorem dL_wheel_37 : decode cL_wheel 37 = .ok (.iconst 5, 1) := by decide +kernel
theorem dL_wheel_38 : decode cL_wheel 38 = .ok (.ishr, 1) := by decide +kernel
theorem dL_wheel_39 : decode cL_wheel 39 = .ok (.bipush 60, 2) := by decide +kernel
theorem dL_wheel_41 : decode cL_wheel 41 = .ok (.iload 5, 2) := by decide +kernel
theorem dL_wheel_43 : decode cL_wheel 43 = .ok (.idiv, 1) := by decide +kernel
theorem dL_wheel_44 : decode cL_wheel 44 = .ok (.invokestatic 16, 3) := by decide +kernel
theorem dL_wheel_47 : decode cL_wheel 47 = .ok (.iadd, 1) := by decide +kernel
theorem dL_wheel_48 : decode cL_wheel 48 = .ok (.istore 6, 2) := by decide +kernel
theorem dL_wheel_50 : decode cL_wheel 50 = .ok (.iload 5, 2) := by decide +kernel
theorem dL_wheel_52 : decode cL_wheel 52 = .ok (.iload 6, 2) := by decide +kernel
theorem dL_wheel_54 : decode cL_wheel 54 = .ok (.imul, 1) := by decide +kernel
theorem dL_wheel_55 : decode cL_wheel 55 = .ok (.istore 7, 2) := by decide +kernel
theorem dL_wheel_57 : decode cL_wheel 57 = .ok (.aload_n 0, 1) := by decide +kernel
theorem dL_wheel_58 : decode cL_wheel 58 = .ok (.invokevirtual 20, 3) := by decide +kernel
theorem dL_wheel_61 : decode cL_wheel 61 = .ok (.pop, 1) := by decide +kernel
theorem dL_wheel_62 : decode cL_wheel 62 = .ok (.iconst 0, 1) := by decide +kernel
theorem dL_wheel_63 : decode cL_wheel 63 = .ok (.istore 8, 2) := by decide +kernel
theorem dL_wheel_65 : decode cL_wheel 65 = .ok (.iload 8, 2) := by decide +kernel
theorem dL_wheel_67 : decode cL_wheel 67 = .ok (.iload 7, 2) := by decide +kernel
theorem dL_wheel_69 : decode cL_wheel 69 = .ok (.if_icmp .ge 146, 3) := by decide +kernel
theorem dL_wheel_72 : decode cL_wheel 72 = .ok (.aload_n 1, 1) := by decide +kernel
theorem dL_wheel_73 : decode cL_wheel 73 = .ok (.iload_n 2, 1) := by decide +kernel
theorem dL_wheel_74 : decode cL_wheel 74 = .ok (.iconst 1, 1) := by decide +kernel
theorem dL_wheel_75 : decode cL_wheel 75 = .ok (.iadd, 1) := by decide +kernel
theorem dL_wheel_76 : decode cL_wheel 76 = .ok (.iload 8, 2) := by decide +kernel
theorem dL_wheel_78 : decode cL_wheel 78 = .ok (.iload 5, 2) := by decide +kernel
theorem dL_wheel_80 : decode cL_wheel 80 = .ok (.irem, 1) := by decide +kernel
theorem dL_wheel_81 : decode cL_wheel 81 = .ok (.bipush 6, 2) := by decide +kernel
theorem dL_wheel_83 : decode cL_wheel 83 = .ok (.irem, 1) := by decide +kernel
theorem dL_wheel_84 : decode cL_wheel 84 = .ok (.iadd, 1) := by decide +kernel
theorem dL_wheel_85 : decode cL_wheel 85 = .ok (.invokestatic 10, 3) := by decide +kernel
theorem dL_wheel_88 : decode cL_wheel 88 = .ok (.iconst 4, 1) := by decide +kernel
theorem dL_wheel_89 : decode cL_wheel 89 = .ok (.iload 8, 2) := by decide +kernel
theorem dL_wheel_91 : decode cL_wheel 91 = .ok (.iload 5, 2) := by decide +kernel
theorem dL_wheel_93 : decode cL_wheel 93 = .ok (.irem, 1) := by decide +kernel
theorem dL_wheel_94 : decode cL_wheel 94 = .ok (.bipush 6, 2) := by decide +kernel
theorem dL_wheel_96 : decode cL_wheel 96 = .ok (.idiv, 1) := by decide +kernel
theorem dL_wheel_97 : decode cL_wheel 97 = .ok (.imul, 1) := by decide +kernel
theorem dL_wheel_98 : decode cL_wheel 98 = .ok (.ishr, 1) := by decide +kernel
theorem dL_wheel_99 : decode cL_wheel 99 = .ok (.istore 9, 2) := by decide +kernel
theorem dL_wheel_101 : decode cL_wheel 101 = .ok (.aload_n 3, 1) := by decide +kernel
theorem dL_wheel_102 : decode cL_wheel 102 = .ok (.iload 8, 2) := by decide +kernel
theorem dL_wheel_104 : decode cL_wheel 104 = .ok (.iload 9, 2) := by decide +kernel
theorem dL_wheel_106 : decode cL_wheel 106 = .ok (.iconst 2, 1) := by decide +kernel
theorem dL_wheel_107 : decode cL_wheel 107 = .ok (.invokestatic 16, 3) := by decide +kernel
theorem dL_wheel_110 : decode cL_wheel 110 = .ok (.ifCond .ne 7, 3) := by decide +kernel
theorem dL_wheel_113 : decode cL_wheel 113 = .ok (.iconst 0, 1) := by decide +kernel
theorem dL_wheel_114 : decode cL_wheel 114 = .ok (.goto 29, 3) := by decide +kernel
theorem dL_wheel_117 : decode cL_wheel 117 = .ok (.iconst 1, 1) := by decide +kernel
theorem dL_wheel_118 : decode cL_wheel 118 = .ok (.iload 9, 2) := by decide +kernel
theorem dL_wheel_120 : decode cL_wheel 120 = .ok (.iconst 1, 1) := by decide +kernel
theorem dL_wheel_121 : decode cL_wheel 121 = .ok (.ishr, 1) := by decide +kernel
theorem dL_wheel_122 : decode cL_wheel 122 = .ok (.iload 4, 2) := by decide +kernel
theorem dL_wheel_124 : decode cL_wheel 124 = .ok (.bipush 9, 2) := by decide +kernel
theorem dL_wheel_126 : decode cL_wheel 126 = .ok (.ishr, 1) := by decide +kernel
theorem dL_wheel_127 : decode cL_wheel 127 = .ok (.iconst 2, 1) := by decide +kernel
theorem dL_wheel_128 : decode cL_wheel 128 = .ok (.invokestatic 16, 3) := by decide +kernel
theorem dL_wheel_131 : decode cL_wheel 131 = .ok (.ifCond .ne 7, 3) := by decide +kernel
theorem dL_wheel_134 : decode cL_wheel 134 = .ok (.iconst 1, 1) := by decide +kernel
theorem dL_wheel_135 : decode cL_wheel 135 = .ok (.goto 4, 3) := by decide +kernel
theorem dL_wheel_138 : decode cL_wheel 138 = .ok (.iconst 3, 1) := by decide +kernel
theorem dL_wheel_139 : decode cL_wheel 139 = .ok (.invokestatic 16, 3) := by decide +kernel
theorem dL_wheel_142 : decode cL_wheel 142 = .ok (.iadd, 1) := by decide +kernel
theorem dL_wheel_143 : decode cL_wheel 143 = .ok (.iastore, 1) := by decide +kernel
theorem dL_wheel_144 : decode cL_wheel 144 = .ok (.aload_n 3, 1) := by decide +kernel
theorem dL_wheel_145 : decode cL_wheel 145 = .ok (.iload 8, 2) := by decide +kernel
theorem dL_wheel_147 : decode cL_wheel 147 = .ok (.iload 4, 2) := by decide +kernel
theorem dL_wheel_149 : decode cL_wheel 149 = .ok (.bipush 11, 2) := by decide +kernel
theorem dL_wheel_151 : decode cL_wheel 151 = .ok (.ishr, 1) := by decide +kernel
theorem dL_wheel_152 : decode cL_wheel 152 = .ok (.iconst 4, 1) := by decide +kernel
theorem dL_wheel_153 : decode cL_wheel 153 = .ok (.invokestatic 16, 3) := by decide +kernel
theorem dL_wheel_156 : decode cL_wheel 156 = .ok (.ifCond .ne 22, 3) := by decide +kernel
theorem dL_wheel_159 : decode cL_wheel 159 = .ok (.iload 8, 2) := by decide +kernel
theorem dL_wheel_161 : decode cL_wheel 161 = .ok (.iload 4, 2) := by decide +kernel
theorem dL_wheel_163 : decode cL_wheel 163 = .ok (.bipush 13, 2) := by decide +kernel
theorem dL_wheel_165 : decode cL_wheel 165 = .ok (.ishr, 1) := by decide +kernel
theorem dL_wheel_166 : decode cL_wheel 166 = .ok (.iload 7, 2) := by decide +kernel
theorem dL_wheel_168 : decode cL_wheel 168 = .ok (.invokestatic 16, 3) := by decide +kernel
theorem dL_wheel_171 : decode cL_wheel 171 = .ok (.if_icmp .ne 7, 3) := by decide +kernel
theorem dL_wheel_174 : decode cL_wheel 174 = .ok (.iconst 3, 1) := by decide +kernel
theorem dL_wheel_175 : decode cL_wheel 175 = .ok (.goto 7, 3) := by decide +kernel
theorem dL_wheel_178 : decode cL_wheel 178 = .ok (.aload_n 3, 1) := by decide +kernel
theorem dL_wheel_179 : decode cL_wheel 179 = .ok (.iload 8, 2) := by decide +kernel
theorem dL_wheel_181 : decode cL_wheel 181 = .ok (.iaload, 1) := by decide +kernel
theorem dL_wheel_182 : decode cL_wheel 182 = .ok (.iastore, 1) := by decide +kernel
theorem dL_wheel_183 : decode cL_wheel 183 = .ok (.aload_n 0, 1) := by decide +kernel
theorem dL_wheel_184 : decode cL_wheel 184 = .ok (.aload_n 3, 1) := by decide +kernel
theorem dL_wheel_185 : decode cL_wheel 185 = .ok (.iload 8, 2) := by decide +kernel
theorem dL_wheel_187 : decode cL_wheel 187 = .ok (.iaload, 1) := by decide +kernel
theorem dL_wheel_188 : decode cL_wheel 188 = .ok (.ifCond .ne 8, 3) := by decide +kernel
theorem dL_wheel_191 : decode cL_wheel 191 = .ok (.bipush 46, 2) := by decide +kernel
theorem dL_wheel_193 : decode cL_wheel 193 = .ok (.goto 12, 3) := by decide +kernel
theorem dL_wheel_196 : decode cL_wheel 196 = .ok (.bipush 97, 2) := by decide +kernel
theorem dL_wheel_198 : decode cL_wheel 198 = .ok (.aload_n 3, 1) := by decide +kernel
theorem dL_wheel_199 : decode cL_wheel 199 = .ok (.iload 8, 2) := by decide +kernel
theorem dL_wheel_201 : decode cL_wheel 201 = .ok (.iaload, 1) := by decide +kernel
theorem dL_wheel_202 : decode cL_wheel 202 = .ok (.iadd, 1) := by decide +kernel
theorem dL_wheel_203 : decode cL_wheel 203 = .ok (.iconst 1, 1) := by decide +kernel
theorem dL_wheel_204 : decode cL_wheel 204 = .ok (.isub, 1) := by decide +kernel
theorem dL_wheel_205 : decode cL_wheel 205 = .ok (.invokevirtual 26, 3) := by decide +kernel
theorem dL_wheel_208 : decode cL_wheel 208 = .ok (.pop, 1) := by decide +kernel
theorem dL_wheel_209 : decode cL_wheel 209 = .ok (.iinc 8 1, 3) := by decide +kernel
theorem dL_wheel_212 : decode cL_wheel 212 = .ok (.goto (-147), 3) := by decide +kernel
theorem dL_wheel_215 : decode cL_wheel 215 = .ok (.iload 4, 2) := by decide +kernel
theorem dL_wheel_217 : decode cL_wheel 217 = .ok (.bipush 16, 2) := by decide +kernel
theorem dL_wheel_219 : decode cL_wheel 219 = .ok (.ishr, 1) := by decide +kernel
theorem dL_wheel_220 : decode cL_wheel 220 = .ok (.bipush 60, 2) := by decide +kernel
theorem dL_wheel_222 : decode cL_wheel 222 = .ok (.invokestatic 16, 3) := by decide +kernel
theorem dL_wheel_225 : decode cL_wheel 225 = .ok (.istore 8, 2) := by decide +kernel
theorem dL_wheel_227 : decode cL_wheel 227 = .ok (.aload_n 0, 1) := by decide +kernel
theorem dL_wheel_228 : decode cL_wheel 228 = .ok (.bipush 64, 2) := by decide +kernel
theorem dL_wheel_230 : decode cL_wheel 230 = .ok (.invokevirtual 26, 3) := by decide +kernel
theorem dL_wheel_233 : decode cL_wheel 233 = .ok (.pop, 1) := by decide +kernel
theorem dL_wheel_234 : decode cL_wheel 234 = .ok (.aload_n 0, 1) := by decide +kernel
theorem dL_wheel_235 : decode cL_wheel 235 = .ok (.bipush 48, 2) := by decide +kernel
theorem dL_wheel_237 : decode cL_wheel 237 = .ok (.iload 8, 2) := by decide +kernel
theorem dL_wheel_239 : decode cL_wheel 239 = .ok (.bipush 10, 2) := by decide +kernel
theorem dL_wheel_241 : decode cL_wheel 241 = .ok (.idiv, 1) := by decide +kernel
theorem dL_wheel_242 : decode cL_wheel 242 = .ok (.iadd, 1) := by decide +kernel
theorem dL_wheel_243 : decode cL_wheel 243 = .ok (.invokevirtual 26, 3) := by decide +kernel
theorem dL_wheel_246 : decode cL_wheel 246 = .ok (.pop, 1) := by decide +kernel
theorem dL_wheel_247 : decode cL_wheel 247 = .ok (.aload_n 0, 1) := by decide +kernel
theorem dL_wheel_248 : decode cL_wheel 248 = .ok (.bipush 48, 2) := by decide +kernel
theorem dL_wheel_250 : decode cL_wheel 250 = .ok (.iload 8, 2) := by decide +kernel
theorem dL_wheel_252 : decode cL_wheel 252 = .ok (.bipush 10, 2) := by decide +kernel
theorem dL_wheel_254 : decode cL_wheel 254 = .ok (.irem, 1) := by decide +kernel
theorem dL_wheel_255 : decode cL_wheel 255 = .ok (.iadd, 1) := by decide +kernel
theorem dL_wheel_256 : decode cL_wheel 256 = .ok (.invokevirtual 26, 3) := by decide +kernel
theorem dL_wheel_259 : decode cL_wheel 259 = .ok (.pop, 1) := by decide +kernel
theorem dL_wheel_260 : decode cL_wheel 260 = .ok (.aload_n 0, 1) := by decide +kernel
theorem dL_wheel_261 : decode cL_wheel 261 = .ok (.invokevirtual 30, 3) := by decide +kernel
theorem dL_wheel_264 : decode cL_wheel 264 = .ok (.iload 7, 2) := by decide +kernel
theorem dL_wheel_266 : decode cL_wheel 266 = .ok (.if_icmp .ne 35, 3) := by decide +kernel
theorem dL_wheel_269 : decode cL_wheel 269 = .ok (.aload_n 0, 1) := by decide +kernel
theorem dL_wheel_270 : decode cL_wheel 270 = .ok (.iconst 0, 1) := by decide +kernel
theorem dL_wheel_271 : decode cL_wheel 271 = .ok (.invokevirtual 33, 3) := by decide +kernel
theorem dL_wheel_274 : decode cL_wheel 274 = .ok (.iload 7, 2) := by decide +kernel
theorem dL_wheel_276 : decode cL_wheel 276 = .ok (.if_icmp .ne 25, 3) := by decide +kernel
theorem dL_wheel_279 : decode cL_wheel 279 = .ok (.aload_n 0, 1) := by decide +kernel
theorem dL_wheel_280 : decode cL_wheel 280 = .ok (.iconst 3, 1) := by decide +kernel
theorem dL_wheel_281 : decode cL_wheel 281 = .ok (.invokevirtual 33, 3) := by decide +kernel
theorem dL_wheel_284 : decode cL_wheel 284 = .ok (.iload 8, 2) := by decide +kernel
theorem dL_wheel_286 : decode cL_wheel 286 = .ok (.if_icmp .ne 15, 3) := by decide +kernel
theorem dL_wheel_289 : decode cL_wheel 289 = .ok (.aload_n 0, 1) := by decide +kernel
theorem dL_wheel_290 : decode cL_wheel 290 = .ok (.iconst 4, 1) := by decide +kernel
theorem dL_wheel_291 : decode cL_wheel 291 = .ok (.invokevirtual 33, 3) := by decide +kernel
theorem dL_wheel_294 : decode cL_wheel 294 = .ok (.ifCond .ne 7, 3) := by decide +kernel
theorem dL_wheel_297 : decode cL_wheel 297 = .ok (.iconst 1, 1) := by decide +kernel
theorem dL_wheel_298 : decode cL_wheel 298 = .ok (.goto 4, 3) := by decide +kernel
theorem dL_wheel_301 : decode cL_wheel 301 = .ok (.iconst 0, 1) := by decide +kernel
theorem dL_wheel_302 : decode cL_wheel 302 = .ok (.ireturn, 1) := by decide +kernel
theorem dL_speeds_0 : decode cL_speeds 0 = .ok (.aload_n 1, 1) := by decide +kernel
theorem dL_speeds_1 : decode cL_speeds 1 = .ok (.iload_n 2, 1) := by decide +kernel
theorem dL_speeds_2 : decode cL_speeds 2 = .ok (.invokestatic 10, 3) := by decide +kernel
theorem dL_speeds_5 : decode cL_speeds 5 = .ok (.istore 6, 2) := by decide +kernel
theorem dL_speeds_7 : decode cL_speeds 7 = .ok (.aload_n 3, 1) := by decide +kernel
theorem dL_speeds_8 : decode cL_speeds 8 = .ok (.iconst 0, 1) := by decide +kernel
theorem dL_speeds_9 : decode cL_speeds 9 = .ok (.iconst 0, 1) := by decide +kernel
theorem dL_speeds_10 : decode cL_speeds 10 = .ok (.iastore, 1) := by decide +kernel
theorem dL_speeds_11 : decode cL_speeds 11 = .ok (.aload 4, 2) := by decide +kernel
theorem dL_speeds_13 : decode cL_speeds 13 = .ok (.iconst 0, 1) := by decide +kernel
theorem dL_speeds_14 : decode cL_speeds 14 = .ok (.iload 6, 2) := by decide +kernel
theorem dL_speeds_16 : decode cL_speeds 16 = .ok (.iconst 3, 1) := by decide +kernel
theorem dL_speeds_17 : decode cL_speeds 17 = .ok (.invokestatic 16, 3) := by decide +kernel
theorem dL_speeds_20 : decode cL_speeds 20 = .ok (.ifCond .ne 20, 3) := by decide +kernel
theorem dL_speeds_23 : decode cL_speeds 23 = .ok (.iload 6, 2) := by decide +kernel
theorem dL_speeds_25 : decode cL_speeds 25 = .ok (.iconst 2, 1) := by decide +kernel
theorem dL_speeds_26 : decode cL_speeds 26 = .ok (.ishr, 1) := by decide +kernel
theorem dL_speeds_27 : decode cL_speeds 27 = .ok (.sipush 2001, 3) := by decide +kernel
theorem dL_speeds_30 : decode cL_speeds 30 = .ok (.invokestatic 16, 3) := by decide +kernel
theorem dL_speeds_33 : decode cL_speeds 33 = .ok (.sipush 1000, 3) := by decide +kernel
theorem dL_speeds_36 : decode cL_speeds 36 = .ok (.isub, 1) := by decide +kernel
theorem dL_speeds_37 : decode cL_speeds 37 = .ok (.goto 15, 3) := by decide +kernel
theorem dL_speeds_40 : decode cL_speeds 40 = .ok (.iload 6, 2) := by decide +kernel
theorem dL_speeds_42 : decode cL_speeds 42 = .ok (.iconst 2, 1) := by decide +kernel
theorem dL_speeds_43 : decode cL_speeds 43 = .ok (.ishr, 1) := by decide +kernel
theorem dL_speeds_44 : decode cL_speeds 44 = .ok (.bipush 61, 2) := by decide +kernel
theorem dL_speeds_46 : decode cL_speeds 46 = .ok (.invokestatic 16, 3) := by decide +kernel
theorem dL_speeds_49 : decode cL_speeds 49 = .ok (.bipush 30, 2) := by decide +kernel
theorem dL_speeds_51 : decode cL_speeds 51 = .ok (.isub, 1) := by decide +kernel
theorem dL_speeds_52 : decode cL_speeds 52 = .ok (.iastore, 1) := by decide +kernel
theorem dL_speeds_53 : decode cL_speeds 53 = .ok (.aload_n 0, 1) := by decide +kernel
theorem dL_speeds_54 : decode cL_speeds 54 = .ok (.iconst 0, 1) := by decide +kernel
theorem dL_speeds_55 : decode cL_speeds 55 = .ok (.aload 4, 2) := by decide +kernel
theorem dL_speeds_57 : decode cL_speeds 57 = .ok (.iconst 0, 1) := by decide +kernel
theorem dL_speeds_58 : decode cL_speeds 58 = .ok (.iaload, 1) := by decide +kernel
theorem dL_speeds_59 : decode cL_speeds 59 = .ok (.invokevirtual 36, 3) := by decide +kernel
theorem dL_speeds_62 : decode cL_speeds 62 = .ok (.ifCond .eq 5, 3) := by decide +kernel
theorem dL_speeds_65 : decode cL_speeds 65 = .ok (.iconst 0, 1) := by decide +kernel
theorem dL_speeds_66 : decode cL_speeds 66 = .ok (.ireturn, 1) := by decide +kernel
theorem dL_speeds_67 : decode cL_speeds 67 = .ok (.iconst 1, 1) := by decide +kernel
theorem dL_speeds_68 : decode cL_speeds 68 = .ok (.istore 7, 2) := by decide +kernel
theorem dL_speeds_70 : decode cL_speeds 70 = .ok (.iload 7, 2) := by decide +kernel
theorem dL_speeds_72 : decode cL_speeds 72 = .ok (.iload 5, 2) := by decide +kernel
theorem dL_speeds_74 : decode cL_speeds 74 = .ok (.if_icmp .gt 77, 3) := by decide +kernel
theorem dL_speeds_77 : decode cL_speeds 77 = .ok (.aload_n 1, 1) := by decide +kernel
theorem dL_speeds_78 : decode cL_speeds 78 = .ok (.iload_n 2, 1) := by decide +kernel
theorem dL_speeds_79 : decode cL_speeds 79 = .ok (.iload 7, 2) := by decide +kernel
theorem dL_speeds_81 : decode cL_speeds 81 = .ok (.iadd, 1) := by decide +kernel
theorem dL_speeds_82 : decode cL_speeds 82 = .ok (.invokestatic 10, 3) := by decide +kernel
theorem dL_speeds_85 : decode cL_speeds 85 = .ok (.istore 8, 2) := by decide +kernel
theorem dL_speeds_87 : decode cL_speeds 87 = .ok (.aload_n 3, 1) := by decide +kernel
theorem dL_speeds_88 : decode cL_speeds 88 = .ok (.iload 7, 2) := by decide +kernel
theorem dL_speeds_90 : decode cL_speeds 90 = .ok (.aload_n 3, 1) := by decide +kernel
theorem dL_speeds_91 : decode cL_speeds 91 = .ok (.iload 7, 2) := by decide +kernel
theorem dL_speeds_93 : decode cL_speeds 93 = .ok (.iconst 1, 1) := by decide +kernel
theorem dL_speeds_94 : decode cL_speeds 94 = .ok (.isub, 1) := by decide +kernel
theorem dL_speeds_95 : decode cL_speeds 95 = .ok (.iaload, 1) := by decide +kernel
theorem dL_speeds_96 : decode cL_speeds 96 = .ok (.iconst 1, 1) := by decide +kernel
theorem dL_speeds_97 : decode cL_speeds 97 = .ok (.iadd, 1) := by decide +kernel
theorem dL_speeds_98 : decode cL_speeds 98 = .ok (.iload 8, 2) := by decide +kernel
theorem dL_speeds_100 : decode cL_speeds 100 = .ok (.bipush 60, 2) := by decide +kernel
theorem dL_speeds_102 : decode cL_speeds 102 = .ok (.invokestatic 16, 3) := by decide +kernel
theorem dL_speeds_105 : decode cL_speeds 105 = .ok (.iadd, 1) := by decide +kernel
theorem dL_speeds_106 : decode cL_speeds 106 = .ok (.iastore, 1) := by decide +kernel
theorem dL_speeds_107 : decode cL_speeds 107 = .ok (.aload 4, 2) := by decide +kernel
theorem dL_speeds_109 : decode cL_speeds 109 = .ok (.iload 7, 2) := by decide +kernel
theorem dL_speeds_111 : decode cL_speeds 111 = .ok (.iload 8, 2) := by decide +kernel
theorem dL_speeds_113 : decode cL_speeds 113 = .ok (.bipush 8, 2) := by decide +kernel
theorem dL_speeds_115 : decode cL_speeds 115 = .ok (.ishr, 1) := by decide +kernel
theorem dL_speeds_116 : decode cL_speeds 116 = .ok (.bipush 61, 2) := by decide +kernel
theorem dL_speeds_118 : decode cL_speeds 118 = .ok (.invokestatic 16, 3) := by decide +kernel
theorem dL_speeds_121 : decode cL_speeds 121 = .ok (.bipush 30, 2) := by decide +kernel
theorem dL_speeds_123 : decode cL_speeds 123 = .ok (.isub, 1) := by decide +kernel
theorem dL_speeds_124 : decode cL_speeds 124 = .ok (.iastore, 1) := by decide +kernel
theorem dL_speeds_125 : decode cL_speeds 125 = .ok (.aload_n 0, 1) := by decide +kernel
theorem dL_speeds_126 : decode cL_speeds 126 = .ok (.aload_n 3, 1) := by decide +kernel
theorem dL_speeds_127 : decode cL_speeds 127 = .ok (.iload 7, 2) := by decide +kernel
theorem dL_speeds_129 : decode cL_speeds 129 = .ok (.iaload, 1) := by decide +kernel
theorem dL_speeds_130 : decode cL_speeds 130 = .ok (.aload 4, 2) := by decide +kernel
theorem dL_speeds_132 : decode cL_speeds 132 = .ok (.iload 7, 2) := by decide +kernel
theorem dL_speeds_134 : decode cL_speeds 134 = .ok (.iaload, 1) := by decide +kernel
theorem dL_speeds_135 : decode cL_speeds 135 = .ok (.invokevirtual 36, 3) := by decide +kernel
theorem dL_speeds_138 : decode cL_speeds 138 = .ok (.iload 7, 2) := by decide +kernel
theorem dL_speeds_140 : decode cL_speeds 140 = .ok (.if_icmp .eq 5, 3) := by decide +kernel
theorem dL_speeds_143 : decode cL_speeds 143 = .ok (.iconst 0, 1) := by decide +kernel
theorem dL_speeds_144 : decode cL_speeds 144 = .ok (.ireturn, 1) := by decide +kernel
theorem dL_speeds_145 : decode cL_speeds 145 = .ok (.iinc 7 1, 3) := by decide +kernel
theorem dL_speeds_148 : decode cL_speeds 148 = .ok (.goto (-78), 3) := by decide +kernel
theorem dL_speeds_151 : decode cL_speeds 151 = .ok (.aload_n 0, 1) := by decide +kernel
theorem dL_speeds_152 : decode cL_speeds 152 = .ok (.iconst 5, 1) := by decide +kernel
theorem dL_speeds_153 : decode cL_speeds 153 = .ok (.invokevirtual 33, 3) := by decide +kernel
theorem dL_speeds_156 : decode cL_speeds 156 = .ok (.iload 5, 2) := by decide +kernel
theorem dL_speeds_158 : decode cL_speeds 158 = .ok (.if_icmp .ne 7, 3) := by decide +kernel
theorem dL_speeds_161 : decode cL_speeds 161 = .ok (.iconst 1, 1) := by decide +kernel
theorem dL_speeds_162 : decode cL_speeds 162 = .ok (.goto 4, 3) := by decide +kernel
theorem dL_speeds_165 : decode cL_speeds 165 = .ok (.iconst 0, 1) := by decide +kernel
theorem dL_speeds_166 : decode cL_speeds 166 = .ok (.ireturn, 1) := by decide +kernel
theorem dL_isSame_0 : decode cL_isSame 0 = .ok (.iconst 1, 1) := by decide +kernel
theorem dL_isSame_1 : decode cL_isSame 1 = .ok (.istore_n 3, 1) := by decide +kernel
theorem dL_isSame_2 : decode cL_isSame 2 = .ok (.iconst 0, 1) := by decide +kernel
theorem dL_isSame_3 : decode cL_isSame 3 = .ok (.istore 4, 2) := by decide +kernel
theorem dL_isSame_5 : decode cL_isSame 5 = .ok (.iload 4, 2) := by decide +kernel
theorem dL_isSame_7 : decode cL_isSame 7 = .ok (.iload_n 1, 1) := by decide +kernel
theorem dL_isSame_8 : decode cL_isSame 8 = .ok (.if_icmp .ge 34, 3) := by decide +kernel
theorem dL_isSame_11 : decode cL_isSame 11 = .ok (.iload_n 3, 1) := by decide +kernel
theorem dL_isSame_12 : decode cL_isSame 12 = .ok (.ifCond .eq 22, 3) := by decide +kernel
theorem dL_isSame_15 : decode cL_isSame 15 = .ok (.aload_n 0, 1) := by decide +kernel
theorem dL_isSame_16 : decode cL_isSame 16 = .ok (.iload 4, 2) := by decide +kernel
theorem dL_isSame_18 : decode cL_isSame 18 = .ok (.iload_n 2, 1) := by decide +kernel
theorem dL_isSame_19 : decode cL_isSame 19 = .ok (.iadd, 1) := by decide +kernel
theorem dL_isSame_20 : decode cL_isSame 20 = .ok (.iload_n 1, 1) := by decide +kernel
theorem dL_isSame_21 : decode cL_isSame 21 = .ok (.irem, 1) := by decide +kernel
theorem dL_isSame_22 : decode cL_isSame 22 = .ok (.iaload, 1) := by decide +kernel
theorem dL_isSame_23 : decode cL_isSame 23 = .ok (.aload_n 0, 1) := by decide +kernel
theorem dL_isSame_24 : decode cL_isSame 24 = .ok (.iload 4, 2) := by decide +kernel
theorem dL_isSame_26 : decode cL_isSame 26 = .ok (.iaload, 1) := by decide +kernel
theorem dL_isSame_27 : decode cL_isSame 27 = .ok (.if_icmp .ne 7, 3) := by decide +kernel
theorem dL_isSame_30 : decode cL_isSame 30 = .ok (.iconst 1, 1) := by decide +kernel
theorem dL_isSame_31 : decode cL_isSame 31 = .ok (.goto 4, 3) := by decide +kernel
theorem dL_isSame_34 : decode cL_isSame 34 = .ok (.iconst 0, 1) := by decide +kernel
theorem dL_isSame_35 : decode cL_isSame 35 = .ok (.istore_n 3, 1) := by decide +kernel
theorem dL_isSame_36 : decode cL_isSame 36 = .ok (.iinc 4 1, 3) := by decide +kernel
theorem dL_isSame_39 : decode cL_isSame 39 = .ok (.goto (-34), 3) := by decide +kernel
theorem dL_isSame_42 : decode cL_isSame 42 = .ok (.iload_n 3, 1) := by decide +kernel
theorem dL_isSame_43 : decode cL_isSame 43 = .ok (.ireturn, 1) := by decide +kernel
theorem dL_measure_0 : decode cL_measure 0 = .ok (.iconst 1, 1) := by decide +kernel
theorem dL_measure_1 : decode cL_measure 1 = .ok (.istore_n 2, 1) := by decide +kernel
theorem dL_measure_2 : decode cL_measure 2 = .ok (.aload_n 0, 1) := by decide +kernel
theorem dL_measure_3 : decode cL_measure 3 = .ok (.iload_n 1, 1) := by decide +kernel
theorem dL_measure_4 : decode cL_measure 4 = .ok (.iload_n 2, 1) := by decide +kernel
theorem dL_measure_5 : decode cL_measure 5 = .ok (.invokestatic 39, 3) := by decide +kernel
theorem dL_measure_8 : decode cL_measure 8 = .ok (.ifCond .ne 9, 3) := by decide +kernel
theorem dL_measure_11 : decode cL_measure 11 = .ok (.iinc 2 1, 3) := by decide +kernel
theorem dL_measure_14 : decode cL_measure 14 = .ok (.goto (-12), 3) := by decide +kernel
theorem dL_measure_17 : decode cL_measure 17 = .ok (.iload_n 2, 1) := by decide +kernel
theorem dL_measure_18 : decode cL_measure 18 = .ok (.ireturn, 1) := by decide +kernel
theorem dL_turn_0 : decode cL_turn 0 = .ok (.iload_n 0, 1) := by decide +kernel
theorem dL_turn_1 : decode cL_turn 1 = .ok (.istore 6, 2) := by decide +kernel
theorem dL_turn_3 : decode cL_turn 3 = .ok (.iconst 0, 1) := by decide +kernel
theorem dL_turn_4 : decode cL_turn 4 = .ok (.istore 7, 2) := by decide +kernel
theorem dL_turn_6 : decode cL_turn 6 = .ok (.iload 7, 2) := by decide +kernel
theorem dL_turn_8 : decode cL_turn 8 = .ok (.iload_n 3, 1) := by decide +kernel
theorem dL_turn_9 : decode cL_turn 9 = .ok (.if_icmp .ge 71, 3) := by decide +kernel
theorem dL_turn_12 : decode cL_turn 12 = .ok (.iload 7, 2) := by decide +kernel
theorem dL_turn_14 : decode cL_turn 14 = .ok (.iconst 1, 1) := by decide +kernel
theorem dL_turn_15 : decode cL_turn 15 = .ok (.iadd, 1) := by decide +kernel
theorem dL_turn_16 : decode cL_turn 16 = .ok (.iload_n 3, 1) := by decide +kernel
theorem dL_turn_17 : decode cL_turn 17 = .ok (.if_icmp .ge 23, 3) := by decide +kernel
theorem dL_turn_20 : decode cL_turn 20 = .ok (.aload_n 1, 1) := by decide +kernel
theorem dL_turn_21 : decode cL_turn 21 = .ok (.iload 7, 2) := by decide +kernel
theorem dL_turn_23 : decode cL_turn 23 = .ok (.iconst 1, 1) := by decide +kernel
theorem dL_turn_24 : decode cL_turn 24 = .ok (.iadd, 1) := by decide +kernel
theorem dL_turn_25 : decode cL_turn 25 = .ok (.iaload, 1) := by decide +kernel
theorem dL_turn_26 : decode cL_turn 26 = .ok (.iload 4, 2) := by decide +kernel
theorem dL_turn_28 : decode cL_turn 28 = .ok (.if_icmp .ge 12, 3) := by decide +kernel
theorem dL_turn_31 : decode cL_turn 31 = .ok (.aload_n 1, 1) := by decide +kernel
theorem dL_turn_32 : decode cL_turn 32 = .ok (.iload 7, 2) := by decide +kernel
theorem dL_turn_34 : decode cL_turn 34 = .ok (.iconst 1, 1) := by decide +kernel
theorem dL_turn_35 : decode cL_turn 35 = .ok (.iadd, 1) := by decide +kernel
theorem dL_turn_36 : decode cL_turn 36 = .ok (.iaload, 1) := by decide +kernel
theorem dL_turn_37 : decode cL_turn 37 = .ok (.goto 5, 3) := by decide +kernel
theorem dL_turn_40 : decode cL_turn 40 = .ok (.iload 4, 2) := by decide +kernel
theorem dL_turn_42 : decode cL_turn 42 = .ok (.istore 8, 2) := by decide +kernel
theorem dL_turn_44 : decode cL_turn 44 = .ok (.iload 6, 2) := by decide +kernel
theorem dL_turn_46 : decode cL_turn 46 = .ok (.iload 8, 2) := by decide +kernel
theorem dL_turn_48 : decode cL_turn 48 = .ok (.aload_n 1, 1) := by decide +kernel
theorem dL_turn_49 : decode cL_turn 49 = .ok (.iload 7, 2) := by decide +kernel
theorem dL_turn_51 : decode cL_turn 51 = .ok (.iaload, 1) := by decide +kernel
theorem dL_turn_52 : decode cL_turn 52 = .ok (.if_icmp .le 18, 3) := by decide +kernel
theorem dL_turn_55 : decode cL_turn 55 = .ok (.aload_n 2, 1) := by decide +kernel
theorem dL_turn_56 : decode cL_turn 56 = .ok (.iload 7, 2) := by decide +kernel
theorem dL_turn_58 : decode cL_turn 58 = .ok (.iaload, 1) := by decide +kernel
theorem dL_turn_59 : decode cL_turn 59 = .ok (.iload 8, 2) := by decide +kernel
theorem dL_turn_61 : decode cL_turn 61 = .ok (.aload_n 1, 1) := by decide +kernel
theorem dL_turn_62 : decode cL_turn 62 = .ok (.iload 7, 2) := by decide +kernel
theorem dL_turn_64 : decode cL_turn 64 = .ok (.iaload, 1) := by decide +kernel
theorem dL_turn_65 : decode cL_turn 65 = .ok (.isub, 1) := by decide +kernel
theorem dL_turn_66 : decode cL_turn 66 = .ok (.imul, 1) := by decide +kernel
theorem dL_turn_67 : decode cL_turn 67 = .ok (.goto 4, 3) := by decide +kernel
theorem dL_turn_70 : decode cL_turn 70 = .ok (.iconst 0, 1) := by decide +kernel
theorem dL_turn_71 : decode cL_turn 71 = .ok (.iadd, 1) := by decide +kernel
theorem dL_turn_72 : decode cL_turn 72 = .ok (.istore 6, 2) := by decide +kernel
theorem dL_turn_74 : decode cL_turn 74 = .ok (.iinc 7 1, 3) := by decide +kernel
theorem dL_turn_77 : decode cL_turn 77 = .ok (.goto (-71), 3) := by decide +kernel
theorem dL_turn_80 : decode cL_turn 80 = .ok (.iload 6, 2) := by decide +kernel
theorem dL_turn_82 : decode cL_turn 82 = .ok (.iload 5, 2) := by decide +kernel
theorem dL_turn_84 : decode cL_turn 84 = .ok (.invokestatic 43, 3) := by decide +kernel
theorem dL_turn_87 : decode cL_turn 87 = .ok (.ireturn, 1) := by decide +kernel
theorem dL_step_0 : decode cL_step 0 = .ok (.iconst 0, 1) := by decide +kernel
theorem dL_step_1 : decode cL_step 1 = .ok (.istore 4, 2) := by decide +kernel
theorem dL_step_3 : decode cL_step 3 = .ok (.iload 4, 2) := by decide +kernel
theorem dL_step_5 : decode cL_step 5 = .ok (.iload_n 1, 1) := by decide +kernel
theorem dL_step_6 : decode cL_step 6 = .ok (.if_icmp .gt 94, 3) := by decide +kernel
theorem dL_step_9 : decode cL_step 9 = .ok (.iconst 1, 1) := by decide +kernel
theorem dL_step_10 : decode cL_step 10 = .ok (.istore 5, 2) := by decide +kernel
theorem dL_step_12 : decode cL_step 12 = .ok (.iload 5, 2) := by decide +kernel
theorem dL_step_14 : decode cL_step 14 = .ok (.iconst (-1), 1) := by decide +kernel
theorem dL_step_15 : decode cL_step 15 = .ok (.if_icmp .lt 79, 3) := by decide +kernel
theorem dL_step_18 : decode cL_step 18 = .ok (.iconst 1, 1) := by decide +kernel
theorem dL_step_19 : decode cL_step 19 = .ok (.istore 6, 2) := by decide +kernel
theorem dL_step_21 : decode cL_step 21 = .ok (.iconst 0, 1) := by decide +kernel
theorem dL_step_22 : decode cL_step 22 = .ok (.istore 7, 2) := by decide +kernel
theorem dL_step_24 : decode cL_step 24 = .ok (.iload 7, 2) := by decide +kernel
theorem dL_step_26 : decode cL_step 26 = .ok (.iload_n 1, 1) := by decide +kernel
theorem dL_step_27 : decode cL_step 27 = .ok (.if_icmp .ge 50, 3) := by decide +kernel
theorem dL_step_30 : decode cL_step 30 = .ok (.iload 6, 2) := by decide +kernel
theorem dL_step_32 : decode cL_step 32 = .ok (.ifCond .eq 36, 3) := by decide +kernel
theorem dL_step_35 : decode cL_step 35 = .ok (.aload_n 0, 1) := by decide +kernel
theorem dL_step_36 : decode cL_step 36 = .ok (.iload 7, 2) := by decide +kernel
theorem dL_step_38 : decode cL_step 38 = .ok (.iload 5, 2) := by decide +kernel
theorem dL_step_40 : decode cL_step 40 = .ok (.iload 4, 2) := by decide +kernel
theorem dL_step_42 : decode cL_step 42 = .ok (.imul, 1) := by decide +kernel
theorem dL_step_43 : decode cL_step 43 = .ok (.isub, 1) := by decide +kernel
theorem dL_step_44 : decode cL_step 44 = .ok (.iload_n 2, 1) := by decide +kernel
theorem dL_step_45 : decode cL_step 45 = .ok (.isub, 1) := by decide +kernel
theorem dL_step_46 : decode cL_step 46 = .ok (.iload_n 1, 1) := by decide +kernel
theorem dL_step_47 : decode cL_step 47 = .ok (.invokestatic 43, 3) := by decide +kernel
theorem dL_step_50 : decode cL_step 50 = .ok (.iaload, 1) := by decide +kernel
theorem dL_step_51 : decode cL_step 51 = .ok (.aload_n 0, 1) := by decide +kernel
theorem dL_step_52 : decode cL_step 52 = .ok (.iload 7, 2) := by decide +kernel
theorem dL_step_54 : decode cL_step 54 = .ok (.iload_n 3, 1) := by decide +kernel
theorem dL_step_55 : decode cL_step 55 = .ok (.isub, 1) := by decide +kernel
theorem dL_step_56 : decode cL_step 56 = .ok (.iload_n 1, 1) := by decide +kernel
theorem dL_step_57 : decode cL_step 57 = .ok (.invokestatic 43, 3) := by decide +kernel
theorem dL_step_60 : decode cL_step 60 = .ok (.iaload, 1) := by decide +kernel
theorem dL_step_61 : decode cL_step 61 = .ok (.if_icmp .ne 7, 3) := by decide +kernel
theorem dL_step_64 : decode cL_step 64 = .ok (.iconst 1, 1) := by decide +kernel
theorem dL_step_65 : decode cL_step 65 = .ok (.goto 4, 3) := by decide +kernel
theorem dL_step_68 : decode cL_step 68 = .ok (.iconst 0, 1) := by decide +kernel
theorem dL_step_69 : decode cL_step 69 = .ok (.istore 6, 2) := by decide +kernel
theorem dL_step_71 : decode cL_step 71 = .ok (.iinc 7 1, 3) := by decide +kernel
theorem dL_step_74 : decode cL_step 74 = .ok (.goto (-50), 3) := by decide +kernel
theorem dL_step_77 : decode cL_step 77 = .ok (.iload 6, 2) := by decide +kernel
theorem dL_step_79 : decode cL_step 79 = .ok (.ifCond .eq 9, 3) := by decide +kernel
theorem dL_step_82 : decode cL_step 82 = .ok (.iload 5, 2) := by decide +kernel
theorem dL_step_84 : decode cL_step 84 = .ok (.iload 4, 2) := by decide +kernel
theorem dL_step_86 : decode cL_step 86 = .ok (.imul, 1) := by decide +kernel
theorem dL_step_87 : decode cL_step 87 = .ok (.ireturn, 1) := by decide +kernel
theorem dL_step_88 : decode cL_step 88 = .ok (.iinc 5 (-2), 3) := by decide +kernel
theorem dL_step_91 : decode cL_step 91 = .ok (.goto (-79), 3) := by decide +kernel
theorem dL_step_94 : decode cL_step 94 = .ok (.iinc 4 1, 3) := by decide +kernel
theorem dL_step_97 : decode cL_step 97 = .ok (.goto (-94), 3) := by decide +kernel
theorem dL_step_100 : decode cL_step 100 = .ok (.sipush 1000, 3) := by decide +kernel
theorem dL_step_103 : decode cL_step 103 = .ok (.ireturn, 1) := by decide +kernel
theorem dL_flashes_0 : decode cL_flashes 0 = .ok (.iload 6, 2) := by decide +kernel
theorem dL_flashes_2 : decode cL_flashes 2 = .ok (.sipush 200, 3) := by decide +kernel
theorem dL_flashes_5 : decode cL_flashes 5 = .ok (.invokestatic 16, 3) := by decide +kernel
theorem dL_flashes_8 : decode cL_flashes 8 = .ok (.istore 7, 2) := by decide +kernel
theorem dL_flashes_10 : decode cL_flashes 10 = .ok (.iconst 1, 1) := by decide +kernel
theorem dL_flashes_11 : decode cL_flashes 11 = .ok (.iload 6, 2) := by decide +kernel
theorem dL_flashes_13 : decode cL_flashes 13 = .ok (.bipush 8, 2) := by decide +kernel
theorem dL_flashes_15 : decode cL_flashes 15 = .ok (.ishr, 1) := by decide +kernel
theorem dL_flashes_16 : decode cL_flashes 16 = .ok (.bipush 30, 2) := by decide +kernel
theorem dL_flashes_18 : decode cL_flashes 18 = .ok (.invokestatic 16, 3) := by decide +kernel
theorem dL_flashes_21 : decode cL_flashes 21 = .ok (.iadd, 1) := by decide +kernel
theorem dL_flashes_22 : decode cL_flashes 22 = .ok (.istore 8, 2) := by decide +kernel
theorem dL_flashes_24 : decode cL_flashes 24 = .ok (.sipush 1000, 3) := by decide +kernel
theorem dL_flashes_27 : decode cL_flashes 27 = .ok (.iload 7, 2) := by decide +kernel
theorem dL_flashes_29 : decode cL_flashes 29 = .ok (.isub, 1) := by decide +kernel
theorem dL_flashes_30 : decode cL_flashes 30 = .ok (.iload 8, 2) := by decide +kernel
theorem dL_flashes_32 : decode cL_flashes 32 = .ok (.idiv, 1) := by decide +kernel
theorem dL_flashes_33 : decode cL_flashes 33 = .ok (.iconst 1, 1) := by decide +kernel
theorem dL_flashes_34 : decode cL_flashes 34 = .ok (.iadd, 1) := by decide +kernel
theorem dL_flashes_35 : decode cL_flashes 35 = .ok (.istore 9, 2) := by decide +kernel
theorem dL_flashes_37 : decode cL_flashes 37 = .ok (.aload_n 0, 1) := by decide +kernel
theorem dL_flashes_38 : decode cL_flashes 38 = .ok (.iconst 3, 1) := by decide +kernel
theorem dL_flashes_39 : decode cL_flashes 39 = .ok (.invokevirtual 33, 3) := by decide +kernel
theorem dL_flashes_42 : decode cL_flashes 42 = .ok (.istore 10, 2) := by decide +kernel
theorem dL_flashes_44 : decode cL_flashes 44 = .ok (.aload_n 0, 1) := by decide +kernel
theorem dL_flashes_45 : decode cL_flashes 45 = .ok (.iload 7, 2) := by decide +kernel
theorem dL_flashes_47 : decode cL_flashes 47 = .ok (.iload 8, 2) := by decide +kernel
theorem dL_flashes_49 : decode cL_flashes 49 = .ok (.invokevirtual 46, 3) := by decide +kernel
theorem dL_flashes_52 : decode cL_flashes 52 = .ok (.iload 9, 2) := by decide +kernel
theorem dL_flashes_54 : decode cL_flashes 54 = .ok (.if_icmp .ne 14, 3) := by decide +kernel
theorem dL_flashes_57 : decode cL_flashes 57 = .ok (.aload_n 0, 1) := by decide +kernel
theorem dL_flashes_58 : decode cL_flashes 58 = .ok (.bipush 8, 2) := by decide +kernel
theorem dL_flashes_60 : decode cL_flashes 60 = .ok (.invokevirtual 33, 3) := by decide +kernel
theorem dL_flashes_63 : decode cL_flashes 63 = .ok (.iload 9, 2) := by decide +kernel
theorem dL_flashes_65 : decode cL_flashes 65 = .ok (.if_icmp .eq 5, 3) := by decide +kernel
theorem dL_flashes_68 : decode cL_flashes 68 = .ok (.iconst 0, 1) := by decide +kernel
theorem dL_flashes_69 : decode cL_flashes 69 = .ok (.ireturn, 1) := by decide +kernel
theorem dL_flashes_70 : decode cL_flashes 70 = .ok (.iconst 0, 1) := by decide +kernel
theorem dL_flashes_71 : decode cL_flashes 71 = .ok (.istore 11, 2) := by decide +kernel
theorem dL_flashes_73 : decode cL_flashes 73 = .ok (.iload 11, 2) := by decide +kernel
theorem dL_flashes_75 : decode cL_flashes 75 = .ok (.bipush 6, 2) := by decide +kernel
theorem dL_flashes_77 : decode cL_flashes 77 = .ok (.if_icmp .ge 202, 3) := by decide +kernel
theorem dL_flashes_80 : decode cL_flashes 80 = .ok (.iload 11, 2) := by decide +kernel
theorem dL_flashes_82 : decode cL_flashes 82 = .ok (.iload 9, 2) := by decide +kernel
theorem dL_flashes_84 : decode cL_flashes 84 = .ok (.if_icmp .ge 195, 3) := by decide +kernel
theorem dL_flashes_87 : decode cL_flashes 87 = .ok (.iload 7, 2) := by decide +kernel
theorem dL_flashes_89 : decode cL_flashes 89 = .ok (.iload 11, 2) := by decide +kernel
theorem dL_flashes_91 : decode cL_flashes 91 = .ok (.iload 8, 2) := by decide +kernel
theorem dL_flashes_93 : decode cL_flashes 93 = .ok (.imul, 1) := by decide +kernel
theorem dL_flashes_94 : decode cL_flashes 94 = .ok (.iadd, 1) := by decide +kernel
theorem dL_flashes_95 : decode cL_flashes 95 = .ok (.istore 12, 2) := by decide +kernel
theorem dL_flashes_97 : decode cL_flashes 97 = .ok (.iload 10, 2) := by decide +kernel
theorem dL_flashes_99 : decode cL_flashes 99 = .ok (.aload_n 3, 1) := by decide +kernel
theorem dL_flashes_100 : decode cL_flashes 100 = .ok (.aload 4, 2) := by decide +kernel
theorem dL_flashes_102 : decode cL_flashes 102 = .ok (.iload 5, 2) := by decide +kernel
theorem dL_flashes_104 : decode cL_flashes 104 = .ok (.iload 12, 2) := by decide +kernel
theorem dL_flashes_106 : decode cL_flashes 106 = .ok (.iload_n 2, 1) := by decide +kernel
theorem dL_flashes_107 : decode cL_flashes 107 = .ok (.invokestatic 49, 3) := by decide +kernel
theorem dL_flashes_110 : decode cL_flashes 110 = .ok (.istore 13, 2) := by decide +kernel
theorem dL_flashes_112 : decode cL_flashes 112 = .ok (.iload 10, 2) := by decide +kernel
theorem dL_flashes_114 : decode cL_flashes 114 = .ok (.aload_n 3, 1) := by decide +kernel
theorem dL_flashes_115 : decode cL_flashes 115 = .ok (.aload 4, 2) := by decide +kernel
theorem dL_flashes_117 : decode cL_flashes 117 = .ok (.iload 5, 2) := by decide +kernel
theorem dL_flashes_119 : decode cL_flashes 119 = .ok (.iload 12, 2) := by decide +kernel
theorem dL_flashes_121 : decode cL_flashes 121 = .ok (.iload 8, 2) := by decide +kernel
theorem dL_flashes_123 : decode cL_flashes 123 = .ok (.iadd, 1) := by decide +kernel
theorem dL_flashes_124 : decode cL_flashes 124 = .ok (.iload_n 2, 1) := by decide +kernel
theorem dL_flashes_125 : decode cL_flashes 125 = .ok (.invokestatic 49, 3) := by decide +kernel
theorem dL_flashes_128 : decode cL_flashes 128 = .ok (.istore 14, 2) := by decide +kernel
theorem dL_flashes_130 : decode cL_flashes 130 = .ok (.iconst 0, 1) := by decide +kernel
theorem dL_flashes_131 : decode cL_flashes 131 = .ok (.istore 15, 2) := by decide +kernel
theorem dL_flashes_133 : decode cL_flashes 133 = .ok (.aload_n 1, 1) := by decide +kernel
theorem dL_flashes_134 : decode cL_flashes 134 = .ok (.iload_n 2, 1) := by decide +kernel
theorem dL_flashes_135 : decode cL_flashes 135 = .ok (.iload 10, 2) := by decide +kernel
theorem dL_flashes_137 : decode cL_flashes 137 = .ok (.aload_n 3, 1) := by decide +kernel
theorem dL_flashes_138 : decode cL_flashes 138 = .ok (.aload 4, 2) := by decide +kernel
theorem dL_flashes_140 : decode cL_flashes 140 = .ok (.iload 5, 2) := by decide +kernel
theorem dL_flashes_142 : decode cL_flashes 142 = .ok (.iload 7, 2) := by decide +kernel
theorem dL_flashes_144 : decode cL_flashes 144 = .ok (.iload 15, 2) := by decide +kernel
theorem dL_flashes_146 : decode cL_flashes 146 = .ok (.iload 8, 2) := by decide +kernel
theorem dL_flashes_148 : decode cL_flashes 148 = .ok (.imul, 1) := by decide +kernel
theorem dL_flashes_149 : decode cL_flashes 149 = .ok (.iadd, 1) := by decide +kernel
theorem dL_flashes_150 : decode cL_flashes 150 = .ok (.iload_n 2, 1) := by decide +kernel
theorem dL_flashes_151 : decode cL_flashes 151 = .ok (.invokestatic 49, 3) := by decide +kernel
theorem dL_flashes_154 : decode cL_flashes 154 = .ok (.iload 13, 2) := by decide +kernel
theorem dL_flashes_156 : decode cL_flashes 156 = .ok (.invokestatic 53, 3) := by decide +kernel
theorem dL_flashes_159 : decode cL_flashes 159 = .ok (.ifCond .eq 9, 3) := by decide +kernel
theorem dL_flashes_162 : decode cL_flashes 162 = .ok (.iinc 15 1, 3) := by decide +kernel
theorem dL_flashes_165 : decode cL_flashes 165 = .ok (.goto (-32), 3) := by decide +kernel
theorem dL_flashes_168 : decode cL_flashes 168 = .ok (.aload_n 0, 1) := by decide +kernel
theorem dL_flashes_169 : decode cL_flashes 169 = .ok (.iload 11, 2) := by decide +kernel
theorem dL_flashes_171 : decode cL_flashes 171 = .ok (.iconst 0, 1) := by decide +kernel
theorem dL_flashes_172 : decode cL_flashes 172 = .ok (.invokevirtual 57, 3) := by decide +kernel
theorem dL_flashes_175 : decode cL_flashes 175 = .ok (.iload 12, 2) := by decide +kernel
theorem dL_flashes_177 : decode cL_flashes 177 = .ok (.if_icmp .ne 55, 3) := by decide +kernel
theorem dL_flashes_180 : decode cL_flashes 180 = .ok (.aload_n 0, 1) := by decide +kernel
theorem dL_flashes_181 : decode cL_flashes 181 = .ok (.iload 11, 2) := by decide +kernel
theorem dL_flashes_183 : decode cL_flashes 183 = .ok (.iconst 1, 1) := by decide +kernel
theorem dL_flashes_184 : decode cL_flashes 184 = .ok (.invokevirtual 57, 3) := by decide +kernel
theorem dL_flashes_187 : decode cL_flashes 187 = .ok (.iload 13, 2) := by decide +kernel
theorem dL_flashes_189 : decode cL_flashes 189 = .ok (.if_icmp .ne 43, 3) := by decide +kernel
theorem dL_flashes_192 : decode cL_flashes 192 = .ok (.iload 11, 2) := by decide +kernel
theorem dL_flashes_194 : decode cL_flashes 194 = .ok (.iconst 1, 1) := by decide +kernel
theorem dL_flashes_195 : decode cL_flashes 195 = .ok (.iadd, 1) := by decide +kernel
theorem dL_flashes_196 : decode cL_flashes 196 = .ok (.iload 9, 2) := by decide +kernel
theorem dL_flashes_198 : decode cL_flashes 198 = .ok (.if_icmp .ge 22, 3) := by decide +kernel
theorem dL_flashes_201 : decode cL_flashes 201 = .ok (.aload_n 0, 1) := by decide +kernel
theorem dL_flashes_202 : decode cL_flashes 202 = .ok (.iload 11, 2) := by decide +kernel
theorem dL_flashes_204 : decode cL_flashes 204 = .ok (.iconst 2, 1) := by decide +kernel
theorem dL_flashes_205 : decode cL_flashes 205 = .ok (.invokevirtual 57, 3) := by decide +kernel
theorem dL_flashes_208 : decode cL_flashes 208 = .ok (.aload_n 1, 1) := by decide +kernel
theorem dL_flashes_209 : decode cL_flashes 209 = .ok (.iload_n 2, 1) := by decide +kernel
theorem dL_flashes_210 : decode cL_flashes 210 = .ok (.iload 13, 2) := by decide +kernel
theorem dL_flashes_212 : decode cL_flashes 212 = .ok (.iload 14, 2) := by decide +kernel
theorem dL_flashes_214 : decode cL_flashes 214 = .ok (.invokestatic 53, 3) := by decide +kernel
theorem dL_flashes_217 : decode cL_flashes 217 = .ok (.if_icmp .ne 15, 3) := by decide +kernel
theorem dL_flashes_220 : decode cL_flashes 220 = .ok (.aload_n 0, 1) := by decide +kernel
theorem dL_flashes_221 : decode cL_flashes 221 = .ok (.iload 11, 2) := by decide +kernel
theorem dL_flashes_223 : decode cL_flashes 223 = .ok (.iconst 3, 1) := by decide +kernel
theorem dL_flashes_224 : decode cL_flashes 224 = .ok (.invokevirtual 57, 3) := by decide +kernel
theorem dL_flashes_227 : decode cL_flashes 227 = .ok (.iload 15, 2) := by decide +kernel
theorem dL_flashes_229 : decode cL_flashes 229 = .ok (.if_icmp .eq 5, 3) := by decide +kernel
theorem dL_flashes_232 : decode cL_flashes 232 = .ok (.iconst 0, 1) := by decide +kernel
theorem dL_flashes_233 : decode cL_flashes 233 = .ok (.ireturn, 1) := by decide +kernel
theorem dL_flashes_234 : decode cL_flashes 234 = .ok (.iconst 0, 1) := by decide +kernel
theorem dL_flashes_235 : decode cL_flashes 235 = .ok (.istore 16, 2) := by decide +kernel
theorem dL_flashes_237 : decode cL_flashes 237 = .ok (.iload 16, 2) := by decide +kernel
theorem dL_flashes_239 : decode cL_flashes 239 = .ok (.iload_n 2, 1) := by decide +kernel
theorem dL_flashes_240 : decode cL_flashes 240 = .ok (.if_icmp .ge 33, 3) := by decide +kernel
theorem dL_flashes_243 : decode cL_flashes 243 = .ok (.aload_n 0, 1) := by decide +kernel
theorem dL_flashes_244 : decode cL_flashes 244 = .ok (.iload 12, 2) := by decide +kernel
theorem dL_flashes_246 : decode cL_flashes 246 = .ok (.iload 16, 2) := by decide +kernel
theorem dL_flashes_248 : decode cL_flashes 248 = .ok (.invokevirtual 60, 3) := by decide +kernel
theorem dL_flashes_251 : decode cL_flashes 251 = .ok (.aload_n 1, 1) := by decide +kernel
theorem dL_flashes_252 : decode cL_flashes 252 = .ok (.iload 16, 2) := by decide +kernel
theorem dL_flashes_254 : decode cL_flashes 254 = .ok (.iload 13, 2) := by decide +kernel
theorem dL_flashes_256 : decode cL_flashes 256 = .ok (.isub, 1) := by decide +kernel
theorem dL_flashes_257 : decode cL_flashes 257 = .ok (.iload_n 2, 1) := by decide +kernel
theorem dL_flashes_258 : decode cL_flashes 258 = .ok (.invokestatic 43, 3) := by decide +kernel
theorem dL_flashes_261 : decode cL_flashes 261 = .ok (.iaload, 1) := by decide +kernel
theorem dL_flashes_262 : decode cL_flashes 262 = .ok (.if_icmp .eq 5, 3) := by decide +kernel
theorem dL_flashes_265 : decode cL_flashes 265 = .ok (.iconst 0, 1) := by decide +kernel
theorem dL_flashes_266 : decode cL_flashes 266 = .ok (.ireturn, 1) := by decide +kernel
theorem dL_flashes_267 : decode cL_flashes 267 = .ok (.iinc 16 1, 3) := by decide +kernel
theorem dL_flashes_270 : decode cL_flashes 270 = .ok (.goto (-33), 3) := by decide +kernel
theorem dL_flashes_273 : decode cL_flashes 273 = .ok (.iinc 11 1, 3) := by decide +kernel
theorem dL_flashes_276 : decode cL_flashes 276 = .ok (.goto (-203), 3) := by decide +kernel
theorem dL_flashes_279 : decode cL_flashes 279 = .ok (.iconst 0, 1) := by decide +kernel
theorem dL_flashes_280 : decode cL_flashes 280 = .ok (.istore 11, 2) := by decide +kernel
theorem dL_flashes_282 : decode cL_flashes 282 = .ok (.iconst 0, 1) := by decide +kernel
theorem dL_flashes_283 : decode cL_flashes 283 = .ok (.istore 12, 2) := by decide +kernel
theorem dL_flashes_285 : decode cL_flashes 285 = .ok (.iconst 0, 1) := by decide +kernel
theorem dL_flashes_286 : decode cL_flashes 286 = .ok (.istore 13, 2) := by decide +kernel
theorem dL_flashes_288 : decode cL_flashes 288 = .ok (.iconst 0, 1) := by decide +kernel
theorem dL_flashes_289 : decode cL_flashes 289 = .ok (.istore 14, 2) := by decide +kernel
theorem dL_flashes_291 : decode cL_flashes 291 = .ok (.iload 14, 2) := by decide +kernel
theorem dL_flashes_293 : decode cL_flashes 293 = .ok (.iconst 1, 1) := by decide +kernel
theorem dL_flashes_294 : decode cL_flashes 294 = .ok (.iadd, 1) := by decide +kernel
theorem dL_flashes_295 : decode cL_flashes 295 = .ok (.iload 9, 2) := by decide +kernel
theorem dL_flashes_297 : decode cL_flashes 297 = .ok (.if_icmp .ge 63, 3) := by decide +kernel
theorem dL_flashes_300 : decode cL_flashes 300 = .ok (.aload_n 0, 1) := by decide +kernel
theorem dL_flashes_301 : decode cL_flashes 301 = .ok (.iload 14, 2) := by decide +kernel
theorem dL_flashes_303 : decode cL_flashes 303 = .ok (.iconst 2, 1) := by decide +kernel
theorem dL_flashes_304 : decode cL_flashes 304 = .ok (.invokevirtual 57, 3) := by decide +kernel
theorem dL_flashes_307 : decode cL_flashes 307 = .ok (.istore 15, 2) := by decide +kernel
theorem dL_flashes_309 : decode cL_flashes 309 = .ok (.iload 11, 2) := by decide +kernel
theorem dL_flashes_311 : decode cL_flashes 311 = .ok (.iload 15, 2) := by decide +kernel
theorem dL_flashes_313 : decode cL_flashes 313 = .ok (.ifCond .ne 7, 3) := by decide +kernel
theorem dL_flashes_316 : decode cL_flashes 316 = .ok (.iconst 1, 1) := by decide +kernel
theorem dL_flashes_317 : decode cL_flashes 317 = .ok (.goto 4, 3) := by decide +kernel
theorem dL_flashes_320 : decode cL_flashes 320 = .ok (.iconst 0, 1) := by decide +kernel
theorem dL_flashes_321 : decode cL_flashes 321 = .ok (.iadd, 1) := by decide +kernel
theorem dL_flashes_322 : decode cL_flashes 322 = .ok (.istore 11, 2) := by decide +kernel
theorem dL_flashes_324 : decode cL_flashes 324 = .ok (.iload 12, 2) := by decide +kernel
theorem dL_flashes_326 : decode cL_flashes 326 = .ok (.iload 15, 2) := by decide +kernel
theorem dL_flashes_328 : decode cL_flashes 328 = .ok (.ifCond .le 7, 3) := by decide +kernel
theorem dL_flashes_331 : decode cL_flashes 331 = .ok (.iconst 1, 1) := by decide +kernel
theorem dL_flashes_332 : decode cL_flashes 332 = .ok (.goto 4, 3) := by decide +kernel
theorem dL_flashes_335 : decode cL_flashes 335 = .ok (.iconst 0, 1) := by decide +kernel
theorem dL_flashes_336 : decode cL_flashes 336 = .ok (.iadd, 1) := by decide +kernel
theorem dL_flashes_337 : decode cL_flashes 337 = .ok (.istore 12, 2) := by decide +kernel
theorem dL_flashes_339 : decode cL_flashes 339 = .ok (.iload 13, 2) := by decide +kernel
theorem dL_flashes_341 : decode cL_flashes 341 = .ok (.iload 15, 2) := by decide +kernel
theorem dL_flashes_343 : decode cL_flashes 343 = .ok (.ifCond .ge 7, 3) := by decide +kernel
theorem dL_flashes_346 : decode cL_flashes 346 = .ok (.iconst 1, 1) := by decide +kernel
theorem dL_flashes_347 : decode cL_flashes 347 = .ok (.goto 4, 3) := by decide +kernel
theorem dL_flashes_350 : decode cL_flashes 350 = .ok (.iconst 0, 1) := by decide +kernel
theorem dL_flashes_351 : decode cL_flashes 351 = .ok (.iadd, 1) := by decide +kernel
theorem dL_flashes_352 : decode cL_flashes 352 = .ok (.istore 13, 2) := by decide +kernel
theorem dL_flashes_354 : decode cL_flashes 354 = .ok (.iinc 14 1, 3) := by decide +kernel
theorem dL_flashes_357 : decode cL_flashes 357 = .ok (.goto (-66), 3) := by decide +kernel
theorem dL_flashes_360 : decode cL_flashes 360 = .ok (.aload_n 0, 1) := by decide +kernel
theorem dL_flashes_361 : decode cL_flashes 361 = .ok (.iconst 0, 1) := by decide +kernel
theorem dL_flashes_362 : decode cL_flashes 362 = .ok (.invokevirtual 63, 3) := by decide +kernel
theorem dL_flashes_365 : decode cL_flashes 365 = .ok (.iload 11, 2) := by decide +kernel
theorem dL_flashes_367 : decode cL_flashes 367 = .ok (.if_icmp .ne 70, 3) := by decide +kernel
theorem dL_flashes_370 : decode cL_flashes 370 = .ok (.aload_n 0, 1) := by decide +kernel
theorem dL_flashes_371 : decode cL_flashes 371 = .ok (.iconst 1, 1) := by decide +kernel
theorem dL_flashes_372 : decode cL_flashes 372 = .ok (.invokevirtual 63, 3) := by decide +kernel
theorem dL_flashes_375 : decode cL_flashes 375 = .ok (.iload 12, 2) := by decide +kernel
theorem dL_flashes_377 : decode cL_flashes 377 = .ok (.if_icmp .ne 60, 3) := by decide +kernel
theorem dL_flashes_380 : decode cL_flashes 380 = .ok (.aload_n 0, 1) := by decide +kernel
theorem dL_flashes_381 : decode cL_flashes 381 = .ok (.iconst 2, 1) := by decide +kernel
theorem dL_flashes_382 : decode cL_flashes 382 = .ok (.invokevirtual 63, 3) := by decide +kernel
theorem dL_flashes_385 : decode cL_flashes 385 = .ok (.iload 13, 2) := by decide +kernel
theorem dL_flashes_387 : decode cL_flashes 387 = .ok (.if_icmp .ne 50, 3) := by decide +kernel
theorem dL_flashes_390 : decode cL_flashes 390 = .ok (.iload 11, 2) := by decide +kernel
theorem dL_flashes_392 : decode cL_flashes 392 = .ok (.iload 12, 2) := by decide +kernel
theorem dL_flashes_394 : decode cL_flashes 394 = .ok (.iadd, 1) := by decide +kernel
theorem dL_flashes_395 : decode cL_flashes 395 = .ok (.iload 13, 2) := by decide +kernel
theorem dL_flashes_397 : decode cL_flashes 397 = .ok (.iadd, 1) := by decide +kernel
theorem dL_flashes_398 : decode cL_flashes 398 = .ok (.iload 9, 2) := by decide +kernel
theorem dL_flashes_400 : decode cL_flashes 400 = .ok (.iconst 1, 1) := by decide +kernel
theorem dL_flashes_401 : decode cL_flashes 401 = .ok (.isub, 1) := by decide +kernel
theorem dL_flashes_402 : decode cL_flashes 402 = .ok (.if_icmp .ne 35, 3) := by decide +kernel
theorem dL_flashes_405 : decode cL_flashes 405 = .ok (.aload_n 0, 1) := by decide +kernel
theorem dL_flashes_406 : decode cL_flashes 406 = .ok (.iload 9, 2) := by decide +kernel
theorem dL_flashes_408 : decode cL_flashes 408 = .ok (.iconst 1, 1) := by decide +kernel
theorem dL_flashes_409 : decode cL_flashes 409 = .ok (.isub, 1) := by decide +kernel
theorem dL_flashes_410 : decode cL_flashes 410 = .ok (.iconst 2, 1) := by decide +kernel
theorem dL_flashes_411 : decode cL_flashes 411 = .ok (.invokevirtual 57, 3) := by decide +kernel
theorem dL_flashes_414 : decode cL_flashes 414 = .ok (.sipush (-1004), 3) := by decide +kernel
theorem dL_flashes_417 : decode cL_flashes 417 = .ok (.if_icmp .ne 20, 3) := by decide +kernel
theorem dL_flashes_420 : decode cL_flashes 420 = .ok (.aload_n 0, 1) := by decide +kernel
theorem dL_flashes_421 : decode cL_flashes 421 = .ok (.iconst 3, 1) := by decide +kernel
theorem dL_flashes_422 : decode cL_flashes 422 = .ok (.invokevirtual 63, 3) := by decide +kernel
theorem dL_flashes_425 : decode cL_flashes 425 = .ok (.aload_n 0, 1) := by decide +kernel
theorem dL_flashes_426 : decode cL_flashes 426 = .ok (.iconst 2, 1) := by decide +kernel
theorem dL_flashes_427 : decode cL_flashes 427 = .ok (.invokevirtual 33, 3) := by decide +kernel
theorem dL_flashes_430 : decode cL_flashes 430 = .ok (.if_icmp .gt 7, 3) := by decide +kernel
theorem dL_flashes_433 : decode cL_flashes 433 = .ok (.iconst 1, 1) := by decide +kernel
theorem dL_flashes_434 : decode cL_flashes 434 = .ok (.goto 4, 3) := by decide +kernel
theorem dL_flashes_437 : decode cL_flashes 437 = .ok (.iconst 0, 1) := by decide +kernel
theorem dL_flashes_438 : decode cL_flashes 438 = .ok (.ireturn, 1) := by decide +kernel
theorem dL_fits_0 : decode cL_fits 0 = .ok (.iconst 1, 1) := by decide +kernel
theorem dL_fits_1 : decode cL_fits 1 = .ok (.istore 4, 2) := by decide +kernel
theorem dL_fits_3 : decode cL_fits 3 = .ok (.iconst 0, 1) := by decide +kernel
theorem dL_fits_4 : decode cL_fits 4 = .ok (.istore 5, 2) := by decide +kernel
theorem dL_fits_6 : decode cL_fits 6 = .ok (.iload 5, 2) := by decide +kernel
theorem dL_fits_8 : decode cL_fits 8 = .ok (.aload_n 0, 1) := by decide +kernel
theorem dL_fits_9 : decode cL_fits 9 = .ok (.bipush 9, 2) := by decide +kernel
theorem dL_fits_11 : decode cL_fits 11 = .ok (.invokevirtual 33, 3) := by decide +kernel
theorem dL_fits_14 : decode cL_fits 14 = .ok (.if_icmp .ge 51, 3) := by decide +kernel
theorem dL_fits_17 : decode cL_fits 17 = .ok (.iload 4, 2) := by decide +kernel
theorem dL_fits_19 : decode cL_fits 19 = .ok (.ifCond .eq 37, 3) := by decide +kernel
theorem dL_fits_22 : decode cL_fits 22 = .ok (.iload 5, 2) := by decide +kernel
theorem dL_fits_24 : decode cL_fits 24 = .ok (.iload_n 2, 1) := by decide +kernel
theorem dL_fits_25 : decode cL_fits 25 = .ok (.if_icmp .eq 27, 3) := by decide +kernel
theorem dL_fits_28 : decode cL_fits 28 = .ok (.iload_n 1, 1) := by decide +kernel
theorem dL_fits_29 : decode cL_fits 29 = .ok (.aload_n 0, 1) := by decide +kernel
theorem dL_fits_30 : decode cL_fits 30 = .ok (.iload 5, 2) := by decide +kernel
theorem dL_fits_32 : decode cL_fits 32 = .ok (.iconst 0, 1) := by decide +kernel
theorem dL_fits_33 : decode cL_fits 33 = .ok (.invokevirtual 66, 3) := by decide +kernel
theorem dL_fits_36 : decode cL_fits 36 = .ok (.imul, 1) := by decide +kernel
theorem dL_fits_37 : decode cL_fits 37 = .ok (.aload_n 0, 1) := by decide +kernel
theorem dL_fits_38 : decode cL_fits 38 = .ok (.iload 5, 2) := by decide +kernel
theorem dL_fits_40 : decode cL_fits 40 = .ok (.iconst 1, 1) := by decide +kernel
theorem dL_fits_41 : decode cL_fits 41 = .ok (.invokevirtual 66, 3) := by decide +kernel
theorem dL_fits_44 : decode cL_fits 44 = .ok (.isub, 1) := by decide +kernel
theorem dL_fits_45 : decode cL_fits 45 = .ok (.iload_n 3, 1) := by decide +kernel
theorem dL_fits_46 : decode cL_fits 46 = .ok (.invokestatic 43, 3) := by decide +kernel
theorem dL_fits_49 : decode cL_fits 49 = .ok (.ifCond .ne 7, 3) := by decide +kernel
theorem dL_fits_52 : decode cL_fits 52 = .ok (.iconst 1, 1) := by decide +kernel
theorem dL_fits_53 : decode cL_fits 53 = .ok (.goto 4, 3) := by decide +kernel
theorem dL_fits_56 : decode cL_fits 56 = .ok (.iconst 0, 1) := by decide +kernel
theorem dL_fits_57 : decode cL_fits 57 = .ok (.istore 4, 2) := by decide +kernel
theorem dL_fits_59 : decode cL_fits 59 = .ok (.iinc 5 1, 3) := by decide +kernel
theorem dL_fits_62 : decode cL_fits 62 = .ok (.goto (-56), 3) := by decide +kernel
theorem dL_fits_65 : decode cL_fits 65 = .ok (.iload 4, 2) := by decide +kernel
theorem dL_fits_67 : decode cL_fits 67 = .ok (.ireturn, 1) := by decide +kernel
theorem dL_readings_0 : decode cL_readings 0 = .ok (.iconst 1, 1) := by decide +kernel
theorem dL_readings_1 : decode cL_readings 1 = .ok (.iload_n 2, 1) := by decide +kernel
theorem dL_readings_2 : decode cL_readings 2 = .ok (.iload_n 2, 1) := by decide +kernel
theorem dL_readings_3 : decode cL_readings 3 = .ok (.iconst 4, 1) := by decide +kernel
theorem dL_readings_4 : decode cL_readings 4 = .ok (.ishr, 1) := by decide +kernel
theorem dL_readings_5 : decode cL_readings 5 = .ok (.iconst 3, 1) := by decide +kernel
theorem dL_readings_6 : decode cL_readings 6 = .ok (.invokestatic 16, 3) := by decide +kernel
theorem dL_readings_9 : decode cL_readings 9 = .ok (.ifCond .ne 9, 3) := by decide +kernel
theorem dL_readings_12 : decode cL_readings 12 = .ok (.sipush 200, 3) := by decide +kernel
theorem dL_readings_15 : decode cL_readings 15 = .ok (.goto 5, 3) := by decide +kernel
theorem dL_readings_18 : decode cL_readings 18 = .ok (.bipush 40, 2) := by decide +kernel
theorem dL_readings_20 : decode cL_readings 20 = .ok (.invokestatic 16, 3) := by decide +kernel
theorem dL_readings_23 : decode cL_readings 23 = .ok (.iadd, 1) := by decide +kernel
theorem dL_readings_24 : decode cL_readings 24 = .ok (.istore_n 3, 1) := by decide +kernel
theorem dL_readings_25 : decode cL_readings 25 = .ok (.aload_n 0, 1) := by decide +kernel
theorem dL_readings_26 : decode cL_readings 26 = .ok (.iload_n 3, 1) := by decide +kernel
theorem dL_readings_27 : decode cL_readings 27 = .ok (.invokevirtual 69, 3) := by decide +kernel
theorem dL_readings_30 : decode cL_readings 30 = .ok (.pop, 1) := by decide +kernel
theorem dL_readings_31 : decode cL_readings 31 = .ok (.iconst 0, 1) := by decide +kernel
theorem dL_readings_32 : decode cL_readings 32 = .ok (.istore 4, 2) := by decide +kernel
theorem dL_readings_34 : decode cL_readings 34 = .ok (.iload_n 2, 1) := by decide +kernel
theorem dL_readings_35 : decode cL_readings 35 = .ok (.bipush 9, 2) := by decide +kernel
theorem dL_readings_37 : decode cL_readings 37 = .ok (.ishr, 1) := by decide +kernel
theorem dL_readings_38 : decode cL_readings 38 = .ok (.sipush 2001, 3) := by decide +kernel
theorem dL_readings_41 : decode cL_readings 41 = .ok (.invokestatic 16, 3) := by decide +kernel
theorem dL_readings_44 : decode cL_readings 44 = .ok (.sipush 1000, 3) := by decide +kernel
theorem dL_readings_47 : decode cL_readings 47 = .ok (.isub, 1) := by decide +kernel
theorem dL_readings_48 : decode cL_readings 48 = .ok (.istore 5, 2) := by decide +kernel
theorem dL_readings_50 : decode cL_readings 50 = .ok (.sipush (-1004), 3) := by decide +kernel
theorem dL_readings_53 : decode cL_readings 53 = .ok (.istore 6, 2) := by decide +kernel
theorem dL_readings_55 : decode cL_readings 55 = .ok (.ldc 72, 2) := by decide +kernel
theorem dL_readings_57 : decode cL_readings 57 = .ok (.istore 7, 2) := by decide +kernel
theorem dL_readings_59 : decode cL_readings 59 = .ok (.bipush 60, 2) := by decide +kernel
theorem dL_readings_61 : decode cL_readings 61 = .ok (.newarray .int, 2) := by decide +kernel
theorem dL_readings_63 : decode cL_readings 63 = .ok (.astore 8, 2) := by decide +kernel
theorem dL_readings_65 : decode cL_readings 65 = .ok (.iconst 1, 1) := by decide +kernel
theorem dL_readings_66 : decode cL_readings 66 = .ok (.iload_n 2, 1) := by decide +kernel
theorem dL_readings_67 : decode cL_readings 67 = .ok (.iconst 5, 1) := by decide +kernel
theorem dL_readings_68 : decode cL_readings 68 = .ok (.ishr, 1) := by decide +kernel
theorem dL_readings_69 : decode cL_readings 69 = .ok (.bipush 20, 2) := by decide +kernel
theorem dL_readings_71 : decode cL_readings 71 = .ok (.invokestatic 16, 3) := by decide +kernel
theorem dL_readings_74 : decode cL_readings 74 = .ok (.iadd, 1) := by decide +kernel
theorem dL_readings_75 : decode cL_readings 75 = .ok (.istore 9, 2) := by decide +kernel
theorem dL_readings_77 : decode cL_readings 77 = .ok (.iconst 0, 1) := by decide +kernel
theorem dL_readings_78 : decode cL_readings 78 = .ok (.istore 10, 2) := by decide +kernel
theorem dL_readings_80 : decode cL_readings 80 = .ok (.iload_n 3, 1) := by decide +kernel
theorem dL_readings_81 : decode cL_readings 81 = .ok (.ineg, 1) := by decide +kernel
theorem dL_readings_82 : decode cL_readings 82 = .ok (.istore 11, 2) := by decide +kernel
theorem dL_readings_84 : decode cL_readings 84 = .ok (.iload 11, 2) := by decide +kernel
theorem dL_readings_86 : decode cL_readings 86 = .ok (.iload_n 3, 1) := by decide +kernel
theorem dL_readings_87 : decode cL_readings 87 = .ok (.if_icmp .gt 132, 3) := by decide +kernel
theorem dL_readings_90 : decode cL_readings 90 = .ok (.aload_n 0, 1) := by decide +kernel
theorem dL_readings_91 : decode cL_readings 91 = .ok (.iload 11, 2) := by decide +kernel
theorem dL_readings_93 : decode cL_readings 93 = .ok (.iconst (-1), 1) := by decide +kernel
theorem dL_readings_94 : decode cL_readings 94 = .ok (.iload_n 1, 1) := by decide +kernel
theorem dL_readings_95 : decode cL_readings 95 = .ok (.invokestatic 73, 3) := by decide +kernel
theorem dL_readings_98 : decode cL_readings 98 = .ok (.ifCond .eq 115, 3) := by decide +kernel
theorem dL_readings_101 : decode cL_readings 101 = .ok (.aload_n 0, 1) := by decide +kernel
theorem dL_readings_102 : decode cL_readings 102 = .ok (.iload 4, 2) := by decide +kernel
theorem dL_readings_104 : decode cL_readings 104 = .ok (.invokevirtual 77, 3) := by decide +kernel
theorem dL_readings_107 : decode cL_readings 107 = .ok (.iload 11, 2) := by decide +kernel
theorem dL_readings_109 : decode cL_readings 109 = .ok (.if_icmp .eq 5, 3) := by decide +kernel
theorem dL_readings_112 : decode cL_readings 112 = .ok (.iconst 0, 1) := by decide +kernel
theorem dL_readings_113 : decode cL_readings 113 = .ok (.ireturn, 1) := by decide +kernel
theorem dL_readings_114 : decode cL_readings 114 = .ok (.iinc 4 1, 3) := by decide +kernel
theorem dL_readings_117 : decode cL_readings 117 = .ok (.iload 11, 2) := by decide +kernel
theorem dL_readings_119 : decode cL_readings 119 = .ok (.iload 5, 2) := by decide +kernel
theorem dL_readings_121 : decode cL_readings 121 = .ok (.if_icmp .le 11, 3) := by decide +kernel
theorem dL_readings_124 : decode cL_readings 124 = .ok (.iload 11, 2) := by decide +kernel
theorem dL_readings_126 : decode cL_readings 126 = .ok (.iload 5, 2) := by decide +kernel
theorem dL_readings_128 : decode cL_readings 128 = .ok (.isub, 1) := by decide +kernel
theorem dL_readings_129 : decode cL_readings 129 = .ok (.goto 8, 3) := by decide +kernel
theorem dL_readings_132 : decode cL_readings 132 = .ok (.iload 5, 2) := by decide +kernel
theorem dL_readings_134 : decode cL_readings 134 = .ok (.iload 11, 2) := by decide +kernel
theorem dL_readings_136 : decode cL_readings 136 = .ok (.isub, 1) := by decide +kernel
theorem dL_readings_137 : decode cL_readings 137 = .ok (.istore 12, 2) := by decide +kernel
theorem dL_readings_139 : decode cL_readings 139 = .ok (.iload 12, 2) := by decide +kernel
theorem dL_readings_141 : decode cL_readings 141 = .ok (.iload 7, 2) := by decide +kernel
theorem dL_readings_143 : decode cL_readings 143 = .ok (.if_icmp .ge 8, 3) := by decide +kernel
theorem dL_readings_146 : decode cL_readings 146 = .ok (.iload 11, 2) := by decide +kernel
theorem dL_readings_148 : decode cL_readings 148 = .ok (.goto 5, 3) := by decide +kernel
theorem dL_readings_151 : decode cL_readings 151 = .ok (.iload 6, 2) := by decide +kernel
theorem dL_readings_153 : decode cL_readings 153 = .ok (.istore 6, 2) := by decide +kernel
theorem dL_readings_155 : decode cL_readings 155 = .ok (.iload 12, 2) := by decide +kernel
theorem dL_readings_157 : decode cL_readings 157 = .ok (.iload 7, 2) := by decide +kernel
theorem dL_readings_159 : decode cL_readings 159 = .ok (.if_icmp .ge 8, 3) := by decide +kernel
theorem dL_readings_162 : decode cL_readings 162 = .ok (.iload 12, 2) := by decide +kernel
theorem dL_readings_164 : decode cL_readings 164 = .ok (.goto 5, 3) := by decide +kernel
theorem dL_readings_167 : decode cL_readings 167 = .ok (.iload 7, 2) := by decide +kernel
theorem dL_readings_169 : decode cL_readings 169 = .ok (.istore 7, 2) := by decide +kernel
theorem dL_readings_171 : decode cL_readings 171 = .ok (.iload 11, 2) := by decide +kernel
theorem dL_readings_173 : decode cL_readings 173 = .ok (.iload 9, 2) := by decide +kernel
theorem dL_readings_175 : decode cL_readings 175 = .ok (.imul, 1) := by decide +kernel
theorem dL_readings_176 : decode cL_readings 176 = .ok (.iload_n 1, 1) := by decide +kernel
theorem dL_readings_177 : decode cL_readings 177 = .ok (.invokestatic 43, 3) := by decide +kernel
theorem dL_readings_180 : decode cL_readings 180 = .ok (.istore 13, 2) := by decide +kernel
theorem dL_readings_182 : decode cL_readings 182 = .ok (.aload 8, 2) := by decide +kernel
theorem dL_readings_184 : decode cL_readings 184 = .ok (.iload 13, 2) := by decide +kernel
theorem dL_readings_186 : decode cL_readings 186 = .ok (.dup2, 1) := by decide +kernel
theorem dL_readings_187 : decode cL_readings 187 = .ok (.iaload, 1) := by decide +kernel
theorem dL_readings_188 : decode cL_readings 188 = .ok (.iconst 1, 1) := by decide +kernel
theorem dL_readings_189 : decode cL_readings 189 = .ok (.iadd, 1) := by decide +kernel
theorem dL_readings_190 : decode cL_readings 190 = .ok (.iastore, 1) := by decide +kernel
theorem dL_readings_191 : decode cL_readings 191 = .ok (.aload 8, 2) := by decide +kernel
theorem dL_readings_193 : decode cL_readings 193 = .ok (.iload 13, 2) := by decide +kernel
theorem dL_readings_195 : decode cL_readings 195 = .ok (.iaload, 1) := by decide +kernel
theorem dL_readings_196 : decode cL_readings 196 = .ok (.iload 10, 2) := by decide +kernel
theorem dL_readings_198 : decode cL_readings 198 = .ok (.if_icmp .le 11, 3) := by decide +kernel
theorem dL_readings_201 : decode cL_readings 201 = .ok (.aload 8, 2) := by decide +kernel
theorem dL_readings_203 : decode cL_readings 203 = .ok (.iload 13, 2) := by decide +kernel
theorem dL_readings_205 : decode cL_readings 205 = .ok (.iaload, 1) := by decide +kernel
theorem dL_readings_206 : decode cL_readings 206 = .ok (.goto 5, 3) := by decide +kernel
theorem dL_readings_209 : decode cL_readings 209 = .ok (.iload 10, 2) := by decide +kernel
theorem dL_readings_211 : decode cL_readings 211 = .ok (.istore 10, 2) := by decide +kernel
theorem dL_readings_213 : decode cL_readings 213 = .ok (.iinc 11 1, 3) := by decide +kernel
theorem dL_readings_216 : decode cL_readings 216 = .ok (.goto (-132), 3) := by decide +kernel
theorem dL_readings_219 : decode cL_readings 219 = .ok (.aload_n 0, 1) := by decide +kernel
theorem dL_readings_220 : decode cL_readings 220 = .ok (.invokevirtual 80, 3) := by decide +kernel
theorem dL_readings_223 : decode cL_readings 223 = .ok (.iload 4, 2) := by decide +kernel
theorem dL_readings_225 : decode cL_readings 225 = .ok (.if_icmp .ne 26, 3) := by decide +kernel
theorem dL_readings_228 : decode cL_readings 228 = .ok (.aload_n 0, 1) := by decide +kernel
theorem dL_readings_229 : decode cL_readings 229 = .ok (.iload 4, 2) := by decide +kernel
theorem dL_readings_231 : decode cL_readings 231 = .ok (.invokevirtual 77, 3) := by decide +kernel
theorem dL_readings_234 : decode cL_readings 234 = .ok (.sipush (-1004), 3) := by decide +kernel
theorem dL_readings_237 : decode cL_readings 237 = .ok (.if_icmp .ne 14, 3) := by decide +kernel
theorem dL_readings_240 : decode cL_readings 240 = .ok (.aload_n 0, 1) := by decide +kernel
theorem dL_readings_241 : decode cL_readings 241 = .ok (.iload 5, 2) := by decide +kernel
theorem dL_readings_243 : decode cL_readings 243 = .ok (.invokevirtual 83, 3) := by decide +kernel
theorem dL_readings_246 : decode cL_readings 246 = .ok (.iload 6, 2) := by decide +kernel
theorem dL_readings_248 : decode cL_readings 248 = .ok (.if_icmp .eq 5, 3) := by decide +kernel
theorem dL_readings_251 : decode cL_readings 251 = .ok (.iconst 0, 1) := by decide +kernel
theorem dL_readings_252 : decode cL_readings 252 = .ok (.ireturn, 1) := by decide +kernel
theorem dL_readings_253 : decode cL_readings 253 = .ok (.sipush (-1004), 3) := by decide +kernel
theorem dL_readings_256 : decode cL_readings 256 = .ok (.istore 11, 2) := by decide +kernel
theorem dL_readings_258 : decode cL_readings 258 = .ok (.aload_n 0, 1) := by decide +kernel
theorem dL_readings_259 : decode cL_readings 259 = .ok (.bipush 9, 2) := by decide +kernel
theorem dL_readings_261 : decode cL_readings 261 = .ok (.invokevirtual 33, 3) := by decide +kernel
theorem dL_readings_264 : decode cL_readings 264 = .ok (.iconst 1, 1) := by decide +kernel
theorem dL_readings_265 : decode cL_readings 265 = .ok (.isub, 1) := by decide +kernel
theorem dL_readings_266 : decode cL_readings 266 = .ok (.istore 12, 2) := by decide +kernel
theorem dL_readings_268 : decode cL_readings 268 = .ok (.iload 12, 2) := by decide +kernel
theorem dL_readings_270 : decode cL_readings 270 = .ok (.ifCond .lt 85, 3) := by decide +kernel
theorem dL_readings_273 : decode cL_readings 273 = .ok (.iconst 0, 1) := by decide +kernel
theorem dL_readings_274 : decode cL_readings 274 = .ok (.istore 13, 2) := by decide +kernel
theorem dL_readings_276 : decode cL_readings 276 = .ok (.iload_n 3, 1) := by decide +kernel
theorem dL_readings_277 : decode cL_readings 277 = .ok (.ineg, 1) := by decide +kernel
theorem dL_readings_278 : decode cL_readings 278 = .ok (.istore 14, 2) := by decide +kernel
theorem dL_readings_280 : decode cL_readings 280 = .ok (.iload 14, 2) := by decide +kernel
theorem dL_readings_282 : decode cL_readings 282 = .ok (.iload_n 3, 1) := by decide +kernel
theorem dL_readings_283 : decode cL_readings 283 = .ok (.if_icmp .gt 31, 3) := by decide +kernel
theorem dL_readings_286 : decode cL_readings 286 = .ok (.iload 13, 2) := by decide +kernel
theorem dL_readings_288 : decode cL_readings 288 = .ok (.aload_n 0, 1) := by decide +kernel
theorem dL_readings_289 : decode cL_readings 289 = .ok (.iload 14, 2) := by decide +kernel
theorem dL_readings_291 : decode cL_readings 291 = .ok (.iload 12, 2) := by decide +kernel
theorem dL_readings_293 : decode cL_readings 293 = .ok (.iload_n 1, 1) := by decide +kernel
theorem dL_readings_294 : decode cL_readings 294 = .ok (.invokestatic 73, 3) := by decide +kernel
theorem dL_readings_297 : decode cL_readings 297 = .ok (.ifCond .eq 7, 3) := by decide +kernel
theorem dL_readings_300 : decode cL_readings 300 = .ok (.iconst 1, 1) := by decide +kernel
theorem dL_readings_301 : decode cL_readings 301 = .ok (.goto 4, 3) := by decide +kernel
theorem dL_readings_304 : decode cL_readings 304 = .ok (.iconst 0, 1) := by decide +kernel
theorem dL_readings_305 : decode cL_readings 305 = .ok (.iadd, 1) := by decide +kernel
theorem dL_readings_306 : decode cL_readings 306 = .ok (.istore 13, 2) := by decide +kernel
theorem dL_readings_308 : decode cL_readings 308 = .ok (.iinc 14 1, 3) := by decide +kernel
theorem dL_readings_311 : decode cL_readings 311 = .ok (.goto (-31), 3) := by decide +kernel
theorem dL_readings_314 : decode cL_readings 314 = .ok (.iload 13, 2) := by decide +kernel
theorem dL_readings_316 : decode cL_readings 316 = .ok (.ifCond .le 8, 3) := by decide +kernel
theorem dL_readings_319 : decode cL_readings 319 = .ok (.iload 12, 2) := by decide +kernel
theorem dL_readings_321 : decode cL_readings 321 = .ok (.goto 5, 3) := by decide +kernel
theorem dL_readings_324 : decode cL_readings 324 = .ok (.iload 11, 2) := by decide +kernel
theorem dL_readings_326 : decode cL_readings 326 = .ok (.istore 11, 2) := by decide +kernel
theorem dL_readings_328 : decode cL_readings 328 = .ok (.aload_n 0, 1) := by decide +kernel
theorem dL_readings_329 : decode cL_readings 329 = .ok (.iload 12, 2) := by decide +kernel
theorem dL_readings_331 : decode cL_readings 331 = .ok (.iconst 2, 1) := by decide +kernel
theorem dL_readings_332 : decode cL_readings 332 = .ok (.invokevirtual 66, 3) := by decide +kernel
theorem dL_readings_335 : decode cL_readings 335 = .ok (.iload 13, 2) := by decide +kernel
theorem dL_readings_337 : decode cL_readings 337 = .ok (.if_icmp .ne 10, 3) := by decide +kernel
theorem dL_readings_340 : decode cL_readings 340 = .ok (.iload 13, 2) := by decide +kernel
theorem dL_readings_342 : decode cL_readings 342 = .ok (.iload 4, 2) := by decide +kernel
theorem dL_readings_344 : decode cL_readings 344 = .ok (.if_icmp .ge 5, 3) := by decide +kernel
theorem dL_readings_347 : decode cL_readings 347 = .ok (.iconst 0, 1) := by decide +kernel
theorem dL_readings_348 : decode cL_readings 348 = .ok (.ireturn, 1) := by decide +kernel
theorem dL_readings_349 : decode cL_readings 349 = .ok (.iinc 12 (-1), 3) := by decide +kernel
theorem dL_readings_352 : decode cL_readings 352 = .ok (.goto (-84), 3) := by decide +kernel
theorem dL_readings_355 : decode cL_readings 355 = .ok (.aload_n 0, 1) := by decide +kernel
theorem dL_readings_356 : decode cL_readings 356 = .ok (.iload 9, 2) := by decide +kernel
theorem dL_readings_358 : decode cL_readings 358 = .ok (.iconst 0, 1) := by decide +kernel
theorem dL_readings_359 : decode cL_readings 359 = .ok (.invokevirtual 86, 3) := by decide +kernel
theorem dL_readings_362 : decode cL_readings 362 = .ok (.istore 12, 2) := by decide +kernel
theorem dL_readings_364 : decode cL_readings 364 = .ok (.aload_n 0, 1) := by decide +kernel
theorem dL_readings_365 : decode cL_readings 365 = .ok (.iload 9, 2) := by decide +kernel
theorem dL_readings_367 : decode cL_readings 367 = .ok (.iconst 1, 1) := by decide +kernel
theorem dL_readings_368 : decode cL_readings 368 = .ok (.invokevirtual 86, 3) := by decide +kernel
theorem dL_readings_371 : decode cL_readings 371 = .ok (.istore 13, 2) := by decide +kernel
theorem dL_readings_373 : decode cL_readings 373 = .ok (.iload 4, 2) := by decide +kernel
theorem dL_readings_375 : decode cL_readings 375 = .ok (.ifCond .ne 27, 3) := by decide +kernel
theorem dL_readings_378 : decode cL_readings 378 = .ok (.iload 12, 2) := by decide +kernel
theorem dL_readings_380 : decode cL_readings 380 = .ok (.sipush (-1004), 3) := by decide +kernel
theorem dL_readings_383 : decode cL_readings 383 = .ok (.if_icmp .ne 15, 3) := by decide +kernel
theorem dL_readings_386 : decode cL_readings 386 = .ok (.iload 13, 2) := by decide +kernel
theorem dL_readings_388 : decode cL_readings 388 = .ok (.sipush (-1004), 3) := by decide +kernel
theorem dL_readings_391 : decode cL_readings 391 = .ok (.if_icmp .ne 7, 3) := by decide +kernel
theorem dL_readings_394 : decode cL_readings 394 = .ok (.iconst 1, 1) := by decide +kernel
theorem dL_readings_395 : decode cL_readings 395 = .ok (.goto 52, 3) := by decide +kernel
theorem dL_readings_398 : decode cL_readings 398 = .ok (.iconst 0, 1) := by decide +kernel
theorem dL_readings_399 : decode cL_readings 399 = .ok (.goto 48, 3) := by decide +kernel
theorem dL_readings_402 : decode cL_readings 402 = .ok (.iload 12, 2) := by decide +kernel
theorem dL_readings_404 : decode cL_readings 404 = .ok (.iconst 1, 1) := by decide +kernel
theorem dL_readings_405 : decode cL_readings 405 = .ok (.if_icmp .lt 41, 3) := by decide +kernel
theorem dL_readings_408 : decode cL_readings 408 = .ok (.iload 12, 2) := by decide +kernel
theorem dL_readings_410 : decode cL_readings 410 = .ok (.iload 9, 2) := by decide +kernel
theorem dL_readings_412 : decode cL_readings 412 = .ok (.if_icmp .gt 34, 3) := by decide +kernel
theorem dL_readings_415 : decode cL_readings 415 = .ok (.iload 13, 2) := by decide +kernel
theorem dL_readings_417 : decode cL_readings 417 = .ok (.iconst 1, 1) := by decide +kernel
theorem dL_readings_418 : decode cL_readings 418 = .ok (.if_icmp .lt 28, 3) := by decide +kernel
theorem dL_readings_421 : decode cL_readings 421 = .ok (.iload 13, 2) := by decide +kernel
theorem dL_readings_423 : decode cL_readings 423 = .ok (.iload 10, 2) := by decide +kernel
theorem dL_readings_425 : decode cL_readings 425 = .ok (.if_icmp .gt 21, 3) := by decide +kernel
theorem dL_readings_428 : decode cL_readings 428 = .ok (.iload 12, 2) := by decide +kernel
theorem dL_readings_430 : decode cL_readings 430 = .ok (.iload 9, 2) := by decide +kernel
