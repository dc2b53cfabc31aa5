theorem dX8_type_32 : decode cX8_type 32 = .ok (.getfield 26, 3) := by decide +kernel
theorem dX8_type_35 : decode cX8_type 35 = .ok (.iload_n 1, 1) := by decide +kernel
theorem dX8_type_36 : decode cX8_type 36 = .ok (.invokevirtual 52, 3) := by decide +kernel
theorem dX8_type_39 : decode cX8_type 39 = .ok (.aload_n 0, 1) := by decide +kernel
theorem dX8_type_40 : decode cX8_type 40 = .ok (.getfield 26, 3) := by decide +kernel
theorem dX8_type_43 : decode cX8_type 43 = .ok (.getfield 48, 3) := by decide +kernel
theorem dX8_type_46 : decode cX8_type 46 = .ok (.ireturn, 1) := by decide +kernel
theorem dX8_clearText_0 : decode cX8_clearText 0 = .ok (.aload_n 0, 1) := by decide +kernel
theorem dX8_clearText_1 : decode cX8_clearText 1 = .ok (.getfield 26, 3) := by decide +kernel
theorem dX8_clearText_4 : decode cX8_clearText 4 = .ok (.getfield 48, 3) := by decide +kernel
theorem dX8_clearText_7 : decode cX8_clearText 7 = .ok (.istore_n 1, 1) := by decide +kernel
theorem dX8_clearText_8 : decode cX8_clearText 8 = .ok (.aload_n 0, 1) := by decide +kernel
theorem dX8_clearText_9 : decode cX8_clearText 9 = .ok (.getfield 26, 3) := by decide +kernel
theorem dX8_clearText_12 : decode cX8_clearText 12 = .ok (.iconst 0, 1) := by decide +kernel
theorem dX8_clearText_13 : decode cX8_clearText 13 = .ok (.putfield 48, 3) := by decide +kernel
theorem dX8_clearText_16 : decode cX8_clearText 16 = .ok (.iload_n 1, 1) := by decide +kernel
theorem dX8_clearText_17 : decode cX8_clearText 17 = .ok (.ireturn, 1) := by decide +kernel
theorem dX8_load_0 : decode cX8_load 0 = .ok (.aload_n 0, 1) := by decide +kernel
theorem dX8_load_1 : decode cX8_load 1 = .ok (.getfield 26, 3) := by decide +kernel
theorem dX8_load_4 : decode cX8_load 4 = .ok (.aload_n 0, 1) := by decide +kernel
theorem dX8_load_5 : decode cX8_load 5 = .ok (.getfield 33, 3) := by decide +kernel
theorem dX8_load_8 : decode cX8_load 8 = .ok (.invokevirtual 56, 3) := by decide +kernel
theorem dX8_load_11 : decode cX8_load 11 = .ok (.ifCond .ne 14, 3) := by decide +kernel
theorem dX8_load_14 : decode cX8_load 14 = .ok (.bipush (-10), 2) := by decide +kernel
theorem dX8_load_16 : decode cX8_load 16 = .ok (.aload_n 0, 1) := by decide +kernel
theorem dX8_load_17 : decode cX8_load 17 = .ok (.getfield 26, 3) := by decide +kernel
theorem dX8_load_20 : decode cX8_load 20 = .ok (.getfield 60, 3) := by decide +kernel
theorem dX8_load_23 : decode cX8_load 23 = .ok (.isub, 1) := by decide +kernel
theorem dX8_load_24 : decode cX8_load 24 = .ok (.ireturn, 1) := by decide +kernel
theorem dX8_load_25 : decode cX8_load 25 = .ok (.aload_n 0, 1) := by decide +kernel
theorem dX8_load_26 : decode cX8_load 26 = .ok (.getfield 19, 3) := by decide +kernel
theorem dX8_load_29 : decode cX8_load 29 = .ok (.aload_n 0, 1) := by decide +kernel
theorem dX8_load_30 : decode cX8_load 30 = .ok (.getfield 10, 3) := by decide +kernel
theorem dX8_load_33 : decode cX8_load 33 = .ok (.invokevirtual 63, 3) := by decide +kernel
theorem dX8_load_36 : decode cX8_load 36 = .ok (.aload_n 0, 1) := by decide +kernel
theorem dX8_load_37 : decode cX8_load 37 = .ok (.getfield 10, 3) := by decide +kernel
theorem dX8_load_40 : decode cX8_load 40 = .ok (.getfield 67, 3) := by decide +kernel
theorem dX8_load_43 : decode cX8_load 43 = .ok (.aload_n 0, 1) := by decide +kernel
theorem dX8_load_44 : decode cX8_load 44 = .ok (.getfield 33, 3) := by decide +kernel
theorem dX8_load_47 : decode cX8_load 47 = .ok (.invokevirtual 70, 3) := by decide +kernel
theorem dX8_load_50 : decode cX8_load 50 = .ok (.aload_n 0, 1) := by decide +kernel
theorem dX8_load_51 : decode cX8_load 51 = .ok (.getfield 10, 3) := by decide +kernel
theorem dX8_load_54 : decode cX8_load 54 = .ok (.getfield 67, 3) := by decide +kernel
theorem dX8_load_57 : decode cX8_load 57 = .ok (.getfield 74, 3) := by decide +kernel
theorem dX8_load_60 : decode cX8_load 60 = .ok (.ireturn, 1) := by decide +kernel
theorem dX8_faultKind_0 : decode cX8_faultKind 0 = .ok (.aload_n 0, 1) := by decide +kernel
theorem dX8_faultKind_1 : decode cX8_faultKind 1 = .ok (.getfield 26, 3) := by decide +kernel
theorem dX8_faultKind_4 : decode cX8_faultKind 4 = .ok (.getfield 77, 3) := by decide +kernel
theorem dX8_faultKind_7 : decode cX8_faultKind 7 = .ok (.ireturn, 1) := by decide +kernel
theorem dX8_setMark_0 : decode cX8_setMark 0 = .ok (.aload_n 0, 1) := by decide +kernel
theorem dX8_setMark_1 : decode cX8_setMark 1 = .ok (.iload_n 1, 1) := by decide +kernel
theorem dX8_setMark_2 : decode cX8_setMark 2 = .ok (.invokevirtual 80, 3) := by decide +kernel
theorem dX8_setMark_5 : decode cX8_setMark 5 = .ok (.ifCond .eq 12, 3) := by decide +kernel
theorem dX8_setMark_8 : decode cX8_setMark 8 = .ok (.iload_n 2, 1) := by decide +kernel
theorem dX8_setMark_9 : decode cX8_setMark 9 = .ok (.iconst 0, 1) := by decide +kernel
theorem dX8_setMark_10 : decode cX8_setMark 10 = .ok (.iconst 3, 1) := by decide +kernel
theorem dX8_setMark_11 : decode cX8_setMark 11 = .ok (.invokestatic 44, 3) := by decide +kernel
theorem dX8_setMark_14 : decode cX8_setMark 14 = .ok (.ifCond .ne 7, 3) := by decide +kernel
theorem dX8_setMark_17 : decode cX8_setMark 17 = .ok (.sipush (-1001), 3) := by decide +kernel
theorem dX8_setMark_20 : decode cX8_setMark 20 = .ok (.ireturn, 1) := by decide +kernel
theorem dX8_setMark_21 : decode cX8_setMark 21 = .ok (.aload_n 0, 1) := by decide +kernel
theorem dX8_setMark_22 : decode cX8_setMark 22 = .ok (.getfield 19, 3) := by decide +kernel
theorem dX8_setMark_25 : decode cX8_setMark 25 = .ok (.aload_n 0, 1) := by decide +kernel
theorem dX8_setMark_26 : decode cX8_setMark 26 = .ok (.getfield 10, 3) := by decide +kernel
theorem dX8_setMark_29 : decode cX8_setMark 29 = .ok (.invokevirtual 63, 3) := by decide +kernel
theorem dX8_setMark_32 : decode cX8_setMark 32 = .ok (.aload_n 0, 1) := by decide +kernel
theorem dX8_setMark_33 : decode cX8_setMark 33 = .ok (.getfield 10, 3) := by decide +kernel
theorem dX8_setMark_36 : decode cX8_setMark 36 = .ok (.getfield 67, 3) := by decide +kernel
theorem dX8_setMark_39 : decode cX8_setMark 39 = .ok (.iload_n 1, 1) := by decide +kernel
theorem dX8_setMark_40 : decode cX8_setMark 40 = .ok (.invokevirtual 84, 3) := by decide +kernel
theorem dX8_setMark_43 : decode cX8_setMark 43 = .ok (.istore_n 3, 1) := by decide +kernel
theorem dX8_setMark_44 : decode cX8_setMark 44 = .ok (.aload_n 0, 1) := by decide +kernel
theorem dX8_setMark_45 : decode cX8_setMark 45 = .ok (.getfield 10, 3) := by decide +kernel
theorem dX8_setMark_48 : decode cX8_setMark 48 = .ok (.getfield 67, 3) := by decide +kernel
theorem dX8_setMark_51 : decode cX8_setMark 51 = .ok (.getfield 88, 3) := by decide +kernel
theorem dX8_setMark_54 : decode cX8_setMark 54 = .ok (.iload_n 1, 1) := by decide +kernel
theorem dX8_setMark_55 : decode cX8_setMark 55 = .ok (.iload_n 2, 1) := by decide +kernel
theorem dX8_setMark_56 : decode cX8_setMark 56 = .ok (.invokestatic 92, 3) := by decide +kernel
theorem dX8_setMark_59 : decode cX8_setMark 59 = .ok (.iload_n 3, 1) := by decide +kernel
theorem dX8_setMark_60 : decode cX8_setMark 60 = .ok (.ireturn, 1) := by decide +kernel
theorem dX8_setStart_0 : decode cX8_setStart 0 = .ok (.iload_n 1, 1) := by decide +kernel
theorem dX8_setStart_1 : decode cX8_setStart 1 = .ok (.iconst 0, 1) := by decide +kernel
theorem dX8_setStart_2 : decode cX8_setStart 2 = .ok (.bipush 59, 2) := by decide +kernel
theorem dX8_setStart_4 : decode cX8_setStart 4 = .ok (.invokestatic 44, 3) := by decide +kernel
theorem dX8_setStart_7 : decode cX8_setStart 7 = .ok (.ifCond .ne 7, 3) := by decide +kernel
theorem dX8_setStart_10 : decode cX8_setStart 10 = .ok (.sipush (-1001), 3) := by decide +kernel
theorem dX8_setStart_13 : decode cX8_setStart 13 = .ok (.ireturn, 1) := by decide +kernel
theorem dX8_setStart_14 : decode cX8_setStart 14 = .ok (.aload_n 0, 1) := by decide +kernel
theorem dX8_setStart_15 : decode cX8_setStart 15 = .ok (.getfield 19, 3) := by decide +kernel
theorem dX8_setStart_18 : decode cX8_setStart 18 = .ok (.aload_n 0, 1) := by decide +kernel
theorem dX8_setStart_19 : decode cX8_setStart 19 = .ok (.getfield 10, 3) := by decide +kernel
theorem dX8_setStart_22 : decode cX8_setStart 22 = .ok (.invokevirtual 63, 3) := by decide +kernel
theorem dX8_setStart_25 : decode cX8_setStart 25 = .ok (.aload_n 0, 1) := by decide +kernel
theorem dX8_setStart_26 : decode cX8_setStart 26 = .ok (.getfield 10, 3) := by decide +kernel
theorem dX8_setStart_29 : decode cX8_setStart 29 = .ok (.getfield 67, 3) := by decide +kernel
theorem dX8_setStart_32 : decode cX8_setStart 32 = .ok (.getfield 96, 3) := by decide +kernel
theorem dX8_setStart_35 : decode cX8_setStart 35 = .ok (.istore_n 2, 1) := by decide +kernel
theorem dX8_setStart_36 : decode cX8_setStart 36 = .ok (.aload_n 0, 1) := by decide +kernel
theorem dX8_setStart_37 : decode cX8_setStart 37 = .ok (.getfield 10, 3) := by decide +kernel
theorem dX8_setStart_40 : decode cX8_setStart 40 = .ok (.getfield 67, 3) := by decide +kernel
theorem dX8_setStart_43 : decode cX8_setStart 43 = .ok (.iload_n 1, 1) := by decide +kernel
theorem dX8_setStart_44 : decode cX8_setStart 44 = .ok (.putfield 96, 3) := by decide +kernel
theorem dX8_setStart_47 : decode cX8_setStart 47 = .ok (.iload_n 2, 1) := by decide +kernel
theorem dX8_setStart_48 : decode cX8_setStart 48 = .ok (.ireturn, 1) := by decide +kernel
theorem dX8_setSpeed_0 : decode cX8_setSpeed 0 = .ok (.iload_n 1, 1) := by decide +kernel
theorem dX8_setSpeed_1 : decode cX8_setSpeed 1 = .ok (.invokestatic 99, 3) := by decide +kernel
theorem dX8_setSpeed_4 : decode cX8_setSpeed 4 = .ok (.ifCond .eq 16, 3) := by decide +kernel
theorem dX8_setSpeed_7 : decode cX8_setSpeed 7 = .ok (.iload_n 2, 1) := by decide +kernel
theorem dX8_setSpeed_8 : decode cX8_setSpeed 8 = .ok (.sipush (-1000), 3) := by decide +kernel
theorem dX8_setSpeed_11 : decode cX8_setSpeed 11 = .ok (.sipush 1000, 3) := by decide +kernel
theorem dX8_setSpeed_14 : decode cX8_setSpeed 14 = .ok (.invokestatic 44, 3) := by decide +kernel
theorem dX8_setSpeed_17 : decode cX8_setSpeed 17 = .ok (.ifCond .ne 7, 3) := by decide +kernel
theorem dX8_setSpeed_20 : decode cX8_setSpeed 20 = .ok (.sipush (-1001), 3) := by decide +kernel
theorem dX8_setSpeed_23 : decode cX8_setSpeed 23 = .ok (.ireturn, 1) := by decide +kernel
theorem dX8_setSpeed_24 : decode cX8_setSpeed 24 = .ok (.aload_n 0, 1) := by decide +kernel
theorem dX8_setSpeed_25 : decode cX8_setSpeed 25 = .ok (.getfield 10, 3) := by decide +kernel
theorem dX8_setSpeed_28 : decode cX8_setSpeed 28 = .ok (.getfield 67, 3) := by decide +kernel
theorem dX8_setSpeed_31 : decode cX8_setSpeed 31 = .ok (.iload_n 1, 1) := by decide +kernel
theorem dX8_setSpeed_32 : decode cX8_setSpeed 32 = .ok (.invokevirtual 102, 3) := by decide +kernel
theorem dX8_setSpeed_35 : decode cX8_setSpeed 35 = .ok (.ifCond .ne 7, 3) := by decide +kernel
theorem dX8_setSpeed_38 : decode cX8_setSpeed 38 = .ok (.sipush (-1003), 3) := by decide +kernel
theorem dX8_setSpeed_41 : decode cX8_setSpeed 41 = .ok (.ireturn, 1) := by decide +kernel
theorem dX8_setSpeed_42 : decode cX8_setSpeed 42 = .ok (.aload_n 0, 1) := by decide +kernel
theorem dX8_setSpeed_43 : decode cX8_setSpeed 43 = .ok (.getfield 19, 3) := by decide +kernel
theorem dX8_setSpeed_46 : decode cX8_setSpeed 46 = .ok (.aload_n 0, 1) := by decide +kernel
theorem dX8_setSpeed_47 : decode cX8_setSpeed 47 = .ok (.getfield 10, 3) := by decide +kernel
theorem dX8_setSpeed_50 : decode cX8_setSpeed 50 = .ok (.invokevirtual 63, 3) := by decide +kernel
theorem dX8_setSpeed_53 : decode cX8_setSpeed 53 = .ok (.aload_n 0, 1) := by decide +kernel
theorem dX8_setSpeed_54 : decode cX8_setSpeed 54 = .ok (.getfield 10, 3) := by decide +kernel
theorem dX8_setSpeed_57 : decode cX8_setSpeed 57 = .ok (.getfield 67, 3) := by decide +kernel
theorem dX8_setSpeed_60 : decode cX8_setSpeed 60 = .ok (.iload_n 1, 1) := by decide +kernel
theorem dX8_setSpeed_61 : decode cX8_setSpeed 61 = .ok (.iload_n 2, 1) := by decide +kernel
theorem dX8_setSpeed_62 : decode cX8_setSpeed 62 = .ok (.invokevirtual 105, 3) := by decide +kernel
theorem dX8_setSpeed_65 : decode cX8_setSpeed 65 = .ok (.aload_n 0, 1) := by decide +kernel
theorem dX8_setSpeed_66 : decode cX8_setSpeed 66 = .ok (.getfield 10, 3) := by decide +kernel
theorem dX8_setSpeed_69 : decode cX8_setSpeed 69 = .ok (.getfield 67, 3) := by decide +kernel
theorem dX8_setSpeed_72 : decode cX8_setSpeed 72 = .ok (.getfield 109, 3) := by decide +kernel
theorem dX8_setSpeed_75 : decode cX8_setSpeed 75 = .ok (.ireturn, 1) := by decide +kernel
theorem dX8_dropChange_0 : decode cX8_dropChange 0 = .ok (.aload_n 0, 1) := by decide +kernel
theorem dX8_dropChange_1 : decode cX8_dropChange 1 = .ok (.getfield 10, 3) := by decide +kernel
theorem dX8_dropChange_4 : decode cX8_dropChange 4 = .ok (.getfield 67, 3) := by decide +kernel
theorem dX8_dropChange_7 : decode cX8_dropChange 7 = .ok (.iload_n 1, 1) := by decide +kernel
theorem dX8_dropChange_8 : decode cX8_dropChange 8 = .ok (.invokevirtual 112, 3) := by decide +kernel
theorem dX8_dropChange_11 : decode cX8_dropChange 11 = .ok (.ifCond .ne 7, 3) := by decide +kernel
theorem dX8_dropChange_14 : decode cX8_dropChange 14 = .ok (.sipush (-1001), 3) := by decide +kernel
theorem dX8_dropChange_17 : decode cX8_dropChange 17 = .ok (.ireturn, 1) := by decide +kernel
theorem dX8_dropChange_18 : decode cX8_dropChange 18 = .ok (.aload_n 0, 1) := by decide +kernel
theorem dX8_dropChange_19 : decode cX8_dropChange 19 = .ok (.getfield 19, 3) := by decide +kernel
theorem dX8_dropChange_22 : decode cX8_dropChange 22 = .ok (.aload_n 0, 1) := by decide +kernel
theorem dX8_dropChange_23 : decode cX8_dropChange 23 = .ok (.getfield 10, 3) := by decide +kernel
theorem dX8_dropChange_26 : decode cX8_dropChange 26 = .ok (.invokevirtual 63, 3) := by decide +kernel
theorem dX8_dropChange_29 : decode cX8_dropChange 29 = .ok (.aload_n 0, 1) := by decide +kernel
theorem dX8_dropChange_30 : decode cX8_dropChange 30 = .ok (.getfield 10, 3) := by decide +kernel
theorem dX8_dropChange_33 : decode cX8_dropChange 33 = .ok (.getfield 67, 3) := by decide +kernel
theorem dX8_dropChange_36 : decode cX8_dropChange 36 = .ok (.iload_n 1, 1) := by decide +kernel
theorem dX8_dropChange_37 : decode cX8_dropChange 37 = .ok (.invokevirtual 115, 3) := by decide +kernel
theorem dX8_dropChange_40 : decode cX8_dropChange 40 = .ok (.aload_n 0, 1) := by decide +kernel
theorem dX8_dropChange_41 : decode cX8_dropChange 41 = .ok (.getfield 10, 3) := by decide +kernel
theorem dX8_dropChange_44 : decode cX8_dropChange 44 = .ok (.getfield 67, 3) := by decide +kernel
theorem dX8_dropChange_47 : decode cX8_dropChange 47 = .ok (.getfield 109, 3) := by decide +kernel
theorem dX8_dropChange_50 : decode cX8_dropChange 50 = .ok (.ireturn, 1) := by decide +kernel
theorem dX8_markAt_0 : decode cX8_markAt 0 = .ok (.iload_n 1, 1) := by decide +kernel
theorem dX8_markAt_1 : decode cX8_markAt 1 = .ok (.invokestatic 99, 3) := by decide +kernel
theorem dX8_markAt_4 : decode cX8_markAt 4 = .ok (.ifCond .eq 11, 3) := by decide +kernel
theorem dX8_markAt_7 : decode cX8_markAt 7 = .ok (.aload_n 0, 1) := by decide +kernel
theorem dX8_markAt_8 : decode cX8_markAt 8 = .ok (.iload_n 2, 1) := by decide +kernel
theorem dX8_markAt_9 : decode cX8_markAt 9 = .ok (.invokevirtual 80, 3) := by decide +kernel
theorem dX8_markAt_12 : decode cX8_markAt 12 = .ok (.ifCond .ne 7, 3) := by decide +kernel
theorem dX8_markAt_15 : decode cX8_markAt 15 = .ok (.sipush (-1001), 3) := by decide +kernel
theorem dX8_markAt_18 : decode cX8_markAt 18 = .ok (.ireturn, 1) := by decide +kernel
theorem dX8_markAt_19 : decode cX8_markAt 19 = .ok (.aload_n 0, 1) := by decide +kernel
theorem dX8_markAt_20 : decode cX8_markAt 20 = .ok (.getfield 10, 3) := by decide +kernel
theorem dX8_markAt_23 : decode cX8_markAt 23 = .ok (.getfield 67, 3) := by decide +kernel
theorem dX8_markAt_26 : decode cX8_markAt 26 = .ok (.iload_n 2, 1) := by decide +kernel
theorem dX8_markAt_27 : decode cX8_markAt 27 = .ok (.aload_n 0, 1) := by decide +kernel
theorem dX8_markAt_28 : decode cX8_markAt 28 = .ok (.getfield 10, 3) := by decide +kernel
theorem dX8_markAt_31 : decode cX8_markAt 31 = .ok (.getfield 67, 3) := by decide +kernel
theorem dX8_markAt_34 : decode cX8_markAt 34 = .ok (.iload_n 1, 1) := by decide +kernel
theorem dX8_markAt_35 : decode cX8_markAt 35 = .ok (.invokevirtual 118, 3) := by decide +kernel
theorem dX8_markAt_38 : decode cX8_markAt 38 = .ok (.isub, 1) := by decide +kernel
theorem dX8_markAt_39 : decode cX8_markAt 39 = .ok (.aload_n 0, 1) := by decide +kernel
theorem dX8_markAt_40 : decode cX8_markAt 40 = .ok (.getfield 10, 3) := by decide +kernel
theorem dX8_markAt_43 : decode cX8_markAt 43 = .ok (.getfield 67, 3) := by decide +kernel
theorem dX8_markAt_46 : decode cX8_markAt 46 = .ok (.getfield 74, 3) := by decide +kernel
theorem dX8_markAt_49 : decode cX8_markAt 49 = .ok (.invokestatic 121, 3) := by decide +kernel
theorem dX8_markAt_52 : decode cX8_markAt 52 = .ok (.invokevirtual 84, 3) := by decide +kernel
theorem dX8_markAt_55 : decode cX8_markAt 55 = .ok (.ireturn, 1) := by decide +kernel
theorem dX8_turn_0 : decode cX8_turn 0 = .ok (.iload_n 1, 1) := by decide +kernel
theorem dX8_turn_1 : decode cX8_turn 1 = .ok (.invokestatic 99, 3) := by decide +kernel
theorem dX8_turn_4 : decode cX8_turn 4 = .ok (.ifCond .ne 7, 3) := by decide +kernel
theorem dX8_turn_7 : decode cX8_turn 7 = .ok (.sipush (-1001), 3) := by decide +kernel
theorem dX8_turn_10 : decode cX8_turn 10 = .ok (.ireturn, 1) := by decide +kernel
theorem dX8_turn_11 : decode cX8_turn 11 = .ok (.aload_n 0, 1) := by decide +kernel
theorem dX8_turn_12 : decode cX8_turn 12 = .ok (.getfield 10, 3) := by decide +kernel
theorem dX8_turn_15 : decode cX8_turn 15 = .ok (.getfield 67, 3) := by decide +kernel
theorem dX8_turn_18 : decode cX8_turn 18 = .ok (.iload_n 1, 1) := by decide +kernel
theorem dX8_turn_19 : decode cX8_turn 19 = .ok (.invokevirtual 118, 3) := by decide +kernel
theorem dX8_turn_22 : decode cX8_turn 22 = .ok (.aload_n 0, 1) := by decide +kernel
theorem dX8_turn_23 : decode cX8_turn 23 = .ok (.getfield 10, 3) := by decide +kernel
theorem dX8_turn_26 : decode cX8_turn 26 = .ok (.getfield 67, 3) := by decide +kernel
theorem dX8_turn_29 : decode cX8_turn 29 = .ok (.getfield 74, 3) := by decide +kernel
theorem dX8_turn_32 : decode cX8_turn 32 = .ok (.invokestatic 121, 3) := by decide +kernel
theorem dX8_turn_35 : decode cX8_turn 35 = .ok (.ireturn, 1) := by decide +kernel
theorem dX8_setFlash_0 : decode cX8_setFlash 0 = .ok (.iload_n 1, 1) := by decide +kernel
theorem dX8_setFlash_1 : decode cX8_setFlash 1 = .ok (.invokestatic 99, 3) := by decide +kernel
theorem dX8_setFlash_4 : decode cX8_setFlash 4 = .ok (.ifCond .eq 14, 3) := by decide +kernel
theorem dX8_setFlash_7 : decode cX8_setFlash 7 = .ok (.iload_n 2, 1) := by decide +kernel
theorem dX8_setFlash_8 : decode cX8_setFlash 8 = .ok (.iconst 1, 1) := by decide +kernel
theorem dX8_setFlash_9 : decode cX8_setFlash 9 = .ok (.sipush 500, 3) := by decide +kernel
theorem dX8_setFlash_12 : decode cX8_setFlash 12 = .ok (.invokestatic 44, 3) := by decide +kernel
theorem dX8_setFlash_15 : decode cX8_setFlash 15 = .ok (.ifCond .ne 7, 3) := by decide +kernel
theorem dX8_setFlash_18 : decode cX8_setFlash 18 = .ok (.sipush (-1001), 3) := by decide +kernel
theorem dX8_setFlash_21 : decode cX8_setFlash 21 = .ok (.ireturn, 1) := by decide +kernel
theorem dX8_setFlash_22 : decode cX8_setFlash 22 = .ok (.aload_n 0, 1) := by decide +kernel
theorem dX8_setFlash_23 : decode cX8_setFlash 23 = .ok (.getfield 19, 3) := by decide +kernel
theorem dX8_setFlash_26 : decode cX8_setFlash 26 = .ok (.aload_n 0, 1) := by decide +kernel
theorem dX8_setFlash_27 : decode cX8_setFlash 27 = .ok (.getfield 10, 3) := by decide +kernel
theorem dX8_setFlash_30 : decode cX8_setFlash 30 = .ok (.invokevirtual 63, 3) := by decide +kernel
theorem dX8_setFlash_33 : decode cX8_setFlash 33 = .ok (.aload_n 0, 1) := by decide +kernel
theorem dX8_setFlash_34 : decode cX8_setFlash 34 = .ok (.getfield 10, 3) := by decide +kernel
theorem dX8_setFlash_37 : decode cX8_setFlash 37 = .ok (.getfield 125, 3) := by decide +kernel
theorem dX8_setFlash_40 : decode cX8_setFlash 40 = .ok (.iload_n 1, 1) := by decide +kernel
theorem dX8_setFlash_41 : decode cX8_setFlash 41 = .ok (.putfield 129, 3) := by decide +kernel
theorem dX8_setFlash_44 : decode cX8_setFlash 44 = .ok (.aload_n 0, 1) := by decide +kernel
theorem dX8_setFlash_45 : decode cX8_setFlash 45 = .ok (.getfield 10, 3) := by decide +kernel
theorem dX8_setFlash_48 : decode cX8_setFlash 48 = .ok (.getfield 125, 3) := by decide +kernel
theorem dX8_setFlash_51 : decode cX8_setFlash 51 = .ok (.iload_n 2, 1) := by decide +kernel
theorem dX8_setFlash_52 : decode cX8_setFlash 52 = .ok (.putfield 134, 3) := by decide +kernel
theorem dX8_setFlash_55 : decode cX8_setFlash 55 = .ok (.aload_n 0, 1) := by decide +kernel
theorem dX8_setFlash_56 : decode cX8_setFlash 56 = .ok (.getfield 10, 3) := by decide +kernel
theorem dX8_setFlash_59 : decode cX8_setFlash 59 = .ok (.getfield 125, 3) := by decide +kernel
theorem dX8_setFlash_62 : decode cX8_setFlash 62 = .ok (.invokevirtual 137, 3) := by decide +kernel
theorem dX8_setFlash_65 : decode cX8_setFlash 65 = .ok (.ireturn, 1) := by decide +kernel
theorem dX8_flash_0 : decode cX8_flash 0 = .ok (.aload_n 0, 1) := by decide +kernel
theorem dX8_flash_1 : decode cX8_flash 1 = .ok (.iload_n 1, 1) := by decide +kernel
theorem dX8_flash_2 : decode cX8_flash 2 = .ok (.invokevirtual 141, 3) := by decide +kernel
theorem dX8_flash_5 : decode cX8_flash 5 = .ok (.ifCond .eq 12, 3) := by decide +kernel
theorem dX8_flash_8 : decode cX8_flash 8 = .ok (.iload_n 2, 1) := by decide +kernel
theorem dX8_flash_9 : decode cX8_flash 9 = .ok (.iconst 0, 1) := by decide +kernel
theorem dX8_flash_10 : decode cX8_flash 10 = .ok (.iconst 3, 1) := by decide +kernel
theorem dX8_flash_11 : decode cX8_flash 11 = .ok (.invokestatic 44, 3) := by decide +kernel
theorem dX8_flash_14 : decode cX8_flash 14 = .ok (.ifCond .ne 7, 3) := by decide +kernel
theorem dX8_flash_17 : decode cX8_flash 17 = .ok (.sipush (-1001), 3) := by decide +kernel
theorem dX8_flash_20 : decode cX8_flash 20 = .ok (.ireturn, 1) := by decide +kernel
theorem dX8_flash_21 : decode cX8_flash 21 = .ok (.aload_n 0, 1) := by decide +kernel
theorem dX8_flash_22 : decode cX8_flash 22 = .ok (.getfield 10, 3) := by decide +kernel
theorem dX8_flash_25 : decode cX8_flash 25 = .ok (.getfield 125, 3) := by decide +kernel
theorem dX8_flash_28 : decode cX8_flash 28 = .ok (.iload_n 1, 1) := by decide +kernel
theorem dX8_flash_29 : decode cX8_flash 29 = .ok (.invokevirtual 144, 3) := by decide +kernel
theorem dX8_flash_32 : decode cX8_flash 32 = .ok (.istore_n 3, 1) := by decide +kernel
theorem dX8_flash_33 : decode cX8_flash 33 = .ok (.iload_n 2, 1) := by decide +kernel
theorem dX8_flash_34 : decode cX8_flash 34 = .ok (.tableswitch 69 0 2 #[26, 28, 34], 26) := by decide +kernel
theorem dX8_flash_60 : decode cX8_flash 60 = .ok (.iload_n 3, 1) := by decide +kernel
theorem dX8_flash_61 : decode cX8_flash 61 = .ok (.ireturn, 1) := by decide +kernel
theorem dX8_flash_62 : decode cX8_flash 62 = .ok (.aload_n 0, 1) := by decide +kernel
theorem dX8_flash_63 : decode cX8_flash 63 = .ok (.iload_n 3, 1) := by decide +kernel
theorem dX8_flash_64 : decode cX8_flash 64 = .ok (.invokevirtual 147, 3) := by decide +kernel
theorem dX8_flash_67 : decode cX8_flash 67 = .ok (.ireturn, 1) := by decide +kernel
theorem dX8_flash_68 : decode cX8_flash 68 = .ok (.aload_n 0, 1) := by decide +kernel
theorem dX8_flash_69 : decode cX8_flash 69 = .ok (.iload_n 1, 1) := by decide +kernel
theorem dX8_flash_70 : decode cX8_flash 70 = .ok (.iconst 1, 1) := by decide +kernel
theorem dX8_flash_71 : decode cX8_flash 71 = .ok (.iadd, 1) := by decide +kernel
theorem dX8_flash_72 : decode cX8_flash 72 = .ok (.invokevirtual 141, 3) := by decide +kernel
theorem dX8_flash_75 : decode cX8_flash 75 = .ok (.ifCond .eq 24, 3) := by decide +kernel
theorem dX8_flash_78 : decode cX8_flash 78 = .ok (.aload_n 0, 1) := by decide +kernel
theorem dX8_flash_79 : decode cX8_flash 79 = .ok (.iload_n 3, 1) := by decide +kernel
theorem dX8_flash_80 : decode cX8_flash 80 = .ok (.aload_n 0, 1) := by decide +kernel
theorem dX8_flash_81 : decode cX8_flash 81 = .ok (.getfield 10, 3) := by decide +kernel
theorem dX8_flash_84 : decode cX8_flash 84 = .ok (.getfield 125, 3) := by decide +kernel
theorem dX8_flash_87 : decode cX8_flash 87 = .ok (.iload_n 1, 1) := by decide +kernel
theorem dX8_flash_88 : decode cX8_flash 88 = .ok (.iconst 1, 1) := by decide +kernel
theorem dX8_flash_89 : decode cX8_flash 89 = .ok (.iadd, 1) := by decide +kernel
theorem dX8_flash_90 : decode cX8_flash 90 = .ok (.invokevirtual 144, 3) := by decide +kernel
theorem dX8_flash_93 : decode cX8_flash 93 = .ok (.invokevirtual 150, 3) := by decide +kernel
theorem dX8_flash_96 : decode cX8_flash 96 = .ok (.goto 6, 3) := by decide +kernel
theorem dX8_flash_99 : decode cX8_flash 99 = .ok (.sipush (-1004), 3) := by decide +kernel
theorem dX8_flash_102 : decode cX8_flash 102 = .ok (.ireturn, 1) := by decide +kernel
theorem dX8_flash_103 : decode cX8_flash 103 = .ok (.aload_n 0, 1) := by decide +kernel
theorem dX8_flash_104 : decode cX8_flash 104 = .ok (.getfield 10, 3) := by decide +kernel
theorem dX8_flash_107 : decode cX8_flash 107 = .ok (.iload_n 1, 1) := by decide +kernel
theorem dX8_flash_108 : decode cX8_flash 108 = .ok (.invokevirtual 153, 3) := by decide +kernel
theorem dX8_flash_111 : decode cX8_flash 111 = .ok (.ireturn, 1) := by decide +kernel
theorem dX8_step_0 : decode cX8_step 0 = .ok (.iload_n 1, 1) := by decide +kernel
theorem dX8_step_1 : decode cX8_step 1 = .ok (.invokestatic 99, 3) := by decide +kernel
theorem dX8_step_4 : decode cX8_step 4 = .ok (.ifCond .eq 10, 3) := by decide +kernel
theorem dX8_step_7 : decode cX8_step 7 = .ok (.iload_n 2, 1) := by decide +kernel
theorem dX8_step_8 : decode cX8_step 8 = .ok (.invokestatic 99, 3) := by decide +kernel
theorem dX8_step_11 : decode cX8_step 11 = .ok (.ifCond .ne 7, 3) := by decide +kernel
theorem dX8_step_14 : decode cX8_step 14 = .ok (.sipush (-1001), 3) := by decide +kernel
theorem dX8_step_17 : decode cX8_step 17 = .ok (.ireturn, 1) := by decide +kernel
theorem dX8_step_18 : decode cX8_step 18 = .ok (.aload_n 0, 1) := by decide +kernel
theorem dX8_step_19 : decode cX8_step 19 = .ok (.getfield 10, 3) := by decide +kernel
theorem dX8_step_22 : decode cX8_step 22 = .ok (.getfield 67, 3) := by decide +kernel
theorem dX8_step_25 : decode cX8_step 25 = .ok (.iload_n 1, 1) := by decide +kernel
theorem dX8_step_26 : decode cX8_step 26 = .ok (.iload_n 2, 1) := by decide +kernel
theorem dX8_step_27 : decode cX8_step 27 = .ok (.aload_n 0, 1) := by decide +kernel
theorem dX8_step_28 : decode cX8_step 28 = .ok (.getfield 10, 3) := by decide +kernel
theorem dX8_step_31 : decode cX8_step 31 = .ok (.getfield 67, 3) := by decide +kernel
theorem dX8_step_34 : decode cX8_step 34 = .ok (.invokevirtual 156, 3) := by decide +kernel
theorem dX8_step_37 : decode cX8_step 37 = .ok (.invokevirtual 159, 3) := by decide +kernel
theorem dX8_step_40 : decode cX8_step 40 = .ok (.ireturn, 1) := by decide +kernel
theorem dX8_seems_0 : decode cX8_seems 0 = .ok (.iload_n 1, 1) := by decide +kernel
theorem dX8_seems_1 : decode cX8_seems 1 = .ok (.iconst 0, 1) := by decide +kernel
theorem dX8_seems_2 : decode cX8_seems 2 = .ok (.iconst 3, 1) := by decide +kernel
theorem dX8_seems_3 : decode cX8_seems 3 = .ok (.invokestatic 44, 3) := by decide +kernel
theorem dX8_seems_6 : decode cX8_seems 6 = .ok (.ifCond .ne 7, 3) := by decide +kernel
theorem dX8_seems_9 : decode cX8_seems 9 = .ok (.sipush (-1001), 3) := by decide +kernel
theorem dX8_seems_12 : decode cX8_seems 12 = .ok (.ireturn, 1) := by decide +kernel
theorem dX8_seems_13 : decode cX8_seems 13 = .ok (.iload_n 1, 1) := by decide +kernel
theorem dX8_seems_14 : decode cX8_seems 14 = .ok (.iconst 3, 1) := by decide +kernel
theorem dX8_seems_15 : decode cX8_seems 15 = .ok (.if_icmp .ne 13, 3) := by decide +kernel
theorem dX8_seems_18 : decode cX8_seems 18 = .ok (.aload_n 0, 1) := by decide +kernel
theorem dX8_seems_19 : decode cX8_seems 19 = .ok (.getfield 10, 3) := by decide +kernel
theorem dX8_seems_22 : decode cX8_seems 22 = .ok (.invokevirtual 163, 3) := by decide +kernel
theorem dX8_seems_25 : decode cX8_seems 25 = .ok (.goto 11, 3) := by decide +kernel
theorem dX8_seems_28 : decode cX8_seems 28 = .ok (.aload_n 0, 1) := by decide +kernel
theorem dX8_seems_29 : decode cX8_seems 29 = .ok (.getfield 10, 3) := by decide +kernel
theorem dX8_seems_32 : decode cX8_seems 32 = .ok (.iload_n 1, 1) := by decide +kernel
theorem dX8_seems_33 : decode cX8_seems 33 = .ok (.invokevirtual 166, 3) := by decide +kernel
theorem dX8_seems_36 : decode cX8_seems 36 = .ok (.ireturn, 1) := by decide +kernel
theorem dX8_stillPeriod_0 : decode cX8_stillPeriod 0 = .ok (.iload_n 1, 1) := by decide +kernel
theorem dX8_stillPeriod_1 : decode cX8_stillPeriod 1 = .ok (.iconst 1, 1) := by decide +kernel
theorem dX8_stillPeriod_2 : decode cX8_stillPeriod 2 = .ok (.sipush 500, 3) := by decide +kernel
theorem dX8_stillPeriod_5 : decode cX8_stillPeriod 5 = .ok (.invokestatic 44, 3) := by decide +kernel
theorem dX8_stillPeriod_8 : decode cX8_stillPeriod 8 = .ok (.ifCond .eq 14, 3) := by decide +kernel
theorem dX8_stillPeriod_11 : decode cX8_stillPeriod 11 = .ok (.iload_n 2, 1) := by decide +kernel
theorem dX8_stillPeriod_12 : decode cX8_stillPeriod 12 = .ok (.iload_n 1, 1) := by decide +kernel
theorem dX8_stillPeriod_13 : decode cX8_stillPeriod 13 = .ok (.sipush 500, 3) := by decide +kernel
theorem dX8_stillPeriod_16 : decode cX8_stillPeriod 16 = .ok (.invokestatic 44, 3) := by decide +kernel
theorem dX8_stillPeriod_19 : decode cX8_stillPeriod 19 = .ok (.ifCond .ne 7, 3) := by decide +kernel
theorem dX8_stillPeriod_22 : decode cX8_stillPeriod 22 = .ok (.sipush (-1001), 3) := by decide +kernel
theorem dX8_stillPeriod_25 : decode cX8_stillPeriod 25 = .ok (.ireturn, 1) := by decide +kernel
theorem dX8_stillPeriod_26 : decode cX8_stillPeriod 26 = .ok (.aload_n 0, 1) := by decide +kernel
theorem dX8_stillPeriod_27 : decode cX8_stillPeriod 27 = .ok (.getfield 10, 3) := by decide +kernel
theorem dX8_stillPeriod_30 : decode cX8_stillPeriod 30 = .ok (.getfield 67, 3) := by decide +kernel
theorem dX8_stillPeriod_33 : decode cX8_stillPeriod 33 = .ok (.invokevirtual 156, 3) := by decide +kernel
theorem dX8_stillPeriod_36 : decode cX8_stillPeriod 36 = .ok (.istore_n 3, 1) := by decide +kernel
theorem dX8_stillPeriod_37 : decode cX8_stillPeriod 37 = .ok (.iload_n 1, 1) := by decide +kernel
theorem dX8_stillPeriod_38 : decode cX8_stillPeriod 38 = .ok (.istore 4, 2) := by decide +kernel
theorem dX8_stillPeriod_40 : decode cX8_stillPeriod 40 = .ok (.iload 4, 2) := by decide +kernel
theorem dX8_stillPeriod_42 : decode cX8_stillPeriod 42 = .ok (.iload_n 2, 1) := by decide +kernel
theorem dX8_stillPeriod_43 : decode cX8_stillPeriod 43 = .ok (.if_icmp .gt 32, 3) := by decide +kernel
theorem dX8_stillPeriod_46 : decode cX8_stillPeriod 46 = .ok (.aload_n 0, 1) := by decide +kernel
theorem dX8_stillPeriod_47 : decode cX8_stillPeriod 47 = .ok (.getfield 10, 3) := by decide +kernel
theorem dX8_stillPeriod_50 : decode cX8_stillPeriod 50 = .ok (.getfield 67, 3) := by decide +kernel
theorem dX8_stillPeriod_53 : decode cX8_stillPeriod 53 = .ok (.getfield 169, 3) := by decide +kernel
theorem dX8_stillPeriod_56 : decode cX8_stillPeriod 56 = .ok (.iload 4, 2) := by decide +kernel
theorem dX8_stillPeriod_58 : decode cX8_stillPeriod 58 = .ok (.imul, 1) := by decide +kernel
theorem dX8_stillPeriod_59 : decode cX8_stillPeriod 59 = .ok (.iload_n 3, 1) := by decide +kernel
theorem dX8_stillPeriod_60 : decode cX8_stillPeriod 60 = .ok (.invokestatic 121, 3) := by decide +kernel
theorem dX8_stillPeriod_63 : decode cX8_stillPeriod 63 = .ok (.ifCond .ne 6, 3) := by decide +kernel
theorem dX8_stillPeriod_66 : decode cX8_stillPeriod 66 = .ok (.iload 4, 2) := by decide +kernel
theorem dX8_stillPeriod_68 : decode cX8_stillPeriod 68 = .ok (.ireturn, 1) := by decide +kernel
theorem dX8_stillPeriod_69 : decode cX8_stillPeriod 69 = .ok (.iinc 4 1, 3) := by decide +kernel
theorem dX8_stillPeriod_72 : decode cX8_stillPeriod 72 = .ok (.goto (-32), 3) := by decide +kernel
theorem dX8_stillPeriod_75 : decode cX8_stillPeriod 75 = .ok (.sipush (-1004), 3) := by decide +kernel
theorem dX8_stillPeriod_78 : decode cX8_stillPeriod 78 = .ok (.ireturn, 1) := by decide +kernel
theorem dX8_read_0 : decode cX8_read 0 = .ok (.iload_n 1, 1) := by decide +kernel
theorem dX8_read_1 : decode cX8_read 1 = .ok (.iconst 1, 1) := by decide +kernel
theorem dX8_read_2 : decode cX8_read 2 = .ok (.sipush 500, 3) := by decide +kernel
theorem dX8_read_5 : decode cX8_read 5 = .ok (.invokestatic 44, 3) := by decide +kernel
theorem dX8_read_8 : decode cX8_read 8 = .ok (.ifCond .eq 14, 3) := by decide +kernel
theorem dX8_read_11 : decode cX8_read 11 = .ok (.iload_n 2, 1) := by decide +kernel
theorem dX8_read_12 : decode cX8_read 12 = .ok (.bipush (-30), 2) := by decide +kernel
theorem dX8_read_14 : decode cX8_read 14 = .ok (.bipush 30, 2) := by decide +kernel
theorem dX8_read_16 : decode cX8_read 16 = .ok (.invokestatic 44, 3) := by decide +kernel
theorem dX8_read_19 : decode cX8_read 19 = .ok (.ifCond .ne 7, 3) := by decide +kernel
theorem dX8_read_22 : decode cX8_read 22 = .ok (.sipush (-1001), 3) := by decide +kernel
theorem dX8_read_25 : decode cX8_read 25 = .ok (.ireturn, 1) := by decide +kernel
theorem dX8_read_26 : decode cX8_read 26 = .ok (.aload_n 0, 1) := by decide +kernel
theorem dX8_read_27 : decode cX8_read 27 = .ok (.iload_n 1, 1) := by decide +kernel
theorem dX8_read_28 : decode cX8_read 28 = .ok (.iload_n 2, 1) := by decide +kernel
theorem dX8_read_29 : decode cX8_read 29 = .ok (.invokevirtual 172, 3) := by decide +kernel
theorem dX8_read_32 : decode cX8_read 32 = .ok (.ireturn, 1) := by decide +kernel
theorem dX8_look_0 : decode cX8_look 0 = .ok (.aload_n 0, 1) := by decide +kernel
theorem dX8_look_1 : decode cX8_look 1 = .ok (.iload_n 1, 1) := by decide +kernel
theorem dX8_look_2 : decode cX8_look 2 = .ok (.invokevirtual 141, 3) := by decide +kernel
theorem dX8_look_5 : decode cX8_look 5 = .ok (.ifCond .eq 19, 3) := by decide +kernel
theorem dX8_look_8 : decode cX8_look 8 = .ok (.iload_n 1, 1) := by decide +kernel
theorem dX8_look_9 : decode cX8_look 9 = .ok (.aload_n 0, 1) := by decide +kernel
theorem dX8_look_10 : decode cX8_look 10 = .ok (.getfield 10, 3) := by decide +kernel
theorem dX8_look_13 : decode cX8_look 13 = .ok (.getfield 125, 3) := by decide +kernel
theorem dX8_look_16 : decode cX8_look 16 = .ok (.invokevirtual 137, 3) := by decide +kernel
theorem dX8_look_19 : decode cX8_look 19 = .ok (.iconst 1, 1) := by decide +kernel
theorem dX8_look_20 : decode cX8_look 20 = .ok (.isub, 1) := by decide +kernel
theorem dX8_look_21 : decode cX8_look 21 = .ok (.if_icmp .ne 7, 3) := by decide +kernel
theorem dX8_look_24 : decode cX8_look 24 = .ok (.sipush (-1001), 3) := by decide +kernel
theorem dX8_look_27 : decode cX8_look 27 = .ok (.ireturn, 1) := by decide +kernel
theorem dX8_look_28 : decode cX8_look 28 = .ok (.aload_n 0, 1) := by decide +kernel
theorem dX8_look_29 : decode cX8_look 29 = .ok (.aload_n 0, 1) := by decide +kernel
theorem dX8_look_30 : decode cX8_look 30 = .ok (.getfield 10, 3) := by decide +kernel
theorem dX8_look_33 : decode cX8_look 33 = .ok (.getfield 125, 3) := by decide +kernel
theorem dX8_look_36 : decode cX8_look 36 = .ok (.getfield 134, 3) := by decide +kernel
theorem dX8_look_39 : decode cX8_look 39 = .ok (.aload_n 0, 1) := by decide +kernel
theorem dX8_look_40 : decode cX8_look 40 = .ok (.iload_n 1, 1) := by decide +kernel
theorem dX8_look_41 : decode cX8_look 41 = .ok (.iconst 2, 1) := by decide +kernel
theorem dX8_look_42 : decode cX8_look 42 = .ok (.invokevirtual 175, 3) := by decide +kernel
theorem dX8_look_45 : decode cX8_look 45 = .ok (.invokevirtual 172, 3) := by decide +kernel
theorem dX8_look_48 : decode cX8_look 48 = .ok (.ireturn, 1) := by decide +kernel
theorem dX8_dropReading_0 : decode cX8_dropReading 0 = .ok (.aload_n 0, 1) := by decide +kernel
theorem dX8_dropReading_1 : decode cX8_dropReading 1 = .ok (.iload_n 1, 1) := by decide +kernel
theorem dX8_dropReading_2 : decode cX8_dropReading 2 = .ok (.invokevirtual 178, 3) := by decide +kernel
theorem dX8_dropReading_5 : decode cX8_dropReading 5 = .ok (.ifCond .ne 7, 3) := by decide +kernel
theorem dX8_dropReading_8 : decode cX8_dropReading 8 = .ok (.sipush (-1001), 3) := by decide +kernel
theorem dX8_dropReading_11 : decode cX8_dropReading 11 = .ok (.ireturn, 1) := by decide +kernel
theorem dX8_dropReading_12 : decode cX8_dropReading 12 = .ok (.aload_n 0, 1) := by decide +kernel
theorem dX8_dropReading_13 : decode cX8_dropReading 13 = .ok (.getfield 19, 3) := by decide +kernel
theorem dX8_dropReading_16 : decode cX8_dropReading 16 = .ok (.aload_n 0, 1) := by decide +kernel
theorem dX8_dropReading_17 : decode cX8_dropReading 17 = .ok (.getfield 10, 3) := by decide +kernel
theorem dX8_dropReading_20 : decode cX8_dropReading 20 = .ok (.invokevirtual 63, 3) := by decide +kernel
theorem dX8_dropReading_23 : decode cX8_dropReading 23 = .ok (.aload_n 0, 1) := by decide +kernel
theorem dX8_dropReading_24 : decode cX8_dropReading 24 = .ok (.getfield 10, 3) := by decide +kernel
theorem dX8_dropReading_27 : decode cX8_dropReading 27 = .ok (.getfield 181, 3) := by decide +kernel
theorem dX8_dropReading_30 : decode cX8_dropReading 30 = .ok (.iload_n 1, 1) := by decide +kernel
theorem dX8_dropReading_31 : decode cX8_dropReading 31 = .ok (.invokevirtual 185, 3) := by decide +kernel
theorem dX8_dropReading_34 : decode cX8_dropReading 34 = .ok (.aload_n 0, 1) := by decide +kernel
theorem dX8_dropReading_35 : decode cX8_dropReading 35 = .ok (.getfield 10, 3) := by decide +kernel
theorem dX8_dropReading_38 : decode cX8_dropReading 38 = .ok (.getfield 181, 3) := by decide +kernel
theorem dX8_dropReading_41 : decode cX8_dropReading 41 = .ok (.getfield 190, 3) := by decide +kernel
theorem dX8_dropReading_44 : decode cX8_dropReading 44 = .ok (.ireturn, 1) := by decide +kernel
theorem dX8_reading_0 : decode cX8_reading 0 = .ok (.aload_n 0, 1) := by decide +kernel
theorem dX8_reading_1 : decode cX8_reading 1 = .ok (.iload_n 1, 1) := by decide +kernel
theorem dX8_reading_2 : decode cX8_reading 2 = .ok (.invokevirtual 178, 3) := by decide +kernel
theorem dX8_reading_5 : decode cX8_reading 5 = .ok (.ifCond .eq 12, 3) := by decide +kernel
theorem dX8_reading_8 : decode cX8_reading 8 = .ok (.iload_n 2, 1) := by decide +kernel
theorem dX8_reading_9 : decode cX8_reading 9 = .ok (.iconst 0, 1) := by decide +kernel
theorem dX8_reading_10 : decode cX8_reading 10 = .ok (.iconst 2, 1) := by decide +kernel
theorem dX8_reading_11 : decode cX8_reading 11 = .ok (.invokestatic 44, 3) := by decide +kernel
theorem dX8_reading_14 : decode cX8_reading 14 = .ok (.ifCond .ne 7, 3) := by decide +kernel
theorem dX8_reading_17 : decode cX8_reading 17 = .ok (.sipush (-1001), 3) := by decide +kernel
theorem dX8_reading_20 : decode cX8_reading 20 = .ok (.ireturn, 1) := by decide +kernel
theorem dX8_reading_21 : decode cX8_reading 21 = .ok (.iload_n 2, 1) := by decide +kernel
theorem dX8_reading_22 : decode cX8_reading 22 = .ok (.lookupswitch 56 #[(0, 26), (1, 41)], 26) := by decide +kernel
theorem dX8_reading_48 : decode cX8_reading 48 = .ok (.aload_n 0, 1) := by decide +kernel
theorem dX8_reading_49 : decode cX8_reading 49 = .ok (.getfield 10, 3) := by decide +kernel
theorem dX8_reading_52 : decode cX8_reading 52 = .ok (.getfield 181, 3) := by decide +kernel
theorem dX8_reading_55 : decode cX8_reading 55 = .ok (.getfield 193, 3) := by decide +kernel
theorem dX8_reading_58 : decode cX8_reading 58 = .ok (.iload_n 1, 1) := by decide +kernel
theorem dX8_reading_59 : decode cX8_reading 59 = .ok (.invokestatic 196, 3) := by decide +kernel
theorem dX8_reading_62 : decode cX8_reading 62 = .ok (.ireturn, 1) := by decide +kernel
theorem dX8_reading_63 : decode cX8_reading 63 = .ok (.aload_n 0, 1) := by decide +kernel
theorem dX8_reading_64 : decode cX8_reading 64 = .ok (.getfield 10, 3) := by decide +kernel
theorem dX8_reading_67 : decode cX8_reading 67 = .ok (.getfield 181, 3) := by decide +kernel
theorem dX8_reading_70 : decode cX8_reading 70 = .ok (.getfield 200, 3) := by decide +kernel
theorem dX8_reading_73 : decode cX8_reading 73 = .ok (.iload_n 1, 1) := by decide +kernel
theorem dX8_reading_74 : decode cX8_reading 74 = .ok (.invokestatic 196, 3) := by decide +kernel
theorem dX8_reading_77 : decode cX8_reading 77 = .ok (.ireturn, 1) := by decide +kernel
theorem dX8_reading_78 : decode cX8_reading 78 = .ok (.aload_n 0, 1) := by decide +kernel
theorem dX8_reading_79 : decode cX8_reading 79 = .ok (.iload_n 1, 1) := by decide +kernel
theorem dX8_reading_80 : decode cX8_reading 80 = .ok (.invokevirtual 203, 3) := by decide +kernel
theorem dX8_reading_83 : decode cX8_reading 83 = .ok (.invokevirtual 207, 3) := by decide +kernel
theorem dX8_reading_86 : decode cX8_reading 86 = .ok (.ireturn, 1) := by decide +kernel
theorem dX8_setLimit_0 : decode cX8_setLimit 0 = .ok (.iload_n 1, 1) := by decide +kernel
theorem dX8_setLimit_1 : decode cX8_setLimit 1 = .ok (.iconst 1, 1) := by decide +kernel
theorem dX8_setLimit_2 : decode cX8_setLimit 2 = .ok (.sipush 1000, 3) := by decide +kernel
theorem dX8_setLimit_5 : decode cX8_setLimit 5 = .ok (.invokestatic 44, 3) := by decide +kernel
theorem dX8_setLimit_8 : decode cX8_setLimit 8 = .ok (.ifCond .ne 7, 3) := by decide +kernel
theorem dX8_setLimit_11 : decode cX8_setLimit 11 = .ok (.sipush (-1001), 3) := by decide +kernel
theorem dX8_setLimit_14 : decode cX8_setLimit 14 = .ok (.ireturn, 1) := by decide +kernel
theorem dX8_setLimit_15 : decode cX8_setLimit 15 = .ok (.aload_n 0, 1) := by decide +kernel
theorem dX8_setLimit_16 : decode cX8_setLimit 16 = .ok (.getfield 19, 3) := by decide +kernel
theorem dX8_setLimit_19 : decode cX8_setLimit 19 = .ok (.aload_n 0, 1) := by decide +kernel
theorem dX8_setLimit_20 : decode cX8_setLimit 20 = .ok (.getfield 10, 3) := by decide +kernel
theorem dX8_setLimit_23 : decode cX8_setLimit 23 = .ok (.invokevirtual 63, 3) := by decide +kernel
theorem dX8_setLimit_26 : decode cX8_setLimit 26 = .ok (.aload_n 0, 1) := by decide +kernel
theorem dX8_setLimit_27 : decode cX8_setLimit 27 = .ok (.getfield 10, 3) := by decide +kernel
theorem dX8_setLimit_30 : decode cX8_setLimit 30 = .ok (.getfield 181, 3) := by decide +kernel
theorem dX8_setLimit_33 : decode cX8_setLimit 33 = .ok (.getfield 208, 3) := by decide +kernel
theorem dX8_setLimit_36 : decode cX8_setLimit 36 = .ok (.istore_n 2, 1) := by decide +kernel
theorem dX8_setLimit_37 : decode cX8_setLimit 37 = .ok (.aload_n 0, 1) := by decide +kernel
theorem dX8_setLimit_38 : decode cX8_setLimit 38 = .ok (.getfield 10, 3) := by decide +kernel
theorem dX8_setLimit_41 : decode cX8_setLimit 41 = .ok (.getfield 181, 3) := by decide +kernel
theorem dX8_setLimit_44 : decode cX8_setLimit 44 = .ok (.iload_n 1, 1) := by decide +kernel
theorem dX8_setLimit_45 : decode cX8_setLimit 45 = .ok (.putfield 208, 3) := by decide +kernel
theorem dX8_setLimit_48 : decode cX8_setLimit 48 = .ok (.iload_n 2, 1) := by decide +kernel
theorem dX8_setLimit_49 : decode cX8_setLimit 49 = .ok (.ireturn, 1) := by decide +kernel
theorem dX8_candidates_0 : decode cX8_candidates 0 = .ok (.aload_n 0, 1) := by decide +kernel
theorem dX8_candidates_1 : decode cX8_candidates 1 = .ok (.iconst (-1), 1) := by decide +kernel
theorem dX8_candidates_2 : decode cX8_candidates 2 = .ok (.invokevirtual 203, 3) := by decide +kernel
theorem dX8_candidates_5 : decode cX8_candidates 5 = .ok (.invokevirtual 207, 3) := by decide +kernel
theorem dX8_candidates_8 : decode cX8_candidates 8 = .ok (.ireturn, 1) := by decide +kernel
theorem dX8_candidate_0 : decode cX8_candidate 0 = .ok (.iload_n 1, 1) := by decide +kernel
theorem dX8_candidate_1 : decode cX8_candidate 1 = .ok (.ifCond .ge 7, 3) := by decide +kernel
theorem dX8_candidate_4 : decode cX8_candidate 4 = .ok (.sipush (-1001), 3) := by decide +kernel
theorem dX8_candidate_7 : decode cX8_candidate 7 = .ok (.ireturn, 1) := by decide +kernel
theorem dX8_candidate_8 : decode cX8_candidate 8 = .ok (.aload_n 0, 1) := by decide +kernel
theorem dX8_candidate_9 : decode cX8_candidate 9 = .ok (.iconst (-1), 1) := by decide +kernel
theorem dX8_candidate_10 : decode cX8_candidate 10 = .ok (.invokevirtual 203, 3) := by decide +kernel
theorem dX8_candidate_13 : decode cX8_candidate 13 = .ok (.iload_n 1, 1) := by decide +kernel
theorem dX8_candidate_14 : decode cX8_candidate 14 = .ok (.invokevirtual 211, 3) := by decide +kernel
theorem dX8_candidate_17 : decode cX8_candidate 17 = .ok (.ireturn, 1) := by decide +kernel
theorem dX8_nearest_0 : decode cX8_nearest 0 = .ok (.iload_n 1, 1) := by decide +kernel
theorem dX8_nearest_1 : decode cX8_nearest 1 = .ok (.sipush (-1000), 3) := by decide +kernel
theorem dX8_nearest_4 : decode cX8_nearest 4 = .ok (.sipush 1000, 3) := by decide +kernel
theorem dX8_nearest_7 : decode cX8_nearest 7 = .ok (.invokestatic 44, 3) := by decide +kernel
theorem dX8_nearest_10 : decode cX8_nearest 10 = .ok (.ifCond .ne 7, 3) := by decide +kernel
theorem dX8_nearest_13 : decode cX8_nearest 13 = .ok (.sipush (-1001), 3) := by decide +kernel
theorem dX8_nearest_16 : decode cX8_nearest 16 = .ok (.ireturn, 1) := by decide +kernel
theorem dX8_nearest_17 : decode cX8_nearest 17 = .ok (.aload_n 0, 1) := by decide +kernel
theorem dX8_nearest_18 : decode cX8_nearest 18 = .ok (.iconst (-1), 1) := by decide +kernel
theorem dX8_nearest_19 : decode cX8_nearest 19 = .ok (.invokevirtual 203, 3) := by decide +kernel
theorem dX8_nearest_22 : decode cX8_nearest 22 = .ok (.iload_n 1, 1) := by decide +kernel
theorem dX8_nearest_23 : decode cX8_nearest 23 = .ok (.invokevirtual 214, 3) := by decide +kernel
theorem dX8_nearest_26 : decode cX8_nearest 26 = .ok (.ireturn, 1) := by decide +kernel
theorem dX8_odd_0 : decode cX8_odd 0 = .ok (.aload_n 0, 1) := by decide +kernel
theorem dX8_odd_1 : decode cX8_odd 1 = .ok (.invokevirtual 217, 3) := by decide +kernel
theorem dX8_odd_4 : decode cX8_odd 4 = .ok (.ifCond .le 7, 3) := by decide +kernel
theorem dX8_odd_7 : decode cX8_odd 7 = .ok (.sipush (-1002), 3) := by decide +kernel
theorem dX8_odd_10 : decode cX8_odd 10 = .ok (.ireturn, 1) := by decide +kernel
theorem dX8_odd_11 : decode cX8_odd 11 = .ok (.iconst 0, 1) := by decide +kernel
theorem dX8_odd_12 : decode cX8_odd 12 = .ok (.istore_n 1, 1) := by decide +kernel
theorem dX8_odd_13 : decode cX8_odd 13 = .ok (.iload_n 1, 1) := by decide +kernel
theorem dX8_odd_14 : decode cX8_odd 14 = .ok (.aload_n 0, 1) := by decide +kernel
theorem dX8_odd_15 : decode cX8_odd 15 = .ok (.getfield 10, 3) := by decide +kernel
theorem dX8_odd_18 : decode cX8_odd 18 = .ok (.getfield 181, 3) := by decide +kernel
theorem dX8_odd_21 : decode cX8_odd 21 = .ok (.getfield 190, 3) := by decide +kernel
theorem dX8_odd_24 : decode cX8_odd 24 = .ok (.if_icmp .ge 22, 3) := by decide +kernel
theorem dX8_odd_27 : decode cX8_odd 27 = .ok (.aload_n 0, 1) := by decide +kernel
theorem dX8_odd_28 : decode cX8_odd 28 = .ok (.iload_n 1, 1) := by decide +kernel
theorem dX8_odd_29 : decode cX8_odd 29 = .ok (.invokevirtual 203, 3) := by decide +kernel
theorem dX8_odd_32 : decode cX8_odd 32 = .ok (.invokevirtual 207, 3) := by decide +kernel
theorem dX8_odd_35 : decode cX8_odd 35 = .ok (.ifCond .le 5, 3) := by decide +kernel
theorem dX8_odd_38 : decode cX8_odd 38 = .ok (.iload_n 1, 1) := by decide +kernel
theorem dX8_odd_39 : decode cX8_odd 39 = .ok (.ireturn, 1) := by decide +kernel
theorem dX8_odd_40 : decode cX8_odd 40 = .ok (.iinc 1 1, 3) := by decide +kernel
theorem dX8_odd_43 : decode cX8_odd 43 = .ok (.goto (-30), 3) := by decide +kernel
theorem dX8_odd_46 : decode cX8_odd 46 = .ok (.sipush (-1004), 3) := by decide +kernel
theorem dX8_odd_49 : decode cX8_odd 49 = .ok (.ireturn, 1) := by decide +kernel
theorem dX8_bestPeriod_0 : decode cX8_bestPeriod 0 = .ok (.iload_n 1, 1) := by decide +kernel
theorem dX8_bestPeriod_1 : decode cX8_bestPeriod 1 = .ok (.iconst 1, 1) := by decide +kernel
theorem dX8_bestPeriod_2 : decode cX8_bestPeriod 2 = .ok (.sipush 500, 3) := by decide +kernel
theorem dX8_bestPeriod_5 : decode cX8_bestPeriod 5 = .ok (.invokestatic 44, 3) := by decide +kernel
theorem dX8_bestPeriod_8 : decode cX8_bestPeriod 8 = .ok (.ifCond .ne 7, 3) := by decide +kernel
theorem dX8_bestPeriod_11 : decode cX8_bestPeriod 11 = .ok (.sipush (-1001), 3) := by decide +kernel
theorem dX8_bestPeriod_14 : decode cX8_bestPeriod 14 = .ok (.ireturn, 1) := by decide +kernel
theorem dX8_bestPeriod_15 : decode cX8_bestPeriod 15 = .ok (.aload_n 0, 1) := by decide +kernel
theorem dX8_bestPeriod_16 : decode cX8_bestPeriod 16 = .ok (.iconst (-1), 1) := by decide +kernel
theorem dX8_bestPeriod_17 : decode cX8_bestPeriod 17 = .ok (.invokevirtual 203, 3) := by decide +kernel
theorem dX8_bestPeriod_20 : decode cX8_bestPeriod 20 = .ok (.astore_n 3, 1) := by decide +kernel
theorem dX8_bestPeriod_21 : decode cX8_bestPeriod 21 = .ok (.aload_n 3, 1) := by decide +kernel
theorem dX8_bestPeriod_22 : decode cX8_bestPeriod 22 = .ok (.invokevirtual 207, 3) := by decide +kernel
theorem dX8_bestPeriod_25 : decode cX8_bestPeriod 25 = .ok (.ifCond .ne 7, 3) := by decide +kernel
theorem dX8_bestPeriod_28 : decode cX8_bestPeriod 28 = .ok (.sipush (-1004), 3) := by decide +kernel
theorem dX8_bestPeriod_31 : decode cX8_bestPeriod 31 = .ok (.ireturn, 1) := by decide +kernel
theorem dX8_bestPeriod_32 : decode cX8_bestPeriod 32 = .ok (.aload_n 3, 1) := by decide +kernel
theorem dX8_bestPeriod_33 : decode cX8_bestPeriod 33 = .ok (.invokevirtual 220, 3) := by decide +kernel
theorem dX8_bestPeriod_36 : decode cX8_bestPeriod 36 = .ok (.iconst 1, 1) := by decide +kernel
theorem dX8_bestPeriod_37 : decode cX8_bestPeriod 37 = .ok (.istore 4, 2) := by decide +kernel
theorem dX8_bestPeriod_39 : decode cX8_bestPeriod 39 = .ok (.aload_n 3, 1) := by decide +kernel
theorem dX8_bestPeriod_40 : decode cX8_bestPeriod 40 = .ok (.iconst 1, 1) := by decide +kernel
theorem dX8_bestPeriod_41 : decode cX8_bestPeriod 41 = .ok (.invokevirtual 223, 3) := by decide +kernel
theorem dX8_bestPeriod_44 : decode cX8_bestPeriod 44 = .ok (.istore 5, 2) := by decide +kernel
theorem dX8_bestPeriod_46 : decode cX8_bestPeriod 46 = .ok (.iconst 2, 1) := by decide +kernel
theorem dX8_bestPeriod_47 : decode cX8_bestPeriod 47 = .ok (.istore 6, 2) := by decide +kernel
theorem dX8_bestPeriod_49 : decode cX8_bestPeriod 49 = .ok (.iload 6, 2) := by decide +kernel
theorem dX8_bestPeriod_51 : decode cX8_bestPeriod 51 = .ok (.iload_n 1, 1) := by decide +kernel
theorem dX8_bestPeriod_52 : decode cX8_bestPeriod 52 = .ok (.if_icmp .gt 32, 3) := by decide +kernel
theorem dX8_bestPeriod_55 : decode cX8_bestPeriod 55 = .ok (.aload_n 3, 1) := by decide +kernel
theorem dX8_bestPeriod_56 : decode cX8_bestPeriod 56 = .ok (.iload 6, 2) := by decide +kernel
theorem dX8_bestPeriod_58 : decode cX8_bestPeriod 58 = .ok (.invokevirtual 223, 3) := by decide +kernel
theorem dX8_bestPeriod_61 : decode cX8_bestPeriod 61 = .ok (.istore 7, 2) := by decide +kernel
theorem dX8_bestPeriod_63 : decode cX8_bestPeriod 63 = .ok (.iload 7, 2) := by decide +kernel
theorem dX8_bestPeriod_65 : decode cX8_bestPeriod 65 = .ok (.iload 5, 2) := by decide +kernel
theorem dX8_bestPeriod_67 : decode cX8_bestPeriod 67 = .ok (.if_icmp .ge 11, 3) := by decide +kernel
theorem dX8_bestPeriod_70 : decode cX8_bestPeriod 70 = .ok (.iload 7, 2) := by decide +kernel
theorem dX8_bestPeriod_72 : decode cX8_bestPeriod 72 = .ok (.istore 5, 2) := by decide +kernel
theorem dX8_bestPeriod_74 : decode cX8_bestPeriod 74 = .ok (.iload 6, 2) := by decide +kernel
theorem dX8_bestPeriod_76 : decode cX8_bestPeriod 76 = .ok (.istore 4, 2) := by decide +kernel
theorem dX8_bestPeriod_78 : decode cX8_bestPeriod 78 = .ok (.iinc 6 1, 3) := by decide +kernel
theorem dX8_bestPeriod_81 : decode cX8_bestPeriod 81 = .ok (.goto (-32), 3) := by decide +kernel
theorem dX8_bestPeriod_84 : decode cX8_bestPeriod 84 = .ok (.iload_n 2, 1) := by decide +kernel
theorem dX8_bestPeriod_85 : decode cX8_bestPeriod 85 = .ok (.ifCond .eq 8, 3) := by decide +kernel
theorem dX8_bestPeriod_88 : decode cX8_bestPeriod 88 = .ok (.iload 5, 2) := by decide +kernel
theorem dX8_bestPeriod_90 : decode cX8_bestPeriod 90 = .ok (.goto 5, 3) := by decide +kernel
theorem dX8_bestPeriod_93 : decode cX8_bestPeriod 93 = .ok (.iload 4, 2) := by decide +kernel
theorem dX8_bestPeriod_95 : decode cX8_bestPeriod 95 = .ok (.ireturn, 1) := by decide +kernel
theorem dX8_setDisc_0 : decode cX8_setDisc 0 = .ok (.iload_n 1, 1) := by decide +kernel
theorem dX8_setDisc_1 : decode cX8_setDisc 1 = .ok (.iconst 1, 1) := by decide +kernel
theorem dX8_setDisc_2 : decode cX8_setDisc 2 = .ok (.bipush 30, 2) := by decide +kernel
theorem dX8_setDisc_4 : decode cX8_setDisc 4 = .ok (.invokestatic 44, 3) := by decide +kernel
theorem dX8_setDisc_7 : decode cX8_setDisc 7 = .ok (.ifCond .eq 16, 3) := by decide +kernel
theorem dX8_setDisc_10 : decode cX8_setDisc 10 = .ok (.iload_n 2, 1) := by decide +kernel
theorem dX8_setDisc_11 : decode cX8_setDisc 11 = .ok (.iconst 0, 1) := by decide +kernel
theorem dX8_setDisc_12 : decode cX8_setDisc 12 = .ok (.iconst 1, 1) := by decide +kernel
theorem dX8_setDisc_13 : decode cX8_setDisc 13 = .ok (.iload_n 1, 1) := by decide +kernel
theorem dX8_setDisc_14 : decode cX8_setDisc 14 = .ok (.ishl, 1) := by decide +kernel
theorem dX8_setDisc_15 : decode cX8_setDisc 15 = .ok (.iconst 1, 1) := by decide +kernel
theorem dX8_setDisc_16 : decode cX8_setDisc 16 = .ok (.isub, 1) := by decide +kernel
theorem dX8_setDisc_17 : decode cX8_setDisc 17 = .ok (.invokestatic 44, 3) := by decide +kernel
theorem dX8_setDisc_20 : decode cX8_setDisc 20 = .ok (.ifCond .ne 7, 3) := by decide +kernel
theorem dX8_setDisc_23 : decode cX8_setDisc 23 = .ok (.sipush (-1001), 3) := by decide +kernel
theorem dX8_setDisc_26 : decode cX8_setDisc 26 = .ok (.ireturn, 1) := by decide +kernel
theorem dX8_setDisc_27 : decode cX8_setDisc 27 = .ok (.aload_n 0, 1) := by decide +kernel
theorem dX8_setDisc_28 : decode cX8_setDisc 28 = .ok (.getfield 19, 3) := by decide +kernel
theorem dX8_setDisc_31 : decode cX8_setDisc 31 = .ok (.aload_n 0, 1) := by decide +kernel
theorem dX8_setDisc_32 : decode cX8_setDisc 32 = .ok (.getfield 10, 3) := by decide +kernel
theorem dX8_setDisc_35 : decode cX8_setDisc 35 = .ok (.invokevirtual 63, 3) := by decide +kernel
theorem dX8_setDisc_38 : decode cX8_setDisc 38 = .ok (.aload_n 0, 1) := by decide +kernel
theorem dX8_setDisc_39 : decode cX8_setDisc 39 = .ok (.getfield 10, 3) := by decide +kernel
theorem dX8_setDisc_42 : decode cX8_setDisc 42 = .ok (.getfield 226, 3) := by decide +kernel
theorem dX8_setDisc_45 : decode cX8_setDisc 45 = .ok (.iload_n 1, 1) := by decide +kernel
theorem dX8_setDisc_46 : decode cX8_setDisc 46 = .ok (.putfield 230, 3) := by decide +kernel
theorem dX8_setDisc_49 : decode cX8_setDisc 49 = .ok (.aload_n 0, 1) := by decide +kernel
theorem dX8_setDisc_50 : decode cX8_setDisc 50 = .ok (.getfield 10, 3) := by decide +kernel
theorem dX8_setDisc_53 : decode cX8_setDisc 53 = .ok (.getfield 226, 3) := by decide +kernel
theorem dX8_setDisc_56 : decode cX8_setDisc 56 = .ok (.iload_n 2, 1) := by decide +kernel
theorem dX8_setDisc_57 : decode cX8_setDisc 57 = .ok (.putfield 233, 3) := by decide +kernel
theorem dX8_setDisc_60 : decode cX8_setDisc 60 = .ok (.iload_n 2, 1) := by decide +kernel
theorem dX8_setDisc_61 : decode cX8_setDisc 61 = .ok (.invokestatic 236, 3) := by decide +kernel
theorem dX8_setDisc_64 : decode cX8_setDisc 64 = .ok (.ireturn, 1) := by decide +kernel
theorem dX8_turnDisc_0 : decode cX8_turnDisc 0 = .ok (.iload_n 1, 1) := by decide +kernel
theorem dX8_turnDisc_1 : decode cX8_turnDisc 1 = .ok (.iconst 0, 1) := by decide +kernel
theorem dX8_turnDisc_2 : decode cX8_turnDisc 2 = .ok (.bipush 29, 2) := by decide +kernel
theorem dX8_turnDisc_4 : decode cX8_turnDisc 4 = .ok (.invokestatic 44, 3) := by decide +kernel
theorem dX8_turnDisc_7 : decode cX8_turnDisc 7 = .ok (.ifCond .eq 16, 3) := by decide +kernel
theorem dX8_turnDisc_10 : decode cX8_turnDisc 10 = .ok (.iload_n 2, 1) := by decide +kernel
theorem dX8_turnDisc_11 : decode cX8_turnDisc 11 = .ok (.sipush (-1000), 3) := by decide +kernel
theorem dX8_turnDisc_14 : decode cX8_turnDisc 14 = .ok (.sipush 1000, 3) := by decide +kernel
theorem dX8_turnDisc_17 : decode cX8_turnDisc 17 = .ok (.invokestatic 44, 3) := by decide +kernel
theorem dX8_turnDisc_20 : decode cX8_turnDisc 20 = .ok (.ifCond .ne 7, 3) := by decide +kernel
theorem dX8_turnDisc_23 : decode cX8_turnDisc 23 = .ok (.sipush (-1001), 3) := by decide +kernel
theorem dX8_turnDisc_26 : decode cX8_turnDisc 26 = .ok (.ireturn, 1) := by decide +kernel
theorem dX8_turnDisc_27 : decode cX8_turnDisc 27 = .ok (.aload_n 0, 1) := by decide +kernel
theorem dX8_turnDisc_28 : decode cX8_turnDisc 28 = .ok (.getfield 19, 3) := by decide +kernel
theorem dX8_turnDisc_31 : decode cX8_turnDisc 31 = .ok (.aload_n 0, 1) := by decide +kernel
theorem dX8_turnDisc_32 : decode cX8_turnDisc 32 = .ok (.getfield 10, 3) := by decide +kernel
theorem dX8_turnDisc_35 : decode cX8_turnDisc 35 = .ok (.invokevirtual 63, 3) := by decide +kernel
theorem dX8_turnDisc_38 : decode cX8_turnDisc 38 = .ok (.aload_n 0, 1) := by decide +kernel
theorem dX8_turnDisc_39 : decode cX8_turnDisc 39 = .ok (.getfield 10, 3) := by decide +kernel
theorem dX8_turnDisc_42 : decode cX8_turnDisc 42 = .ok (.getfield 226, 3) := by decide +kernel
theorem dX8_turnDisc_45 : decode cX8_turnDisc 45 = .ok (.getfield 241, 3) := by decide +kernel
theorem dX8_turnDisc_48 : decode cX8_turnDisc 48 = .ok (.istore_n 3, 1) := by decide +kernel
theorem dX8_turnDisc_49 : decode cX8_turnDisc 49 = .ok (.aload_n 0, 1) := by decide +kernel
theorem dX8_turnDisc_50 : decode cX8_turnDisc 50 = .ok (.getfield 10, 3) := by decide +kernel
theorem dX8_turnDisc_53 : decode cX8_turnDisc 53 = .ok (.getfield 226, 3) := by decide +kernel
theorem dX8_turnDisc_56 : decode cX8_turnDisc 56 = .ok (.iload_n 1, 1) := by decide +kernel
theorem dX8_turnDisc_57 : decode cX8_turnDisc 57 = .ok (.putfield 242, 3) := by decide +kernel
theorem dX8_turnDisc_60 : decode cX8_turnDisc 60 = .ok (.aload_n 0, 1) := by decide +kernel
theorem dX8_turnDisc_61 : decode cX8_turnDisc 61 = .ok (.getfield 10, 3) := by decide +kernel
theorem dX8_turnDisc_64 : decode cX8_turnDisc 64 = .ok (.getfield 226, 3) := by decide +kernel
theorem dX8_turnDisc_67 : decode cX8_turnDisc 67 = .ok (.iload_n 2, 1) := by decide +kernel
theorem dX8_turnDisc_68 : decode cX8_turnDisc 68 = .ok (.putfield 241, 3) := by decide +kernel
theorem dX8_turnDisc_71 : decode cX8_turnDisc 71 = .ok (.iload_n 3, 1) := by decide +kernel
theorem dX8_turnDisc_72 : decode cX8_turnDisc 72 = .ok (.ireturn, 1) := by decide +kernel
theorem dX8_isSeen_0 : decode cX8_isSeen 0 = .ok (.iload_n 1, 1) := by decide +kernel
theorem dX8_isSeen_1 : decode cX8_isSeen 1 = .ok (.invokestatic 99, 3) := by decide +kernel
theorem dX8_isSeen_4 : decode cX8_isSeen 4 = .ok (.ifCond .ne 7, 3) := by decide +kernel
theorem dX8_isSeen_7 : decode cX8_isSeen 7 = .ok (.sipush (-1001), 3) := by decide +kernel
theorem dX8_isSeen_10 : decode cX8_isSeen 10 = .ok (.ireturn, 1) := by decide +kernel
theorem dX8_isSeen_11 : decode cX8_isSeen 11 = .ok (.aload_n 0, 1) := by decide +kernel
theorem dX8_isSeen_12 : decode cX8_isSeen 12 = .ok (.getfield 10, 3) := by decide +kernel
theorem dX8_isSeen_15 : decode cX8_isSeen 15 = .ok (.getfield 226, 3) := by decide +kernel
theorem dX8_isSeen_18 : decode cX8_isSeen 18 = .ok (.iload_n 1, 1) := by decide +kernel
theorem dX8_isSeen_19 : decode cX8_isSeen 19 = .ok (.invokevirtual 243, 3) := by decide +kernel
theorem dX8_isSeen_22 : decode cX8_isSeen 22 = .ok (.ifCond .eq 7, 3) := by decide +kernel
theorem dX8_isSeen_25 : decode cX8_isSeen 25 = .ok (.iconst 1, 1) := by decide +kernel
theorem dX8_isSeen_26 : decode cX8_isSeen 26 = .ok (.goto 4, 3) := by decide +kernel
theorem dX8_isSeen_29 : decode cX8_isSeen 29 = .ok (.iconst 0, 1) := by decide +kernel
theorem dX8_isSeen_30 : decode cX8_isSeen 30 = .ok (.ireturn, 1) := by decide +kernel
theorem dX8_opening_0 : decode cX8_opening 0 = .ok (.iload_n 1, 1) := by decide +kernel
theorem dX8_opening_1 : decode cX8_opening 1 = .ok (.ifCond .lt 12, 3) := by decide +kernel
theorem dX8_opening_4 : decode cX8_opening 4 = .ok (.iload_n 2, 1) := by decide +kernel
theorem dX8_opening_5 : decode cX8_opening 5 = .ok (.iconst 0, 1) := by decide +kernel
theorem dX8_opening_6 : decode cX8_opening 6 = .ok (.iconst 3, 1) := by decide +kernel
theorem dX8_opening_7 : decode cX8_opening 7 = .ok (.invokestatic 44, 3) := by decide +kernel
theorem dX8_opening_10 : decode cX8_opening 10 = .ok (.ifCond .ne 7, 3) := by decide +kernel
theorem dX8_opening_13 : decode cX8_opening 13 = .ok (.sipush (-1001), 3) := by decide +kernel
theorem dX8_opening_16 : decode cX8_opening 16 = .ok (.ireturn, 1) := by decide +kernel
theorem dX8_opening_17 : decode cX8_opening 17 = .ok (.aload_n 0, 1) := by decide +kernel
theorem dX8_opening_18 : decode cX8_opening 18 = .ok (.getfield 10, 3) := by decide +kernel
theorem dX8_opening_21 : decode cX8_opening 21 = .ok (.getfield 226, 3) := by decide +kernel
theorem dX8_opening_24 : decode cX8_opening 24 = .ok (.iload_n 1, 1) := by decide +kernel
theorem dX8_opening_25 : decode cX8_opening 25 = .ok (.invokevirtual 246, 3) := by decide +kernel
theorem dX8_opening_28 : decode cX8_opening 28 = .ok (.istore_n 3, 1) := by decide +kernel
theorem dX8_opening_29 : decode cX8_opening 29 = .ok (.iload_n 3, 1) := by decide +kernel
theorem dX8_opening_30 : decode cX8_opening 30 = .ok (.ifCond .ge 7, 3) := by decide +kernel
theorem dX8_opening_33 : decode cX8_opening 33 = .ok (.sipush (-1004), 3) := by decide +kernel
theorem dX8_opening_36 : decode cX8_opening 36 = .ok (.ireturn, 1) := by decide +kernel
theorem dX8_opening_37 : decode cX8_opening 37 = .ok (.aload_n 0, 1) := by decide +kernel
theorem dX8_opening_38 : decode cX8_opening 38 = .ok (.getfield 10, 3) := by decide +kernel
theorem dX8_opening_41 : decode cX8_opening 41 = .ok (.getfield 226, 3) := by decide +kernel
theorem dX8_opening_44 : decode cX8_opening 44 = .ok (.iload_n 3, 1) := by decide +kernel
theorem dX8_opening_45 : decode cX8_opening 45 = .ok (.invokevirtual 249, 3) := by decide +kernel
theorem dX8_opening_48 : decode cX8_opening 48 = .ok (.istore 4, 2) := by decide +kernel
theorem dX8_opening_50 : decode cX8_opening 50 = .ok (.iload_n 2, 1) := by decide +kernel
theorem dX8_opening_51 : decode cX8_opening 51 = .ok (.tableswitch 44 0 2 #[25, 27, 30], 25) := by decide +kernel
theorem dX8_opening_76 : decode cX8_opening 76 = .ok (.iload_n 3, 1) := by decide +kernel
theorem dX8_opening_77 : decode cX8_opening 77 = .ok (.ireturn, 1) := by decide +kernel
theorem dX8_opening_78 : decode cX8_opening 78 = .ok (.iload 4, 2) := by decide +kernel
theorem dX8_opening_80 : decode cX8_opening 80 = .ok (.ireturn, 1) := by decide +kernel
theorem dX8_opening_81 : decode cX8_opening 81 = .ok (.aload_n 0, 1) := by decide +kernel
theorem dX8_opening_82 : decode cX8_opening 82 = .ok (.getfield 10, 3) := by decide +kernel
theorem dX8_opening_85 : decode cX8_opening 85 = .ok (.getfield 67, 3) := by decide +kernel
theorem dX8_opening_88 : decode cX8_opening 88 = .ok (.iload_n 3, 1) := by decide +kernel
theorem dX8_opening_89 : decode cX8_opening 89 = .ok (.iload 4, 2) := by decide +kernel
theorem dX8_opening_91 : decode cX8_opening 91 = .ok (.invokevirtual 252, 3) := by decide +kernel
theorem dX8_opening_94 : decode cX8_opening 94 = .ok (.ireturn, 1) := by decide +kernel
theorem dX8_opening_95 : decode cX8_opening 95 = .ok (.aload_n 0, 1) := by decide +kernel
theorem dX8_opening_96 : decode cX8_opening 96 = .ok (.getfield 10, 3) := by decide +kernel
theorem dX8_opening_99 : decode cX8_opening 99 = .ok (.getfield 67, 3) := by decide +kernel
theorem dX8_opening_102 : decode cX8_opening 102 = .ok (.iload_n 3, 1) := by decide +kernel
theorem dX8_opening_103 : decode cX8_opening 103 = .ok (.iload 4, 2) := by decide +kernel
theorem dX8_opening_105 : decode cX8_opening 105 = .ok (.invokevirtual 255, 3) := by decide +kernel
theorem dX8_opening_108 : decode cX8_opening 108 = .ok (.ifCond .eq 7, 3) := by decide +kernel
theorem dX8_opening_111 : decode cX8_opening 111 = .ok (.iconst 1, 1) := by decide +kernel
theorem dX8_opening_112 : decode cX8_opening 112 = .ok (.goto 4, 3) := by decide +kernel
theorem dX8_opening_115 : decode cX8_opening 115 = .ok (.iconst 0, 1) := by decide +kernel
theorem dX8_opening_116 : decode cX8_opening 116 = .ok (.ireturn, 1) := by decide +kernel
theorem dX8_smear_0 : decode cX8_smear 0 = .ok (.iload_n 1, 1) := by decide +kernel
theorem dX8_smear_1 : decode cX8_smear 1 = .ok (.ifCond .lt 11, 3) := by decide +kernel
theorem dX8_smear_4 : decode cX8_smear 4 = .ok (.aload_n 0, 1) := by decide +kernel
theorem dX8_smear_5 : decode cX8_smear 5 = .ok (.iload_n 2, 1) := by decide +kernel
theorem dX8_smear_6 : decode cX8_smear 6 = .ok (.invokevirtual 80, 3) := by decide +kernel
theorem dX8_smear_9 : decode cX8_smear 9 = .ok (.ifCond .ne 7, 3) := by decide +kernel
theorem dX8_smear_12 : decode cX8_smear 12 = .ok (.sipush (-1001), 3) := by decide +kernel
theorem dX8_smear_15 : decode cX8_smear 15 = .ok (.ireturn, 1) := by decide +kernel
theorem dX8_smear_16 : decode cX8_smear 16 = .ok (.aload_n 0, 1) := by decide +kernel
theorem dX8_smear_17 : decode cX8_smear 17 = .ok (.getfield 10, 3) := by decide +kernel
theorem dX8_smear_20 : decode cX8_smear 20 = .ok (.getfield 226, 3) := by decide +kernel
theorem dX8_smear_23 : decode cX8_smear 23 = .ok (.iload_n 1, 1) := by decide +kernel
theorem dX8_smear_24 : decode cX8_smear 24 = .ok (.invokevirtual 246, 3) := by decide +kernel
theorem dX8_smear_27 : decode cX8_smear 27 = .ok (.istore_n 3, 1) := by decide +kernel
theorem dX8_smear_28 : decode cX8_smear 28 = .ok (.iload_n 3, 1) := by decide +kernel
theorem dX8_smear_29 : decode cX8_smear 29 = .ok (.ifCond .ge 7, 3) := by decide +kernel
theorem dX8_smear_32 : decode cX8_smear 32 = .ok (.sipush (-1004), 3) := by decide +kernel
theorem dX8_smear_35 : decode cX8_smear 35 = .ok (.ireturn, 1) := by decide +kernel
theorem dX8_smear_36 : decode cX8_smear 36 = .ok (.aload_n 0, 1) := by decide +kernel
theorem dX8_smear_37 : decode cX8_smear 37 = .ok (.getfield 10, 3) := by decide +kernel
theorem dX8_smear_40 : decode cX8_smear 40 = .ok (.getfield 67, 3) := by decide +kernel
theorem dX8_smear_43 : decode cX8_smear 43 = .ok (.aload_n 0, 1) := by decide +kernel
theorem dX8_smear_44 : decode cX8_smear 44 = .ok (.getfield 10, 3) := by decide +kernel
theorem dX8_smear_47 : decode cX8_smear 47 = .ok (.getfield 67, 3) := by decide +kernel
theorem dX8_smear_50 : decode cX8_smear 50 = .ok (.getfield 74, 3) := by decide +kernel
theorem dX8_smear_53 : decode cX8_smear 53 = .ok (.iload_n 3, 1) := by decide +kernel
theorem dX8_smear_54 : decode cX8_smear 54 = .ok (.aload_n 0, 1) := by decide +kernel
theorem dX8_smear_55 : decode cX8_smear 55 = .ok (.getfield 10, 3) := by decide +kernel
theorem dX8_smear_58 : decode cX8_smear 58 = .ok (.getfield 226, 3) := by decide +kernel
theorem dX8_smear_61 : decode cX8_smear 61 = .ok (.iload_n 3, 1) := by decide +kernel
theorem dX8_smear_62 : decode cX8_smear 62 = .ok (.invokevirtual 249, 3) := by decide +kernel
theorem dX8_smear_65 : decode cX8_smear 65 = .ok (.iconst 1, 1) := by decide +kernel
theorem dX8_smear_66 : decode cX8_smear 66 = .ok (.invokevirtual 259, 3) := by decide +kernel
theorem dX8_smear_69 : decode cX8_smear 69 = .ok (.lstore 4, 2) := by decide +kernel
theorem dX8_smear_71 : decode cX8_smear 71 = .ok (.aload_n 0, 1) := by decide +kernel
theorem dX8_smear_72 : decode cX8_smear 72 = .ok (.getfield 10, 3) := by decide +kernel
theorem dX8_smear_75 : decode cX8_smear 75 = .ok (.getfield 67, 3) := by decide +kernel
theorem dX8_smear_78 : decode cX8_smear 78 = .ok (.iload_n 2, 1) := by decide +kernel
theorem dX8_smear_79 : decode cX8_smear 79 = .ok (.lload 4, 2) := by decide +kernel
theorem dX8_smear_81 : decode cX8_smear 81 = .ok (.invokevirtual 263, 3) := by decide +kernel
theorem dX8_smear_84 : decode cX8_smear 84 = .ok (.ireturn, 1) := by decide +kernel
theorem dX8_undo_0 : decode cX8_undo 0 = .ok (.aload_n 0, 1) := by decide +kernel
theorem dX8_undo_1 : decode cX8_undo 1 = .ok (.getfield 19, 3) := by decide +kernel
theorem dX8_undo_4 : decode cX8_undo 4 = .ok (.getfield 267, 3) := by decide +kernel
theorem dX8_undo_7 : decode cX8_undo 7 = .ok (.ifCond .ne 7, 3) := by decide +kernel
theorem dX8_undo_10 : decode cX8_undo 10 = .ok (.sipush (-1002), 3) := by decide +kernel
theorem dX8_undo_13 : decode cX8_undo 13 = .ok (.ireturn, 1) := by decide +kernel
theorem dX8_undo_14 : decode cX8_undo 14 = .ok (.aload_n 0, 1) := by decide +kernel
theorem dX8_undo_15 : decode cX8_undo 15 = .ok (.getfield 19, 3) := by decide +kernel
theorem dX8_undo_18 : decode cX8_undo 18 = .ok (.aload_n 0, 1) := by decide +kernel
theorem dX8_undo_19 : decode cX8_undo 19 = .ok (.getfield 10, 3) := by decide +kernel
theorem dX8_undo_22 : decode cX8_undo 22 = .ok (.invokevirtual 268, 3) := by decide +kernel
theorem dX8_undo_25 : decode cX8_undo 25 = .ok (.aload_n 0, 1) := by decide +kernel
theorem dX8_undo_26 : decode cX8_undo 26 = .ok (.getfield 19, 3) := by decide +kernel
theorem dX8_undo_29 : decode cX8_undo 29 = .ok (.getfield 267, 3) := by decide +kernel
theorem dX8_undo_32 : decode cX8_undo 32 = .ok (.ireturn, 1) := by decide +kernel
theorem dX8_count_0 : decode cX8_count 0 = .ok (.iload_n 1, 1) := by decide +kernel
theorem dX8_count_1 : decode cX8_count 1 = .ok (.tableswitch 279 0 17 #[87, 98, 109, 120, 131, 142, 153, 164, 175, 186, 197, 208, 219, 230, 241, 252, 263, 271], 87) := by decide +kernel
theorem dX8_count_88 : decode cX8_count 88 = .ok (.aload_n 0, 1) := by decide +kernel
theorem dX8_count_89 : decode cX8_count 89 = .ok (.getfield 10, 3) := by decide +kernel
theorem dX8_count_92 : decode cX8_count 92 = .ok (.getfield 67, 3) := by decide +kernel
theorem dX8_count_95 : decode cX8_count 95 = .ok (.getfield 74, 3) := by decide +kernel
theorem dX8_count_98 : decode cX8_count 98 = .ok (.ireturn, 1) := by decide +kernel
theorem dX8_count_99 : decode cX8_count 99 = .ok (.aload_n 0, 1) := by decide +kernel
theorem dX8_count_100 : decode cX8_count 100 = .ok (.getfield 10, 3) := by decide +kernel
theorem dX8_count_103 : decode cX8_count 103 = .ok (.getfield 67, 3) := by decide +kernel
theorem dX8_count_106 : decode cX8_count 106 = .ok (.invokevirtual 271, 3) := by decide +kernel
theorem dX8_count_109 : decode cX8_count 109 = .ok (.ireturn, 1) := by decide +kernel
theorem dX8_count_110 : decode cX8_count 110 = .ok (.aload_n 0, 1) := by decide +kernel
theorem dX8_count_111 : decode cX8_count 111 = .ok (.getfield 10, 3) := by decide +kernel
theorem dX8_count_114 : decode cX8_count 114 = .ok (.getfield 67, 3) := by decide +kernel
theorem dX8_count_117 : decode cX8_count 117 = .ok (.invokevirtual 156, 3) := by decide +kernel
theorem dX8_count_120 : decode cX8_count 120 = .ok (.ireturn, 1) := by decide +kernel
theorem dX8_count_121 : decode cX8_count 121 = .ok (.aload_n 0, 1) := by decide +kernel
theorem dX8_count_122 : decode cX8_count 122 = .ok (.getfield 10, 3) := by decide +kernel
theorem dX8_count_125 : decode cX8_count 125 = .ok (.getfield 67, 3) := by decide +kernel
theorem dX8_count_128 : decode cX8_count 128 = .ok (.getfield 96, 3) := by decide +kernel
theorem dX8_count_131 : decode cX8_count 131 = .ok (.ireturn, 1) := by decide +kernel
theorem dX8_count_132 : decode cX8_count 132 = .ok (.aload_n 0, 1) := by decide +kernel
theorem dX8_count_133 : decode cX8_count 133 = .ok (.getfield 10, 3) := by decide +kernel
theorem dX8_count_136 : decode cX8_count 136 = .ok (.getfield 67, 3) := by decide +kernel
theorem dX8_count_139 : decode cX8_count 139 = .ok (.getfield 169, 3) := by decide +kernel
theorem dX8_count_142 : decode cX8_count 142 = .ok (.ireturn, 1) := by decide +kernel
theorem dX8_count_143 : decode cX8_count 143 = .ok (.aload_n 0, 1) := by decide +kernel
theorem dX8_count_144 : decode cX8_count 144 = .ok (.getfield 10, 3) := by decide +kernel
theorem dX8_count_147 : decode cX8_count 147 = .ok (.getfield 67, 3) := by decide +kernel
theorem dX8_count_150 : decode cX8_count 150 = .ok (.getfield 109, 3) := by decide +kernel
theorem dX8_count_153 : decode cX8_count 153 = .ok (.ireturn, 1) := by decide +kernel
theorem dX8_count_154 : decode cX8_count 154 = .ok (.aload_n 0, 1) := by decide +kernel
theorem dX8_count_155 : decode cX8_count 155 = .ok (.getfield 10, 3) := by decide +kernel
theorem dX8_count_158 : decode cX8_count 158 = .ok (.getfield 125, 3) := by decide +kernel
theorem dX8_count_161 : decode cX8_count 161 = .ok (.getfield 129, 3) := by decide +kernel
theorem dX8_count_164 : decode cX8_count 164 = .ok (.ireturn, 1) := by decide +kernel
theorem dX8_count_165 : decode cX8_count 165 = .ok (.aload_n 0, 1) := by decide +kernel
theorem dX8_count_166 : decode cX8_count 166 = .ok (.getfield 10, 3) := by decide +kernel
theorem dX8_count_169 : decode cX8_count 169 = .ok (.getfield 125, 3) := by decide +kernel
theorem dX8_count_172 : decode cX8_count 172 = .ok (.getfield 134, 3) := by decide +kernel
theorem dX8_count_175 : decode cX8_count 175 = .ok (.ireturn, 1) := by decide +kernel
theorem dX8_count_176 : decode cX8_count 176 = .ok (.aload_n 0, 1) := by decide +kernel
theorem dX8_count_177 : decode cX8_count 177 = .ok (.getfield 10, 3) := by decide +kernel
theorem dX8_count_180 : decode cX8_count 180 = .ok (.getfield 125, 3) := by decide +kernel
theorem dX8_count_183 : decode cX8_count 183 = .ok (.invokevirtual 137, 3) := by decide +kernel
theorem dX8_count_186 : decode cX8_count 186 = .ok (.ireturn, 1) := by decide +kernel
theorem dX8_count_187 : decode cX8_count 187 = .ok (.aload_n 0, 1) := by decide +kernel
theorem dX8_count_188 : decode cX8_count 188 = .ok (.getfield 10, 3) := by decide +kernel
theorem dX8_count_191 : decode cX8_count 191 = .ok (.getfield 181, 3) := by decide +kernel
theorem dX8_count_194 : decode cX8_count 194 = .ok (.getfield 190, 3) := by decide +kernel
theorem dX8_count_197 : decode cX8_count 197 = .ok (.ireturn, 1) := by decide +kernel
theorem dX8_count_198 : decode cX8_count 198 = .ok (.aload_n 0, 1) := by decide +kernel
theorem dX8_count_199 : decode cX8_count 199 = .ok (.getfield 10, 3) := by decide +kernel
theorem dX8_count_202 : decode cX8_count 202 = .ok (.getfield 181, 3) := by decide +kernel
theorem dX8_count_205 : decode cX8_count 205 = .ok (.getfield 208, 3) := by decide +kernel
theorem dX8_count_208 : decode cX8_count 208 = .ok (.ireturn, 1) := by decide +kernel
theorem dX8_count_209 : decode cX8_count 209 = .ok (.aload_n 0, 1) := by decide +kernel
theorem dX8_count_210 : decode cX8_count 210 = .ok (.getfield 10, 3) := by decide +kernel
theorem dX8_count_213 : decode cX8_count 213 = .ok (.getfield 226, 3) := by decide +kernel
theorem dX8_count_216 : decode cX8_count 216 = .ok (.getfield 230, 3) := by decide +kernel
theorem dX8_count_219 : decode cX8_count 219 = .ok (.ireturn, 1) := by decide +kernel
theorem dX8_count_220 : decode cX8_count 220 = .ok (.aload_n 0, 1) := by decide +kernel
theorem dX8_count_221 : decode cX8_count 221 = .ok (.getfield 10, 3) := by decide +kernel
theorem dX8_count_224 : decode cX8_count 224 = .ok (.getfield 226, 3) := by decide +kernel
theorem dX8_count_227 : decode cX8_count 227 = .ok (.getfield 233, 3) := by decide +kernel
theorem dX8_count_230 : decode cX8_count 230 = .ok (.ireturn, 1) := by decide +kernel
theorem dX8_count_231 : decode cX8_count 231 = .ok (.aload_n 0, 1) := by decide +kernel
theorem dX8_count_232 : decode cX8_count 232 = .ok (.getfield 10, 3) := by decide +kernel
theorem dX8_count_235 : decode cX8_count 235 = .ok (.getfield 226, 3) := by decide +kernel
theorem dX8_count_238 : decode cX8_count 238 = .ok (.getfield 242, 3) := by decide +kernel
theorem dX8_count_241 : decode cX8_count 241 = .ok (.ireturn, 1) := by decide +kernel
theorem dX8_count_242 : decode cX8_count 242 = .ok (.aload_n 0, 1) := by decide +kernel
theorem dX8_count_243 : decode cX8_count 243 = .ok (.getfield 10, 3) := by decide +kernel
theorem dX8_count_246 : decode cX8_count 246 = .ok (.getfield 226, 3) := by decide +kernel
theorem dX8_count_249 : decode cX8_count 249 = .ok (.getfield 241, 3) := by decide +kernel
theorem dX8_count_252 : decode cX8_count 252 = .ok (.ireturn, 1) := by decide +kernel
theorem dX8_count_253 : decode cX8_count 253 = .ok (.aload_n 0, 1) := by decide +kernel
theorem dX8_count_254 : decode cX8_count 254 = .ok (.getfield 10, 3) := by decide +kernel
theorem dX8_count_257 : decode cX8_count 257 = .ok (.getfield 226, 3) := by decide +kernel
theorem dX8_count_260 : decode cX8_count 260 = .ok (.invokevirtual 274, 3) := by decide +kernel
theorem dX8_count_263 : decode cX8_count 263 = .ok (.ireturn, 1) := by decide +kernel
theorem dX8_count_264 : decode cX8_count 264 = .ok (.aload_n 0, 1) := by decide +kernel
theorem dX8_count_265 : decode cX8_count 265 = .ok (.getfield 26, 3) := by decide +kernel
theorem dX8_count_268 : decode cX8_count 268 = .ok (.getfield 48, 3) := by decide +kernel
theorem dX8_count_271 : decode cX8_count 271 = .ok (.ireturn, 1) := by decide +kernel
theorem dX8_count_272 : decode cX8_count 272 = .ok (.aload_n 0, 1) := by decide +kernel
theorem dX8_count_273 : decode cX8_count 273 = .ok (.getfield 19, 3) := by decide +kernel
theorem dX8_count_276 : decode cX8_count 276 = .ok (.getfield 267, 3) := by decide +kernel
theorem dX8_count_279 : decode cX8_count 279 = .ok (.ireturn, 1) := by decide +kernel
theorem dX8_count_280 : decode cX8_count 280 = .ok (.sipush (-1001), 3) := by decide +kernel
theorem dX8_count_283 : decode cX8_count 283 = .ok (.ireturn, 1) := by decide +kernel
theorem dX8_digest_0 : decode cX8_digest 0 = .ok (.ldc2_w 277, 3) := by decide +kernel
theorem dX8_digest_3 : decode cX8_digest 3 = .ok (.lstore_n 1, 1) := by decide +kernel
theorem dX8_digest_4 : decode cX8_digest 4 = .ok (.iconst 0, 1) := by decide +kernel
theorem dX8_digest_5 : decode cX8_digest 5 = .ok (.istore_n 3, 1) := by decide +kernel
theorem dX8_digest_6 : decode cX8_digest 6 = .ok (.iload_n 3, 1) := by decide +kernel
theorem dX8_digest_7 : decode cX8_digest 7 = .ok (.bipush 17, 2) := by decide +kernel
theorem dX8_digest_9 : decode cX8_digest 9 = .ok (.if_icmp .gt 22, 3) := by decide +kernel
theorem dX8_digest_12 : decode cX8_digest 12 = .ok (.ldc2_w 279, 3) := by decide +kernel
theorem dX8_digest_15 : decode cX8_digest 15 = .ok (.lload_n 1, 1) := by decide +kernel
theorem dX8_digest_16 : decode cX8_digest 16 = .ok (.lmul, 1) := by decide +kernel
theorem dX8_digest_17 : decode cX8_digest 17 = .ok (.aload_n 0, 1) := by decide +kernel
theorem dX8_digest_18 : decode cX8_digest 18 = .ok (.iload_n 3, 1) := by decide +kernel
theorem dX8_digest_19 : decode cX8_digest 19 = .ok (.invokevirtual 281, 3) := by decide +kernel
theorem dX8_digest_22 : decode cX8_digest 22 = .ok (.i2l, 1) := by decide +kernel
theorem dX8_digest_23 : decode cX8_digest 23 = .ok (.ladd, 1) := by decide +kernel
theorem dX8_digest_24 : decode cX8_digest 24 = .ok (.lstore_n 1, 1) := by decide +kernel
theorem dX8_digest_25 : decode cX8_digest 25 = .ok (.iinc 3 1, 3) := by decide +kernel
theorem dX8_digest_28 : decode cX8_digest 28 = .ok (.goto (-22), 3) := by decide +kernel
theorem dX8_digest_31 : decode cX8_digest 31 = .ok (.aload_n 0, 1) := by decide +kernel
theorem dX8_digest_32 : decode cX8_digest 32 = .ok (.lload_n 1, 1) := by decide +kernel
theorem dX8_digest_33 : decode cX8_digest 33 = .ok (.invokevirtual 284, 3) := by decide +kernel
theorem dX8_digest_36 : decode cX8_digest 36 = .ok (.lstore_n 1, 1) := by decide +kernel
theorem dX8_digest_37 : decode cX8_digest 37 = .ok (.aload_n 0, 1) := by decide +kernel
theorem dX8_digest_38 : decode cX8_digest 38 = .ok (.lload_n 1, 1) := by decide +kernel
theorem dX8_digest_39 : decode cX8_digest 39 = .ok (.invokevirtual 288, 3) := by decide +kernel
theorem dX8_digest_42 : decode cX8_digest 42 = .ok (.lstore_n 1, 1) := by decide +kernel
theorem dX8_digest_43 : decode cX8_digest 43 = .ok (.aload_n 0, 1) := by decide +kernel
theorem dX8_digest_44 : decode cX8_digest 44 = .ok (.lload_n 1, 1) := by decide +kernel
theorem dX8_digest_45 : decode cX8_digest 45 = .ok (.invokevirtual 291, 3) := by decide +kernel
theorem dX8_digest_48 : decode cX8_digest 48 = .ok (.lreturn, 1) := by decide +kernel
theorem dX8_digestOfPictures_0 : decode cX8_digestOfPictures 0 = .ok (.lload_n 1, 1) := by decide +kernel
theorem dX8_digestOfPictures_1 : decode cX8_digestOfPictures 1 = .ok (.lstore_n 3, 1) := by decide +kernel
theorem dX8_digestOfPictures_2 : decode cX8_digestOfPictures 2 = .ok (.iconst 0, 1) := by decide +kernel
theorem dX8_digestOfPictures_3 : decode cX8_digestOfPictures 3 = .ok (.istore 5, 2) := by decide +kernel
theorem dX8_digestOfPictures_5 : decode cX8_digestOfPictures 5 = .ok (.iload 5, 2) := by decide +kernel
theorem dX8_digestOfPictures_7 : decode cX8_digestOfPictures 7 = .ok (.aload_n 0, 1) := by decide +kernel
theorem dX8_digestOfPictures_8 : decode cX8_digestOfPictures 8 = .ok (.getfield 10, 3) := by decide +kernel
theorem dX8_digestOfPictures_11 : decode cX8_digestOfPictures 11 = .ok (.getfield 67, 3) := by decide +kernel
theorem dX8_digestOfPictures_14 : decode cX8_digestOfPictures 14 = .ok (.getfield 74, 3) := by decide +kernel
theorem dX8_digestOfPictures_17 : decode cX8_digestOfPictures 17 = .ok (.if_icmp .ge 41, 3) := by decide +kernel
theorem dX8_digestOfPictures_20 : decode cX8_digestOfPictures 20 = .ok (.ldc2_w 279, 3) := by decide +kernel
theorem dX8_digestOfPictures_23 : decode cX8_digestOfPictures 23 = .ok (.lload_n 3, 1) := by decide +kernel
theorem dX8_digestOfPictures_24 : decode cX8_digestOfPictures 24 = .ok (.lmul, 1) := by decide +kernel
theorem dX8_digestOfPictures_25 : decode cX8_digestOfPictures 25 = .ok (.aload_n 0, 1) := by decide +kernel
theorem dX8_digestOfPictures_26 : decode cX8_digestOfPictures 26 = .ok (.iconst 0, 1) := by decide +kernel
theorem dX8_digestOfPictures_27 : decode cX8_digestOfPictures 27 = .ok (.iload 5, 2) := by decide +kernel
theorem dX8_digestOfPictures_29 : decode cX8_digestOfPictures 29 = .ok (.invokevirtual 294, 3) := by decide +kernel
theorem dX8_digestOfPictures_32 : decode cX8_digestOfPictures 32 = .ok (.i2l, 1) := by decide +kernel
theorem dX8_digestOfPictures_33 : decode cX8_digestOfPictures 33 = .ok (.ladd, 1) := by decide +kernel
theorem dX8_digestOfPictures_34 : decode cX8_digestOfPictures 34 = .ok (.lstore_n 3, 1) := by decide +kernel
theorem dX8_digestOfPictures_35 : decode cX8_digestOfPictures 35 = .ok (.ldc2_w 279, 3) := by decide +kernel
theorem dX8_digestOfPictures_38 : decode cX8_digestOfPictures 38 = .ok (.lload_n 3, 1) := by decide +kernel
theorem dX8_digestOfPictures_39 : decode cX8_digestOfPictures 39 = .ok (.lmul, 1) := by decide +kernel
theorem dX8_digestOfPictures_40 : decode cX8_digestOfPictures 40 = .ok (.aload_n 0, 1) := by decide +kernel
theorem dX8_digestOfPictures_41 : decode cX8_digestOfPictures 41 = .ok (.sipush 1000, 3) := by decide +kernel
theorem dX8_digestOfPictures_44 : decode cX8_digestOfPictures 44 = .ok (.iload 5, 2) := by decide +kernel
theorem dX8_digestOfPictures_46 : decode cX8_digestOfPictures 46 = .ok (.invokevirtual 294, 3) := by decide +kernel
theorem dX8_digestOfPictures_49 : decode cX8_digestOfPictures 49 = .ok (.i2l, 1) := by decide +kernel
theorem dX8_digestOfPictures_50 : decode cX8_digestOfPictures 50 = .ok (.ladd, 1) := by decide +kernel
theorem dX8_digestOfPictures_51 : decode cX8_digestOfPictures 51 = .ok (.lstore_n 3, 1) := by decide +kernel
theorem dX8_digestOfPictures_52 : decode cX8_digestOfPictures 52 = .ok (.iinc 5 1, 3) := by decide +kernel
theorem dX8_digestOfPictures_55 : decode cX8_digestOfPictures 55 = .ok (.goto (-50), 3) := by decide +kernel
theorem dX8_digestOfPictures_58 : decode cX8_digestOfPictures 58 = .ok (.iconst 0, 1) := by decide +kernel
theorem dX8_digestOfPictures_59 : decode cX8_digestOfPictures 59 = .ok (.istore 5, 2) := by decide +kernel
theorem dX8_digestOfPictures_61 : decode cX8_digestOfPictures 61 = .ok (.iload 5, 2) := by decide +kernel
theorem dX8_digestOfPictures_63 : decode cX8_digestOfPictures 63 = .ok (.bipush 20, 2) := by decide +kernel
theorem dX8_digestOfPictures_65 : decode cX8_digestOfPictures 65 = .ok (.if_icmp .ge 49, 3) := by decide +kernel
theorem dX8_digestOfPictures_68 : decode cX8_digestOfPictures 68 = .ok (.aload_n 0, 1) := by decide +kernel
theorem dX8_digestOfPictures_69 : decode cX8_digestOfPictures 69 = .ok (.iload 5, 2) := by decide +kernel
theorem dX8_digestOfPictures_71 : decode cX8_digestOfPictures 71 = .ok (.invokevirtual 141, 3) := by decide +kernel
theorem dX8_digestOfPictures_74 : decode cX8_digestOfPictures 74 = .ok (.ifCond .eq 40, 3) := by decide +kernel
theorem dX8_digestOfPictures_77 : decode cX8_digestOfPictures 77 = .ok (.iconst 0, 1) := by decide +kernel
theorem dX8_digestOfPictures_78 : decode cX8_digestOfPictures 78 = .ok (.istore 6, 2) := by decide +kernel
theorem dX8_digestOfPictures_80 : decode cX8_digestOfPictures 80 = .ok (.iload 6, 2) := by decide +kernel
theorem dX8_digestOfPictures_82 : decode cX8_digestOfPictures 82 = .ok (.iconst 3, 1) := by decide +kernel
theorem dX8_digestOfPictures_83 : decode cX8_digestOfPictures 83 = .ok (.if_icmp .gt 25, 3) := by decide +kernel
theorem dX8_digestOfPictures_86 : decode cX8_digestOfPictures 86 = .ok (.ldc2_w 279, 3) := by decide +kernel
theorem dX8_digestOfPictures_89 : decode cX8_digestOfPictures 89 = .ok (.lload_n 3, 1) := by decide +kernel
theorem dX8_digestOfPictures_90 : decode cX8_digestOfPictures 90 = .ok (.lmul, 1) := by decide +kernel
theorem dX8_digestOfPictures_91 : decode cX8_digestOfPictures 91 = .ok (.aload_n 0, 1) := by decide +kernel
theorem dX8_digestOfPictures_92 : decode cX8_digestOfPictures 92 = .ok (.iload 5, 2) := by decide +kernel
theorem dX8_digestOfPictures_94 : decode cX8_digestOfPictures 94 = .ok (.iload 6, 2) := by decide +kernel
theorem dX8_digestOfPictures_96 : decode cX8_digestOfPictures 96 = .ok (.invokevirtual 175, 3) := by decide +kernel
theorem dX8_digestOfPictures_99 : decode cX8_digestOfPictures 99 = .ok (.i2l, 1) := by decide +kernel
theorem dX8_digestOfPictures_100 : decode cX8_digestOfPictures 100 = .ok (.ladd, 1) := by decide +kernel
theorem dX8_digestOfPictures_101 : decode cX8_digestOfPictures 101 = .ok (.lstore_n 3, 1) := by decide +kernel
theorem dX8_digestOfPictures_102 : decode cX8_digestOfPictures 102 = .ok (.iinc 6 1, 3) := by decide +kernel
theorem dX8_digestOfPictures_105 : decode cX8_digestOfPictures 105 = .ok (.goto (-25), 3) := by decide +kernel
theorem dX8_digestOfPictures_108 : decode cX8_digestOfPictures 108 = .ok (.iinc 5 1, 3) := by decide +kernel
theorem dX8_digestOfPictures_111 : decode cX8_digestOfPictures 111 = .ok (.goto (-50), 3) := by decide +kernel
theorem dX8_digestOfPictures_114 : decode cX8_digestOfPictures 114 = .ok (.iconst 0, 1) := by decide +kernel
theorem dX8_digestOfPictures_115 : decode cX8_digestOfPictures 115 = .ok (.istore 5, 2) := by decide +kernel
theorem dX8_digestOfPictures_117 : decode cX8_digestOfPictures 117 = .ok (.iload 5, 2) := by decide +kernel
theorem dX8_digestOfPictures_119 : decode cX8_digestOfPictures 119 = .ok (.iconst 3, 1) := by decide +kernel
theorem dX8_digestOfPictures_120 : decode cX8_digestOfPictures 120 = .ok (.if_icmp .gt 23, 3) := by decide +kernel
theorem dX8_digestOfPictures_123 : decode cX8_digestOfPictures 123 = .ok (.ldc2_w 279, 3) := by decide +kernel
theorem dX8_digestOfPictures_126 : decode cX8_digestOfPictures 126 = .ok (.lload_n 3, 1) := by decide +kernel
theorem dX8_digestOfPictures_127 : decode cX8_digestOfPictures 127 = .ok (.lmul, 1) := by decide +kernel
theorem dX8_digestOfPictures_128 : decode cX8_digestOfPictures 128 = .ok (.aload_n 0, 1) := by decide +kernel
theorem dX8_digestOfPictures_129 : decode cX8_digestOfPictures 129 = .ok (.iload 5, 2) := by decide +kernel
theorem dX8_digestOfPictures_131 : decode cX8_digestOfPictures 131 = .ok (.invokevirtual 297, 3) := by decide +kernel
theorem dX8_digestOfPictures_134 : decode cX8_digestOfPictures 134 = .ok (.i2l, 1) := by decide +kernel
theorem dX8_digestOfPictures_135 : decode cX8_digestOfPictures 135 = .ok (.ladd, 1) := by decide +kernel
theorem dX8_digestOfPictures_136 : decode cX8_digestOfPictures 136 = .ok (.lstore_n 3, 1) := by decide +kernel
theorem dX8_digestOfPictures_137 : decode cX8_digestOfPictures 137 = .ok (.iinc 5 1, 3) := by decide +kernel
theorem dX8_digestOfPictures_140 : decode cX8_digestOfPictures 140 = .ok (.goto (-23), 3) := by decide +kernel
theorem dX8_digestOfPictures_143 : decode cX8_digestOfPictures 143 = .ok (.lload_n 3, 1) := by decide +kernel
theorem dX8_digestOfPictures_144 : decode cX8_digestOfPictures 144 = .ok (.lreturn, 1) := by decide +kernel
theorem dX8_digestOfReadings_0 : decode cX8_digestOfReadings 0 = .ok (.lload_n 1, 1) := by decide +kernel
theorem dX8_digestOfReadings_1 : decode cX8_digestOfReadings 1 = .ok (.lstore_n 3, 1) := by decide +kernel
theorem dX8_digestOfReadings_2 : decode cX8_digestOfReadings 2 = .ok (.iconst 0, 1) := by decide +kernel
theorem dX8_digestOfReadings_3 : decode cX8_digestOfReadings 3 = .ok (.istore 5, 2) := by decide +kernel
theorem dX8_digestOfReadings_5 : decode cX8_digestOfReadings 5 = .ok (.iload 5, 2) := by decide +kernel
theorem dX8_digestOfReadings_7 : decode cX8_digestOfReadings 7 = .ok (.aload_n 0, 1) := by decide +kernel
theorem dX8_digestOfReadings_8 : decode cX8_digestOfReadings 8 = .ok (.getfield 10, 3) := by decide +kernel
theorem dX8_digestOfReadings_11 : decode cX8_digestOfReadings 11 = .ok (.getfield 181, 3) := by decide +kernel
theorem dX8_digestOfReadings_14 : decode cX8_digestOfReadings 14 = .ok (.getfield 190, 3) := by decide +kernel
theorem dX8_digestOfReadings_17 : decode cX8_digestOfReadings 17 = .ok (.if_icmp .ge 40, 3) := by decide +kernel
theorem dX8_digestOfReadings_20 : decode cX8_digestOfReadings 20 = .ok (.iconst 0, 1) := by decide +kernel
theorem dX8_digestOfReadings_21 : decode cX8_digestOfReadings 21 = .ok (.istore 6, 2) := by decide +kernel
theorem dX8_digestOfReadings_23 : decode cX8_digestOfReadings 23 = .ok (.iload 6, 2) := by decide +kernel
theorem dX8_digestOfReadings_25 : decode cX8_digestOfReadings 25 = .ok (.iconst 2, 1) := by decide +kernel
theorem dX8_digestOfReadings_26 : decode cX8_digestOfReadings 26 = .ok (.if_icmp .gt 25, 3) := by decide +kernel
theorem dX8_digestOfReadings_29 : decode cX8_digestOfReadings 29 = .ok (.ldc2_w 279, 3) := by decide +kernel
theorem dX8_digestOfReadings_32 : decode cX8_digestOfReadings 32 = .ok (.lload_n 3, 1) := by decide +kernel
theorem dX8_digestOfReadings_33 : decode cX8_digestOfReadings 33 = .ok (.lmul, 1) := by decide +kernel
theorem dX8_digestOfReadings_34 : decode cX8_digestOfReadings 34 = .ok (.aload_n 0, 1) := by decide +kernel
theorem dX8_digestOfReadings_35 : decode cX8_digestOfReadings 35 = .ok (.iload 5, 2) := by decide +kernel
theorem dX8_digestOfReadings_37 : decode cX8_digestOfReadings 37 = .ok (.iload 6, 2) := by decide +kernel
theorem dX8_digestOfReadings_39 : decode cX8_digestOfReadings 39 = .ok (.invokevirtual 300, 3) := by decide +kernel
theorem dX8_digestOfReadings_42 : decode cX8_digestOfReadings 42 = .ok (.i2l, 1) := by decide +kernel
theorem dX8_digestOfReadings_43 : decode cX8_digestOfReadings 43 = .ok (.ladd, 1) := by decide +kernel
theorem dX8_digestOfReadings_44 : decode cX8_digestOfReadings 44 = .ok (.lstore_n 3, 1) := by decide +kernel
theorem dX8_digestOfReadings_45 : decode cX8_digestOfReadings 45 = .ok (.iinc 6 1, 3) := by decide +kernel
theorem dX8_digestOfReadings_48 : decode cX8_digestOfReadings 48 = .ok (.goto (-25), 3) := by decide +kernel
theorem dX8_digestOfReadings_51 : decode cX8_digestOfReadings 51 = .ok (.iinc 5 1, 3) := by decide +kernel
theorem dX8_digestOfReadings_54 : decode cX8_digestOfReadings 54 = .ok (.goto (-49), 3) := by decide +kernel
theorem dX8_digestOfReadings_57 : decode cX8_digestOfReadings 57 = .ok (.ldc2_w 279, 3) := by decide +kernel
theorem dX8_digestOfReadings_60 : decode cX8_digestOfReadings 60 = .ok (.lload_n 3, 1) := by decide +kernel
theorem dX8_digestOfReadings_61 : decode cX8_digestOfReadings 61 = .ok (.lmul, 1) := by decide +kernel
theorem dX8_digestOfReadings_62 : decode cX8_digestOfReadings 62 = .ok (.aload_n 0, 1) := by decide +kernel
theorem dX8_digestOfReadings_63 : decode cX8_digestOfReadings 63 = .ok (.invokevirtual 217, 3) := by decide +kernel
theorem dX8_digestOfReadings_66 : decode cX8_digestOfReadings 66 = .ok (.i2l, 1) := by decide +kernel
theorem dX8_digestOfReadings_67 : decode cX8_digestOfReadings 67 = .ok (.ladd, 1) := by decide +kernel
theorem dX8_digestOfReadings_68 : decode cX8_digestOfReadings 68 = .ok (.lstore_n 3, 1) := by decide +kernel
theorem dX8_digestOfReadings_69 : decode cX8_digestOfReadings 69 = .ok (.iconst 0, 1) := by decide +kernel
theorem dX8_digestOfReadings_70 : decode cX8_digestOfReadings 70 = .ok (.istore 5, 2) := by decide +kernel
theorem dX8_digestOfReadings_72 : decode cX8_digestOfReadings 72 = .ok (.iload 5, 2) := by decide +kernel
theorem dX8_digestOfReadings_74 : decode cX8_digestOfReadings 74 = .ok (.iconst 4, 1) := by decide +kernel
theorem dX8_digestOfReadings_75 : decode cX8_digestOfReadings 75 = .ok (.if_icmp .gt 23, 3) := by decide +kernel
theorem dX8_digestOfReadings_78 : decode cX8_digestOfReadings 78 = .ok (.ldc2_w 279, 3) := by decide +kernel
theorem dX8_digestOfReadings_81 : decode cX8_digestOfReadings 81 = .ok (.lload_n 3, 1) := by decide +kernel
theorem dX8_digestOfReadings_82 : decode cX8_digestOfReadings 82 = .ok (.lmul, 1) := by decide +kernel
theorem dX8_digestOfReadings_83 : decode cX8_digestOfReadings 83 = .ok (.aload_n 0, 1) := by decide +kernel
theorem dX8_digestOfReadings_84 : decode cX8_digestOfReadings 84 = .ok (.iload 5, 2) := by decide +kernel
theorem dX8_digestOfReadings_86 : decode cX8_digestOfReadings 86 = .ok (.invokevirtual 303, 3) := by decide +kernel
theorem dX8_digestOfReadings_89 : decode cX8_digestOfReadings 89 = .ok (.i2l, 1) := by decide +kernel
theorem dX8_digestOfReadings_90 : decode cX8_digestOfReadings 90 = .ok (.ladd, 1) := by decide +kernel
theorem dX8_digestOfReadings_91 : decode cX8_digestOfReadings 91 = .ok (.lstore_n 3, 1) := by decide +kernel
theorem dX8_digestOfReadings_92 : decode cX8_digestOfReadings 92 = .ok (.iinc 5 1, 3) := by decide +kernel
theorem dX8_digestOfReadings_95 : decode cX8_digestOfReadings 95 = .ok (.goto (-23), 3) := by decide +kernel
theorem dX8_digestOfReadings_98 : decode cX8_digestOfReadings 98 = .ok (.ldc2_w 279, 3) := by decide +kernel
theorem dX8_digestOfReadings_101 : decode cX8_digestOfReadings 101 = .ok (.lload_n 3, 1) := by decide +kernel
theorem dX8_digestOfReadings_102 : decode cX8_digestOfReadings 102 = .ok (.lmul, 1) := by decide +kernel
theorem dX8_digestOfReadings_103 : decode cX8_digestOfReadings 103 = .ok (.aload_n 0, 1) := by decide +kernel
theorem dX8_digestOfReadings_104 : decode cX8_digestOfReadings 104 = .ok (.iconst 0, 1) := by decide +kernel
theorem dX8_digestOfReadings_105 : decode cX8_digestOfReadings 105 = .ok (.invokevirtual 306, 3) := by decide +kernel
theorem dX8_digestOfReadings_108 : decode cX8_digestOfReadings 108 = .ok (.i2l, 1) := by decide +kernel
theorem dX8_digestOfReadings_109 : decode cX8_digestOfReadings 109 = .ok (.ladd, 1) := by decide +kernel
theorem dX8_digestOfReadings_110 : decode cX8_digestOfReadings 110 = .ok (.lstore_n 3, 1) := by decide +kernel
theorem dX8_digestOfReadings_111 : decode cX8_digestOfReadings 111 = .ok (.ldc2_w 279, 3) := by decide +kernel
theorem dX8_digestOfReadings_114 : decode cX8_digestOfReadings 114 = .ok (.lload_n 3, 1) := by decide +kernel
theorem dX8_digestOfReadings_115 : decode cX8_digestOfReadings 115 = .ok (.lmul, 1) := by decide +kernel
theorem dX8_digestOfReadings_116 : decode cX8_digestOfReadings 116 = .ok (.aload_n 0, 1) := by decide +kernel
theorem dX8_digestOfReadings_117 : decode cX8_digestOfReadings 117 = .ok (.bipush 20, 2) := by decide +kernel
theorem dX8_digestOfReadings_119 : decode cX8_digestOfReadings 119 = .ok (.iconst 0, 1) := by decide +kernel
theorem dX8_digestOfReadings_120 : decode cX8_digestOfReadings 120 = .ok (.invokevirtual 309, 3) := by decide +kernel
theorem dX8_digestOfReadings_123 : decode cX8_digestOfReadings 123 = .ok (.i2l, 1) := by decide +kernel
theorem dX8_digestOfReadings_124 : decode cX8_digestOfReadings 124 = .ok (.ladd, 1) := by decide +kernel
theorem dX8_digestOfReadings_125 : decode cX8_digestOfReadings 125 = .ok (.lstore_n 3, 1) := by decide +kernel
theorem dX8_digestOfReadings_126 : decode cX8_digestOfReadings 126 = .ok (.ldc2_w 279, 3) := by decide +kernel
theorem dX8_digestOfReadings_129 : decode cX8_digestOfReadings 129 = .ok (.lload_n 3, 1) := by decide +kernel
theorem dX8_digestOfReadings_130 : decode cX8_digestOfReadings 130 = .ok (.lmul, 1) := by decide +kernel
theorem dX8_digestOfReadings_131 : decode cX8_digestOfReadings 131 = .ok (.aload_n 0, 1) := by decide +kernel
theorem dX8_digestOfReadings_132 : decode cX8_digestOfReadings 132 = .ok (.bipush 20, 2) := by decide +kernel
theorem dX8_digestOfReadings_134 : decode cX8_digestOfReadings 134 = .ok (.iconst 1, 1) := by decide +kernel
theorem dX8_digestOfReadings_135 : decode cX8_digestOfReadings 135 = .ok (.invokevirtual 309, 3) := by decide +kernel
theorem dX8_digestOfReadings_138 : decode cX8_digestOfReadings 138 = .ok (.i2l, 1) := by decide +kernel
theorem dX8_digestOfReadings_139 : decode cX8_digestOfReadings 139 = .ok (.ladd, 1) := by decide +kernel
theorem dX8_digestOfReadings_140 : decode cX8_digestOfReadings 140 = .ok (.lreturn, 1) := by decide +kernel
theorem dX8_digestOfOpenings_0 : decode cX8_digestOfOpenings 0 = .ok (.lload_n 1, 1) := by decide +kernel
theorem dX8_digestOfOpenings_1 : decode cX8_digestOfOpenings 1 = .ok (.lstore_n 3, 1) := by decide +kernel
theorem dX8_digestOfOpenings_2 : decode cX8_digestOfOpenings 2 = .ok (.iconst 0, 1) := by decide +kernel
theorem dX8_digestOfOpenings_3 : decode cX8_digestOfOpenings 3 = .ok (.istore 5, 2) := by decide +kernel
theorem dX8_digestOfOpenings_5 : decode cX8_digestOfOpenings 5 = .ok (.iload 5, 2) := by decide +kernel
theorem dX8_digestOfOpenings_7 : decode cX8_digestOfOpenings 7 = .ok (.iconst 4, 1) := by decide +kernel
theorem dX8_digestOfOpenings_8 : decode cX8_digestOfOpenings 8 = .ok (.if_icmp .gt 55, 3) := by decide +kernel
theorem dX8_digestOfOpenings_11 : decode cX8_digestOfOpenings 11 = .ok (.iconst 0, 1) := by decide +kernel
theorem dX8_digestOfOpenings_12 : decode cX8_digestOfOpenings 12 = .ok (.istore 6, 2) := by decide +kernel
theorem dX8_digestOfOpenings_14 : decode cX8_digestOfOpenings 14 = .ok (.iload 6, 2) := by decide +kernel
theorem dX8_digestOfOpenings_16 : decode cX8_digestOfOpenings 16 = .ok (.iconst 3, 1) := by decide +kernel
theorem dX8_digestOfOpenings_17 : decode cX8_digestOfOpenings 17 = .ok (.if_icmp .gt 25, 3) := by decide +kernel
theorem dX8_digestOfOpenings_20 : decode cX8_digestOfOpenings 20 = .ok (.ldc2_w 279, 3) := by decide +kernel
theorem dX8_digestOfOpenings_23 : decode cX8_digestOfOpenings 23 = .ok (.lload_n 3, 1) := by decide +kernel
theorem dX8_digestOfOpenings_24 : decode cX8_digestOfOpenings 24 = .ok (.lmul, 1) := by decide +kernel
theorem dX8_digestOfOpenings_25 : decode cX8_digestOfOpenings 25 = .ok (.aload_n 0, 1) := by decide +kernel
theorem dX8_digestOfOpenings_26 : decode cX8_digestOfOpenings 26 = .ok (.iload 5, 2) := by decide +kernel
theorem dX8_digestOfOpenings_28 : decode cX8_digestOfOpenings 28 = .ok (.iload 6, 2) := by decide +kernel
theorem dX8_digestOfOpenings_30 : decode cX8_digestOfOpenings 30 = .ok (.invokevirtual 313, 3) := by decide +kernel
theorem dX8_digestOfOpenings_33 : decode cX8_digestOfOpenings 33 = .ok (.i2l, 1) := by decide +kernel
theorem dX8_digestOfOpenings_34 : decode cX8_digestOfOpenings 34 = .ok (.ladd, 1) := by decide +kernel
theorem dX8_digestOfOpenings_35 : decode cX8_digestOfOpenings 35 = .ok (.lstore_n 3, 1) := by decide +kernel
theorem dX8_digestOfOpenings_36 : decode cX8_digestOfOpenings 36 = .ok (.iinc 6 1, 3) := by decide +kernel
theorem dX8_digestOfOpenings_39 : decode cX8_digestOfOpenings 39 = .ok (.goto (-25), 3) := by decide +kernel
theorem dX8_digestOfOpenings_42 : decode cX8_digestOfOpenings 42 = .ok (.ldc2_w 279, 3) := by decide +kernel
theorem dX8_digestOfOpenings_45 : decode cX8_digestOfOpenings 45 = .ok (.lload_n 3, 1) := by decide +kernel
theorem dX8_digestOfOpenings_46 : decode cX8_digestOfOpenings 46 = .ok (.lmul, 1) := by decide +kernel
theorem dX8_digestOfOpenings_47 : decode cX8_digestOfOpenings 47 = .ok (.aload_n 0, 1) := by decide +kernel
theorem dX8_digestOfOpenings_48 : decode cX8_digestOfOpenings 48 = .ok (.iload 5, 2) := by decide +kernel
theorem dX8_digestOfOpenings_50 : decode cX8_digestOfOpenings 50 = .ok (.iconst 0, 1) := by decide +kernel
theorem dX8_digestOfOpenings_51 : decode cX8_digestOfOpenings 51 = .ok (.invokevirtual 316, 3) := by decide +kernel
theorem dX8_digestOfOpenings_54 : decode cX8_digestOfOpenings 54 = .ok (.i2l, 1) := by decide +kernel
theorem dX8_digestOfOpenings_55 : decode cX8_digestOfOpenings 55 = .ok (.ladd, 1) := by decide +kernel
theorem dX8_digestOfOpenings_56 : decode cX8_digestOfOpenings 56 = .ok (.lstore_n 3, 1) := by decide +kernel
theorem dX8_digestOfOpenings_57 : decode cX8_digestOfOpenings 57 = .ok (.iinc 5 1, 3) := by decide +kernel
theorem dX8_digestOfOpenings_60 : decode cX8_digestOfOpenings 60 = .ok (.goto (-55), 3) := by decide +kernel
theorem dX8_digestOfOpenings_63 : decode cX8_digestOfOpenings 63 = .ok (.lload_n 3, 1) := by decide +kernel
theorem dX8_digestOfOpenings_64 : decode cX8_digestOfOpenings 64 = .ok (.lreturn, 1) := by decide +kernel
theorem dX8_addReading_0 : decode cX8_addReading 0 = .ok (.aload_n 0, 1) := by decide +kernel
theorem dX8_addReading_1 : decode cX8_addReading 1 = .ok (.getfield 10, 3) := by decide +kernel
theorem dX8_addReading_4 : decode cX8_addReading 4 = .ok (.getfield 181, 3) := by decide +kernel
theorem dX8_addReading_7 : decode cX8_addReading 7 = .ok (.getfield 190, 3) := by decide +kernel
theorem dX8_addReading_10 : decode cX8_addReading 10 = .ok (.bipush 8, 2) := by decide +kernel
theorem dX8_addReading_12 : decode cX8_addReading 12 = .ok (.if_icmp .lt 7, 3) := by decide +kernel
theorem dX8_addReading_15 : decode cX8_addReading 15 = .ok (.sipush (-1003), 3) := by decide +kernel
theorem dX8_addReading_18 : decode cX8_addReading 18 = .ok (.ireturn, 1) := by decide +kernel
theorem dX8_addReading_19 : decode cX8_addReading 19 = .ok (.aload_n 0, 1) := by decide +kernel
theorem dX8_addReading_20 : decode cX8_addReading 20 = .ok (.getfield 19, 3) := by decide +kernel
theorem dX8_addReading_23 : decode cX8_addReading 23 = .ok (.aload_n 0, 1) := by decide +kernel
theorem dX8_addReading_24 : decode cX8_addReading 24 = .ok (.getfield 10, 3) := by decide +kernel
theorem dX8_addReading_27 : decode cX8_addReading 27 = .ok (.invokevirtual 63, 3) := by decide +kernel
theorem dX8_addReading_30 : decode cX8_addReading 30 = .ok (.aload_n 0, 1) := by decide +kernel
theorem dX8_addReading_31 : decode cX8_addReading 31 = .ok (.getfield 10, 3) := by decide +kernel
theorem dX8_addReading_34 : decode cX8_addReading 34 = .ok (.getfield 181, 3) := by decide +kernel
theorem dX8_addReading_37 : decode cX8_addReading 37 = .ok (.iload_n 1, 1) := by decide +kernel
theorem dX8_addReading_38 : decode cX8_addReading 38 = .ok (.iload_n 2, 1) := by decide +kernel
theorem dX8_addReading_39 : decode cX8_addReading 39 = .ok (.invokevirtual 319, 3) := by decide +kernel
theorem dX8_addReading_42 : decode cX8_addReading 42 = .ok (.aload_n 0, 1) := by decide +kernel
theorem dX8_addReading_43 : decode cX8_addReading 43 = .ok (.getfield 10, 3) := by decide +kernel
theorem dX8_addReading_46 : decode cX8_addReading 46 = .ok (.getfield 181, 3) := by decide +kernel
theorem dX8_addReading_49 : decode cX8_addReading 49 = .ok (.getfield 190, 3) := by decide +kernel
theorem dX8_addReading_52 : decode cX8_addReading 52 = .ok (.iconst 1, 1) := by decide +kernel
theorem dX8_addReading_53 : decode cX8_addReading 53 = .ok (.isub, 1) := by decide +kernel
theorem dX8_addReading_54 : decode cX8_addReading 54 = .ok (.ireturn, 1) := by decide +kernel
theorem dX8_findWithout_0 : decode cX8_findWithout 0 = .ok (.aload_n 0, 1) := by decide +kernel
theorem dX8_findWithout_1 : decode cX8_findWithout 1 = .ok (.getfield 40, 3) := by decide +kernel
theorem dX8_findWithout_4 : decode cX8_findWithout 4 = .ok (.aload_n 0, 1) := by decide +kernel
theorem dX8_findWithout_5 : decode cX8_findWithout 5 = .ok (.getfield 10, 3) := by decide +kernel
theorem dX8_findWithout_8 : decode cX8_findWithout 8 = .ok (.getfield 67, 3) := by decide +kernel
theorem dX8_findWithout_11 : decode cX8_findWithout 11 = .ok (.invokevirtual 156, 3) := by decide +kernel
theorem dX8_findWithout_14 : decode cX8_findWithout 14 = .ok (.aload_n 0, 1) := by decide +kernel
theorem dX8_findWithout_15 : decode cX8_findWithout 15 = .ok (.getfield 10, 3) := by decide +kernel
theorem dX8_findWithout_18 : decode cX8_findWithout 18 = .ok (.getfield 181, 3) := by decide +kernel
theorem dX8_findWithout_21 : decode cX8_findWithout 21 = .ok (.iload_n 1, 1) := by decide +kernel
theorem dX8_findWithout_22 : decode cX8_findWithout 22 = .ok (.invokevirtual 322, 3) := by decide +kernel
theorem dX8_findWithout_25 : decode cX8_findWithout 25 = .ok (.aload_n 0, 1) := by decide +kernel
theorem dX8_findWithout_26 : decode cX8_findWithout 26 = .ok (.getfield 40, 3) := by decide +kernel
theorem dX8_findWithout_29 : decode cX8_findWithout 29 = .ok (.areturn, 1) := by decide +kernel
theorem dX8_isPlace_0 : decode cX8_isPlace 0 = .ok (.iload_n 1, 1) := by decide +kernel
theorem dX8_isPlace_1 : decode cX8_isPlace 1 = .ok (.iconst 0, 1) := by decide +kernel
theorem dX8_isPlace_2 : decode cX8_isPlace 2 = .ok (.aload_n 0, 1) := by decide +kernel
theorem dX8_isPlace_3 : decode cX8_isPlace 3 = .ok (.getfield 10, 3) := by decide +kernel
theorem dX8_isPlace_6 : decode cX8_isPlace 6 = .ok (.getfield 67, 3) := by decide +kernel
theorem dX8_isPlace_9 : decode cX8_isPlace 9 = .ok (.getfield 74, 3) := by decide +kernel
theorem dX8_isPlace_12 : decode cX8_isPlace 12 = .ok (.iconst 1, 1) := by decide +kernel
theorem dX8_isPlace_13 : decode cX8_isPlace 13 = .ok (.isub, 1) := by decide +kernel
theorem dX8_isPlace_14 : decode cX8_isPlace 14 = .ok (.invokestatic 44, 3) := by decide +kernel
theorem dX8_isPlace_17 : decode cX8_isPlace 17 = .ok (.ireturn, 1) := by decide +kernel
theorem dX8_isFlash_0 : decode cX8_isFlash 0 = .ok (.iload_n 1, 1) := by decide +kernel
theorem dX8_isFlash_1 : decode cX8_isFlash 1 = .ok (.iconst 0, 1) := by decide +kernel
theorem dX8_isFlash_2 : decode cX8_isFlash 2 = .ok (.aload_n 0, 1) := by decide +kernel
theorem dX8_isFlash_3 : decode cX8_isFlash 3 = .ok (.getfield 10, 3) := by decide +kernel
theorem dX8_isFlash_6 : decode cX8_isFlash 6 = .ok (.getfield 125, 3) := by decide +kernel
theorem dX8_isFlash_9 : decode cX8_isFlash 9 = .ok (.invokevirtual 137, 3) := by decide +kernel
theorem dX8_isFlash_12 : decode cX8_isFlash 12 = .ok (.iconst 1, 1) := by decide +kernel
theorem dX8_isFlash_13 : decode cX8_isFlash 13 = .ok (.isub, 1) := by decide +kernel
theorem dX8_isFlash_14 : decode cX8_isFlash 14 = .ok (.invokestatic 44, 3) := by decide +kernel
theorem dX8_isFlash_17 : decode cX8_isFlash 17 = .ok (.ireturn, 1) := by decide +kernel
theorem dX8_isReading_0 : decode cX8_isReading 0 = .ok (.iload_n 1, 1) := by decide +kernel
theorem dX8_isReading_1 : decode cX8_isReading 1 = .ok (.iconst 0, 1) := by decide +kernel
theorem dX8_isReading_2 : decode cX8_isReading 2 = .ok (.aload_n 0, 1) := by decide +kernel
theorem dX8_isReading_3 : decode cX8_isReading 3 = .ok (.getfield 10, 3) := by decide +kernel
theorem dX8_isReading_6 : decode cX8_isReading 6 = .ok (.getfield 181, 3) := by decide +kernel
theorem dX8_isReading_9 : decode cX8_isReading 9 = .ok (.getfield 190, 3) := by decide +kernel
theorem dX8_isReading_12 : decode cX8_isReading 12 = .ok (.iconst 1, 1) := by decide +kernel
theorem dX8_isReading_13 : decode cX8_isReading 13 = .ok (.isub, 1) := by decide +kernel
theorem dX8_isReading_14 : decode cX8_isReading 14 = .ok (.invokestatic 44, 3) := by decide +kernel
theorem dX8_isReading_17 : decode cX8_isReading 17 = .ok (.ireturn, 1) := by decide +kernel
theorem dX8_isTick_0 : decode cX8_isTick 0 = .ok (.iload_n 0, 1) := by decide +kernel
theorem dX8_isTick_1 : decode cX8_isTick 1 = .ok (.iconst 0, 1) := by decide +kernel
theorem dX8_isTick_2 : decode cX8_isTick 2 = .ok (.sipush 1000, 3) := by decide +kernel
theorem dX8_isTick_5 : decode cX8_isTick 5 = .ok (.invokestatic 44, 3) := by decide +kernel
theorem dX8_isTick_8 : decode cX8_isTick 8 = .ok (.ireturn, 1) := by decide +kernel
theorem dX8_within_0 : decode cX8_within 0 = .ok (.iload_n 0, 1) := by decide +kernel
theorem dX8_within_1 : decode cX8_within 1 = .ok (.iload_n 1, 1) := by decide +kernel
theorem dX8_within_2 : decode cX8_within 2 = .ok (.if_icmp .lt 12, 3) := by decide +kernel
theorem dX8_within_5 : decode cX8_within 5 = .ok (.iload_n 0, 1) := by decide +kernel
theorem dX8_within_6 : decode cX8_within 6 = .ok (.iload_n 2, 1) := by decide +kernel
theorem dX8_within_7 : decode cX8_within 7 = .ok (.if_icmp .gt 7, 3) := by decide +kernel
theorem dX8_within_10 : decode cX8_within 10 = .ok (.iconst 1, 1) := by decide +kernel
theorem dX8_within_11 : decode cX8_within 11 = .ok (.goto 4, 3) := by decide +kernel
theorem dX8_within_14 : decode cX8_within 14 = .ok (.iconst 0, 1) := by decide +kernel
theorem dX8_within_15 : decode cX8_within 15 = .ok (.ireturn, 1) := by decide +kernel
theorem dX8_mod_0 : decode cX8_mod 0 = .ok (.iload_n 1, 1) := by decide +kernel
theorem dX8_mod_1 : decode cX8_mod 1 = .ok (.ifCond .gt 5, 3) := by decide +kernel
theorem dX8_mod_4 : decode cX8_mod 4 = .ok (.iconst 0, 1) := by decide +kernel
theorem dX8_mod_5 : decode cX8_mod 5 = .ok (.ireturn, 1) := by decide +kernel
theorem dX8_mod_6 : decode cX8_mod 6 = .ok (.iload_n 0, 1) := by decide +kernel
theorem dX8_mod_7 : decode cX8_mod 7 = .ok (.iload_n 1, 1) := by decide +kernel
theorem dX8_mod_8 : decode cX8_mod 8 = .ok (.irem, 1) := by decide +kernel
theorem dX8_mod_9 : decode cX8_mod 9 = .ok (.istore_n 2, 1) := by decide +kernel
theorem dX8_mod_10 : decode cX8_mod 10 = .ok (.iload_n 2, 1) := by decide +kernel
theorem dX8_mod_11 : decode cX8_mod 11 = .ok (.ifCond .ge 9, 3) := by decide +kernel
theorem dX8_mod_14 : decode cX8_mod 14 = .ok (.iload_n 2, 1) := by decide +kernel
theorem dX8_mod_15 : decode cX8_mod 15 = .ok (.iload_n 1, 1) := by decide +kernel
theorem dX8_mod_16 : decode cX8_mod 16 = .ok (.iadd, 1) := by decide +kernel
theorem dX8_mod_17 : decode cX8_mod 17 = .ok (.goto 4, 3) := by decide +kernel
theorem dX8_mod_20 : decode cX8_mod 20 = .ok (.iload_n 2, 1) := by decide +kernel
theorem dX8_mod_21 : decode cX8_mod 21 = .ok (.ireturn, 1) := by decide +kernel
theorem dX8_hasBit_0 : decode cX8_hasBit 0 = .ok (.lload_n 0, 1) := by decide +kernel
theorem dX8_hasBit_1 : decode cX8_hasBit 1 = .ok (.iload_n 2, 1) := by decide +kernel
theorem dX8_hasBit_2 : decode cX8_hasBit 2 = .ok (.lushr, 1) := by decide +kernel
theorem dX8_hasBit_3 : decode cX8_hasBit 3 = .ok (.lconst 1, 1) := by decide +kernel
theorem dX8_hasBit_4 : decode cX8_hasBit 4 = .ok (.land, 1) := by decide +kernel
theorem dX8_hasBit_5 : decode cX8_hasBit 5 = .ok (.lconst 1, 1) := by decide +kernel
theorem dX8_hasBit_6 : decode cX8_hasBit 6 = .ok (.lcmp, 1) := by decide +kernel
theorem dX8_hasBit_7 : decode cX8_hasBit 7 = .ok (.ifCond .ne 7, 3) := by decide +kernel
theorem dX8_hasBit_10 : decode cX8_hasBit 10 = .ok (.iconst 1, 1) := by decide +kernel
theorem dX8_hasBit_11 : decode cX8_hasBit 11 = .ok (.goto 4, 3) := by decide +kernel
theorem dX8_hasBit_14 : decode cX8_hasBit 14 = .ok (.iconst 0, 1) := by decide +kernel
theorem dX8_hasBit_15 : decode cX8_hasBit 15 = .ok (.ireturn, 1) := by decide +kernel
theorem dX8_at_0 : decode cX8_at 0 = .ok (.iload_n 1, 1) := by decide +kernel
theorem dX8_at_1 : decode cX8_at 1 = .ok (.ifCond .lt 15, 3) := by decide +kernel
theorem dX8_at_4 : decode cX8_at 4 = .ok (.iload_n 1, 1) := by decide +kernel
theorem dX8_at_5 : decode cX8_at 5 = .ok (.aload_n 0, 1) := by decide +kernel
theorem dX8_at_6 : decode cX8_at 6 = .ok (.arraylength, 1) := by decide +kernel
theorem dX8_at_7 : decode cX8_at 7 = .ok (.if_icmp .ge 9, 3) := by decide +kernel
theorem dX8_at_10 : decode cX8_at 10 = .ok (.aload_n 0, 1) := by decide +kernel
theorem dX8_at_11 : decode cX8_at 11 = .ok (.iload_n 1, 1) := by decide +kernel
theorem dX8_at_12 : decode cX8_at 12 = .ok (.iaload, 1) := by decide +kernel
theorem dX8_at_13 : decode cX8_at 13 = .ok (.goto 4, 3) := by decide +kernel
theorem dX8_at_16 : decode cX8_at 16 = .ok (.iconst 0, 1) := by decide +kernel
theorem dX8_at_17 : decode cX8_at 17 = .ok (.ireturn, 1) := by decide +kernel
theorem dX8_put_0 : decode cX8_put 0 = .ok (.iload_n 1, 1) := by decide +kernel
theorem dX8_put_1 : decode cX8_put 1 = .ok (.ifCond .lt 13, 3) := by decide +kernel
theorem dX8_put_4 : decode cX8_put 4 = .ok (.iload_n 1, 1) := by decide +kernel
theorem dX8_put_5 : decode cX8_put 5 = .ok (.aload_n 0, 1) := by decide +kernel
theorem dX8_put_6 : decode cX8_put 6 = .ok (.arraylength, 1) := by decide +kernel
theorem dX8_put_7 : decode cX8_put 7 = .ok (.if_icmp .ge 7, 3) := by decide +kernel
theorem dX8_put_10 : decode cX8_put 10 = .ok (.aload_n 0, 1) := by decide +kernel
theorem dX8_put_11 : decode cX8_put 11 = .ok (.iload_n 1, 1) := by decide +kernel
theorem dX8_put_12 : decode cX8_put 12 = .ok (.iload_n 2, 1) := by decide +kernel
theorem dX8_put_13 : decode cX8_put 13 = .ok (.iastore, 1) := by decide +kernel
theorem dX8_put_14 : decode cX8_put 14 = .ok (.return_, 1) := by decide +kernel
theorem dX8_copyRow_0 : decode cX8_copyRow 0 = .ok (.iconst 0, 1) := by decide +kernel
theorem dX8_copyRow_1 : decode cX8_copyRow 1 = .ok (.istore_n 2, 1) := by decide +kernel
theorem dX8_copyRow_2 : decode cX8_copyRow 2 = .ok (.iload_n 2, 1) := by decide +kernel
theorem dX8_copyRow_3 : decode cX8_copyRow 3 = .ok (.aload_n 0, 1) := by decide +kernel
theorem dX8_copyRow_4 : decode cX8_copyRow 4 = .ok (.arraylength, 1) := by decide +kernel
theorem dX8_copyRow_5 : decode cX8_copyRow 5 = .ok (.if_icmp .ge 21, 3) := by decide +kernel
theorem dX8_copyRow_8 : decode cX8_copyRow 8 = .ok (.iload_n 2, 1) := by decide +kernel
theorem dX8_copyRow_9 : decode cX8_copyRow 9 = .ok (.aload_n 1, 1) := by decide +kernel
theorem dX8_copyRow_10 : decode cX8_copyRow 10 = .ok (.arraylength, 1) := by decide +kernel
theorem dX8_copyRow_11 : decode cX8_copyRow 11 = .ok (.if_icmp .ge 15, 3) := by decide +kernel
theorem dX8_copyRow_14 : decode cX8_copyRow 14 = .ok (.aload_n 1, 1) := by decide +kernel
theorem dX8_copyRow_15 : decode cX8_copyRow 15 = .ok (.iload_n 2, 1) := by decide +kernel
theorem dX8_copyRow_16 : decode cX8_copyRow 16 = .ok (.aload_n 0, 1) := by decide +kernel
theorem dX8_copyRow_17 : decode cX8_copyRow 17 = .ok (.iload_n 2, 1) := by decide +kernel
theorem dX8_copyRow_18 : decode cX8_copyRow 18 = .ok (.iaload, 1) := by decide +kernel
theorem dX8_copyRow_19 : decode cX8_copyRow 19 = .ok (.iastore, 1) := by decide +kernel
theorem dX8_copyRow_20 : decode cX8_copyRow 20 = .ok (.iinc 2 1, 3) := by decide +kernel
theorem dX8_copyRow_23 : decode cX8_copyRow 23 = .ok (.goto (-21), 3) := by decide +kernel
theorem dX8_copyRow_26 : decode cX8_copyRow 26 = .ok (.return_, 1) := by decide +kernel
theorem dX9_init_0 : decode cX9_init 0 = .ok (.aload_n 0, 1) := by decide +kernel
theorem dX9_init_1 : decode cX9_init 1 = .ok (.invokespecial 1, 3) := by decide +kernel
theorem dX9_init_4 : decode cX9_init 4 = .ok (.aload_n 0, 1) := by decide +kernel
theorem dX9_init_5 : decode cX9_init 5 = .ok (.sipush 980, 3) := by decide +kernel
theorem dX9_init_8 : decode cX9_init 8 = .ok (.newarray .int, 2) := by decide +kernel
theorem dX9_init_10 : decode cX9_init 10 = .ok (.putfield 7, 3) := by decide +kernel
theorem dX9_init_13 : decode cX9_init 13 = .ok (.aload_n 0, 1) := by decide +kernel
theorem dX9_init_14 : decode cX9_init 14 = .ok (.sipush 1001, 3) := by decide +kernel
theorem dX9_init_17 : decode cX9_init 17 = .ok (.newarray .int, 2) := by decide +kernel
theorem dX9_init_19 : decode cX9_init 19 = .ok (.putfield 13, 3) := by decide +kernel
theorem dX9_init_22 : decode cX9_init 22 = .ok (.aload_n 0, 1) := by decide +kernel
theorem dX9_init_23 : decode cX9_init 23 = .ok (.bipush 80, 2) := by decide +kernel
theorem dX9_init_25 : decode cX9_init 25 = .ok (.newarray .int, 2) := by decide +kernel
theorem dX9_init_27 : decode cX9_init 27 = .ok (.putfield 16, 3) := by decide +kernel
theorem dX9_init_30 : decode cX9_init 30 = .ok (.aload_n 0, 1) := by decide +kernel
theorem dX9_init_31 : decode cX9_init 31 = .ok (.bipush 60, 2) := by decide +kernel
theorem dX9_init_33 : decode cX9_init 33 = .ok (.newarray .boolean, 2) := by decide +kernel
theorem dX9_init_35 : decode cX9_init 35 = .ok (.putfield 19, 3) := by decide +kernel
theorem dX9_init_38 : decode cX9_init 38 = .ok (.aload_n 0, 1) := by decide +kernel
theorem dX9_init_39 : decode cX9_init 39 = .ok (.sipush 2001, 3) := by decide +kernel
theorem dX9_init_42 : decode cX9_init 42 = .ok (.newarray .int, 2) := by decide +kernel
theorem dX9_init_44 : decode cX9_init 44 = .ok (.putfield 23, 3) := by decide +kernel
theorem dX9_init_47 : decode cX9_init 47 = .ok (.aload_n 0, 1) := by decide +kernel
theorem dX9_init_48 : decode cX9_init 48 = .ok (.bipush 60, 2) := by decide +kernel
theorem dX9_init_50 : decode cX9_init 50 = .ok (.newarray .int, 2) := by decide +kernel
theorem dX9_init_52 : decode cX9_init 52 = .ok (.putfield 26, 3) := by decide +kernel
theorem dX9_init_55 : decode cX9_init 55 = .ok (.aload_n 0, 1) := by decide +kernel
theorem dX9_init_56 : decode cX9_init 56 = .ok (.getfield 7, 3) := by decide +kernel
theorem dX9_init_59 : decode cX9_init 59 = .ok (.iconst 0, 1) := by decide +kernel
theorem dX9_init_60 : decode cX9_init 60 = .ok (.bipush 12, 2) := by decide +kernel
theorem dX9_init_62 : decode cX9_init 62 = .ok (.iastore, 1) := by decide +kernel
theorem dX9_init_63 : decode cX9_init 63 = .ok (.iconst 0, 1) := by decide +kernel
theorem dX9_init_64 : decode cX9_init 64 = .ok (.istore_n 1, 1) := by decide +kernel
theorem dX9_init_65 : decode cX9_init 65 = .ok (.iload_n 1, 1) := by decide +kernel
theorem dX9_init_66 : decode cX9_init 66 = .ok (.bipush 12, 2) := by decide +kernel
theorem dX9_init_68 : decode cX9_init 68 = .ok (.if_icmp .ge 18, 3) := by decide +kernel
theorem dX9_init_71 : decode cX9_init 71 = .ok (.aload_n 0, 1) := by decide +kernel
theorem dX9_init_72 : decode cX9_init 72 = .ok (.getfield 7, 3) := by decide +kernel
theorem dX9_init_75 : decode cX9_init 75 = .ok (.iconst 1, 1) := by decide +kernel
theorem dX9_init_76 : decode cX9_init 76 = .ok (.iload_n 1, 1) := by decide +kernel
theorem dX9_init_77 : decode cX9_init 77 = .ok (.iadd, 1) := by decide +kernel
theorem dX9_init_78 : decode cX9_init 78 = .ok (.iconst 1, 1) := by decide +kernel
theorem dX9_init_79 : decode cX9_init 79 = .ok (.iastore, 1) := by decide +kernel
theorem dX9_init_80 : decode cX9_init 80 = .ok (.iinc 1 3, 3) := by decide +kernel
theorem dX9_init_83 : decode cX9_init 83 = .ok (.goto (-18), 3) := by decide +kernel
theorem dX9_init_86 : decode cX9_init 86 = .ok (.aload_n 0, 1) := by decide +kernel
theorem dX9_init_87 : decode cX9_init 87 = .ok (.getfield 7, 3) := by decide +kernel
theorem dX9_init_90 : decode cX9_init 90 = .ok (.bipush 75, 2) := by decide +kernel
theorem dX9_init_92 : decode cX9_init 92 = .ok (.iconst 1, 1) := by decide +kernel
theorem dX9_init_93 : decode cX9_init 93 = .ok (.iastore, 1) := by decide +kernel
theorem dX9_init_94 : decode cX9_init 94 = .ok (.aload_n 0, 1) := by decide +kernel
theorem dX9_init_95 : decode cX9_init 95 = .ok (.getfield 7, 3) := by decide +kernel
theorem dX9_init_98 : decode cX9_init 98 = .ok (.bipush 93, 2) := by decide +kernel
theorem dX9_init_100 : decode cX9_init 100 = .ok (.bipush 100, 2) := by decide +kernel
theorem dX9_init_102 : decode cX9_init 102 = .ok (.iastore, 1) := by decide +kernel
theorem dX9_init_103 : decode cX9_init 103 = .ok (.aload_n 0, 1) := by decide +kernel
theorem dX9_init_104 : decode cX9_init 104 = .ok (.getfield 7, 3) := by decide +kernel
theorem dX9_init_107 : decode cX9_init 107 = .ok (.bipush 94, 2) := by decide +kernel
theorem dX9_init_109 : decode cX9_init 109 = .ok (.iconst 1, 1) := by decide +kernel
theorem dX9_init_110 : decode cX9_init 110 = .ok (.iastore, 1) := by decide +kernel
theorem dX9_init_111 : decode cX9_init 111 = .ok (.aload_n 0, 1) := by decide +kernel
theorem dX9_init_112 : decode cX9_init 112 = .ok (.getfield 7, 3) := by decide +kernel
theorem dX9_init_115 : decode cX9_init 115 = .ok (.bipush 95, 2) := by decide +kernel
theorem dX9_init_117 : decode cX9_init 117 = .ok (.iconst 1, 1) := by decide +kernel
theorem dX9_init_118 : decode cX9_init 118 = .ok (.iastore, 1) := by decide +kernel
theorem dX9_init_119 : decode cX9_init 119 = .ok (.return_, 1) := by decide +kernel
theorem dX9_in_0 : decode cX9_in 0 = .ok (.iload_n 0, 1) := by decide +kernel
theorem dX9_in_1 : decode cX9_in 1 = .ok (.iload_n 1, 1) := by decide +kernel
theorem dX9_in_2 : decode cX9_in 2 = .ok (.if_icmp .lt 12, 3) := by decide +kernel
theorem dX9_in_5 : decode cX9_in 5 = .ok (.iload_n 0, 1) := by decide +kernel
theorem dX9_in_6 : decode cX9_in 6 = .ok (.iload_n 2, 1) := by decide +kernel
theorem dX9_in_7 : decode cX9_in 7 = .ok (.if_icmp .gt 7, 3) := by decide +kernel
theorem dX9_in_10 : decode cX9_in 10 = .ok (.iconst 1, 1) := by decide +kernel
theorem dX9_in_11 : decode cX9_in 11 = .ok (.goto 4, 3) := by decide +kernel
theorem dX9_in_14 : decode cX9_in 14 = .ok (.iconst 0, 1) := by decide +kernel
theorem dX9_in_15 : decode cX9_in 15 = .ok (.ireturn, 1) := by decide +kernel
theorem dX9_copies_0 : decode cX9_copies 0 = .ok (.iconst 0, 1) := by decide +kernel
theorem dX9_copies_1 : decode cX9_copies 1 = .ok (.istore_n 3, 1) := by decide +kernel
theorem dX9_copies_2 : decode cX9_copies 2 = .ok (.iload_n 3, 1) := by decide +kernel
theorem dX9_copies_3 : decode cX9_copies 3 = .ok (.bipush 98, 2) := by decide +kernel
theorem dX9_copies_5 : decode cX9_copies 5 = .ok (.if_icmp .ge 31, 3) := by decide +kernel
theorem dX9_copies_8 : decode cX9_copies 8 = .ok (.aload_n 0, 1) := by decide +kernel
theorem dX9_copies_9 : decode cX9_copies 9 = .ok (.getfield 7, 3) := by decide +kernel
theorem dX9_copies_12 : decode cX9_copies 12 = .ok (.bipush 98, 2) := by decide +kernel
theorem dX9_copies_14 : decode cX9_copies 14 = .ok (.iload_n 2, 1) := by decide +kernel
theorem dX9_copies_15 : decode cX9_copies 15 = .ok (.imul, 1) := by decide +kernel
theorem dX9_copies_16 : decode cX9_copies 16 = .ok (.iload_n 3, 1) := by decide +kernel
theorem dX9_copies_17 : decode cX9_copies 17 = .ok (.iadd, 1) := by decide +kernel
theorem dX9_copies_18 : decode cX9_copies 18 = .ok (.aload_n 0, 1) := by decide +kernel
theorem dX9_copies_19 : decode cX9_copies 19 = .ok (.getfield 7, 3) := by decide +kernel
theorem dX9_copies_22 : decode cX9_copies 22 = .ok (.bipush 98, 2) := by decide +kernel
theorem dX9_copies_24 : decode cX9_copies 24 = .ok (.iload_n 1, 1) := by decide +kernel
theorem dX9_copies_25 : decode cX9_copies 25 = .ok (.imul, 1) := by decide +kernel
theorem dX9_copies_26 : decode cX9_copies 26 = .ok (.iload_n 3, 1) := by decide +kernel
theorem dX9_copies_27 : decode cX9_copies 27 = .ok (.iadd, 1) := by decide +kernel
theorem dX9_copies_28 : decode cX9_copies 28 = .ok (.iaload, 1) := by decide +kernel
theorem dX9_copies_29 : decode cX9_copies 29 = .ok (.iastore, 1) := by decide +kernel
theorem dX9_copies_30 : decode cX9_copies 30 = .ok (.iinc 3 1, 3) := by decide +kernel
theorem dX9_copies_33 : decode cX9_copies 33 = .ok (.goto (-31), 3) := by decide +kernel
theorem dX9_copies_36 : decode cX9_copies 36 = .ok (.return_, 1) := by decide +kernel
theorem dX9_records_0 : decode cX9_records 0 = .ok (.aload_n 0, 1) := by decide +kernel
theorem dX9_records_1 : decode cX9_records 1 = .ok (.getfield 29, 3) := by decide +kernel
theorem dX9_records_4 : decode cX9_records 4 = .ok (.bipush 8, 2) := by decide +kernel
theorem dX9_records_6 : decode cX9_records 6 = .ok (.if_icmp .ne 35, 3) := by decide +kernel
theorem dX9_records_9 : decode cX9_records 9 = .ok (.iconst 1, 1) := by decide +kernel
theorem dX9_records_10 : decode cX9_records 10 = .ok (.istore_n 1, 1) := by decide +kernel
theorem dX9_records_11 : decode cX9_records 11 = .ok (.iload_n 1, 1) := by decide +kernel
theorem dX9_records_12 : decode cX9_records 12 = .ok (.bipush 8, 2) := by decide +kernel
theorem dX9_records_14 : decode cX9_records 14 = .ok (.if_icmp .ge 17, 3) := by decide +kernel
theorem dX9_records_17 : decode cX9_records 17 = .ok (.aload_n 0, 1) := by decide +kernel
theorem dX9_records_18 : decode cX9_records 18 = .ok (.iload_n 1, 1) := by decide +kernel
theorem dX9_records_19 : decode cX9_records 19 = .ok (.iconst 1, 1) := by decide +kernel
theorem dX9_records_20 : decode cX9_records 20 = .ok (.iadd, 1) := by decide +kernel
theorem dX9_records_21 : decode cX9_records 21 = .ok (.iload_n 1, 1) := by decide +kernel
theorem dX9_records_22 : decode cX9_records 22 = .ok (.invokevirtual 33, 3) := by decide +kernel
theorem dX9_records_25 : decode cX9_records 25 = .ok (.iinc 1 1, 3) := by decide +kernel
theorem dX9_records_28 : decode cX9_records 28 = .ok (.goto (-17), 3) := by decide +kernel
theorem dX9_records_31 : decode cX9_records 31 = .ok (.aload_n 0, 1) := by decide +kernel
theorem dX9_records_32 : decode cX9_records 32 = .ok (.dup, 1) := by decide +kernel
theorem dX9_records_33 : decode cX9_records 33 = .ok (.getfield 29, 3) := by decide +kernel
theorem dX9_records_36 : decode cX9_records 36 = .ok (.iconst 1, 1) := by decide +kernel
theorem dX9_records_37 : decode cX9_records 37 = .ok (.isub, 1) := by decide +kernel
theorem dX9_records_38 : decode cX9_records 38 = .ok (.putfield 29, 3) := by decide +kernel
theorem dX9_records_41 : decode cX9_records 41 = .ok (.aload_n 0, 1) := by decide +kernel
theorem dX9_records_42 : decode cX9_records 42 = .ok (.dup, 1) := by decide +kernel
theorem dX9_records_43 : decode cX9_records 43 = .ok (.getfield 29, 3) := by decide +kernel
theorem dX9_records_46 : decode cX9_records 46 = .ok (.iconst 1, 1) := by decide +kernel
theorem dX9_records_47 : decode cX9_records 47 = .ok (.iadd, 1) := by decide +kernel
theorem dX9_records_48 : decode cX9_records 48 = .ok (.putfield 29, 3) := by decide +kernel
theorem dX9_records_51 : decode cX9_records 51 = .ok (.aload_n 0, 1) := by decide +kernel
theorem dX9_records_52 : decode cX9_records 52 = .ok (.iconst 0, 1) := by decide +kernel
theorem dX9_records_53 : decode cX9_records 53 = .ok (.aload_n 0, 1) := by decide +kernel
theorem dX9_records_54 : decode cX9_records 54 = .ok (.getfield 29, 3) := by decide +kernel
theorem dX9_records_57 : decode cX9_records 57 = .ok (.invokevirtual 33, 3) := by decide +kernel
theorem dX9_records_60 : decode cX9_records 60 = .ok (.return_, 1) := by decide +kernel
theorem dX9_undo_0 : decode cX9_undo 0 = .ok (.aload_n 0, 1) := by decide +kernel
theorem dX9_undo_1 : decode cX9_undo 1 = .ok (.getfield 29, 3) := by decide +kernel
theorem dX9_undo_4 : decode cX9_undo 4 = .ok (.ifCond .ne 7, 3) := by decide +kernel
theorem dX9_undo_7 : decode cX9_undo 7 = .ok (.sipush (-1002), 3) := by decide +kernel
theorem dX9_undo_10 : decode cX9_undo 10 = .ok (.ireturn, 1) := by decide +kernel
theorem dX9_undo_11 : decode cX9_undo 11 = .ok (.aload_n 0, 1) := by decide +kernel
theorem dX9_undo_12 : decode cX9_undo 12 = .ok (.aload_n 0, 1) := by decide +kernel
theorem dX9_undo_13 : decode cX9_undo 13 = .ok (.getfield 29, 3) := by decide +kernel
theorem dX9_undo_16 : decode cX9_undo 16 = .ok (.iconst 0, 1) := by decide +kernel
theorem dX9_undo_17 : decode cX9_undo 17 = .ok (.invokevirtual 33, 3) := by decide +kernel
theorem dX9_undo_20 : decode cX9_undo 20 = .ok (.aload_n 0, 1) := by decide +kernel
theorem dX9_undo_21 : decode cX9_undo 21 = .ok (.dup, 1) := by decide +kernel
theorem dX9_undo_22 : decode cX9_undo 22 = .ok (.getfield 29, 3) := by decide +kernel
theorem dX9_undo_25 : decode cX9_undo 25 = .ok (.iconst 1, 1) := by decide +kernel
theorem dX9_undo_26 : decode cX9_undo 26 = .ok (.isub, 1) := by decide +kernel
theorem dX9_undo_27 : decode cX9_undo 27 = .ok (.putfield 29, 3) := by decide +kernel
theorem dX9_undo_30 : decode cX9_undo 30 = .ok (.aload_n 0, 1) := by decide +kernel
theorem dX9_undo_31 : decode cX9_undo 31 = .ok (.getfield 29, 3) := by decide +kernel
theorem dX9_undo_34 : decode cX9_undo 34 = .ok (.ireturn, 1) := by decide +kernel
theorem dX9_modulo_0 : decode cX9_modulo 0 = .ok (.iload_n 0, 1) := by decide +kernel
theorem dX9_modulo_1 : decode cX9_modulo 1 = .ok (.iload_n 1, 1) := by decide +kernel
theorem dX9_modulo_2 : decode cX9_modulo 2 = .ok (.irem, 1) := by decide +kernel
theorem dX9_modulo_3 : decode cX9_modulo 3 = .ok (.istore_n 2, 1) := by decide +kernel
theorem dX9_modulo_4 : decode cX9_modulo 4 = .ok (.iload_n 2, 1) := by decide +kernel
theorem dX9_modulo_5 : decode cX9_modulo 5 = .ok (.ifCond .ge 9, 3) := by decide +kernel
theorem dX9_modulo_8 : decode cX9_modulo 8 = .ok (.iload_n 2, 1) := by decide +kernel
theorem dX9_modulo_9 : decode cX9_modulo 9 = .ok (.iload_n 1, 1) := by decide +kernel
theorem dX9_modulo_10 : decode cX9_modulo 10 = .ok (.iadd, 1) := by decide +kernel
theorem dX9_modulo_11 : decode cX9_modulo 11 = .ok (.goto 4, 3) := by decide +kernel
theorem dX9_modulo_14 : decode cX9_modulo 14 = .ok (.iload_n 2, 1) := by decide +kernel
theorem dX9_modulo_15 : decode cX9_modulo 15 = .ok (.ireturn, 1) := by decide +kernel
theorem dX9_cells_0 : decode cX9_cells 0 = .ok (.aload_n 0, 1) := by decide +kernel
theorem dX9_cells_1 : decode cX9_cells 1 = .ok (.getfield 7, 3) := by decide +kernel
theorem dX9_cells_4 : decode cX9_cells 4 = .ok (.iconst 0, 1) := by decide +kernel
theorem dX9_cells_5 : decode cX9_cells 5 = .ok (.iaload, 1) := by decide +kernel
theorem dX9_cells_6 : decode cX9_cells 6 = .ok (.ireturn, 1) := by decide +kernel
theorem dX9_measure_0 : decode cX9_measure 0 = .ok (.iconst 0, 1) := by decide +kernel
theorem dX9_measure_1 : decode cX9_measure 1 = .ok (.istore_n 1, 1) := by decide +kernel
theorem dX9_measure_2 : decode cX9_measure 2 = .ok (.iconst 0, 1) := by decide +kernel
theorem dX9_measure_3 : decode cX9_measure 3 = .ok (.istore_n 2, 1) := by decide +kernel
theorem dX9_measure_4 : decode cX9_measure 4 = .ok (.iload_n 2, 1) := by decide +kernel
theorem dX9_measure_5 : decode cX9_measure 5 = .ok (.ifCond .ne 63, 3) := by decide +kernel
theorem dX9_measure_8 : decode cX9_measure 8 = .ok (.iinc 1 1, 3) := by decide +kernel
theorem dX9_measure_11 : decode cX9_measure 11 = .ok (.iconst 1, 1) := by decide +kernel
theorem dX9_measure_12 : decode cX9_measure 12 = .ok (.istore_n 2, 1) := by decide +kernel
theorem dX9_measure_13 : decode cX9_measure 13 = .ok (.iconst 0, 1) := by decide +kernel
theorem dX9_measure_14 : decode cX9_measure 14 = .ok (.istore_n 3, 1) := by decide +kernel
theorem dX9_measure_15 : decode cX9_measure 15 = .ok (.iload_n 3, 1) := by decide +kernel
theorem dX9_measure_16 : decode cX9_measure 16 = .ok (.aload_n 0, 1) := by decide +kernel
theorem dX9_measure_17 : decode cX9_measure 17 = .ok (.invokevirtual 37, 3) := by decide +kernel
theorem dX9_measure_20 : decode cX9_measure 20 = .ok (.if_icmp .ge 45, 3) := by decide +kernel
theorem dX9_measure_23 : decode cX9_measure 23 = .ok (.iload_n 2, 1) := by decide +kernel
theorem dX9_measure_24 : decode cX9_measure 24 = .ok (.ifCond .eq 33, 3) := by decide +kernel
theorem dX9_measure_27 : decode cX9_measure 27 = .ok (.aload_n 0, 1) := by decide +kernel
theorem dX9_measure_28 : decode cX9_measure 28 = .ok (.getfield 7, 3) := by decide +kernel
theorem dX9_measure_31 : decode cX9_measure 31 = .ok (.iconst 1, 1) := by decide +kernel
theorem dX9_measure_32 : decode cX9_measure 32 = .ok (.iload_n 3, 1) := by decide +kernel
theorem dX9_measure_33 : decode cX9_measure 33 = .ok (.iadd, 1) := by decide +kernel
theorem dX9_measure_34 : decode cX9_measure 34 = .ok (.iaload, 1) := by decide +kernel
theorem dX9_measure_35 : decode cX9_measure 35 = .ok (.aload_n 0, 1) := by decide +kernel
theorem dX9_measure_36 : decode cX9_measure 36 = .ok (.getfield 7, 3) := by decide +kernel
theorem dX9_measure_39 : decode cX9_measure 39 = .ok (.iconst 1, 1) := by decide +kernel
theorem dX9_measure_40 : decode cX9_measure 40 = .ok (.iload_n 3, 1) := by decide +kernel
theorem dX9_measure_41 : decode cX9_measure 41 = .ok (.iload_n 1, 1) := by decide +kernel
theorem dX9_measure_42 : decode cX9_measure 42 = .ok (.iadd, 1) := by decide +kernel
theorem dX9_measure_43 : decode cX9_measure 43 = .ok (.aload_n 0, 1) := by decide +kernel
theorem dX9_measure_44 : decode cX9_measure 44 = .ok (.invokevirtual 37, 3) := by decide +kernel
theorem dX9_measure_47 : decode cX9_measure 47 = .ok (.irem, 1) := by decide +kernel
theorem dX9_measure_48 : decode cX9_measure 48 = .ok (.iadd, 1) := by decide +kernel
theorem dX9_measure_49 : decode cX9_measure 49 = .ok (.iaload, 1) := by decide +kernel
theorem dX9_measure_50 : decode cX9_measure 50 = .ok (.if_icmp .ne 7, 3) := by decide +kernel
theorem dX9_measure_53 : decode cX9_measure 53 = .ok (.iconst 1, 1) := by decide +kernel
theorem dX9_measure_54 : decode cX9_measure 54 = .ok (.goto 4, 3) := by decide +kernel
theorem dX9_measure_57 : decode cX9_measure 57 = .ok (.iconst 0, 1) := by decide +kernel
theorem dX9_measure_58 : decode cX9_measure 58 = .ok (.istore_n 2, 1) := by decide +kernel
theorem dX9_measure_59 : decode cX9_measure 59 = .ok (.iinc 3 1, 3) := by decide +kernel
theorem dX9_measure_62 : decode cX9_measure 62 = .ok (.goto (-47), 3) := by decide +kernel
theorem dX9_measure_65 : decode cX9_measure 65 = .ok (.goto (-61), 3) := by decide +kernel
theorem dX9_measure_68 : decode cX9_measure 68 = .ok (.iload_n 1, 1) := by decide +kernel
theorem dX9_measure_69 : decode cX9_measure 69 = .ok (.ireturn, 1) := by decide +kernel
theorem dX9_tickOf_0 : decode cX9_tickOf 0 = .ok (.aload_n 0, 1) := by decide +kernel
theorem dX9_tickOf_1 : decode cX9_tickOf 1 = .ok (.getfield 7, 3) := by decide +kernel
theorem dX9_tickOf_4 : decode cX9_tickOf 4 = .ok (.bipush 64, 2) := by decide +kernel
theorem dX9_tickOf_6 : decode cX9_tickOf 6 = .ok (.iconst 2, 1) := by decide +kernel
theorem dX9_tickOf_7 : decode cX9_tickOf 7 = .ok (.iload_n 1, 1) := by decide +kernel
theorem dX9_tickOf_8 : decode cX9_tickOf 8 = .ok (.imul, 1) := by decide +kernel
theorem dX9_tickOf_9 : decode cX9_tickOf 9 = .ok (.iadd, 1) := by decide +kernel
theorem dX9_tickOf_10 : decode cX9_tickOf 10 = .ok (.iaload, 1) := by decide +kernel
theorem dX9_tickOf_11 : decode cX9_tickOf 11 = .ok (.ireturn, 1) := by decide +kernel
theorem dX9_laysTurns_0 : decode cX9_laysTurns 0 = .ok (.iconst 0, 1) := by decide +kernel
theorem dX9_laysTurns_1 : decode cX9_laysTurns 1 = .ok (.istore_n 1, 1) := by decide +kernel
theorem dX9_laysTurns_2 : decode cX9_laysTurns 2 = .ok (.aload_n 0, 1) := by decide +kernel
theorem dX9_laysTurns_3 : decode cX9_laysTurns 3 = .ok (.getfield 7, 3) := by decide +kernel
theorem dX9_laysTurns_6 : decode cX9_laysTurns 6 = .ok (.bipush 62, 2) := by decide +kernel
theorem dX9_laysTurns_8 : decode cX9_laysTurns 8 = .ok (.iaload, 1) := by decide +kernel
theorem dX9_laysTurns_9 : decode cX9_laysTurns 9 = .ok (.istore_n 2, 1) := by decide +kernel
theorem dX9_laysTurns_10 : decode cX9_laysTurns 10 = .ok (.aload_n 0, 1) := by decide +kernel
theorem dX9_laysTurns_11 : decode cX9_laysTurns 11 = .ok (.aload_n 0, 1) := by decide +kernel
theorem dX9_laysTurns_12 : decode cX9_laysTurns 12 = .ok (.invokevirtual 41, 3) := by decide +kernel
theorem dX9_laysTurns_15 : decode cX9_laysTurns 15 = .ok (.putfield 44, 3) := by decide +kernel
theorem dX9_laysTurns_18 : decode cX9_laysTurns 18 = .ok (.aload_n 0, 1) := by decide +kernel
theorem dX9_laysTurns_19 : decode cX9_laysTurns 19 = .ok (.getfield 13, 3) := by decide +kernel
theorem dX9_laysTurns_22 : decode cX9_laysTurns 22 = .ok (.iconst 0, 1) := by decide +kernel
theorem dX9_laysTurns_23 : decode cX9_laysTurns 23 = .ok (.aload_n 0, 1) := by decide +kernel
theorem dX9_laysTurns_24 : decode cX9_laysTurns 24 = .ok (.getfield 7, 3) := by decide +kernel
theorem dX9_laysTurns_27 : decode cX9_laysTurns 27 = .ok (.bipush 61, 2) := by decide +kernel
theorem dX9_laysTurns_29 : decode cX9_laysTurns 29 = .ok (.iaload, 1) := by decide +kernel
theorem dX9_laysTurns_30 : decode cX9_laysTurns 30 = .ok (.aload_n 0, 1) := by decide +kernel
theorem dX9_laysTurns_31 : decode cX9_laysTurns 31 = .ok (.invokevirtual 37, 3) := by decide +kernel
theorem dX9_laysTurns_34 : decode cX9_laysTurns 34 = .ok (.invokestatic 47, 3) := by decide +kernel
theorem dX9_laysTurns_37 : decode cX9_laysTurns 37 = .ok (.iastore, 1) := by decide +kernel
theorem dX9_laysTurns_38 : decode cX9_laysTurns 38 = .ok (.iconst 0, 1) := by decide +kernel
theorem dX9_laysTurns_39 : decode cX9_laysTurns 39 = .ok (.istore_n 3, 1) := by decide +kernel
theorem dX9_laysTurns_40 : decode cX9_laysTurns 40 = .ok (.iload_n 3, 1) := by decide +kernel
theorem dX9_laysTurns_41 : decode cX9_laysTurns 41 = .ok (.sipush 1000, 3) := by decide +kernel
theorem dX9_laysTurns_44 : decode cX9_laysTurns 44 = .ok (.if_icmp .ge 69, 3) := by decide +kernel
theorem dX9_laysTurns_47 : decode cX9_laysTurns 47 = .ok (.iload_n 1, 1) := by decide +kernel
theorem dX9_laysTurns_48 : decode cX9_laysTurns 48 = .ok (.aload_n 0, 1) := by decide +kernel
theorem dX9_laysTurns_49 : decode cX9_laysTurns 49 = .ok (.getfield 7, 3) := by decide +kernel
theorem dX9_laysTurns_52 : decode cX9_laysTurns 52 = .ok (.bipush 63, 2) := by decide +kernel
theorem dX9_laysTurns_54 : decode cX9_laysTurns 54 = .ok (.iaload, 1) := by decide +kernel
theorem dX9_laysTurns_55 : decode cX9_laysTurns 55 = .ok (.if_icmp .ge 29, 3) := by decide +kernel
theorem dX9_laysTurns_58 : decode cX9_laysTurns 58 = .ok (.aload_n 0, 1) := by decide +kernel
theorem dX9_laysTurns_59 : decode cX9_laysTurns 59 = .ok (.iload_n 1, 1) := by decide +kernel
theorem dX9_laysTurns_60 : decode cX9_laysTurns 60 = .ok (.invokevirtual 51, 3) := by decide +kernel
theorem dX9_laysTurns_63 : decode cX9_laysTurns 63 = .ok (.iload_n 3, 1) := by decide +kernel
