theorem dX0_init_0 : decode cX0_init 0 = .ok (.aload_n 0, 1) := by decide +kernel
theorem dX0_init_1 : decode cX0_init 1 = .ok (.invokespecial 3, 3) := by decide +kernel
theorem dX0_init_4 : decode cX0_init 4 = .ok (.aload_n 0, 1) := by decide +kernel
theorem dX0_init_5 : decode cX0_init 5 = .ok (.bipush 60, 2) := by decide +kernel
theorem dX0_init_7 : decode cX0_init 7 = .ok (.newarray .int, 2) := by decide +kernel
theorem dX0_init_9 : decode cX0_init 9 = .ok (.putfield 9, 3) := by decide +kernel
theorem dX0_init_12 : decode cX0_init 12 = .ok (.aload_n 0, 1) := by decide +kernel
theorem dX0_init_13 : decode cX0_init 13 = .ok (.bipush 60, 2) := by decide +kernel
theorem dX0_init_15 : decode cX0_init 15 = .ok (.newarray .int, 2) := by decide +kernel
theorem dX0_init_17 : decode cX0_init 17 = .ok (.putfield 15, 3) := by decide +kernel
theorem dX0_init_20 : decode cX0_init 20 = .ok (.return_, 1) := by decide +kernel
theorem dX0_find_0 : decode cX0_find 0 = .ok (.aload_n 0, 1) := by decide +kernel
theorem dX0_find_1 : decode cX0_find 1 = .ok (.iload_n 1, 1) := by decide +kernel
theorem dX0_find_2 : decode cX0_find 2 = .ok (.putfield 18, 3) := by decide +kernel
theorem dX0_find_5 : decode cX0_find 5 = .ok (.aload_n 0, 1) := by decide +kernel
theorem dX0_find_6 : decode cX0_find 6 = .ok (.aload_n 2, 1) := by decide +kernel
theorem dX0_find_7 : decode cX0_find 7 = .ok (.getfield 22, 3) := by decide +kernel
theorem dX0_find_10 : decode cX0_find 10 = .ok (.putfield 27, 3) := by decide +kernel
theorem dX0_find_13 : decode cX0_find 13 = .ok (.aload_n 0, 1) := by decide +kernel
theorem dX0_find_14 : decode cX0_find 14 = .ok (.lconst 0, 1) := by decide +kernel
theorem dX0_find_15 : decode cX0_find 15 = .ok (.putfield 28, 3) := by decide +kernel
theorem dX0_find_18 : decode cX0_find 18 = .ok (.iconst 0, 1) := by decide +kernel
theorem dX0_find_19 : decode cX0_find 19 = .ok (.istore 4, 2) := by decide +kernel
theorem dX0_find_21 : decode cX0_find 21 = .ok (.iload 4, 2) := by decide +kernel
theorem dX0_find_23 : decode cX0_find 23 = .ok (.aload_n 0, 1) := by decide +kernel
theorem dX0_find_24 : decode cX0_find 24 = .ok (.getfield 18, 3) := by decide +kernel
theorem dX0_find_27 : decode cX0_find 27 = .ok (.if_icmp .ge 36, 3) := by decide +kernel
theorem dX0_find_30 : decode cX0_find 30 = .ok (.aload_n 2, 1) := by decide +kernel
theorem dX0_find_31 : decode cX0_find 31 = .ok (.iload 4, 2) := by decide +kernel
theorem dX0_find_33 : decode cX0_find 33 = .ok (.aload_n 0, 1) := by decide +kernel
theorem dX0_find_34 : decode cX0_find 34 = .ok (.getfield 18, 3) := by decide +kernel
theorem dX0_find_37 : decode cX0_find 37 = .ok (.iload_n 3, 1) := by decide +kernel
theorem dX0_find_38 : decode cX0_find 38 = .ok (.invokevirtual 32, 3) := by decide +kernel
theorem dX0_find_41 : decode cX0_find 41 = .ok (.ifCond .eq 16, 3) := by decide +kernel
theorem dX0_find_44 : decode cX0_find 44 = .ok (.aload_n 0, 1) := by decide +kernel
theorem dX0_find_45 : decode cX0_find 45 = .ok (.dup, 1) := by decide +kernel
theorem dX0_find_46 : decode cX0_find 46 = .ok (.getfield 28, 3) := by decide +kernel
theorem dX0_find_49 : decode cX0_find 49 = .ok (.lconst 1, 1) := by decide +kernel
theorem dX0_find_50 : decode cX0_find 50 = .ok (.iload 4, 2) := by decide +kernel
theorem dX0_find_52 : decode cX0_find 52 = .ok (.lshl, 1) := by decide +kernel
theorem dX0_find_53 : decode cX0_find 53 = .ok (.lor, 1) := by decide +kernel
theorem dX0_find_54 : decode cX0_find 54 = .ok (.putfield 28, 3) := by decide +kernel
theorem dX0_find_57 : decode cX0_find 57 = .ok (.iinc 4 1, 3) := by decide +kernel
theorem dX0_find_60 : decode cX0_find 60 = .ok (.goto (-39), 3) := by decide +kernel
theorem dX0_find_63 : decode cX0_find 63 = .ok (.return_, 1) := by decide +kernel
theorem dX0_has_0 : decode cX0_has 0 = .ok (.aload_n 0, 1) := by decide +kernel
theorem dX0_has_1 : decode cX0_has 1 = .ok (.getfield 28, 3) := by decide +kernel
theorem dX0_has_4 : decode cX0_has 4 = .ok (.iload_n 1, 1) := by decide +kernel
theorem dX0_has_5 : decode cX0_has 5 = .ok (.aload_n 0, 1) := by decide +kernel
theorem dX0_has_6 : decode cX0_has 6 = .ok (.getfield 18, 3) := by decide +kernel
theorem dX0_has_9 : decode cX0_has 9 = .ok (.invokestatic 36, 3) := by decide +kernel
theorem dX0_has_12 : decode cX0_has 12 = .ok (.invokestatic 40, 3) := by decide +kernel
theorem dX0_has_15 : decode cX0_has 15 = .ok (.ireturn, 1) := by decide +kernel
theorem dX0_number_0 : decode cX0_number 0 = .ok (.iconst 0, 1) := by decide +kernel
theorem dX0_number_1 : decode cX0_number 1 = .ok (.istore_n 1, 1) := by decide +kernel
theorem dX0_number_2 : decode cX0_number 2 = .ok (.aload_n 0, 1) := by decide +kernel
theorem dX0_number_3 : decode cX0_number 3 = .ok (.getfield 27, 3) := by decide +kernel
theorem dX0_number_6 : decode cX0_number 6 = .ok (.ineg, 1) := by decide +kernel
theorem dX0_number_7 : decode cX0_number 7 = .ok (.istore_n 2, 1) := by decide +kernel
theorem dX0_number_8 : decode cX0_number 8 = .ok (.iload_n 2, 1) := by decide +kernel
theorem dX0_number_9 : decode cX0_number 9 = .ok (.aload_n 0, 1) := by decide +kernel
theorem dX0_number_10 : decode cX0_number 10 = .ok (.getfield 27, 3) := by decide +kernel
theorem dX0_number_13 : decode cX0_number 13 = .ok (.if_icmp .gt 20, 3) := by decide +kernel
theorem dX0_number_16 : decode cX0_number 16 = .ok (.aload_n 0, 1) := by decide +kernel
theorem dX0_number_17 : decode cX0_number 17 = .ok (.iload_n 2, 1) := by decide +kernel
theorem dX0_number_18 : decode cX0_number 18 = .ok (.invokevirtual 44, 3) := by decide +kernel
theorem dX0_number_21 : decode cX0_number 21 = .ok (.ifCond .eq 6, 3) := by decide +kernel
theorem dX0_number_24 : decode cX0_number 24 = .ok (.iinc 1 1, 3) := by decide +kernel
theorem dX0_number_27 : decode cX0_number 27 = .ok (.iinc 2 1, 3) := by decide +kernel
theorem dX0_number_30 : decode cX0_number 30 = .ok (.goto (-22), 3) := by decide +kernel
theorem dX0_number_33 : decode cX0_number 33 = .ok (.iload_n 1, 1) := by decide +kernel
theorem dX0_number_34 : decode cX0_number 34 = .ok (.ireturn, 1) := by decide +kernel
theorem dX0_inOrder_0 : decode cX0_inOrder 0 = .ok (.iconst 0, 1) := by decide +kernel
theorem dX0_inOrder_1 : decode cX0_inOrder 1 = .ok (.istore_n 2, 1) := by decide +kernel
theorem dX0_inOrder_2 : decode cX0_inOrder 2 = .ok (.aload_n 0, 1) := by decide +kernel
theorem dX0_inOrder_3 : decode cX0_inOrder 3 = .ok (.getfield 27, 3) := by decide +kernel
theorem dX0_inOrder_6 : decode cX0_inOrder 6 = .ok (.ineg, 1) := by decide +kernel
theorem dX0_inOrder_7 : decode cX0_inOrder 7 = .ok (.istore_n 3, 1) := by decide +kernel
theorem dX0_inOrder_8 : decode cX0_inOrder 8 = .ok (.iload_n 3, 1) := by decide +kernel
theorem dX0_inOrder_9 : decode cX0_inOrder 9 = .ok (.aload_n 0, 1) := by decide +kernel
theorem dX0_inOrder_10 : decode cX0_inOrder 10 = .ok (.getfield 27, 3) := by decide +kernel
theorem dX0_inOrder_13 : decode cX0_inOrder 13 = .ok (.if_icmp .gt 27, 3) := by decide +kernel
theorem dX0_inOrder_16 : decode cX0_inOrder 16 = .ok (.aload_n 0, 1) := by decide +kernel
theorem dX0_inOrder_17 : decode cX0_inOrder 17 = .ok (.iload_n 3, 1) := by decide +kernel
theorem dX0_inOrder_18 : decode cX0_inOrder 18 = .ok (.invokevirtual 44, 3) := by decide +kernel
theorem dX0_inOrder_21 : decode cX0_inOrder 21 = .ok (.ifCond .eq 13, 3) := by decide +kernel
theorem dX0_inOrder_24 : decode cX0_inOrder 24 = .ok (.iload_n 2, 1) := by decide +kernel
theorem dX0_inOrder_25 : decode cX0_inOrder 25 = .ok (.iload_n 1, 1) := by decide +kernel
theorem dX0_inOrder_26 : decode cX0_inOrder 26 = .ok (.if_icmp .ne 5, 3) := by decide +kernel
theorem dX0_inOrder_29 : decode cX0_inOrder 29 = .ok (.iload_n 3, 1) := by decide +kernel
theorem dX0_inOrder_30 : decode cX0_inOrder 30 = .ok (.ireturn, 1) := by decide +kernel
theorem dX0_inOrder_31 : decode cX0_inOrder 31 = .ok (.iinc 2 1, 3) := by decide +kernel
theorem dX0_inOrder_34 : decode cX0_inOrder 34 = .ok (.iinc 3 1, 3) := by decide +kernel
theorem dX0_inOrder_37 : decode cX0_inOrder 37 = .ok (.goto (-29), 3) := by decide +kernel
theorem dX0_inOrder_40 : decode cX0_inOrder 40 = .ok (.sipush (-1004), 3) := by decide +kernel
theorem dX0_inOrder_43 : decode cX0_inOrder 43 = .ok (.ireturn, 1) := by decide +kernel
theorem dX0_nearestTo_0 : decode cX0_nearestTo 0 = .ok (.sipush (-1004), 3) := by decide +kernel
theorem dX0_nearestTo_3 : decode cX0_nearestTo 3 = .ok (.istore_n 2, 1) := by decide +kernel
theorem dX0_nearestTo_4 : decode cX0_nearestTo 4 = .ok (.iconst 0, 1) := by decide +kernel
theorem dX0_nearestTo_5 : decode cX0_nearestTo 5 = .ok (.istore_n 3, 1) := by decide +kernel
theorem dX0_nearestTo_6 : decode cX0_nearestTo 6 = .ok (.aload_n 0, 1) := by decide +kernel
theorem dX0_nearestTo_7 : decode cX0_nearestTo 7 = .ok (.getfield 27, 3) := by decide +kernel
theorem dX0_nearestTo_10 : decode cX0_nearestTo 10 = .ok (.ineg, 1) := by decide +kernel
theorem dX0_nearestTo_11 : decode cX0_nearestTo 11 = .ok (.istore 4, 2) := by decide +kernel
theorem dX0_nearestTo_13 : decode cX0_nearestTo 13 = .ok (.iload 4, 2) := by decide +kernel
theorem dX0_nearestTo_15 : decode cX0_nearestTo 15 = .ok (.aload_n 0, 1) := by decide +kernel
theorem dX0_nearestTo_16 : decode cX0_nearestTo 16 = .ok (.getfield 27, 3) := by decide +kernel
theorem dX0_nearestTo_19 : decode cX0_nearestTo 19 = .ok (.if_icmp .gt 46, 3) := by decide +kernel
theorem dX0_nearestTo_22 : decode cX0_nearestTo 22 = .ok (.iload 4, 2) := by decide +kernel
theorem dX0_nearestTo_24 : decode cX0_nearestTo 24 = .ok (.iload_n 1, 1) := by decide +kernel
theorem dX0_nearestTo_25 : decode cX0_nearestTo 25 = .ok (.isub, 1) := by decide +kernel
theorem dX0_nearestTo_26 : decode cX0_nearestTo 26 = .ok (.invokestatic 48, 3) := by decide +kernel
theorem dX0_nearestTo_29 : decode cX0_nearestTo 29 = .ok (.istore 5, 2) := by decide +kernel
theorem dX0_nearestTo_31 : decode cX0_nearestTo 31 = .ok (.iload_n 2, 1) := by decide +kernel
theorem dX0_nearestTo_32 : decode cX0_nearestTo 32 = .ok (.sipush (-1004), 3) := by decide +kernel
theorem dX0_nearestTo_35 : decode cX0_nearestTo 35 = .ok (.if_icmp .eq 9, 3) := by decide +kernel
theorem dX0_nearestTo_38 : decode cX0_nearestTo 38 = .ok (.iload 5, 2) := by decide +kernel
theorem dX0_nearestTo_40 : decode cX0_nearestTo 40 = .ok (.iload_n 3, 1) := by decide +kernel
theorem dX0_nearestTo_41 : decode cX0_nearestTo 41 = .ok (.if_icmp .ge 18, 3) := by decide +kernel
theorem dX0_nearestTo_44 : decode cX0_nearestTo 44 = .ok (.aload_n 0, 1) := by decide +kernel
theorem dX0_nearestTo_45 : decode cX0_nearestTo 45 = .ok (.iload 4, 2) := by decide +kernel
theorem dX0_nearestTo_47 : decode cX0_nearestTo 47 = .ok (.invokevirtual 44, 3) := by decide +kernel
theorem dX0_nearestTo_50 : decode cX0_nearestTo 50 = .ok (.ifCond .eq 9, 3) := by decide +kernel
theorem dX0_nearestTo_53 : decode cX0_nearestTo 53 = .ok (.iload 5, 2) := by decide +kernel
theorem dX0_nearestTo_55 : decode cX0_nearestTo 55 = .ok (.istore_n 3, 1) := by decide +kernel
theorem dX0_nearestTo_56 : decode cX0_nearestTo 56 = .ok (.iload 4, 2) := by decide +kernel
theorem dX0_nearestTo_58 : decode cX0_nearestTo 58 = .ok (.istore_n 2, 1) := by decide +kernel
theorem dX0_nearestTo_59 : decode cX0_nearestTo 59 = .ok (.iinc 4 1, 3) := by decide +kernel
theorem dX0_nearestTo_62 : decode cX0_nearestTo 62 = .ok (.goto (-49), 3) := by decide +kernel
theorem dX0_nearestTo_65 : decode cX0_nearestTo 65 = .ok (.iload_n 2, 1) := by decide +kernel
theorem dX0_nearestTo_66 : decode cX0_nearestTo 66 = .ok (.ireturn, 1) := by decide +kernel
theorem dX0_countByRemainder_0 : decode cX0_countByRemainder 0 = .ok (.iconst 0, 1) := by decide +kernel
theorem dX0_countByRemainder_1 : decode cX0_countByRemainder 1 = .ok (.istore_n 1, 1) := by decide +kernel
theorem dX0_countByRemainder_2 : decode cX0_countByRemainder 2 = .ok (.iload_n 1, 1) := by decide +kernel
theorem dX0_countByRemainder_3 : decode cX0_countByRemainder 3 = .ok (.aload_n 0, 1) := by decide +kernel
theorem dX0_countByRemainder_4 : decode cX0_countByRemainder 4 = .ok (.getfield 18, 3) := by decide +kernel
theorem dX0_countByRemainder_7 : decode cX0_countByRemainder 7 = .ok (.if_icmp .ge 18, 3) := by decide +kernel
theorem dX0_countByRemainder_10 : decode cX0_countByRemainder 10 = .ok (.aload_n 0, 1) := by decide +kernel
theorem dX0_countByRemainder_11 : decode cX0_countByRemainder 11 = .ok (.getfield 9, 3) := by decide +kernel
theorem dX0_countByRemainder_14 : decode cX0_countByRemainder 14 = .ok (.iload_n 1, 1) := by decide +kernel
theorem dX0_countByRemainder_15 : decode cX0_countByRemainder 15 = .ok (.iconst 0, 1) := by decide +kernel
theorem dX0_countByRemainder_16 : decode cX0_countByRemainder 16 = .ok (.invokestatic 54, 3) := by decide +kernel
theorem dX0_countByRemainder_19 : decode cX0_countByRemainder 19 = .ok (.iinc 1 1, 3) := by decide +kernel
theorem dX0_countByRemainder_22 : decode cX0_countByRemainder 22 = .ok (.goto (-20), 3) := by decide +kernel
theorem dX0_countByRemainder_25 : decode cX0_countByRemainder 25 = .ok (.aload_n 0, 1) := by decide +kernel
theorem dX0_countByRemainder_26 : decode cX0_countByRemainder 26 = .ok (.getfield 27, 3) := by decide +kernel
theorem dX0_countByRemainder_29 : decode cX0_countByRemainder 29 = .ok (.ineg, 1) := by decide +kernel
theorem dX0_countByRemainder_30 : decode cX0_countByRemainder 30 = .ok (.istore_n 1, 1) := by decide +kernel
theorem dX0_countByRemainder_31 : decode cX0_countByRemainder 31 = .ok (.iload_n 1, 1) := by decide +kernel
theorem dX0_countByRemainder_32 : decode cX0_countByRemainder 32 = .ok (.aload_n 0, 1) := by decide +kernel
theorem dX0_countByRemainder_33 : decode cX0_countByRemainder 33 = .ok (.getfield 27, 3) := by decide +kernel
theorem dX0_countByRemainder_36 : decode cX0_countByRemainder 36 = .ok (.if_icmp .gt 44, 3) := by decide +kernel
theorem dX0_countByRemainder_39 : decode cX0_countByRemainder 39 = .ok (.iload_n 1, 1) := by decide +kernel
theorem dX0_countByRemainder_40 : decode cX0_countByRemainder 40 = .ok (.aload_n 0, 1) := by decide +kernel
theorem dX0_countByRemainder_41 : decode cX0_countByRemainder 41 = .ok (.getfield 18, 3) := by decide +kernel
theorem dX0_countByRemainder_44 : decode cX0_countByRemainder 44 = .ok (.invokestatic 36, 3) := by decide +kernel
theorem dX0_countByRemainder_47 : decode cX0_countByRemainder 47 = .ok (.istore_n 2, 1) := by decide +kernel
theorem dX0_countByRemainder_48 : decode cX0_countByRemainder 48 = .ok (.aload_n 0, 1) := by decide +kernel
theorem dX0_countByRemainder_49 : decode cX0_countByRemainder 49 = .ok (.iload_n 1, 1) := by decide +kernel
theorem dX0_countByRemainder_50 : decode cX0_countByRemainder 50 = .ok (.invokevirtual 44, 3) := by decide +kernel
theorem dX0_countByRemainder_53 : decode cX0_countByRemainder 53 = .ok (.ifCond .eq 21, 3) := by decide +kernel
theorem dX0_countByRemainder_56 : decode cX0_countByRemainder 56 = .ok (.aload_n 0, 1) := by decide +kernel
theorem dX0_countByRemainder_57 : decode cX0_countByRemainder 57 = .ok (.getfield 9, 3) := by decide +kernel
theorem dX0_countByRemainder_60 : decode cX0_countByRemainder 60 = .ok (.iload_n 2, 1) := by decide +kernel
theorem dX0_countByRemainder_61 : decode cX0_countByRemainder 61 = .ok (.aload_n 0, 1) := by decide +kernel
theorem dX0_countByRemainder_62 : decode cX0_countByRemainder 62 = .ok (.getfield 9, 3) := by decide +kernel
theorem dX0_countByRemainder_65 : decode cX0_countByRemainder 65 = .ok (.iload_n 2, 1) := by decide +kernel
theorem dX0_countByRemainder_66 : decode cX0_countByRemainder 66 = .ok (.invokestatic 58, 3) := by decide +kernel
theorem dX0_countByRemainder_69 : decode cX0_countByRemainder 69 = .ok (.iconst 1, 1) := by decide +kernel
theorem dX0_countByRemainder_70 : decode cX0_countByRemainder 70 = .ok (.iadd, 1) := by decide +kernel
theorem dX0_countByRemainder_71 : decode cX0_countByRemainder 71 = .ok (.invokestatic 54, 3) := by decide +kernel
theorem dX0_countByRemainder_74 : decode cX0_countByRemainder 74 = .ok (.iinc 1 1, 3) := by decide +kernel
theorem dX0_countByRemainder_77 : decode cX0_countByRemainder 77 = .ok (.goto (-46), 3) := by decide +kernel
theorem dX0_countByRemainder_80 : decode cX0_countByRemainder 80 = .ok (.return_, 1) := by decide +kernel
theorem dX0_restOf_0 : decode cX0_restOf 0 = .ok (.iconst 0, 1) := by decide +kernel
theorem dX0_restOf_1 : decode cX0_restOf 1 = .ok (.istore_n 2, 1) := by decide +kernel
theorem dX0_restOf_2 : decode cX0_restOf 2 = .ok (.iload_n 2, 1) := by decide +kernel
theorem dX0_restOf_3 : decode cX0_restOf 3 = .ok (.aload_n 0, 1) := by decide +kernel
theorem dX0_restOf_4 : decode cX0_restOf 4 = .ok (.getfield 18, 3) := by decide +kernel
theorem dX0_restOf_7 : decode cX0_restOf 7 = .ok (.if_icmp .ge 18, 3) := by decide +kernel
theorem dX0_restOf_10 : decode cX0_restOf 10 = .ok (.aload_n 0, 1) := by decide +kernel
theorem dX0_restOf_11 : decode cX0_restOf 11 = .ok (.getfield 15, 3) := by decide +kernel
theorem dX0_restOf_14 : decode cX0_restOf 14 = .ok (.iload_n 2, 1) := by decide +kernel
theorem dX0_restOf_15 : decode cX0_restOf 15 = .ok (.iconst 0, 1) := by decide +kernel
theorem dX0_restOf_16 : decode cX0_restOf 16 = .ok (.invokestatic 54, 3) := by decide +kernel
theorem dX0_restOf_19 : decode cX0_restOf 19 = .ok (.iinc 2 1, 3) := by decide +kernel
theorem dX0_restOf_22 : decode cX0_restOf 22 = .ok (.goto (-20), 3) := by decide +kernel
theorem dX0_restOf_25 : decode cX0_restOf 25 = .ok (.iconst 0, 1) := by decide +kernel
theorem dX0_restOf_26 : decode cX0_restOf 26 = .ok (.istore_n 2, 1) := by decide +kernel
theorem dX0_restOf_27 : decode cX0_restOf 27 = .ok (.iconst 0, 1) := by decide +kernel
theorem dX0_restOf_28 : decode cX0_restOf 28 = .ok (.istore_n 3, 1) := by decide +kernel
theorem dX0_restOf_29 : decode cX0_restOf 29 = .ok (.iload_n 3, 1) := by decide +kernel
theorem dX0_restOf_30 : decode cX0_restOf 30 = .ok (.aload_n 0, 1) := by decide +kernel
theorem dX0_restOf_31 : decode cX0_restOf 31 = .ok (.getfield 18, 3) := by decide +kernel
theorem dX0_restOf_34 : decode cX0_restOf 34 = .ok (.if_icmp .ge 62, 3) := by decide +kernel
theorem dX0_restOf_37 : decode cX0_restOf 37 = .ok (.iload_n 3, 1) := by decide +kernel
theorem dX0_restOf_38 : decode cX0_restOf 38 = .ok (.iload_n 1, 1) := by decide +kernel
theorem dX0_restOf_39 : decode cX0_restOf 39 = .ok (.imul, 1) := by decide +kernel
theorem dX0_restOf_40 : decode cX0_restOf 40 = .ok (.aload_n 0, 1) := by decide +kernel
theorem dX0_restOf_41 : decode cX0_restOf 41 = .ok (.getfield 18, 3) := by decide +kernel
theorem dX0_restOf_44 : decode cX0_restOf 44 = .ok (.invokestatic 36, 3) := by decide +kernel
theorem dX0_restOf_47 : decode cX0_restOf 47 = .ok (.istore 4, 2) := by decide +kernel
theorem dX0_restOf_49 : decode cX0_restOf 49 = .ok (.aload_n 0, 1) := by decide +kernel
theorem dX0_restOf_50 : decode cX0_restOf 50 = .ok (.getfield 15, 3) := by decide +kernel
theorem dX0_restOf_53 : decode cX0_restOf 53 = .ok (.iload 4, 2) := by decide +kernel
theorem dX0_restOf_55 : decode cX0_restOf 55 = .ok (.aload_n 0, 1) := by decide +kernel
theorem dX0_restOf_56 : decode cX0_restOf 56 = .ok (.getfield 15, 3) := by decide +kernel
theorem dX0_restOf_59 : decode cX0_restOf 59 = .ok (.iload 4, 2) := by decide +kernel
theorem dX0_restOf_61 : decode cX0_restOf 61 = .ok (.invokestatic 58, 3) := by decide +kernel
theorem dX0_restOf_64 : decode cX0_restOf 64 = .ok (.aload_n 0, 1) := by decide +kernel
theorem dX0_restOf_65 : decode cX0_restOf 65 = .ok (.getfield 9, 3) := by decide +kernel
theorem dX0_restOf_68 : decode cX0_restOf 68 = .ok (.iload_n 3, 1) := by decide +kernel
theorem dX0_restOf_69 : decode cX0_restOf 69 = .ok (.invokestatic 58, 3) := by decide +kernel
theorem dX0_restOf_72 : decode cX0_restOf 72 = .ok (.iadd, 1) := by decide +kernel
theorem dX0_restOf_73 : decode cX0_restOf 73 = .ok (.invokestatic 54, 3) := by decide +kernel
theorem dX0_restOf_76 : decode cX0_restOf 76 = .ok (.iload_n 2, 1) := by decide +kernel
theorem dX0_restOf_77 : decode cX0_restOf 77 = .ok (.aload_n 0, 1) := by decide +kernel
theorem dX0_restOf_78 : decode cX0_restOf 78 = .ok (.getfield 15, 3) := by decide +kernel
theorem dX0_restOf_81 : decode cX0_restOf 81 = .ok (.iload 4, 2) := by decide +kernel
theorem dX0_restOf_83 : decode cX0_restOf 83 = .ok (.invokestatic 58, 3) := by decide +kernel
theorem dX0_restOf_86 : decode cX0_restOf 86 = .ok (.invokestatic 62, 3) := by decide +kernel
theorem dX0_restOf_89 : decode cX0_restOf 89 = .ok (.istore_n 2, 1) := by decide +kernel
theorem dX0_restOf_90 : decode cX0_restOf 90 = .ok (.iinc 3 1, 3) := by decide +kernel
theorem dX0_restOf_93 : decode cX0_restOf 93 = .ok (.goto (-64), 3) := by decide +kernel
theorem dX0_restOf_96 : decode cX0_restOf 96 = .ok (.iload_n 2, 1) := by decide +kernel
theorem dX0_restOf_97 : decode cX0_restOf 97 = .ok (.ireturn, 1) := by decide +kernel
theorem dX1_init_0 : decode cX1_init 0 = .ok (.aload_n 0, 1) := by decide +kernel
theorem dX1_init_1 : decode cX1_init 1 = .ok (.invokespecial 3, 3) := by decide +kernel
theorem dX1_init_4 : decode cX1_init 4 = .ok (.aload_n 0, 1) := by decide +kernel
theorem dX1_init_5 : decode cX1_init 5 = .ok (.iconst 1, 1) := by decide +kernel
theorem dX1_init_6 : decode cX1_init 6 = .ok (.putfield 9, 3) := by decide +kernel
theorem dX1_init_9 : decode cX1_init 9 = .ok (.aload_n 0, 1) := by decide +kernel
theorem dX1_init_10 : decode cX1_init 10 = .ok (.iconst 1, 1) := by decide +kernel
theorem dX1_init_11 : decode cX1_init 11 = .ok (.putfield 15, 3) := by decide +kernel
theorem dX1_init_14 : decode cX1_init 14 = .ok (.return_, 1) := by decide +kernel
theorem dX1_copyFrom_0 : decode cX1_copyFrom 0 = .ok (.aload_n 0, 1) := by decide +kernel
theorem dX1_copyFrom_1 : decode cX1_copyFrom 1 = .ok (.aload_n 1, 1) := by decide +kernel
theorem dX1_copyFrom_2 : decode cX1_copyFrom 2 = .ok (.getfield 9, 3) := by decide +kernel
theorem dX1_copyFrom_5 : decode cX1_copyFrom 5 = .ok (.putfield 9, 3) := by decide +kernel
theorem dX1_copyFrom_8 : decode cX1_copyFrom 8 = .ok (.aload_n 0, 1) := by decide +kernel
theorem dX1_copyFrom_9 : decode cX1_copyFrom 9 = .ok (.aload_n 1, 1) := by decide +kernel
theorem dX1_copyFrom_10 : decode cX1_copyFrom 10 = .ok (.getfield 15, 3) := by decide +kernel
theorem dX1_copyFrom_13 : decode cX1_copyFrom 13 = .ok (.putfield 15, 3) := by decide +kernel
theorem dX1_copyFrom_16 : decode cX1_copyFrom 16 = .ok (.aload_n 0, 1) := by decide +kernel
theorem dX1_copyFrom_17 : decode cX1_copyFrom 17 = .ok (.aload_n 1, 1) := by decide +kernel
theorem dX1_copyFrom_18 : decode cX1_copyFrom 18 = .ok (.getfield 18, 3) := by decide +kernel
theorem dX1_copyFrom_21 : decode cX1_copyFrom 21 = .ok (.putfield 18, 3) := by decide +kernel
theorem dX1_copyFrom_24 : decode cX1_copyFrom 24 = .ok (.aload_n 0, 1) := by decide +kernel
theorem dX1_copyFrom_25 : decode cX1_copyFrom 25 = .ok (.aload_n 1, 1) := by decide +kernel
theorem dX1_copyFrom_26 : decode cX1_copyFrom 26 = .ok (.getfield 21, 3) := by decide +kernel
theorem dX1_copyFrom_29 : decode cX1_copyFrom 29 = .ok (.putfield 21, 3) := by decide +kernel
theorem dX1_copyFrom_32 : decode cX1_copyFrom 32 = .ok (.return_, 1) := by decide +kernel
theorem dX1_isOpenAt_0 : decode cX1_isOpenAt 0 = .ok (.aload_n 0, 1) := by decide +kernel
theorem dX1_isOpenAt_1 : decode cX1_isOpenAt 1 = .ok (.getfield 15, 3) := by decide +kernel
theorem dX1_isOpenAt_4 : decode cX1_isOpenAt 4 = .ok (.i2l, 1) := by decide +kernel
theorem dX1_isOpenAt_5 : decode cX1_isOpenAt 5 = .ok (.aload_n 0, 1) := by decide +kernel
theorem dX1_isOpenAt_6 : decode cX1_isOpenAt 6 = .ok (.getfield 18, 3) := by decide +kernel
theorem dX1_isOpenAt_9 : decode cX1_isOpenAt 9 = .ok (.aload_n 0, 1) := by decide +kernel
theorem dX1_isOpenAt_10 : decode cX1_isOpenAt 10 = .ok (.getfield 21, 3) := by decide +kernel
theorem dX1_isOpenAt_13 : decode cX1_isOpenAt 13 = .ok (.iload_n 1, 1) := by decide +kernel
theorem dX1_isOpenAt_14 : decode cX1_isOpenAt 14 = .ok (.imul, 1) := by decide +kernel
theorem dX1_isOpenAt_15 : decode cX1_isOpenAt 15 = .ok (.iadd, 1) := by decide +kernel
theorem dX1_isOpenAt_16 : decode cX1_isOpenAt 16 = .ok (.ineg, 1) := by decide +kernel
theorem dX1_isOpenAt_17 : decode cX1_isOpenAt 17 = .ok (.aload_n 0, 1) := by decide +kernel
theorem dX1_isOpenAt_18 : decode cX1_isOpenAt 18 = .ok (.getfield 9, 3) := by decide +kernel
theorem dX1_isOpenAt_21 : decode cX1_isOpenAt 21 = .ok (.invokestatic 24, 3) := by decide +kernel
theorem dX1_isOpenAt_24 : decode cX1_isOpenAt 24 = .ok (.invokestatic 28, 3) := by decide +kernel
theorem dX1_isOpenAt_27 : decode cX1_isOpenAt 27 = .ok (.ireturn, 1) := by decide +kernel
theorem dX1_opensAt_0 : decode cX1_opensAt 0 = .ok (.aload_n 0, 1) := by decide +kernel
theorem dX1_opensAt_1 : decode cX1_opensAt 1 = .ok (.iload_n 1, 1) := by decide +kernel
theorem dX1_opensAt_2 : decode cX1_opensAt 2 = .ok (.invokevirtual 32, 3) := by decide +kernel
theorem dX1_opensAt_5 : decode cX1_opensAt 5 = .ok (.ifCond .eq 21, 3) := by decide +kernel
theorem dX1_opensAt_8 : decode cX1_opensAt 8 = .ok (.iload_n 1, 1) := by decide +kernel
theorem dX1_opensAt_9 : decode cX1_opensAt 9 = .ok (.ifCond .eq 13, 3) := by decide +kernel
theorem dX1_opensAt_12 : decode cX1_opensAt 12 = .ok (.aload_n 0, 1) := by decide +kernel
theorem dX1_opensAt_13 : decode cX1_opensAt 13 = .ok (.iload_n 1, 1) := by decide +kernel
theorem dX1_opensAt_14 : decode cX1_opensAt 14 = .ok (.iconst 1, 1) := by decide +kernel
theorem dX1_opensAt_15 : decode cX1_opensAt 15 = .ok (.isub, 1) := by decide +kernel
theorem dX1_opensAt_16 : decode cX1_opensAt 16 = .ok (.invokevirtual 32, 3) := by decide +kernel
theorem dX1_opensAt_19 : decode cX1_opensAt 19 = .ok (.ifCond .ne 7, 3) := by decide +kernel
theorem dX1_opensAt_22 : decode cX1_opensAt 22 = .ok (.iconst 1, 1) := by decide +kernel
theorem dX1_opensAt_23 : decode cX1_opensAt 23 = .ok (.goto 4, 3) := by decide +kernel
theorem dX1_opensAt_26 : decode cX1_opensAt 26 = .ok (.iconst 0, 1) := by decide +kernel
theorem dX1_opensAt_27 : decode cX1_opensAt 27 = .ok (.ireturn, 1) := by decide +kernel
theorem dX1_openings_0 : decode cX1_openings 0 = .ok (.iconst 0, 1) := by decide +kernel
theorem dX1_openings_1 : decode cX1_openings 1 = .ok (.istore_n 1, 1) := by decide +kernel
theorem dX1_openings_2 : decode cX1_openings 2 = .ok (.iconst 0, 1) := by decide +kernel
theorem dX1_openings_3 : decode cX1_openings 3 = .ok (.istore_n 2, 1) := by decide +kernel
theorem dX1_openings_4 : decode cX1_openings 4 = .ok (.iload_n 2, 1) := by decide +kernel
theorem dX1_openings_5 : decode cX1_openings 5 = .ok (.sipush 1000, 3) := by decide +kernel
theorem dX1_openings_8 : decode cX1_openings 8 = .ok (.if_icmp .gt 20, 3) := by decide +kernel
theorem dX1_openings_11 : decode cX1_openings 11 = .ok (.aload_n 0, 1) := by decide +kernel
theorem dX1_openings_12 : decode cX1_openings 12 = .ok (.iload_n 2, 1) := by decide +kernel
theorem dX1_openings_13 : decode cX1_openings 13 = .ok (.invokevirtual 36, 3) := by decide +kernel
theorem dX1_openings_16 : decode cX1_openings 16 = .ok (.ifCond .eq 6, 3) := by decide +kernel
theorem dX1_openings_19 : decode cX1_openings 19 = .ok (.iinc 1 1, 3) := by decide +kernel
theorem dX1_openings_22 : decode cX1_openings 22 = .ok (.iinc 2 1, 3) := by decide +kernel
theorem dX1_openings_25 : decode cX1_openings 25 = .ok (.goto (-21), 3) := by decide +kernel
theorem dX1_openings_28 : decode cX1_openings 28 = .ok (.iload_n 1, 1) := by decide +kernel
theorem dX1_openings_29 : decode cX1_openings 29 = .ok (.ireturn, 1) := by decide +kernel
theorem dX2_init_0 : decode cX2_init 0 = .ok (.aload_n 0, 1) := by decide +kernel
theorem dX2_init_1 : decode cX2_init 1 = .ok (.invokespecial 3, 3) := by decide +kernel
theorem dX2_init_4 : decode cX2_init 4 = .ok (.aload_n 0, 1) := by decide +kernel
theorem dX2_init_5 : decode cX2_init 5 = .ok (.iconst 1, 1) := by decide +kernel
theorem dX2_init_6 : decode cX2_init 6 = .ok (.putfield 9, 3) := by decide +kernel
theorem dX2_init_9 : decode cX2_init 9 = .ok (.return_, 1) := by decide +kernel
theorem dX2_copyFrom_0 : decode cX2_copyFrom 0 = .ok (.aload_n 0, 1) := by decide +kernel
theorem dX2_copyFrom_1 : decode cX2_copyFrom 1 = .ok (.aload_n 1, 1) := by decide +kernel
theorem dX2_copyFrom_2 : decode cX2_copyFrom 2 = .ok (.getfield 15, 3) := by decide +kernel
theorem dX2_copyFrom_5 : decode cX2_copyFrom 5 = .ok (.putfield 15, 3) := by decide +kernel
theorem dX2_copyFrom_8 : decode cX2_copyFrom 8 = .ok (.aload_n 0, 1) := by decide +kernel
theorem dX2_copyFrom_9 : decode cX2_copyFrom 9 = .ok (.aload_n 1, 1) := by decide +kernel
theorem dX2_copyFrom_10 : decode cX2_copyFrom 10 = .ok (.getfield 9, 3) := by decide +kernel
theorem dX2_copyFrom_13 : decode cX2_copyFrom 13 = .ok (.putfield 9, 3) := by decide +kernel
theorem dX2_copyFrom_16 : decode cX2_copyFrom 16 = .ok (.return_, 1) := by decide +kernel
theorem dX2_number_0 : decode cX2_number 0 = .ok (.aload_n 0, 1) := by decide +kernel
theorem dX2_number_1 : decode cX2_number 1 = .ok (.getfield 9, 3) := by decide +kernel
theorem dX2_number_4 : decode cX2_number 4 = .ok (.ifCond .le 21, 3) := by decide +kernel
theorem dX2_number_7 : decode cX2_number 7 = .ok (.sipush 1000, 3) := by decide +kernel
theorem dX2_number_10 : decode cX2_number 10 = .ok (.aload_n 0, 1) := by decide +kernel
theorem dX2_number_11 : decode cX2_number 11 = .ok (.getfield 15, 3) := by decide +kernel
theorem dX2_number_14 : decode cX2_number 14 = .ok (.isub, 1) := by decide +kernel
theorem dX2_number_15 : decode cX2_number 15 = .ok (.aload_n 0, 1) := by decide +kernel
theorem dX2_number_16 : decode cX2_number 16 = .ok (.getfield 9, 3) := by decide +kernel
theorem dX2_number_19 : decode cX2_number 19 = .ok (.idiv, 1) := by decide +kernel
theorem dX2_number_20 : decode cX2_number 20 = .ok (.iconst 1, 1) := by decide +kernel
theorem dX2_number_21 : decode cX2_number 21 = .ok (.iadd, 1) := by decide +kernel
theorem dX2_number_22 : decode cX2_number 22 = .ok (.goto 4, 3) := by decide +kernel
theorem dX2_number_25 : decode cX2_number 25 = .ok (.iconst 0, 1) := by decide +kernel
theorem dX2_number_26 : decode cX2_number 26 = .ok (.ireturn, 1) := by decide +kernel
theorem dX2_tickOf_0 : decode cX2_tickOf 0 = .ok (.aload_n 0, 1) := by decide +kernel
theorem dX2_tickOf_1 : decode cX2_tickOf 1 = .ok (.getfield 15, 3) := by decide +kernel
theorem dX2_tickOf_4 : decode cX2_tickOf 4 = .ok (.iload_n 1, 1) := by decide +kernel
theorem dX2_tickOf_5 : decode cX2_tickOf 5 = .ok (.aload_n 0, 1) := by decide +kernel
theorem dX2_tickOf_6 : decode cX2_tickOf 6 = .ok (.getfield 9, 3) := by decide +kernel
theorem dX2_tickOf_9 : decode cX2_tickOf 9 = .ok (.imul, 1) := by decide +kernel
theorem dX2_tickOf_10 : decode cX2_tickOf 10 = .ok (.iadd, 1) := by decide +kernel
theorem dX2_tickOf_11 : decode cX2_tickOf 11 = .ok (.ireturn, 1) := by decide +kernel
theorem dX3_init_0 : decode cX3_init 0 = .ok (.aload_n 0, 1) := by decide +kernel
theorem dX3_init_1 : decode cX3_init 1 = .ok (.invokespecial 3, 3) := by decide +kernel
theorem dX3_init_4 : decode cX3_init 4 = .ok (.aload_n 0, 1) := by decide +kernel
theorem dX3_init_5 : decode cX3_init 5 = .ok (.bipush 8, 2) := by decide +kernel
theorem dX3_init_7 : decode cX3_init 7 = .ok (.anewarray 9, 3) := by decide +kernel
theorem dX3_init_10 : decode cX3_init 10 = .ok (.putfield 11, 3) := by decide +kernel
theorem dX3_init_13 : decode cX3_init 13 = .ok (.iconst 0, 1) := by decide +kernel
theorem dX3_init_14 : decode cX3_init 14 = .ok (.istore_n 1, 1) := by decide +kernel
theorem dX3_init_15 : decode cX3_init 15 = .ok (.iload_n 1, 1) := by decide +kernel
theorem dX3_init_16 : decode cX3_init 16 = .ok (.aload_n 0, 1) := by decide +kernel
theorem dX3_init_17 : decode cX3_init 17 = .ok (.getfield 11, 3) := by decide +kernel
theorem dX3_init_20 : decode cX3_init 20 = .ok (.arraylength, 1) := by decide +kernel
theorem dX3_init_21 : decode cX3_init 21 = .ok (.if_icmp .ge 22, 3) := by decide +kernel
theorem dX3_init_24 : decode cX3_init 24 = .ok (.aload_n 0, 1) := by decide +kernel
theorem dX3_init_25 : decode cX3_init 25 = .ok (.getfield 11, 3) := by decide +kernel
theorem dX3_init_28 : decode cX3_init 28 = .ok (.iload_n 1, 1) := by decide +kernel
theorem dX3_init_29 : decode cX3_init 29 = .ok (.new 9, 3) := by decide +kernel
theorem dX3_init_32 : decode cX3_init 32 = .ok (.dup, 1) := by decide +kernel
theorem dX3_init_33 : decode cX3_init 33 = .ok (.invokespecial 17, 3) := by decide +kernel
theorem dX3_init_36 : decode cX3_init 36 = .ok (.aastore, 1) := by decide +kernel
theorem dX3_init_37 : decode cX3_init 37 = .ok (.iinc 1 1, 3) := by decide +kernel
theorem dX3_init_40 : decode cX3_init 40 = .ok (.goto (-25), 3) := by decide +kernel
theorem dX3_init_43 : decode cX3_init 43 = .ok (.return_, 1) := by decide +kernel
theorem dX3_remember_0 : decode cX3_remember 0 = .ok (.aload_n 0, 1) := by decide +kernel
theorem dX3_remember_1 : decode cX3_remember 1 = .ok (.aload_n 0, 1) := by decide +kernel
theorem dX3_remember_2 : decode cX3_remember 2 = .ok (.getfield 18, 3) := by decide +kernel
theorem dX3_remember_5 : decode cX3_remember 5 = .ok (.invokevirtual 22, 3) := by decide +kernel
theorem dX3_remember_8 : decode cX3_remember 8 = .ok (.astore_n 2, 1) := by decide +kernel
theorem dX3_remember_9 : decode cX3_remember 9 = .ok (.aload_n 2, 1) := by decide +kernel
theorem dX3_remember_10 : decode cX3_remember 10 = .ok (.ifnonnull 4, 3) := by decide +kernel
theorem dX3_remember_13 : decode cX3_remember 13 = .ok (.return_, 1) := by decide +kernel
theorem dX3_remember_14 : decode cX3_remember 14 = .ok (.aload_n 2, 1) := by decide +kernel
theorem dX3_remember_15 : decode cX3_remember 15 = .ok (.aload_n 1, 1) := by decide +kernel
theorem dX3_remember_16 : decode cX3_remember 16 = .ok (.invokevirtual 26, 3) := by decide +kernel
theorem dX3_remember_19 : decode cX3_remember 19 = .ok (.aload_n 0, 1) := by decide +kernel
theorem dX3_remember_20 : decode cX3_remember 20 = .ok (.aload_n 0, 1) := by decide +kernel
theorem dX3_remember_21 : decode cX3_remember 21 = .ok (.getfield 18, 3) := by decide +kernel
theorem dX3_remember_24 : decode cX3_remember 24 = .ok (.iconst 1, 1) := by decide +kernel
theorem dX3_remember_25 : decode cX3_remember 25 = .ok (.iadd, 1) := by decide +kernel
theorem dX3_remember_26 : decode cX3_remember 26 = .ok (.bipush 8, 2) := by decide +kernel
theorem dX3_remember_28 : decode cX3_remember 28 = .ok (.invokestatic 30, 3) := by decide +kernel
theorem dX3_remember_31 : decode cX3_remember 31 = .ok (.putfield 18, 3) := by decide +kernel
theorem dX3_remember_34 : decode cX3_remember 34 = .ok (.aload_n 0, 1) := by decide +kernel
theorem dX3_remember_35 : decode cX3_remember 35 = .ok (.getfield 34, 3) := by decide +kernel
theorem dX3_remember_38 : decode cX3_remember 38 = .ok (.bipush 8, 2) := by decide +kernel
theorem dX3_remember_40 : decode cX3_remember 40 = .ok (.if_icmp .ge 13, 3) := by decide +kernel
theorem dX3_remember_43 : decode cX3_remember 43 = .ok (.aload_n 0, 1) := by decide +kernel
theorem dX3_remember_44 : decode cX3_remember 44 = .ok (.dup, 1) := by decide +kernel
theorem dX3_remember_45 : decode cX3_remember 45 = .ok (.getfield 34, 3) := by decide +kernel
theorem dX3_remember_48 : decode cX3_remember 48 = .ok (.iconst 1, 1) := by decide +kernel
theorem dX3_remember_49 : decode cX3_remember 49 = .ok (.iadd, 1) := by decide +kernel
theorem dX3_remember_50 : decode cX3_remember 50 = .ok (.putfield 34, 3) := by decide +kernel
theorem dX3_remember_53 : decode cX3_remember 53 = .ok (.return_, 1) := by decide +kernel
theorem dX3_slotAt_0 : decode cX3_slotAt 0 = .ok (.iload_n 1, 1) := by decide +kernel
theorem dX3_slotAt_1 : decode cX3_slotAt 1 = .ok (.ifCond .lt 21, 3) := by decide +kernel
theorem dX3_slotAt_4 : decode cX3_slotAt 4 = .ok (.iload_n 1, 1) := by decide +kernel
theorem dX3_slotAt_5 : decode cX3_slotAt 5 = .ok (.aload_n 0, 1) := by decide +kernel
theorem dX3_slotAt_6 : decode cX3_slotAt 6 = .ok (.getfield 11, 3) := by decide +kernel
theorem dX3_slotAt_9 : decode cX3_slotAt 9 = .ok (.arraylength, 1) := by decide +kernel
theorem dX3_slotAt_10 : decode cX3_slotAt 10 = .ok (.if_icmp .ge 12, 3) := by decide +kernel
theorem dX3_slotAt_13 : decode cX3_slotAt 13 = .ok (.aload_n 0, 1) := by decide +kernel
theorem dX3_slotAt_14 : decode cX3_slotAt 14 = .ok (.getfield 11, 3) := by decide +kernel
theorem dX3_slotAt_17 : decode cX3_slotAt 17 = .ok (.iload_n 1, 1) := by decide +kernel
theorem dX3_slotAt_18 : decode cX3_slotAt 18 = .ok (.aaload, 1) := by decide +kernel
theorem dX3_slotAt_19 : decode cX3_slotAt 19 = .ok (.goto 4, 3) := by decide +kernel
theorem dX3_slotAt_22 : decode cX3_slotAt 22 = .ok (.aconst_null, 1) := by decide +kernel
theorem dX3_slotAt_23 : decode cX3_slotAt 23 = .ok (.areturn, 1) := by decide +kernel
theorem dX4_init_0 : decode cX4_init 0 = .ok (.aload_n 0, 1) := by decide +kernel
theorem dX4_init_1 : decode cX4_init 1 = .ok (.invokespecial 3, 3) := by decide +kernel
theorem dX4_init_4 : decode cX4_init 4 = .ok (.aload_n 0, 1) := by decide +kernel
theorem dX4_init_5 : decode cX4_init 5 = .ok (.bipush 8, 2) := by decide +kernel
theorem dX4_init_7 : decode cX4_init 7 = .ok (.newarray .int, 2) := by decide +kernel
theorem dX4_init_9 : decode cX4_init 9 = .ok (.putfield 9, 3) := by decide +kernel
theorem dX4_init_12 : decode cX4_init 12 = .ok (.aload_n 0, 1) := by decide +kernel
theorem dX4_init_13 : decode cX4_init 13 = .ok (.bipush 8, 2) := by decide +kernel
theorem dX4_init_15 : decode cX4_init 15 = .ok (.newarray .int, 2) := by decide +kernel
theorem dX4_init_17 : decode cX4_init 17 = .ok (.putfield 15, 3) := by decide +kernel
theorem dX4_init_20 : decode cX4_init 20 = .ok (.aload_n 0, 1) := by decide +kernel
theorem dX4_init_21 : decode cX4_init 21 = .ok (.bipush 100, 2) := by decide +kernel
theorem dX4_init_23 : decode cX4_init 23 = .ok (.putfield 18, 3) := by decide +kernel
theorem dX4_init_26 : decode cX4_init 26 = .ok (.return_, 1) := by decide +kernel
theorem dX4_copyFrom_0 : decode cX4_copyFrom 0 = .ok (.aload_n 1, 1) := by decide +kernel
theorem dX4_copyFrom_1 : decode cX4_copyFrom 1 = .ok (.getfield 9, 3) := by decide +kernel
theorem dX4_copyFrom_4 : decode cX4_copyFrom 4 = .ok (.aload_n 0, 1) := by decide +kernel
theorem dX4_copyFrom_5 : decode cX4_copyFrom 5 = .ok (.getfield 9, 3) := by decide +kernel
theorem dX4_copyFrom_8 : decode cX4_copyFrom 8 = .ok (.invokestatic 22, 3) := by decide +kernel
theorem dX4_copyFrom_11 : decode cX4_copyFrom 11 = .ok (.aload_n 1, 1) := by decide +kernel
theorem dX4_copyFrom_12 : decode cX4_copyFrom 12 = .ok (.getfield 15, 3) := by decide +kernel
theorem dX4_copyFrom_15 : decode cX4_copyFrom 15 = .ok (.aload_n 0, 1) := by decide +kernel
theorem dX4_copyFrom_16 : decode cX4_copyFrom 16 = .ok (.getfield 15, 3) := by decide +kernel
theorem dX4_copyFrom_19 : decode cX4_copyFrom 19 = .ok (.invokestatic 22, 3) := by decide +kernel
theorem dX4_copyFrom_22 : decode cX4_copyFrom 22 = .ok (.aload_n 0, 1) := by decide +kernel
theorem dX4_copyFrom_23 : decode cX4_copyFrom 23 = .ok (.aload_n 1, 1) := by decide +kernel
theorem dX4_copyFrom_24 : decode cX4_copyFrom 24 = .ok (.getfield 26, 3) := by decide +kernel
theorem dX4_copyFrom_27 : decode cX4_copyFrom 27 = .ok (.putfield 26, 3) := by decide +kernel
theorem dX4_copyFrom_30 : decode cX4_copyFrom 30 = .ok (.aload_n 0, 1) := by decide +kernel
theorem dX4_copyFrom_31 : decode cX4_copyFrom 31 = .ok (.aload_n 1, 1) := by decide +kernel
theorem dX4_copyFrom_32 : decode cX4_copyFrom 32 = .ok (.getfield 18, 3) := by decide +kernel
theorem dX4_copyFrom_35 : decode cX4_copyFrom 35 = .ok (.putfield 18, 3) := by decide +kernel
theorem dX4_copyFrom_38 : decode cX4_copyFrom 38 = .ok (.return_, 1) := by decide +kernel
theorem dX4_add_0 : decode cX4_add 0 = .ok (.aload_n 0, 1) := by decide +kernel
theorem dX4_add_1 : decode cX4_add 1 = .ok (.getfield 9, 3) := by decide +kernel
theorem dX4_add_4 : decode cX4_add 4 = .ok (.aload_n 0, 1) := by decide +kernel
theorem dX4_add_5 : decode cX4_add 5 = .ok (.getfield 26, 3) := by decide +kernel
theorem dX4_add_8 : decode cX4_add 8 = .ok (.iload_n 1, 1) := by decide +kernel
theorem dX4_add_9 : decode cX4_add 9 = .ok (.invokestatic 29, 3) := by decide +kernel
theorem dX4_add_12 : decode cX4_add 12 = .ok (.aload_n 0, 1) := by decide +kernel
theorem dX4_add_13 : decode cX4_add 13 = .ok (.getfield 15, 3) := by decide +kernel
theorem dX4_add_16 : decode cX4_add 16 = .ok (.aload_n 0, 1) := by decide +kernel
theorem dX4_add_17 : decode cX4_add 17 = .ok (.getfield 26, 3) := by decide +kernel
theorem dX4_add_20 : decode cX4_add 20 = .ok (.iload_n 2, 1) := by decide +kernel
theorem dX4_add_21 : decode cX4_add 21 = .ok (.invokestatic 29, 3) := by decide +kernel
theorem dX4_add_24 : decode cX4_add 24 = .ok (.aload_n 0, 1) := by decide +kernel
theorem dX4_add_25 : decode cX4_add 25 = .ok (.dup, 1) := by decide +kernel
theorem dX4_add_26 : decode cX4_add 26 = .ok (.getfield 26, 3) := by decide +kernel
theorem dX4_add_29 : decode cX4_add 29 = .ok (.iconst 1, 1) := by decide +kernel
theorem dX4_add_30 : decode cX4_add 30 = .ok (.iadd, 1) := by decide +kernel
theorem dX4_add_31 : decode cX4_add 31 = .ok (.putfield 26, 3) := by decide +kernel
theorem dX4_add_34 : decode cX4_add 34 = .ok (.return_, 1) := by decide +kernel
theorem dX4_allFit_0 : decode cX4_allFit 0 = .ok (.iconst 0, 1) := by decide +kernel
theorem dX4_allFit_1 : decode cX4_allFit 1 = .ok (.istore 4, 2) := by decide +kernel
theorem dX4_allFit_3 : decode cX4_allFit 3 = .ok (.iload 4, 2) := by decide +kernel
theorem dX4_allFit_5 : decode cX4_allFit 5 = .ok (.aload_n 0, 1) := by decide +kernel
theorem dX4_allFit_6 : decode cX4_allFit 6 = .ok (.getfield 26, 3) := by decide +kernel
theorem dX4_allFit_9 : decode cX4_allFit 9 = .ok (.if_icmp .ge 45, 3) := by decide +kernel
theorem dX4_allFit_12 : decode cX4_allFit 12 = .ok (.iload 4, 2) := by decide +kernel
theorem dX4_allFit_14 : decode cX4_allFit 14 = .ok (.iload_n 3, 1) := by decide +kernel
theorem dX4_allFit_15 : decode cX4_allFit 15 = .ok (.if_icmp .eq 33, 3) := by decide +kernel
theorem dX4_allFit_18 : decode cX4_allFit 18 = .ok (.iload_n 1, 1) := by decide +kernel
theorem dX4_allFit_19 : decode cX4_allFit 19 = .ok (.aload_n 0, 1) := by decide +kernel
theorem dX4_allFit_20 : decode cX4_allFit 20 = .ok (.getfield 9, 3) := by decide +kernel
theorem dX4_allFit_23 : decode cX4_allFit 23 = .ok (.iload 4, 2) := by decide +kernel
theorem dX4_allFit_25 : decode cX4_allFit 25 = .ok (.invokestatic 33, 3) := by decide +kernel
theorem dX4_allFit_28 : decode cX4_allFit 28 = .ok (.imul, 1) := by decide +kernel
theorem dX4_allFit_29 : decode cX4_allFit 29 = .ok (.aload_n 0, 1) := by decide +kernel
theorem dX4_allFit_30 : decode cX4_allFit 30 = .ok (.getfield 15, 3) := by decide +kernel
theorem dX4_allFit_33 : decode cX4_allFit 33 = .ok (.iload 4, 2) := by decide +kernel
theorem dX4_allFit_35 : decode cX4_allFit 35 = .ok (.invokestatic 33, 3) := by decide +kernel
theorem dX4_allFit_38 : decode cX4_allFit 38 = .ok (.isub, 1) := by decide +kernel
theorem dX4_allFit_39 : decode cX4_allFit 39 = .ok (.iload_n 2, 1) := by decide +kernel
theorem dX4_allFit_40 : decode cX4_allFit 40 = .ok (.invokestatic 37, 3) := by decide +kernel
theorem dX4_allFit_43 : decode cX4_allFit 43 = .ok (.ifCond .eq 5, 3) := by decide +kernel
theorem dX4_allFit_46 : decode cX4_allFit 46 = .ok (.iconst 0, 1) := by decide +kernel
theorem dX4_allFit_47 : decode cX4_allFit 47 = .ok (.ireturn, 1) := by decide +kernel
theorem dX4_allFit_48 : decode cX4_allFit 48 = .ok (.iinc 4 1, 3) := by decide +kernel
theorem dX4_allFit_51 : decode cX4_allFit 51 = .ok (.goto (-48), 3) := by decide +kernel
theorem dX4_allFit_54 : decode cX4_allFit 54 = .ok (.iconst 1, 1) := by decide +kernel
theorem dX4_allFit_55 : decode cX4_allFit 55 = .ok (.ireturn, 1) := by decide +kernel
theorem dX5_init_0 : decode cX5_init 0 = .ok (.aload_n 0, 1) := by decide +kernel
theorem dX5_init_1 : decode cX5_init 1 = .ok (.invokespecial 1, 3) := by decide +kernel
theorem dX5_init_4 : decode cX5_init 4 = .ok (.aload_n 0, 1) := by decide +kernel
theorem dX5_init_5 : decode cX5_init 5 = .ok (.new 7, 3) := by decide +kernel
theorem dX5_init_8 : decode cX5_init 8 = .ok (.dup, 1) := by decide +kernel
theorem dX5_init_9 : decode cX5_init 9 = .ok (.invokespecial 9, 3) := by decide +kernel
theorem dX5_init_12 : decode cX5_init 12 = .ok (.putfield 10, 3) := by decide +kernel
theorem dX5_init_15 : decode cX5_init 15 = .ok (.aload_n 0, 1) := by decide +kernel
theorem dX5_init_16 : decode cX5_init 16 = .ok (.new 16, 3) := by decide +kernel
theorem dX5_init_19 : decode cX5_init 19 = .ok (.dup, 1) := by decide +kernel
theorem dX5_init_20 : decode cX5_init 20 = .ok (.invokespecial 18, 3) := by decide +kernel
theorem dX5_init_23 : decode cX5_init 23 = .ok (.putfield 19, 3) := by decide +kernel
theorem dX5_init_26 : decode cX5_init 26 = .ok (.aload_n 0, 1) := by decide +kernel
theorem dX5_init_27 : decode cX5_init 27 = .ok (.new 23, 3) := by decide +kernel
theorem dX5_init_30 : decode cX5_init 30 = .ok (.dup, 1) := by decide +kernel
theorem dX5_init_31 : decode cX5_init 31 = .ok (.invokespecial 25, 3) := by decide +kernel
theorem dX5_init_34 : decode cX5_init 34 = .ok (.putfield 26, 3) := by decide +kernel
theorem dX5_init_37 : decode cX5_init 37 = .ok (.aload_n 0, 1) := by decide +kernel
theorem dX5_init_38 : decode cX5_init 38 = .ok (.new 30, 3) := by decide +kernel
theorem dX5_init_41 : decode cX5_init 41 = .ok (.dup, 1) := by decide +kernel
theorem dX5_init_42 : decode cX5_init 42 = .ok (.invokespecial 32, 3) := by decide +kernel
theorem dX5_init_45 : decode cX5_init 45 = .ok (.putfield 33, 3) := by decide +kernel
theorem dX5_init_48 : decode cX5_init 48 = .ok (.return_, 1) := by decide +kernel
theorem dX5_copyFrom_0 : decode cX5_copyFrom 0 = .ok (.aload_n 0, 1) := by decide +kernel
theorem dX5_copyFrom_1 : decode cX5_copyFrom 1 = .ok (.getfield 10, 3) := by decide +kernel
theorem dX5_copyFrom_4 : decode cX5_copyFrom 4 = .ok (.aload_n 1, 1) := by decide +kernel
theorem dX5_copyFrom_5 : decode cX5_copyFrom 5 = .ok (.getfield 10, 3) := by decide +kernel
theorem dX5_copyFrom_8 : decode cX5_copyFrom 8 = .ok (.invokevirtual 37, 3) := by decide +kernel
theorem dX5_copyFrom_11 : decode cX5_copyFrom 11 = .ok (.aload_n 0, 1) := by decide +kernel
theorem dX5_copyFrom_12 : decode cX5_copyFrom 12 = .ok (.getfield 19, 3) := by decide +kernel
theorem dX5_copyFrom_15 : decode cX5_copyFrom 15 = .ok (.aload_n 1, 1) := by decide +kernel
theorem dX5_copyFrom_16 : decode cX5_copyFrom 16 = .ok (.getfield 19, 3) := by decide +kernel
theorem dX5_copyFrom_19 : decode cX5_copyFrom 19 = .ok (.invokevirtual 41, 3) := by decide +kernel
theorem dX5_copyFrom_22 : decode cX5_copyFrom 22 = .ok (.aload_n 0, 1) := by decide +kernel
theorem dX5_copyFrom_23 : decode cX5_copyFrom 23 = .ok (.getfield 26, 3) := by decide +kernel
theorem dX5_copyFrom_26 : decode cX5_copyFrom 26 = .ok (.aload_n 1, 1) := by decide +kernel
theorem dX5_copyFrom_27 : decode cX5_copyFrom 27 = .ok (.getfield 26, 3) := by decide +kernel
theorem dX5_copyFrom_30 : decode cX5_copyFrom 30 = .ok (.invokevirtual 44, 3) := by decide +kernel
theorem dX5_copyFrom_33 : decode cX5_copyFrom 33 = .ok (.aload_n 0, 1) := by decide +kernel
theorem dX5_copyFrom_34 : decode cX5_copyFrom 34 = .ok (.getfield 33, 3) := by decide +kernel
theorem dX5_copyFrom_37 : decode cX5_copyFrom 37 = .ok (.aload_n 1, 1) := by decide +kernel
theorem dX5_copyFrom_38 : decode cX5_copyFrom 38 = .ok (.getfield 33, 3) := by decide +kernel
theorem dX5_copyFrom_41 : decode cX5_copyFrom 41 = .ok (.invokevirtual 47, 3) := by decide +kernel
theorem dX5_copyFrom_44 : decode cX5_copyFrom 44 = .ok (.return_, 1) := by decide +kernel
theorem dX5_earliestAlike_0 : decode cX5_earliestAlike 0 = .ok (.aload_n 0, 1) := by decide +kernel
theorem dX5_earliestAlike_1 : decode cX5_earliestAlike 1 = .ok (.getfield 10, 3) := by decide +kernel
theorem dX5_earliestAlike_4 : decode cX5_earliestAlike 4 = .ok (.invokevirtual 50, 3) := by decide +kernel
theorem dX5_earliestAlike_7 : decode cX5_earliestAlike 7 = .ok (.istore_n 2, 1) := by decide +kernel
theorem dX5_earliestAlike_8 : decode cX5_earliestAlike 8 = .ok (.aload_n 0, 1) := by decide +kernel
theorem dX5_earliestAlike_9 : decode cX5_earliestAlike 9 = .ok (.getfield 10, 3) := by decide +kernel
theorem dX5_earliestAlike_12 : decode cX5_earliestAlike 12 = .ok (.aload_n 0, 1) := by decide +kernel
theorem dX5_earliestAlike_13 : decode cX5_earliestAlike 13 = .ok (.getfield 19, 3) := by decide +kernel
theorem dX5_earliestAlike_16 : decode cX5_earliestAlike 16 = .ok (.iload_n 1, 1) := by decide +kernel
theorem dX5_earliestAlike_17 : decode cX5_earliestAlike 17 = .ok (.invokevirtual 54, 3) := by decide +kernel
theorem dX5_earliestAlike_20 : decode cX5_earliestAlike 20 = .ok (.invokevirtual 58, 3) := by decide +kernel
theorem dX5_earliestAlike_23 : decode cX5_earliestAlike 23 = .ok (.iload_n 2, 1) := by decide +kernel
theorem dX5_earliestAlike_24 : decode cX5_earliestAlike 24 = .ok (.invokestatic 61, 3) := by decide +kernel
theorem dX5_earliestAlike_27 : decode cX5_earliestAlike 27 = .ok (.istore_n 3, 1) := by decide +kernel
theorem dX5_earliestAlike_28 : decode cX5_earliestAlike 28 = .ok (.iconst 0, 1) := by decide +kernel
theorem dX5_earliestAlike_29 : decode cX5_earliestAlike 29 = .ok (.istore 4, 2) := by decide +kernel
theorem dX5_earliestAlike_31 : decode cX5_earliestAlike 31 = .ok (.iload 4, 2) := by decide +kernel
theorem dX5_earliestAlike_33 : decode cX5_earliestAlike 33 = .ok (.iload_n 1, 1) := by decide +kernel
theorem dX5_earliestAlike_34 : decode cX5_earliestAlike 34 = .ok (.if_icmp .ge 36, 3) := by decide +kernel
theorem dX5_earliestAlike_37 : decode cX5_earliestAlike 37 = .ok (.aload_n 0, 1) := by decide +kernel
theorem dX5_earliestAlike_38 : decode cX5_earliestAlike 38 = .ok (.getfield 10, 3) := by decide +kernel
theorem dX5_earliestAlike_41 : decode cX5_earliestAlike 41 = .ok (.aload_n 0, 1) := by decide +kernel
theorem dX5_earliestAlike_42 : decode cX5_earliestAlike 42 = .ok (.getfield 19, 3) := by decide +kernel
theorem dX5_earliestAlike_45 : decode cX5_earliestAlike 45 = .ok (.iload 4, 2) := by decide +kernel
theorem dX5_earliestAlike_47 : decode cX5_earliestAlike 47 = .ok (.invokevirtual 54, 3) := by decide +kernel
theorem dX5_earliestAlike_50 : decode cX5_earliestAlike 50 = .ok (.invokevirtual 58, 3) := by decide +kernel
theorem dX5_earliestAlike_53 : decode cX5_earliestAlike 53 = .ok (.iload_n 2, 1) := by decide +kernel
theorem dX5_earliestAlike_54 : decode cX5_earliestAlike 54 = .ok (.invokestatic 61, 3) := by decide +kernel
theorem dX5_earliestAlike_57 : decode cX5_earliestAlike 57 = .ok (.iload_n 3, 1) := by decide +kernel
theorem dX5_earliestAlike_58 : decode cX5_earliestAlike 58 = .ok (.if_icmp .ne 6, 3) := by decide +kernel
theorem dX5_earliestAlike_61 : decode cX5_earliestAlike 61 = .ok (.iload 4, 2) := by decide +kernel
theorem dX5_earliestAlike_63 : decode cX5_earliestAlike 63 = .ok (.ireturn, 1) := by decide +kernel
theorem dX5_earliestAlike_64 : decode cX5_earliestAlike 64 = .ok (.iinc 4 1, 3) := by decide +kernel
theorem dX5_earliestAlike_67 : decode cX5_earliestAlike 67 = .ok (.goto (-36), 3) := by decide +kernel
theorem dX5_earliestAlike_70 : decode cX5_earliestAlike 70 = .ok (.iload_n 1, 1) := by decide +kernel
theorem dX5_earliestAlike_71 : decode cX5_earliestAlike 71 = .ok (.ireturn, 1) := by decide +kernel
theorem dX5_countSeeming_0 : decode cX5_countSeeming 0 = .ok (.aload_n 0, 1) := by decide +kernel
theorem dX5_countSeeming_1 : decode cX5_countSeeming 1 = .ok (.getfield 10, 3) := by decide +kernel
theorem dX5_countSeeming_4 : decode cX5_countSeeming 4 = .ok (.invokevirtual 50, 3) := by decide +kernel
theorem dX5_countSeeming_7 : decode cX5_countSeeming 7 = .ok (.istore_n 2, 1) := by decide +kernel
theorem dX5_countSeeming_8 : decode cX5_countSeeming 8 = .ok (.aload_n 0, 1) := by decide +kernel
theorem dX5_countSeeming_9 : decode cX5_countSeeming 9 = .ok (.getfield 19, 3) := by decide +kernel
theorem dX5_countSeeming_12 : decode cX5_countSeeming 12 = .ok (.invokevirtual 67, 3) := by decide +kernel
theorem dX5_countSeeming_15 : decode cX5_countSeeming 15 = .ok (.istore_n 3, 1) := by decide +kernel
theorem dX5_countSeeming_16 : decode cX5_countSeeming 16 = .ok (.iconst 0, 1) := by decide +kernel
theorem dX5_countSeeming_17 : decode cX5_countSeeming 17 = .ok (.istore 4, 2) := by decide +kernel
theorem dX5_countSeeming_19 : decode cX5_countSeeming 19 = .ok (.iconst 0, 1) := by decide +kernel
theorem dX5_countSeeming_20 : decode cX5_countSeeming 20 = .ok (.istore 5, 2) := by decide +kernel
theorem dX5_countSeeming_22 : decode cX5_countSeeming 22 = .ok (.iload 5, 2) := by decide +kernel
theorem dX5_countSeeming_24 : decode cX5_countSeeming 24 = .ok (.iconst 1, 1) := by decide +kernel
theorem dX5_countSeeming_25 : decode cX5_countSeeming 25 = .ok (.iadd, 1) := by decide +kernel
theorem dX5_countSeeming_26 : decode cX5_countSeeming 26 = .ok (.iload_n 3, 1) := by decide +kernel
theorem dX5_countSeeming_27 : decode cX5_countSeeming 27 = .ok (.if_icmp .ge 69, 3) := by decide +kernel
theorem dX5_countSeeming_30 : decode cX5_countSeeming 30 = .ok (.aload_n 0, 1) := by decide +kernel
theorem dX5_countSeeming_31 : decode cX5_countSeeming 31 = .ok (.getfield 10, 3) := by decide +kernel
theorem dX5_countSeeming_34 : decode cX5_countSeeming 34 = .ok (.aload_n 0, 1) := by decide +kernel
theorem dX5_countSeeming_35 : decode cX5_countSeeming 35 = .ok (.getfield 19, 3) := by decide +kernel
theorem dX5_countSeeming_38 : decode cX5_countSeeming 38 = .ok (.iload 5, 2) := by decide +kernel
theorem dX5_countSeeming_40 : decode cX5_countSeeming 40 = .ok (.invokevirtual 54, 3) := by decide +kernel
theorem dX5_countSeeming_43 : decode cX5_countSeeming 43 = .ok (.aload_n 0, 1) := by decide +kernel
theorem dX5_countSeeming_44 : decode cX5_countSeeming 44 = .ok (.getfield 19, 3) := by decide +kernel
theorem dX5_countSeeming_47 : decode cX5_countSeeming 47 = .ok (.iload 5, 2) := by decide +kernel
theorem dX5_countSeeming_49 : decode cX5_countSeeming 49 = .ok (.iconst 1, 1) := by decide +kernel
theorem dX5_countSeeming_50 : decode cX5_countSeeming 50 = .ok (.iadd, 1) := by decide +kernel
theorem dX5_countSeeming_51 : decode cX5_countSeeming 51 = .ok (.invokevirtual 54, 3) := by decide +kernel
theorem dX5_countSeeming_54 : decode cX5_countSeeming 54 = .ok (.iload_n 2, 1) := by decide +kernel
theorem dX5_countSeeming_55 : decode cX5_countSeeming 55 = .ok (.invokevirtual 70, 3) := by decide +kernel
theorem dX5_countSeeming_58 : decode cX5_countSeeming 58 = .ok (.istore 6, 2) := by decide +kernel
theorem dX5_countSeeming_60 : decode cX5_countSeeming 60 = .ok (.iload 6, 2) := by decide +kernel
theorem dX5_countSeeming_62 : decode cX5_countSeeming 62 = .ok (.ifCond .ne 7, 3) := by decide +kernel
theorem dX5_countSeeming_65 : decode cX5_countSeeming 65 = .ok (.iconst 0, 1) := by decide +kernel
theorem dX5_countSeeming_66 : decode cX5_countSeeming 66 = .ok (.goto 13, 3) := by decide +kernel
theorem dX5_countSeeming_69 : decode cX5_countSeeming 69 = .ok (.iload 6, 2) := by decide +kernel
theorem dX5_countSeeming_71 : decode cX5_countSeeming 71 = .ok (.ifCond .le 7, 3) := by decide +kernel
theorem dX5_countSeeming_74 : decode cX5_countSeeming 74 = .ok (.iconst 1, 1) := by decide +kernel
theorem dX5_countSeeming_75 : decode cX5_countSeeming 75 = .ok (.goto 4, 3) := by decide +kernel
theorem dX5_countSeeming_78 : decode cX5_countSeeming 78 = .ok (.iconst 2, 1) := by decide +kernel
theorem dX5_countSeeming_79 : decode cX5_countSeeming 79 = .ok (.istore 7, 2) := by decide +kernel
theorem dX5_countSeeming_81 : decode cX5_countSeeming 81 = .ok (.iload 7, 2) := by decide +kernel
theorem dX5_countSeeming_83 : decode cX5_countSeeming 83 = .ok (.iload_n 1, 1) := by decide +kernel
theorem dX5_countSeeming_84 : decode cX5_countSeeming 84 = .ok (.if_icmp .ne 6, 3) := by decide +kernel
theorem dX5_countSeeming_87 : decode cX5_countSeeming 87 = .ok (.iinc 4 1, 3) := by decide +kernel
theorem dX5_countSeeming_90 : decode cX5_countSeeming 90 = .ok (.iinc 5 1, 3) := by decide +kernel
theorem dX5_countSeeming_93 : decode cX5_countSeeming 93 = .ok (.goto (-71), 3) := by decide +kernel
theorem dX5_countSeeming_96 : decode cX5_countSeeming 96 = .ok (.iload 4, 2) := by decide +kernel
theorem dX5_countSeeming_98 : decode cX5_countSeeming 98 = .ok (.ireturn, 1) := by decide +kernel
theorem dX5_differentPictures_0 : decode cX5_differentPictures 0 = .ok (.aload_n 0, 1) := by decide +kernel
theorem dX5_differentPictures_1 : decode cX5_differentPictures 1 = .ok (.getfield 10, 3) := by decide +kernel
theorem dX5_differentPictures_4 : decode cX5_differentPictures 4 = .ok (.aload_n 0, 1) := by decide +kernel
theorem dX5_differentPictures_5 : decode cX5_differentPictures 5 = .ok (.getfield 10, 3) := by decide +kernel
theorem dX5_differentPictures_8 : decode cX5_differentPictures 8 = .ok (.invokevirtual 50, 3) := by decide +kernel
theorem dX5_differentPictures_11 : decode cX5_differentPictures 11 = .ok (.aload_n 0, 1) := by decide +kernel
theorem dX5_differentPictures_12 : decode cX5_differentPictures 12 = .ok (.getfield 19, 3) := by decide +kernel
theorem dX5_differentPictures_15 : decode cX5_differentPictures 15 = .ok (.getfield 74, 3) := by decide +kernel
theorem dX5_differentPictures_18 : decode cX5_differentPictures 18 = .ok (.aload_n 0, 1) := by decide +kernel
theorem dX5_differentPictures_19 : decode cX5_differentPictures 19 = .ok (.getfield 19, 3) := by decide +kernel
theorem dX5_differentPictures_22 : decode cX5_differentPictures 22 = .ok (.invokevirtual 67, 3) := by decide +kernel
theorem dX5_differentPictures_25 : decode cX5_differentPictures 25 = .ok (.aload_n 0, 1) := by decide +kernel
theorem dX5_differentPictures_26 : decode cX5_differentPictures 26 = .ok (.getfield 19, 3) := by decide +kernel
theorem dX5_differentPictures_29 : decode cX5_differentPictures 29 = .ok (.getfield 78, 3) := by decide +kernel
theorem dX5_differentPictures_32 : decode cX5_differentPictures 32 = .ok (.invokevirtual 81, 3) := by decide +kernel
theorem dX5_differentPictures_35 : decode cX5_differentPictures 35 = .ok (.invokestatic 85, 3) := by decide +kernel
theorem dX5_differentPictures_38 : decode cX5_differentPictures 38 = .ok (.ireturn, 1) := by decide +kernel
theorem dX6_init_0 : decode cX6_init 0 = .ok (.aload_n 0, 1) := by decide +kernel
theorem dX6_init_1 : decode cX6_init 1 = .ok (.invokespecial 3, 3) := by decide +kernel
theorem dX6_init_4 : decode cX6_init 4 = .ok (.aload_n 0, 1) := by decide +kernel
theorem dX6_init_5 : decode cX6_init 5 = .ok (.bipush 60, 2) := by decide +kernel
theorem dX6_init_7 : decode cX6_init 7 = .ok (.newarray .int, 2) := by decide +kernel
theorem dX6_init_9 : decode cX6_init 9 = .ok (.putfield 9, 3) := by decide +kernel
theorem dX6_init_12 : decode cX6_init 12 = .ok (.aload_n 0, 1) := by decide +kernel
theorem dX6_init_13 : decode cX6_init 13 = .ok (.iconst 5, 1) := by decide +kernel
theorem dX6_init_14 : decode cX6_init 14 = .ok (.newarray .int, 2) := by decide +kernel
theorem dX6_init_16 : decode cX6_init 16 = .ok (.putfield 15, 3) := by decide +kernel
theorem dX6_init_19 : decode cX6_init 19 = .ok (.aload_n 0, 1) := by decide +kernel
theorem dX6_init_20 : decode cX6_init 20 = .ok (.iconst 5, 1) := by decide +kernel
theorem dX6_init_21 : decode cX6_init 21 = .ok (.newarray .int, 2) := by decide +kernel
theorem dX6_init_23 : decode cX6_init 23 = .ok (.putfield 18, 3) := by decide +kernel
theorem dX6_init_26 : decode cX6_init 26 = .ok (.aload_n 0, 1) := by decide +kernel
theorem dX6_init_27 : decode cX6_init 27 = .ok (.bipush 12, 2) := by decide +kernel
theorem dX6_init_29 : decode cX6_init 29 = .ok (.putfield 21, 3) := by decide +kernel
theorem dX6_init_32 : decode cX6_init 32 = .ok (.iconst 0, 1) := by decide +kernel
theorem dX6_init_33 : decode cX6_init 33 = .ok (.istore_n 1, 1) := by decide +kernel
theorem dX6_init_34 : decode cX6_init 34 = .ok (.iload_n 1, 1) := by decide +kernel
theorem dX6_init_35 : decode cX6_init 35 = .ok (.aload_n 0, 1) := by decide +kernel
theorem dX6_init_36 : decode cX6_init 36 = .ok (.getfield 21, 3) := by decide +kernel
theorem dX6_init_39 : decode cX6_init 39 = .ok (.if_icmp .ge 18, 3) := by decide +kernel
theorem dX6_init_42 : decode cX6_init 42 = .ok (.aload_n 0, 1) := by decide +kernel
theorem dX6_init_43 : decode cX6_init 43 = .ok (.getfield 9, 3) := by decide +kernel
theorem dX6_init_46 : decode cX6_init 46 = .ok (.iload_n 1, 1) := by decide +kernel
theorem dX6_init_47 : decode cX6_init 47 = .ok (.iconst 1, 1) := by decide +kernel
theorem dX6_init_48 : decode cX6_init 48 = .ok (.invokestatic 25, 3) := by decide +kernel
theorem dX6_init_51 : decode cX6_init 51 = .ok (.iinc 1 3, 3) := by decide +kernel
theorem dX6_init_54 : decode cX6_init 54 = .ok (.goto (-20), 3) := by decide +kernel
theorem dX6_init_57 : decode cX6_init 57 = .ok (.return_, 1) := by decide +kernel
theorem dX6_copyFrom_0 : decode cX6_copyFrom 0 = .ok (.aload_n 1, 1) := by decide +kernel
theorem dX6_copyFrom_1 : decode cX6_copyFrom 1 = .ok (.getfield 9, 3) := by decide +kernel
theorem dX6_copyFrom_4 : decode cX6_copyFrom 4 = .ok (.aload_n 0, 1) := by decide +kernel
theorem dX6_copyFrom_5 : decode cX6_copyFrom 5 = .ok (.getfield 9, 3) := by decide +kernel
theorem dX6_copyFrom_8 : decode cX6_copyFrom 8 = .ok (.invokestatic 29, 3) := by decide +kernel
theorem dX6_copyFrom_11 : decode cX6_copyFrom 11 = .ok (.aload_n 1, 1) := by decide +kernel
theorem dX6_copyFrom_12 : decode cX6_copyFrom 12 = .ok (.getfield 15, 3) := by decide +kernel
theorem dX6_copyFrom_15 : decode cX6_copyFrom 15 = .ok (.aload_n 0, 1) := by decide +kernel
theorem dX6_copyFrom_16 : decode cX6_copyFrom 16 = .ok (.getfield 15, 3) := by decide +kernel
theorem dX6_copyFrom_19 : decode cX6_copyFrom 19 = .ok (.invokestatic 29, 3) := by decide +kernel
theorem dX6_copyFrom_22 : decode cX6_copyFrom 22 = .ok (.aload_n 1, 1) := by decide +kernel
theorem dX6_copyFrom_23 : decode cX6_copyFrom 23 = .ok (.getfield 18, 3) := by decide +kernel
theorem dX6_copyFrom_26 : decode cX6_copyFrom 26 = .ok (.aload_n 0, 1) := by decide +kernel
theorem dX6_copyFrom_27 : decode cX6_copyFrom 27 = .ok (.getfield 18, 3) := by decide +kernel
theorem dX6_copyFrom_30 : decode cX6_copyFrom 30 = .ok (.invokestatic 29, 3) := by decide +kernel
theorem dX6_copyFrom_33 : decode cX6_copyFrom 33 = .ok (.aload_n 0, 1) := by decide +kernel
theorem dX6_copyFrom_34 : decode cX6_copyFrom 34 = .ok (.aload_n 1, 1) := by decide +kernel
theorem dX6_copyFrom_35 : decode cX6_copyFrom 35 = .ok (.getfield 21, 3) := by decide +kernel
theorem dX6_copyFrom_38 : decode cX6_copyFrom 38 = .ok (.putfield 21, 3) := by decide +kernel
theorem dX6_copyFrom_41 : decode cX6_copyFrom 41 = .ok (.aload_n 0, 1) := by decide +kernel
theorem dX6_copyFrom_42 : decode cX6_copyFrom 42 = .ok (.aload_n 1, 1) := by decide +kernel
theorem dX6_copyFrom_43 : decode cX6_copyFrom 43 = .ok (.getfield 33, 3) := by decide +kernel
theorem dX6_copyFrom_46 : decode cX6_copyFrom 46 = .ok (.putfield 33, 3) := by decide +kernel
theorem dX6_copyFrom_49 : decode cX6_copyFrom 49 = .ok (.aload_n 0, 1) := by decide +kernel
theorem dX6_copyFrom_50 : decode cX6_copyFrom 50 = .ok (.aload_n 1, 1) := by decide +kernel
theorem dX6_copyFrom_51 : decode cX6_copyFrom 51 = .ok (.getfield 36, 3) := by decide +kernel
theorem dX6_copyFrom_54 : decode cX6_copyFrom 54 = .ok (.putfield 36, 3) := by decide +kernel
theorem dX6_copyFrom_57 : decode cX6_copyFrom 57 = .ok (.aload_n 0, 1) := by decide +kernel
theorem dX6_copyFrom_58 : decode cX6_copyFrom 58 = .ok (.aload_n 1, 1) := by decide +kernel
theorem dX6_copyFrom_59 : decode cX6_copyFrom 59 = .ok (.getfield 39, 3) := by decide +kernel
theorem dX6_copyFrom_62 : decode cX6_copyFrom 62 = .ok (.putfield 39, 3) := by decide +kernel
theorem dX6_copyFrom_65 : decode cX6_copyFrom 65 = .ok (.return_, 1) := by decide +kernel
theorem dX6_empty_0 : decode cX6_empty 0 = .ok (.aload_n 0, 1) := by decide +kernel
theorem dX6_empty_1 : decode cX6_empty 1 = .ok (.iconst 0, 1) := by decide +kernel
theorem dX6_empty_2 : decode cX6_empty 2 = .ok (.putfield 21, 3) := by decide +kernel
theorem dX6_empty_5 : decode cX6_empty 5 = .ok (.aload_n 0, 1) := by decide +kernel
theorem dX6_empty_6 : decode cX6_empty 6 = .ok (.iconst 0, 1) := by decide +kernel
theorem dX6_empty_7 : decode cX6_empty 7 = .ok (.putfield 33, 3) := by decide +kernel
theorem dX6_empty_10 : decode cX6_empty 10 = .ok (.aload_n 0, 1) := by decide +kernel
theorem dX6_empty_11 : decode cX6_empty 11 = .ok (.iconst 0, 1) := by decide +kernel
theorem dX6_empty_12 : decode cX6_empty 12 = .ok (.putfield 36, 3) := by decide +kernel
theorem dX6_empty_15 : decode cX6_empty 15 = .ok (.aload_n 0, 1) := by decide +kernel
theorem dX6_empty_16 : decode cX6_empty 16 = .ok (.iconst 0, 1) := by decide +kernel
theorem dX6_empty_17 : decode cX6_empty 17 = .ok (.putfield 39, 3) := by decide +kernel
theorem dX6_empty_20 : decode cX6_empty 20 = .ok (.return_, 1) := by decide +kernel
theorem dX6_addCell_0 : decode cX6_addCell 0 = .ok (.aload_n 0, 1) := by decide +kernel
theorem dX6_addCell_1 : decode cX6_addCell 1 = .ok (.getfield 9, 3) := by decide +kernel
theorem dX6_addCell_4 : decode cX6_addCell 4 = .ok (.aload_n 0, 1) := by decide +kernel
theorem dX6_addCell_5 : decode cX6_addCell 5 = .ok (.getfield 21, 3) := by decide +kernel
theorem dX6_addCell_8 : decode cX6_addCell 8 = .ok (.iload_n 1, 1) := by decide +kernel
theorem dX6_addCell_9 : decode cX6_addCell 9 = .ok (.invokestatic 25, 3) := by decide +kernel
theorem dX6_addCell_12 : decode cX6_addCell 12 = .ok (.aload_n 0, 1) := by decide +kernel
theorem dX6_addCell_13 : decode cX6_addCell 13 = .ok (.dup, 1) := by decide +kernel
theorem dX6_addCell_14 : decode cX6_addCell 14 = .ok (.getfield 21, 3) := by decide +kernel
theorem dX6_addCell_17 : decode cX6_addCell 17 = .ok (.iconst 1, 1) := by decide +kernel
theorem dX6_addCell_18 : decode cX6_addCell 18 = .ok (.iadd, 1) := by decide +kernel
theorem dX6_addCell_19 : decode cX6_addCell 19 = .ok (.putfield 21, 3) := by decide +kernel
theorem dX6_addCell_22 : decode cX6_addCell 22 = .ok (.return_, 1) := by decide +kernel
theorem dX6_markOf_0 : decode cX6_markOf 0 = .ok (.aload_n 0, 1) := by decide +kernel
theorem dX6_markOf_1 : decode cX6_markOf 1 = .ok (.getfield 9, 3) := by decide +kernel
theorem dX6_markOf_4 : decode cX6_markOf 4 = .ok (.iload_n 1, 1) := by decide +kernel
theorem dX6_markOf_5 : decode cX6_markOf 5 = .ok (.invokestatic 42, 3) := by decide +kernel
theorem dX6_markOf_8 : decode cX6_markOf 8 = .ok (.ireturn, 1) := by decide +kernel
theorem dX6_markedCells_0 : decode cX6_markedCells 0 = .ok (.iconst 0, 1) := by decide +kernel
theorem dX6_markedCells_1 : decode cX6_markedCells 1 = .ok (.istore_n 1, 1) := by decide +kernel
theorem dX6_markedCells_2 : decode cX6_markedCells 2 = .ok (.iconst 0, 1) := by decide +kernel
theorem dX6_markedCells_3 : decode cX6_markedCells 3 = .ok (.istore_n 2, 1) := by decide +kernel
theorem dX6_markedCells_4 : decode cX6_markedCells 4 = .ok (.iload_n 2, 1) := by decide +kernel
theorem dX6_markedCells_5 : decode cX6_markedCells 5 = .ok (.aload_n 0, 1) := by decide +kernel
theorem dX6_markedCells_6 : decode cX6_markedCells 6 = .ok (.getfield 21, 3) := by decide +kernel
theorem dX6_markedCells_9 : decode cX6_markedCells 9 = .ok (.if_icmp .ge 20, 3) := by decide +kernel
theorem dX6_markedCells_12 : decode cX6_markedCells 12 = .ok (.aload_n 0, 1) := by decide +kernel
theorem dX6_markedCells_13 : decode cX6_markedCells 13 = .ok (.iload_n 2, 1) := by decide +kernel
theorem dX6_markedCells_14 : decode cX6_markedCells 14 = .ok (.invokevirtual 46, 3) := by decide +kernel
theorem dX6_markedCells_17 : decode cX6_markedCells 17 = .ok (.ifCond .eq 6, 3) := by decide +kernel
theorem dX6_markedCells_20 : decode cX6_markedCells 20 = .ok (.iinc 1 1, 3) := by decide +kernel
theorem dX6_markedCells_23 : decode cX6_markedCells 23 = .ok (.iinc 2 1, 3) := by decide +kernel
theorem dX6_markedCells_26 : decode cX6_markedCells 26 = .ok (.goto (-22), 3) := by decide +kernel
theorem dX6_markedCells_29 : decode cX6_markedCells 29 = .ok (.iload_n 1, 1) := by decide +kernel
theorem dX6_markedCells_30 : decode cX6_markedCells 30 = .ok (.ireturn, 1) := by decide +kernel
theorem dX6_measure_0 : decode cX6_measure 0 = .ok (.iconst 1, 1) := by decide +kernel
theorem dX6_measure_1 : decode cX6_measure 1 = .ok (.istore_n 1, 1) := by decide +kernel
theorem dX6_measure_2 : decode cX6_measure 2 = .ok (.iload_n 1, 1) := by decide +kernel
theorem dX6_measure_3 : decode cX6_measure 3 = .ok (.aload_n 0, 1) := by decide +kernel
theorem dX6_measure_4 : decode cX6_measure 4 = .ok (.getfield 21, 3) := by decide +kernel
theorem dX6_measure_7 : decode cX6_measure 7 = .ok (.if_icmp .ge 30, 3) := by decide +kernel
theorem dX6_measure_10 : decode cX6_measure 10 = .ok (.aload_n 0, 1) := by decide +kernel
theorem dX6_measure_11 : decode cX6_measure 11 = .ok (.getfield 21, 3) := by decide +kernel
theorem dX6_measure_14 : decode cX6_measure 14 = .ok (.iload_n 1, 1) := by decide +kernel
theorem dX6_measure_15 : decode cX6_measure 15 = .ok (.invokestatic 50, 3) := by decide +kernel
theorem dX6_measure_18 : decode cX6_measure 18 = .ok (.ifCond .ne 13, 3) := by decide +kernel
theorem dX6_measure_21 : decode cX6_measure 21 = .ok (.aload_n 0, 1) := by decide +kernel
theorem dX6_measure_22 : decode cX6_measure 22 = .ok (.iload_n 1, 1) := by decide +kernel
theorem dX6_measure_23 : decode cX6_measure 23 = .ok (.invokevirtual 54, 3) := by decide +kernel
theorem dX6_measure_26 : decode cX6_measure 26 = .ok (.ifCond .eq 5, 3) := by decide +kernel
theorem dX6_measure_29 : decode cX6_measure 29 = .ok (.iload_n 1, 1) := by decide +kernel
theorem dX6_measure_30 : decode cX6_measure 30 = .ok (.ireturn, 1) := by decide +kernel
theorem dX6_measure_31 : decode cX6_measure 31 = .ok (.iinc 1 1, 3) := by decide +kernel
theorem dX6_measure_34 : decode cX6_measure 34 = .ok (.goto (-32), 3) := by decide +kernel
theorem dX6_measure_37 : decode cX6_measure 37 = .ok (.aload_n 0, 1) := by decide +kernel
theorem dX6_measure_38 : decode cX6_measure 38 = .ok (.getfield 21, 3) := by decide +kernel
theorem dX6_measure_41 : decode cX6_measure 41 = .ok (.ireturn, 1) := by decide +kernel
theorem dX6_isSameTurnedBy_0 : decode cX6_isSameTurnedBy 0 = .ok (.iconst 0, 1) := by decide +kernel
theorem dX6_isSameTurnedBy_1 : decode cX6_isSameTurnedBy 1 = .ok (.istore_n 2, 1) := by decide +kernel
theorem dX6_isSameTurnedBy_2 : decode cX6_isSameTurnedBy 2 = .ok (.iload_n 2, 1) := by decide +kernel
theorem dX6_isSameTurnedBy_3 : decode cX6_isSameTurnedBy 3 = .ok (.iload_n 1, 1) := by decide +kernel
theorem dX6_isSameTurnedBy_4 : decode cX6_isSameTurnedBy 4 = .ok (.iadd, 1) := by decide +kernel
theorem dX6_isSameTurnedBy_5 : decode cX6_isSameTurnedBy 5 = .ok (.aload_n 0, 1) := by decide +kernel
theorem dX6_isSameTurnedBy_6 : decode cX6_isSameTurnedBy 6 = .ok (.getfield 21, 3) := by decide +kernel
theorem dX6_isSameTurnedBy_9 : decode cX6_isSameTurnedBy 9 = .ok (.if_icmp .ge 32, 3) := by decide +kernel
theorem dX6_isSameTurnedBy_12 : decode cX6_isSameTurnedBy 12 = .ok (.aload_n 0, 1) := by decide +kernel
theorem dX6_isSameTurnedBy_13 : decode cX6_isSameTurnedBy 13 = .ok (.getfield 9, 3) := by decide +kernel
theorem dX6_isSameTurnedBy_16 : decode cX6_isSameTurnedBy 16 = .ok (.iload_n 2, 1) := by decide +kernel
theorem dX6_isSameTurnedBy_17 : decode cX6_isSameTurnedBy 17 = .ok (.invokestatic 42, 3) := by decide +kernel
theorem dX6_isSameTurnedBy_20 : decode cX6_isSameTurnedBy 20 = .ok (.aload_n 0, 1) := by decide +kernel
theorem dX6_isSameTurnedBy_21 : decode cX6_isSameTurnedBy 21 = .ok (.getfield 9, 3) := by decide +kernel
theorem dX6_isSameTurnedBy_24 : decode cX6_isSameTurnedBy 24 = .ok (.iload_n 2, 1) := by decide +kernel
theorem dX6_isSameTurnedBy_25 : decode cX6_isSameTurnedBy 25 = .ok (.iload_n 1, 1) := by decide +kernel
theorem dX6_isSameTurnedBy_26 : decode cX6_isSameTurnedBy 26 = .ok (.iadd, 1) := by decide +kernel
theorem dX6_isSameTurnedBy_27 : decode cX6_isSameTurnedBy 27 = .ok (.invokestatic 42, 3) := by decide +kernel
theorem dX6_isSameTurnedBy_30 : decode cX6_isSameTurnedBy 30 = .ok (.if_icmp .eq 5, 3) := by decide +kernel
theorem dX6_isSameTurnedBy_33 : decode cX6_isSameTurnedBy 33 = .ok (.iconst 0, 1) := by decide +kernel
theorem dX6_isSameTurnedBy_34 : decode cX6_isSameTurnedBy 34 = .ok (.ireturn, 1) := by decide +kernel
theorem dX6_isSameTurnedBy_35 : decode cX6_isSameTurnedBy 35 = .ok (.iinc 2 1, 3) := by decide +kernel
theorem dX6_isSameTurnedBy_38 : decode cX6_isSameTurnedBy 38 = .ok (.goto (-36), 3) := by decide +kernel
theorem dX6_isSameTurnedBy_41 : decode cX6_isSameTurnedBy 41 = .ok (.iconst 1, 1) := by decide +kernel
theorem dX6_isSameTurnedBy_42 : decode cX6_isSameTurnedBy 42 = .ok (.ireturn, 1) := by decide +kernel
theorem dX6_placeOfChange_0 : decode cX6_placeOfChange 0 = .ok (.iconst 0, 1) := by decide +kernel
theorem dX6_placeOfChange_1 : decode cX6_placeOfChange 1 = .ok (.istore_n 2, 1) := by decide +kernel
theorem dX6_placeOfChange_2 : decode cX6_placeOfChange 2 = .ok (.iload_n 2, 1) := by decide +kernel
theorem dX6_placeOfChange_3 : decode cX6_placeOfChange 3 = .ok (.aload_n 0, 1) := by decide +kernel
theorem dX6_placeOfChange_4 : decode cX6_placeOfChange 4 = .ok (.getfield 39, 3) := by decide +kernel
theorem dX6_placeOfChange_7 : decode cX6_placeOfChange 7 = .ok (.if_icmp .ge 21, 3) := by decide +kernel
theorem dX6_placeOfChange_10 : decode cX6_placeOfChange 10 = .ok (.aload_n 0, 1) := by decide +kernel
theorem dX6_placeOfChange_11 : decode cX6_placeOfChange 11 = .ok (.getfield 15, 3) := by decide +kernel
theorem dX6_placeOfChange_14 : decode cX6_placeOfChange 14 = .ok (.iload_n 2, 1) := by decide +kernel
theorem dX6_placeOfChange_15 : decode cX6_placeOfChange 15 = .ok (.invokestatic 42, 3) := by decide +kernel
theorem dX6_placeOfChange_18 : decode cX6_placeOfChange 18 = .ok (.iload_n 1, 1) := by decide +kernel
theorem dX6_placeOfChange_19 : decode cX6_placeOfChange 19 = .ok (.if_icmp .ge 9, 3) := by decide +kernel
theorem dX6_placeOfChange_22 : decode cX6_placeOfChange 22 = .ok (.iinc 2 1, 3) := by decide +kernel
theorem dX6_placeOfChange_25 : decode cX6_placeOfChange 25 = .ok (.goto (-23), 3) := by decide +kernel
theorem dX6_placeOfChange_28 : decode cX6_placeOfChange 28 = .ok (.iload_n 2, 1) := by decide +kernel
theorem dX6_placeOfChange_29 : decode cX6_placeOfChange 29 = .ok (.ireturn, 1) := by decide +kernel
theorem dX6_hasChange_0 : decode cX6_hasChange 0 = .ok (.aload_n 0, 1) := by decide +kernel
theorem dX6_hasChange_1 : decode cX6_hasChange 1 = .ok (.iload_n 1, 1) := by decide +kernel
theorem dX6_hasChange_2 : decode cX6_hasChange 2 = .ok (.invokevirtual 58, 3) := by decide +kernel
theorem dX6_hasChange_5 : decode cX6_hasChange 5 = .ok (.istore_n 2, 1) := by decide +kernel
theorem dX6_hasChange_6 : decode cX6_hasChange 6 = .ok (.iload_n 2, 1) := by decide +kernel
theorem dX6_hasChange_7 : decode cX6_hasChange 7 = .ok (.aload_n 0, 1) := by decide +kernel
theorem dX6_hasChange_8 : decode cX6_hasChange 8 = .ok (.getfield 39, 3) := by decide +kernel
theorem dX6_hasChange_11 : decode cX6_hasChange 11 = .ok (.if_icmp .ge 19, 3) := by decide +kernel
theorem dX6_hasChange_14 : decode cX6_hasChange 14 = .ok (.aload_n 0, 1) := by decide +kernel
theorem dX6_hasChange_15 : decode cX6_hasChange 15 = .ok (.getfield 15, 3) := by decide +kernel
theorem dX6_hasChange_18 : decode cX6_hasChange 18 = .ok (.iload_n 2, 1) := by decide +kernel
theorem dX6_hasChange_19 : decode cX6_hasChange 19 = .ok (.invokestatic 42, 3) := by decide +kernel
theorem dX6_hasChange_22 : decode cX6_hasChange 22 = .ok (.iload_n 1, 1) := by decide +kernel
theorem dX6_hasChange_23 : decode cX6_hasChange 23 = .ok (.if_icmp .ne 7, 3) := by decide +kernel
theorem dX6_hasChange_26 : decode cX6_hasChange 26 = .ok (.iconst 1, 1) := by decide +kernel
theorem dX6_hasChange_27 : decode cX6_hasChange 27 = .ok (.goto 4, 3) := by decide +kernel
theorem dX6_hasChange_30 : decode cX6_hasChange 30 = .ok (.iconst 0, 1) := by decide +kernel
theorem dX6_hasChange_31 : decode cX6_hasChange 31 = .ok (.ireturn, 1) := by decide +kernel
theorem dX6_hasRoomFor_0 : decode cX6_hasRoomFor 0 = .ok (.iload_n 1, 1) := by decide +kernel
theorem dX6_hasRoomFor_1 : decode cX6_hasRoomFor 1 = .ok (.ifCond .eq 19, 3) := by decide +kernel
theorem dX6_hasRoomFor_4 : decode cX6_hasRoomFor 4 = .ok (.aload_n 0, 1) := by decide +kernel
theorem dX6_hasRoomFor_5 : decode cX6_hasRoomFor 5 = .ok (.iload_n 1, 1) := by decide +kernel
theorem dX6_hasRoomFor_6 : decode cX6_hasRoomFor 6 = .ok (.invokevirtual 61, 3) := by decide +kernel
theorem dX6_hasRoomFor_9 : decode cX6_hasRoomFor 9 = .ok (.ifCond .ne 11, 3) := by decide +kernel
theorem dX6_hasRoomFor_12 : decode cX6_hasRoomFor 12 = .ok (.aload_n 0, 1) := by decide +kernel
theorem dX6_hasRoomFor_13 : decode cX6_hasRoomFor 13 = .ok (.getfield 39, 3) := by decide +kernel
theorem dX6_hasRoomFor_16 : decode cX6_hasRoomFor 16 = .ok (.iconst 5, 1) := by decide +kernel
theorem dX6_hasRoomFor_17 : decode cX6_hasRoomFor 17 = .ok (.if_icmp .ge 7, 3) := by decide +kernel
theorem dX6_hasRoomFor_20 : decode cX6_hasRoomFor 20 = .ok (.iconst 1, 1) := by decide +kernel
theorem dX6_hasRoomFor_21 : decode cX6_hasRoomFor 21 = .ok (.goto 4, 3) := by decide +kernel
theorem dX6_hasRoomFor_24 : decode cX6_hasRoomFor 24 = .ok (.iconst 0, 1) := by decide +kernel
theorem dX6_hasRoomFor_25 : decode cX6_hasRoomFor 25 = .ok (.ireturn, 1) := by decide +kernel
theorem dX6_putSpeed_0 : decode cX6_putSpeed 0 = .ok (.iload_n 1, 1) := by decide +kernel
theorem dX6_putSpeed_1 : decode cX6_putSpeed 1 = .ok (.ifCond .ne 9, 3) := by decide +kernel
theorem dX6_putSpeed_4 : decode cX6_putSpeed 4 = .ok (.aload_n 0, 1) := by decide +kernel
theorem dX6_putSpeed_5 : decode cX6_putSpeed 5 = .ok (.iload_n 2, 1) := by decide +kernel
theorem dX6_putSpeed_6 : decode cX6_putSpeed 6 = .ok (.putfield 36, 3) := by decide +kernel
theorem dX6_putSpeed_9 : decode cX6_putSpeed 9 = .ok (.return_, 1) := by decide +kernel
theorem dX6_putSpeed_10 : decode cX6_putSpeed 10 = .ok (.aload_n 0, 1) := by decide +kernel
theorem dX6_putSpeed_11 : decode cX6_putSpeed 11 = .ok (.iload_n 1, 1) := by decide +kernel
theorem dX6_putSpeed_12 : decode cX6_putSpeed 12 = .ok (.invokevirtual 61, 3) := by decide +kernel
theorem dX6_putSpeed_15 : decode cX6_putSpeed 15 = .ok (.ifCond .ne 8, 3) := by decide +kernel
theorem dX6_putSpeed_18 : decode cX6_putSpeed 18 = .ok (.aload_n 0, 1) := by decide +kernel
theorem dX6_putSpeed_19 : decode cX6_putSpeed 19 = .ok (.iload_n 1, 1) := by decide +kernel
theorem dX6_putSpeed_20 : decode cX6_putSpeed 20 = .ok (.invokevirtual 64, 3) := by decide +kernel
theorem dX6_putSpeed_23 : decode cX6_putSpeed 23 = .ok (.aload_n 0, 1) := by decide +kernel
theorem dX6_putSpeed_24 : decode cX6_putSpeed 24 = .ok (.getfield 18, 3) := by decide +kernel
theorem dX6_putSpeed_27 : decode cX6_putSpeed 27 = .ok (.aload_n 0, 1) := by decide +kernel
theorem dX6_putSpeed_28 : decode cX6_putSpeed 28 = .ok (.iload_n 1, 1) := by decide +kernel
theorem dX6_putSpeed_29 : decode cX6_putSpeed 29 = .ok (.invokevirtual 58, 3) := by decide +kernel
theorem dX6_putSpeed_32 : decode cX6_putSpeed 32 = .ok (.iload_n 2, 1) := by decide +kernel
theorem dX6_putSpeed_33 : decode cX6_putSpeed 33 = .ok (.invokestatic 25, 3) := by decide +kernel
theorem dX6_putSpeed_36 : decode cX6_putSpeed 36 = .ok (.return_, 1) := by decide +kernel
theorem dX6_insertChange_0 : decode cX6_insertChange 0 = .ok (.aload_n 0, 1) := by decide +kernel
theorem dX6_insertChange_1 : decode cX6_insertChange 1 = .ok (.iload_n 1, 1) := by decide +kernel
theorem dX6_insertChange_2 : decode cX6_insertChange 2 = .ok (.invokevirtual 58, 3) := by decide +kernel
theorem dX6_insertChange_5 : decode cX6_insertChange 5 = .ok (.istore_n 2, 1) := by decide +kernel
theorem dX6_insertChange_6 : decode cX6_insertChange 6 = .ok (.aload_n 0, 1) := by decide +kernel
theorem dX6_insertChange_7 : decode cX6_insertChange 7 = .ok (.getfield 39, 3) := by decide +kernel
theorem dX6_insertChange_10 : decode cX6_insertChange 10 = .ok (.istore_n 3, 1) := by decide +kernel
theorem dX6_insertChange_11 : decode cX6_insertChange 11 = .ok (.iload_n 3, 1) := by decide +kernel
theorem dX6_insertChange_12 : decode cX6_insertChange 12 = .ok (.iload_n 2, 1) := by decide +kernel
theorem dX6_insertChange_13 : decode cX6_insertChange 13 = .ok (.if_icmp .le 45, 3) := by decide +kernel
theorem dX6_insertChange_16 : decode cX6_insertChange 16 = .ok (.aload_n 0, 1) := by decide +kernel
theorem dX6_insertChange_17 : decode cX6_insertChange 17 = .ok (.getfield 15, 3) := by decide +kernel
theorem dX6_insertChange_20 : decode cX6_insertChange 20 = .ok (.iload_n 3, 1) := by decide +kernel
theorem dX6_insertChange_21 : decode cX6_insertChange 21 = .ok (.aload_n 0, 1) := by decide +kernel
theorem dX6_insertChange_22 : decode cX6_insertChange 22 = .ok (.getfield 15, 3) := by decide +kernel
theorem dX6_insertChange_25 : decode cX6_insertChange 25 = .ok (.iload_n 3, 1) := by decide +kernel
theorem dX6_insertChange_26 : decode cX6_insertChange 26 = .ok (.iconst 1, 1) := by decide +kernel
theorem dX6_insertChange_27 : decode cX6_insertChange 27 = .ok (.isub, 1) := by decide +kernel
theorem dX6_insertChange_28 : decode cX6_insertChange 28 = .ok (.invokestatic 42, 3) := by decide +kernel
theorem dX6_insertChange_31 : decode cX6_insertChange 31 = .ok (.invokestatic 25, 3) := by decide +kernel
theorem dX6_insertChange_34 : decode cX6_insertChange 34 = .ok (.aload_n 0, 1) := by decide +kernel
theorem dX6_insertChange_35 : decode cX6_insertChange 35 = .ok (.getfield 18, 3) := by decide +kernel
theorem dX6_insertChange_38 : decode cX6_insertChange 38 = .ok (.iload_n 3, 1) := by decide +kernel
theorem dX6_insertChange_39 : decode cX6_insertChange 39 = .ok (.aload_n 0, 1) := by decide +kernel
theorem dX6_insertChange_40 : decode cX6_insertChange 40 = .ok (.getfield 18, 3) := by decide +kernel
theorem dX6_insertChange_43 : decode cX6_insertChange 43 = .ok (.iload_n 3, 1) := by decide +kernel
theorem dX6_insertChange_44 : decode cX6_insertChange 44 = .ok (.iconst 1, 1) := by decide +kernel
theorem dX6_insertChange_45 : decode cX6_insertChange 45 = .ok (.isub, 1) := by decide +kernel
theorem dX6_insertChange_46 : decode cX6_insertChange 46 = .ok (.invokestatic 42, 3) := by decide +kernel
theorem dX6_insertChange_49 : decode cX6_insertChange 49 = .ok (.invokestatic 25, 3) := by decide +kernel
theorem dX6_insertChange_52 : decode cX6_insertChange 52 = .ok (.iinc 3 (-1), 3) := by decide +kernel
theorem dX6_insertChange_55 : decode cX6_insertChange 55 = .ok (.goto (-44), 3) := by decide +kernel
theorem dX6_insertChange_58 : decode cX6_insertChange 58 = .ok (.aload_n 0, 1) := by decide +kernel
theorem dX6_insertChange_59 : decode cX6_insertChange 59 = .ok (.getfield 15, 3) := by decide +kernel
theorem dX6_insertChange_62 : decode cX6_insertChange 62 = .ok (.iload_n 2, 1) := by decide +kernel
theorem dX6_insertChange_63 : decode cX6_insertChange 63 = .ok (.iload_n 1, 1) := by decide +kernel
theorem dX6_insertChange_64 : decode cX6_insertChange 64 = .ok (.invokestatic 25, 3) := by decide +kernel
theorem dX6_insertChange_67 : decode cX6_insertChange 67 = .ok (.aload_n 0, 1) := by decide +kernel
theorem dX6_insertChange_68 : decode cX6_insertChange 68 = .ok (.dup, 1) := by decide +kernel
theorem dX6_insertChange_69 : decode cX6_insertChange 69 = .ok (.getfield 39, 3) := by decide +kernel
theorem dX6_insertChange_72 : decode cX6_insertChange 72 = .ok (.iconst 1, 1) := by decide +kernel
theorem dX6_insertChange_73 : decode cX6_insertChange 73 = .ok (.iadd, 1) := by decide +kernel
theorem dX6_insertChange_74 : decode cX6_insertChange 74 = .ok (.putfield 39, 3) := by decide +kernel
theorem dX6_insertChange_77 : decode cX6_insertChange 77 = .ok (.return_, 1) := by decide +kernel
theorem dX6_turnAt_0 : decode cX6_turnAt 0 = .ok (.aload_n 0, 1) := by decide +kernel
theorem dX6_turnAt_1 : decode cX6_turnAt 1 = .ok (.getfield 33, 3) := by decide +kernel
theorem dX6_turnAt_4 : decode cX6_turnAt 4 = .ok (.istore_n 2, 1) := by decide +kernel
theorem dX6_turnAt_5 : decode cX6_turnAt 5 = .ok (.iconst 0, 1) := by decide +kernel
theorem dX6_turnAt_6 : decode cX6_turnAt 6 = .ok (.istore_n 3, 1) := by decide +kernel
theorem dX6_turnAt_7 : decode cX6_turnAt 7 = .ok (.aload_n 0, 1) := by decide +kernel
theorem dX6_turnAt_8 : decode cX6_turnAt 8 = .ok (.getfield 36, 3) := by decide +kernel
theorem dX6_turnAt_11 : decode cX6_turnAt 11 = .ok (.istore 4, 2) := by decide +kernel
theorem dX6_turnAt_13 : decode cX6_turnAt 13 = .ok (.iconst 0, 1) := by decide +kernel
theorem dX6_turnAt_14 : decode cX6_turnAt 14 = .ok (.istore 5, 2) := by decide +kernel
theorem dX6_turnAt_16 : decode cX6_turnAt 16 = .ok (.iload 5, 2) := by decide +kernel
theorem dX6_turnAt_18 : decode cX6_turnAt 18 = .ok (.aload_n 0, 1) := by decide +kernel
theorem dX6_turnAt_19 : decode cX6_turnAt 19 = .ok (.getfield 39, 3) := by decide +kernel
theorem dX6_turnAt_22 : decode cX6_turnAt 22 = .ok (.if_icmp .ge 60, 3) := by decide +kernel
theorem dX6_turnAt_25 : decode cX6_turnAt 25 = .ok (.aload_n 0, 1) := by decide +kernel
theorem dX6_turnAt_26 : decode cX6_turnAt 26 = .ok (.getfield 15, 3) := by decide +kernel
theorem dX6_turnAt_29 : decode cX6_turnAt 29 = .ok (.iload 5, 2) := by decide +kernel
theorem dX6_turnAt_31 : decode cX6_turnAt 31 = .ok (.invokestatic 42, 3) := by decide +kernel
theorem dX6_turnAt_34 : decode cX6_turnAt 34 = .ok (.iload_n 1, 1) := by decide +kernel
theorem dX6_turnAt_35 : decode cX6_turnAt 35 = .ok (.if_icmp .ge 47, 3) := by decide +kernel
theorem dX6_turnAt_38 : decode cX6_turnAt 38 = .ok (.iload_n 2, 1) := by decide +kernel
theorem dX6_turnAt_39 : decode cX6_turnAt 39 = .ok (.iload 4, 2) := by decide +kernel
theorem dX6_turnAt_41 : decode cX6_turnAt 41 = .ok (.aload_n 0, 1) := by decide +kernel
theorem dX6_turnAt_42 : decode cX6_turnAt 42 = .ok (.getfield 15, 3) := by decide +kernel
theorem dX6_turnAt_45 : decode cX6_turnAt 45 = .ok (.iload 5, 2) := by decide +kernel
theorem dX6_turnAt_47 : decode cX6_turnAt 47 = .ok (.invokestatic 42, 3) := by decide +kernel
theorem dX6_turnAt_50 : decode cX6_turnAt 50 = .ok (.iload_n 3, 1) := by decide +kernel
theorem dX6_turnAt_51 : decode cX6_turnAt 51 = .ok (.isub, 1) := by decide +kernel
theorem dX6_turnAt_52 : decode cX6_turnAt 52 = .ok (.imul, 1) := by decide +kernel
theorem dX6_turnAt_53 : decode cX6_turnAt 53 = .ok (.iadd, 1) := by decide +kernel
theorem dX6_turnAt_54 : decode cX6_turnAt 54 = .ok (.istore_n 2, 1) := by decide +kernel
theorem dX6_turnAt_55 : decode cX6_turnAt 55 = .ok (.aload_n 0, 1) := by decide +kernel
theorem dX6_turnAt_56 : decode cX6_turnAt 56 = .ok (.getfield 15, 3) := by decide +kernel
theorem dX6_turnAt_59 : decode cX6_turnAt 59 = .ok (.iload 5, 2) := by decide +kernel
theorem dX6_turnAt_61 : decode cX6_turnAt 61 = .ok (.invokestatic 42, 3) := by decide +kernel
theorem dX6_turnAt_64 : decode cX6_turnAt 64 = .ok (.istore_n 3, 1) := by decide +kernel
theorem dX6_turnAt_65 : decode cX6_turnAt 65 = .ok (.aload_n 0, 1) := by decide +kernel
theorem dX6_turnAt_66 : decode cX6_turnAt 66 = .ok (.getfield 18, 3) := by decide +kernel
theorem dX6_turnAt_69 : decode cX6_turnAt 69 = .ok (.iload 5, 2) := by decide +kernel
theorem dX6_turnAt_71 : decode cX6_turnAt 71 = .ok (.invokestatic 42, 3) := by decide +kernel
theorem dX6_turnAt_74 : decode cX6_turnAt 74 = .ok (.istore 4, 2) := by decide +kernel
theorem dX6_turnAt_76 : decode cX6_turnAt 76 = .ok (.iinc 5 1, 3) := by decide +kernel
theorem dX6_turnAt_79 : decode cX6_turnAt 79 = .ok (.goto (-63), 3) := by decide +kernel
theorem dX6_turnAt_82 : decode cX6_turnAt 82 = .ok (.iload_n 2, 1) := by decide +kernel
theorem dX6_turnAt_83 : decode cX6_turnAt 83 = .ok (.iload 4, 2) := by decide +kernel
theorem dX6_turnAt_85 : decode cX6_turnAt 85 = .ok (.iload_n 1, 1) := by decide +kernel
theorem dX6_turnAt_86 : decode cX6_turnAt 86 = .ok (.iload_n 3, 1) := by decide +kernel
theorem dX6_turnAt_87 : decode cX6_turnAt 87 = .ok (.isub, 1) := by decide +kernel
theorem dX6_turnAt_88 : decode cX6_turnAt 88 = .ok (.imul, 1) := by decide +kernel
theorem dX6_turnAt_89 : decode cX6_turnAt 89 = .ok (.iadd, 1) := by decide +kernel
theorem dX6_turnAt_90 : decode cX6_turnAt 90 = .ok (.ireturn, 1) := by decide +kernel
theorem dX6_stepBetween_0 : decode cX6_stepBetween 0 = .ok (.aload_n 0, 1) := by decide +kernel
theorem dX6_stepBetween_1 : decode cX6_stepBetween 1 = .ok (.iload_n 2, 1) := by decide +kernel
theorem dX6_stepBetween_2 : decode cX6_stepBetween 2 = .ok (.invokevirtual 68, 3) := by decide +kernel
theorem dX6_stepBetween_5 : decode cX6_stepBetween 5 = .ok (.aload_n 0, 1) := by decide +kernel
theorem dX6_stepBetween_6 : decode cX6_stepBetween 6 = .ok (.iload_n 1, 1) := by decide +kernel
theorem dX6_stepBetween_7 : decode cX6_stepBetween 7 = .ok (.invokevirtual 68, 3) := by decide +kernel
theorem dX6_stepBetween_10 : decode cX6_stepBetween 10 = .ok (.isub, 1) := by decide +kernel
theorem dX6_stepBetween_11 : decode cX6_stepBetween 11 = .ok (.iload_n 3, 1) := by decide +kernel
theorem dX6_stepBetween_12 : decode cX6_stepBetween 12 = .ok (.invokestatic 50, 3) := by decide +kernel
theorem dX6_stepBetween_15 : decode cX6_stepBetween 15 = .ok (.istore 4, 2) := by decide +kernel
theorem dX6_stepBetween_17 : decode cX6_stepBetween 17 = .ok (.iconst 2, 1) := by decide +kernel
theorem dX6_stepBetween_18 : decode cX6_stepBetween 18 = .ok (.iload 4, 2) := by decide +kernel
theorem dX6_stepBetween_20 : decode cX6_stepBetween 20 = .ok (.imul, 1) := by decide +kernel
theorem dX6_stepBetween_21 : decode cX6_stepBetween 21 = .ok (.iload_n 3, 1) := by decide +kernel
theorem dX6_stepBetween_22 : decode cX6_stepBetween 22 = .ok (.if_icmp .le 10, 3) := by decide +kernel
theorem dX6_stepBetween_25 : decode cX6_stepBetween 25 = .ok (.iload 4, 2) := by decide +kernel
theorem dX6_stepBetween_27 : decode cX6_stepBetween 27 = .ok (.iload_n 3, 1) := by decide +kernel
theorem dX6_stepBetween_28 : decode cX6_stepBetween 28 = .ok (.isub, 1) := by decide +kernel
theorem dX6_stepBetween_29 : decode cX6_stepBetween 29 = .ok (.goto 5, 3) := by decide +kernel
theorem dX6_stepBetween_32 : decode cX6_stepBetween 32 = .ok (.iload 4, 2) := by decide +kernel
theorem dX6_stepBetween_34 : decode cX6_stepBetween 34 = .ok (.ireturn, 1) := by decide +kernel
theorem dX6_turnsModulo_0 : decode cX6_turnsModulo 0 = .ok (.lconst 0, 1) := by decide +kernel
theorem dX6_turnsModulo_1 : decode cX6_turnsModulo 1 = .ok (.lstore 5, 2) := by decide +kernel
theorem dX6_turnsModulo_3 : decode cX6_turnsModulo 3 = .ok (.iconst 0, 1) := by decide +kernel
theorem dX6_turnsModulo_4 : decode cX6_turnsModulo 4 = .ok (.istore 7, 2) := by decide +kernel
theorem dX6_turnsModulo_6 : decode cX6_turnsModulo 6 = .ok (.iload 7, 2) := by decide +kernel
theorem dX6_turnsModulo_8 : decode cX6_turnsModulo 8 = .ok (.iload_n 3, 1) := by decide +kernel
theorem dX6_turnsModulo_9 : decode cX6_turnsModulo 9 = .ok (.if_icmp .ge 31, 3) := by decide +kernel
theorem dX6_turnsModulo_12 : decode cX6_turnsModulo 12 = .ok (.lload 5, 2) := by decide +kernel
theorem dX6_turnsModulo_14 : decode cX6_turnsModulo 14 = .ok (.lconst 1, 1) := by decide +kernel
theorem dX6_turnsModulo_15 : decode cX6_turnsModulo 15 = .ok (.aload_n 0, 1) := by decide +kernel
theorem dX6_turnsModulo_16 : decode cX6_turnsModulo 16 = .ok (.iload_n 2, 1) := by decide +kernel
theorem dX6_turnsModulo_17 : decode cX6_turnsModulo 17 = .ok (.iload 7, 2) := by decide +kernel
theorem dX6_turnsModulo_19 : decode cX6_turnsModulo 19 = .ok (.iload 4, 2) := by decide +kernel
theorem dX6_turnsModulo_21 : decode cX6_turnsModulo 21 = .ok (.imul, 1) := by decide +kernel
theorem dX6_turnsModulo_22 : decode cX6_turnsModulo 22 = .ok (.iadd, 1) := by decide +kernel
theorem dX6_turnsModulo_23 : decode cX6_turnsModulo 23 = .ok (.invokevirtual 68, 3) := by decide +kernel
theorem dX6_turnsModulo_26 : decode cX6_turnsModulo 26 = .ok (.iload_n 1, 1) := by decide +kernel
theorem dX6_turnsModulo_27 : decode cX6_turnsModulo 27 = .ok (.invokestatic 50, 3) := by decide +kernel
theorem dX6_turnsModulo_30 : decode cX6_turnsModulo 30 = .ok (.lshl, 1) := by decide +kernel
theorem dX6_turnsModulo_31 : decode cX6_turnsModulo 31 = .ok (.lor, 1) := by decide +kernel
theorem dX6_turnsModulo_32 : decode cX6_turnsModulo 32 = .ok (.lstore 5, 2) := by decide +kernel
theorem dX6_turnsModulo_34 : decode cX6_turnsModulo 34 = .ok (.iinc 7 1, 3) := by decide +kernel
theorem dX6_turnsModulo_37 : decode cX6_turnsModulo 37 = .ok (.goto (-31), 3) := by decide +kernel
theorem dX6_turnsModulo_40 : decode cX6_turnsModulo 40 = .ok (.lload 5, 2) := by decide +kernel
theorem dX6_turnsModulo_42 : decode cX6_turnsModulo 42 = .ok (.lreturn, 1) := by decide +kernel
theorem dX7_init_0 : decode cX7_init 0 = .ok (.aload_n 0, 1) := by decide +kernel
theorem dX7_init_1 : decode cX7_init 1 = .ok (.invokespecial 3, 3) := by decide +kernel
theorem dX7_init_4 : decode cX7_init 4 = .ok (.aload_n 0, 1) := by decide +kernel
theorem dX7_init_5 : decode cX7_init 5 = .ok (.bipush 80, 2) := by decide +kernel
theorem dX7_init_7 : decode cX7_init 7 = .ok (.newarray .int, 2) := by decide +kernel
theorem dX7_init_9 : decode cX7_init 9 = .ok (.putfield 9, 3) := by decide +kernel
theorem dX7_init_12 : decode cX7_init 12 = .ok (.aload_n 0, 1) := by decide +kernel
theorem dX7_init_13 : decode cX7_init 13 = .ok (.iconst 0, 1) := by decide +kernel
theorem dX7_init_14 : decode cX7_init 14 = .ok (.putfield 15, 3) := by decide +kernel
theorem dX7_init_17 : decode cX7_init 17 = .ok (.return_, 1) := by decide +kernel
theorem dX7_append_0 : decode cX7_append 0 = .ok (.aload_n 0, 1) := by decide +kernel
theorem dX7_append_1 : decode cX7_append 1 = .ok (.getfield 9, 3) := by decide +kernel
theorem dX7_append_4 : decode cX7_append 4 = .ok (.aload_n 0, 1) := by decide +kernel
theorem dX7_append_5 : decode cX7_append 5 = .ok (.getfield 19, 3) := by decide +kernel
theorem dX7_append_8 : decode cX7_append 8 = .ok (.iload_n 1, 1) := by decide +kernel
theorem dX7_append_9 : decode cX7_append 9 = .ok (.invokestatic 22, 3) := by decide +kernel
theorem dX7_append_12 : decode cX7_append 12 = .ok (.aload_n 0, 1) := by decide +kernel
theorem dX7_append_13 : decode cX7_append 13 = .ok (.dup, 1) := by decide +kernel
theorem dX7_append_14 : decode cX7_append 14 = .ok (.getfield 19, 3) := by decide +kernel
theorem dX7_append_17 : decode cX7_append 17 = .ok (.iconst 1, 1) := by decide +kernel
theorem dX7_append_18 : decode cX7_append 18 = .ok (.iadd, 1) := by decide +kernel
theorem dX7_append_19 : decode cX7_append 19 = .ok (.putfield 19, 3) := by decide +kernel
theorem dX7_append_22 : decode cX7_append 22 = .ok (.return_, 1) := by decide +kernel
theorem dX7_readInto_0 : decode cX7_readInto 0 = .ok (.aload_n 0, 1) := by decide +kernel
theorem dX7_readInto_1 : decode cX7_readInto 1 = .ok (.iconst 0, 1) := by decide +kernel
theorem dX7_readInto_2 : decode cX7_readInto 2 = .ok (.putfield 26, 3) := by decide +kernel
theorem dX7_readInto_5 : decode cX7_readInto 5 = .ok (.aload_n 0, 1) := by decide +kernel
theorem dX7_readInto_6 : decode cX7_readInto 6 = .ok (.iconst 0, 1) := by decide +kernel
theorem dX7_readInto_7 : decode cX7_readInto 7 = .ok (.putfield 15, 3) := by decide +kernel
theorem dX7_readInto_10 : decode cX7_readInto 10 = .ok (.aload_n 1, 1) := by decide +kernel
theorem dX7_readInto_11 : decode cX7_readInto 11 = .ok (.invokevirtual 29, 3) := by decide +kernel
theorem dX7_readInto_14 : decode cX7_readInto 14 = .ok (.aload_n 0, 1) := by decide +kernel
theorem dX7_readInto_15 : decode cX7_readInto 15 = .ok (.aload_n 1, 1) := by decide +kernel
theorem dX7_readInto_16 : decode cX7_readInto 16 = .ok (.invokevirtual 34, 3) := by decide +kernel
theorem dX7_readInto_19 : decode cX7_readInto 19 = .ok (.aload_n 0, 1) := by decide +kernel
theorem dX7_readInto_20 : decode cX7_readInto 20 = .ok (.getfield 15, 3) := by decide +kernel
theorem dX7_readInto_23 : decode cX7_readInto 23 = .ok (.ifCond .ne 23, 3) := by decide +kernel
theorem dX7_readInto_26 : decode cX7_readInto 26 = .ok (.aload_n 0, 1) := by decide +kernel
theorem dX7_readInto_27 : decode cX7_readInto 27 = .ok (.bipush 64, 2) := by decide +kernel
theorem dX7_readInto_29 : decode cX7_readInto 29 = .ok (.invokevirtual 38, 3) := by decide +kernel
theorem dX7_readInto_32 : decode cX7_readInto 32 = .ok (.ifCond .eq 14, 3) := by decide +kernel
theorem dX7_readInto_35 : decode cX7_readInto 35 = .ok (.aload_n 1, 1) := by decide +kernel
theorem dX7_readInto_36 : decode cX7_readInto 36 = .ok (.aload_n 0, 1) := by decide +kernel
theorem dX7_readInto_37 : decode cX7_readInto 37 = .ok (.iconst 2, 1) := by decide +kernel
theorem dX7_readInto_38 : decode cX7_readInto 38 = .ok (.bipush 59, 2) := by decide +kernel
theorem dX7_readInto_40 : decode cX7_readInto 40 = .ok (.invokevirtual 42, 3) := by decide +kernel
theorem dX7_readInto_43 : decode cX7_readInto 43 = .ok (.putfield 46, 3) := by decide +kernel
theorem dX7_readInto_46 : decode cX7_readInto 46 = .ok (.aload_n 0, 1) := by decide +kernel
theorem dX7_readInto_47 : decode cX7_readInto 47 = .ok (.getfield 15, 3) := by decide +kernel
theorem dX7_readInto_50 : decode cX7_readInto 50 = .ok (.ifCond .ne 20, 3) := by decide +kernel
theorem dX7_readInto_53 : decode cX7_readInto 53 = .ok (.aload_n 0, 1) := by decide +kernel
theorem dX7_readInto_54 : decode cX7_readInto 54 = .ok (.bipush 42, 2) := by decide +kernel
theorem dX7_readInto_56 : decode cX7_readInto 56 = .ok (.invokevirtual 38, 3) := by decide +kernel
theorem dX7_readInto_59 : decode cX7_readInto 59 = .ok (.ifCond .eq 11, 3) := by decide +kernel
theorem dX7_readInto_62 : decode cX7_readInto 62 = .ok (.aload_n 1, 1) := by decide +kernel
theorem dX7_readInto_63 : decode cX7_readInto 63 = .ok (.aload_n 0, 1) := by decide +kernel
theorem dX7_readInto_64 : decode cX7_readInto 64 = .ok (.invokevirtual 49, 3) := by decide +kernel
theorem dX7_readInto_67 : decode cX7_readInto 67 = .ok (.putfield 53, 3) := by decide +kernel
theorem dX7_readInto_70 : decode cX7_readInto 70 = .ok (.aload_n 0, 1) := by decide +kernel
theorem dX7_readInto_71 : decode cX7_readInto 71 = .ok (.getfield 15, 3) := by decide +kernel
theorem dX7_readInto_74 : decode cX7_readInto 74 = .ok (.ifCond .ne 23, 3) := by decide +kernel
theorem dX7_readInto_77 : decode cX7_readInto 77 = .ok (.aload_n 0, 1) := by decide +kernel
theorem dX7_readInto_78 : decode cX7_readInto 78 = .ok (.getfield 26, 3) := by decide +kernel
theorem dX7_readInto_81 : decode cX7_readInto 81 = .ok (.aload_n 0, 1) := by decide +kernel
theorem dX7_readInto_82 : decode cX7_readInto 82 = .ok (.getfield 19, 3) := by decide +kernel
theorem dX7_readInto_85 : decode cX7_readInto 85 = .ok (.if_icmp .ge 12, 3) := by decide +kernel
theorem dX7_readInto_88 : decode cX7_readInto 88 = .ok (.aload_n 0, 1) := by decide +kernel
theorem dX7_readInto_89 : decode cX7_readInto 89 = .ok (.iconst 1, 1) := by decide +kernel
theorem dX7_readInto_90 : decode cX7_readInto 90 = .ok (.aload_n 0, 1) := by decide +kernel
theorem dX7_readInto_91 : decode cX7_readInto 91 = .ok (.getfield 26, 3) := by decide +kernel
theorem dX7_readInto_94 : decode cX7_readInto 94 = .ok (.invokevirtual 56, 3) := by decide +kernel
theorem dX7_readInto_97 : decode cX7_readInto 97 = .ok (.aload_n 0, 1) := by decide +kernel
theorem dX7_readInto_98 : decode cX7_readInto 98 = .ok (.getfield 15, 3) := by decide +kernel
theorem dX7_readInto_101 : decode cX7_readInto 101 = .ok (.ifCond .ne 7, 3) := by decide +kernel
theorem dX7_readInto_104 : decode cX7_readInto 104 = .ok (.iconst 1, 1) := by decide +kernel
theorem dX7_readInto_105 : decode cX7_readInto 105 = .ok (.goto 4, 3) := by decide +kernel
theorem dX7_readInto_108 : decode cX7_readInto 108 = .ok (.iconst 0, 1) := by decide +kernel
theorem dX7_readInto_109 : decode cX7_readInto 109 = .ok (.ireturn, 1) := by decide +kernel
theorem dX7_readCells_0 : decode cX7_readCells 0 = .ok (.aload_n 0, 1) := by decide +kernel
theorem dX7_readCells_1 : decode cX7_readCells 1 = .ok (.getfield 26, 3) := by decide +kernel
theorem dX7_readCells_4 : decode cX7_readCells 4 = .ok (.aload_n 0, 1) := by decide +kernel
theorem dX7_readCells_5 : decode cX7_readCells 5 = .ok (.getfield 19, 3) := by decide +kernel
theorem dX7_readCells_8 : decode cX7_readCells 8 = .ok (.if_icmp .ge 61, 3) := by decide +kernel
theorem dX7_readCells_11 : decode cX7_readCells 11 = .ok (.aload_n 1, 1) := by decide +kernel
theorem dX7_readCells_12 : decode cX7_readCells 12 = .ok (.getfield 60, 3) := by decide +kernel
theorem dX7_readCells_15 : decode cX7_readCells 15 = .ok (.bipush 60, 2) := by decide +kernel
theorem dX7_readCells_17 : decode cX7_readCells 17 = .ok (.if_icmp .ge 52, 3) := by decide +kernel
theorem dX7_readCells_20 : decode cX7_readCells 20 = .ok (.aload_n 0, 1) := by decide +kernel
theorem dX7_readCells_21 : decode cX7_readCells 21 = .ok (.invokevirtual 63, 3) := by decide +kernel
theorem dX7_readCells_24 : decode cX7_readCells 24 = .ok (.invokestatic 66, 3) := by decide +kernel
theorem dX7_readCells_27 : decode cX7_readCells 27 = .ok (.ifCond .eq 42, 3) := by decide +kernel
theorem dX7_readCells_30 : decode cX7_readCells 30 = .ok (.aload_n 1, 1) := by decide +kernel
theorem dX7_readCells_31 : decode cX7_readCells 31 = .ok (.aload_n 0, 1) := by decide +kernel
theorem dX7_readCells_32 : decode cX7_readCells 32 = .ok (.invokevirtual 63, 3) := by decide +kernel
theorem dX7_readCells_35 : decode cX7_readCells 35 = .ok (.bipush 46, 2) := by decide +kernel
theorem dX7_readCells_37 : decode cX7_readCells 37 = .ok (.if_icmp .ne 7, 3) := by decide +kernel
theorem dX7_readCells_40 : decode cX7_readCells 40 = .ok (.iconst 0, 1) := by decide +kernel
theorem dX7_readCells_41 : decode cX7_readCells 41 = .ok (.goto 12, 3) := by decide +kernel
theorem dX7_readCells_44 : decode cX7_readCells 44 = .ok (.aload_n 0, 1) := by decide +kernel
theorem dX7_readCells_45 : decode cX7_readCells 45 = .ok (.invokevirtual 63, 3) := by decide +kernel
theorem dX7_readCells_48 : decode cX7_readCells 48 = .ok (.bipush 97, 2) := by decide +kernel
theorem dX7_readCells_50 : decode cX7_readCells 50 = .ok (.isub, 1) := by decide +kernel
theorem dX7_readCells_51 : decode cX7_readCells 51 = .ok (.iconst 1, 1) := by decide +kernel
theorem dX7_readCells_52 : decode cX7_readCells 52 = .ok (.iadd, 1) := by decide +kernel
theorem dX7_readCells_53 : decode cX7_readCells 53 = .ok (.invokevirtual 69, 3) := by decide +kernel
theorem dX7_readCells_56 : decode cX7_readCells 56 = .ok (.aload_n 0, 1) := by decide +kernel
theorem dX7_readCells_57 : decode cX7_readCells 57 = .ok (.dup, 1) := by decide +kernel
theorem dX7_readCells_58 : decode cX7_readCells 58 = .ok (.getfield 26, 3) := by decide +kernel
theorem dX7_readCells_61 : decode cX7_readCells 61 = .ok (.iconst 1, 1) := by decide +kernel
theorem dX7_readCells_62 : decode cX7_readCells 62 = .ok (.iadd, 1) := by decide +kernel
theorem dX7_readCells_63 : decode cX7_readCells 63 = .ok (.putfield 26, 3) := by decide +kernel
theorem dX7_readCells_66 : decode cX7_readCells 66 = .ok (.goto (-66), 3) := by decide +kernel
theorem dX7_readCells_69 : decode cX7_readCells 69 = .ok (.aload_n 1, 1) := by decide +kernel
theorem dX7_readCells_70 : decode cX7_readCells 70 = .ok (.getfield 60, 3) := by decide +kernel
theorem dX7_readCells_73 : decode cX7_readCells 73 = .ok (.ifCond .ne 12, 3) := by decide +kernel
theorem dX7_readCells_76 : decode cX7_readCells 76 = .ok (.aload_n 0, 1) := by decide +kernel
theorem dX7_readCells_77 : decode cX7_readCells 77 = .ok (.iconst 1, 1) := by decide +kernel
theorem dX7_readCells_78 : decode cX7_readCells 78 = .ok (.aload_n 0, 1) := by decide +kernel
theorem dX7_readCells_79 : decode cX7_readCells 79 = .ok (.getfield 26, 3) := by decide +kernel
theorem dX7_readCells_82 : decode cX7_readCells 82 = .ok (.invokevirtual 56, 3) := by decide +kernel
theorem dX7_readCells_85 : decode cX7_readCells 85 = .ok (.return_, 1) := by decide +kernel
theorem dX7_readSpeed_0 : decode cX7_readSpeed 0 = .ok (.aload_n 0, 1) := by decide +kernel
theorem dX7_readSpeed_1 : decode cX7_readSpeed 1 = .ok (.bipush 45, 2) := by decide +kernel
theorem dX7_readSpeed_3 : decode cX7_readSpeed 3 = .ok (.invokevirtual 38, 3) := by decide +kernel
theorem dX7_readSpeed_6 : decode cX7_readSpeed 6 = .ok (.ifCond .eq 15, 3) := by decide +kernel
theorem dX7_readSpeed_9 : decode cX7_readSpeed 9 = .ok (.aload_n 0, 1) := by decide +kernel
theorem dX7_readSpeed_10 : decode cX7_readSpeed 10 = .ok (.iconst 4, 1) := by decide +kernel
theorem dX7_readSpeed_11 : decode cX7_readSpeed 11 = .ok (.sipush 1000, 3) := by decide +kernel
theorem dX7_readSpeed_14 : decode cX7_readSpeed 14 = .ok (.invokevirtual 42, 3) := by decide +kernel
theorem dX7_readSpeed_17 : decode cX7_readSpeed 17 = .ok (.ineg, 1) := by decide +kernel
theorem dX7_readSpeed_18 : decode cX7_readSpeed 18 = .ok (.goto 11, 3) := by decide +kernel
theorem dX7_readSpeed_21 : decode cX7_readSpeed 21 = .ok (.aload_n 0, 1) := by decide +kernel
theorem dX7_readSpeed_22 : decode cX7_readSpeed 22 = .ok (.iconst 4, 1) := by decide +kernel
theorem dX7_readSpeed_23 : decode cX7_readSpeed 23 = .ok (.sipush 1000, 3) := by decide +kernel
theorem dX7_readSpeed_26 : decode cX7_readSpeed 26 = .ok (.invokevirtual 42, 3) := by decide +kernel
theorem dX7_readSpeed_29 : decode cX7_readSpeed 29 = .ok (.ireturn, 1) := by decide +kernel
theorem dX7_readNumber_0 : decode cX7_readNumber 0 = .ok (.aload_n 0, 1) := by decide +kernel
theorem dX7_readNumber_1 : decode cX7_readNumber 1 = .ok (.getfield 26, 3) := by decide +kernel
theorem dX7_readNumber_4 : decode cX7_readNumber 4 = .ok (.istore_n 3, 1) := by decide +kernel
theorem dX7_readNumber_5 : decode cX7_readNumber 5 = .ok (.iconst 0, 1) := by decide +kernel
theorem dX7_readNumber_6 : decode cX7_readNumber 6 = .ok (.istore 4, 2) := by decide +kernel
theorem dX7_readNumber_8 : decode cX7_readNumber 8 = .ok (.aload_n 0, 1) := by decide +kernel
theorem dX7_readNumber_9 : decode cX7_readNumber 9 = .ok (.invokevirtual 63, 3) := by decide +kernel
theorem dX7_readNumber_12 : decode cX7_readNumber 12 = .ok (.invokestatic 73, 3) := by decide +kernel
theorem dX7_readNumber_15 : decode cX7_readNumber 15 = .ok (.ifCond .eq 41, 3) := by decide +kernel
theorem dX7_readNumber_18 : decode cX7_readNumber 18 = .ok (.aload_n 0, 1) := by decide +kernel
theorem dX7_readNumber_19 : decode cX7_readNumber 19 = .ok (.getfield 26, 3) := by decide +kernel
theorem dX7_readNumber_22 : decode cX7_readNumber 22 = .ok (.iload_n 3, 1) := by decide +kernel
theorem dX7_readNumber_23 : decode cX7_readNumber 23 = .ok (.isub, 1) := by decide +kernel
theorem dX7_readNumber_24 : decode cX7_readNumber 24 = .ok (.iload_n 1, 1) := by decide +kernel
theorem dX7_readNumber_25 : decode cX7_readNumber 25 = .ok (.if_icmp .ge 31, 3) := by decide +kernel
theorem dX7_readNumber_28 : decode cX7_readNumber 28 = .ok (.bipush 10, 2) := by decide +kernel
theorem dX7_readNumber_30 : decode cX7_readNumber 30 = .ok (.iload 4, 2) := by decide +kernel
theorem dX7_readNumber_32 : decode cX7_readNumber 32 = .ok (.imul, 1) := by decide +kernel
theorem dX7_readNumber_33 : decode cX7_readNumber 33 = .ok (.aload_n 0, 1) := by decide +kernel
theorem dX7_readNumber_34 : decode cX7_readNumber 34 = .ok (.invokevirtual 63, 3) := by decide +kernel
theorem dX7_readNumber_37 : decode cX7_readNumber 37 = .ok (.iadd, 1) := by decide +kernel
theorem dX7_readNumber_38 : decode cX7_readNumber 38 = .ok (.bipush 48, 2) := by decide +kernel
theorem dX7_readNumber_40 : decode cX7_readNumber 40 = .ok (.isub, 1) := by decide +kernel
theorem dX7_readNumber_41 : decode cX7_readNumber 41 = .ok (.istore 4, 2) := by decide +kernel
theorem dX7_readNumber_43 : decode cX7_readNumber 43 = .ok (.aload_n 0, 1) := by decide +kernel
theorem dX7_readNumber_44 : decode cX7_readNumber 44 = .ok (.dup, 1) := by decide +kernel
theorem dX7_readNumber_45 : decode cX7_readNumber 45 = .ok (.getfield 26, 3) := by decide +kernel
theorem dX7_readNumber_48 : decode cX7_readNumber 48 = .ok (.iconst 1, 1) := by decide +kernel
theorem dX7_readNumber_49 : decode cX7_readNumber 49 = .ok (.iadd, 1) := by decide +kernel
theorem dX7_readNumber_50 : decode cX7_readNumber 50 = .ok (.putfield 26, 3) := by decide +kernel
theorem dX7_readNumber_53 : decode cX7_readNumber 53 = .ok (.goto (-45), 3) := by decide +kernel
theorem dX7_readNumber_56 : decode cX7_readNumber 56 = .ok (.aload_n 0, 1) := by decide +kernel
theorem dX7_readNumber_57 : decode cX7_readNumber 57 = .ok (.getfield 26, 3) := by decide +kernel
theorem dX7_readNumber_60 : decode cX7_readNumber 60 = .ok (.iload_n 3, 1) := by decide +kernel
theorem dX7_readNumber_61 : decode cX7_readNumber 61 = .ok (.if_icmp .eq 13, 3) := by decide +kernel
theorem dX7_readNumber_64 : decode cX7_readNumber 64 = .ok (.aload_n 0, 1) := by decide +kernel
theorem dX7_readNumber_65 : decode cX7_readNumber 65 = .ok (.invokevirtual 63, 3) := by decide +kernel
theorem dX7_readNumber_68 : decode cX7_readNumber 68 = .ok (.invokestatic 73, 3) := by decide +kernel
theorem dX7_readNumber_71 : decode cX7_readNumber 71 = .ok (.ifCond .eq 15, 3) := by decide +kernel
theorem dX7_readNumber_74 : decode cX7_readNumber 74 = .ok (.aload_n 0, 1) := by decide +kernel
theorem dX7_readNumber_75 : decode cX7_readNumber 75 = .ok (.iconst 1, 1) := by decide +kernel
theorem dX7_readNumber_76 : decode cX7_readNumber 76 = .ok (.aload_n 0, 1) := by decide +kernel
theorem dX7_readNumber_77 : decode cX7_readNumber 77 = .ok (.getfield 26, 3) := by decide +kernel
theorem dX7_readNumber_80 : decode cX7_readNumber 80 = .ok (.invokevirtual 56, 3) := by decide +kernel
theorem dX7_readNumber_83 : decode cX7_readNumber 83 = .ok (.goto 15, 3) := by decide +kernel
theorem dX7_readNumber_86 : decode cX7_readNumber 86 = .ok (.iload 4, 2) := by decide +kernel
theorem dX7_readNumber_88 : decode cX7_readNumber 88 = .ok (.iload_n 2, 1) := by decide +kernel
theorem dX7_readNumber_89 : decode cX7_readNumber 89 = .ok (.if_icmp .le 9, 3) := by decide +kernel
theorem dX7_readNumber_92 : decode cX7_readNumber 92 = .ok (.aload_n 0, 1) := by decide +kernel
theorem dX7_readNumber_93 : decode cX7_readNumber 93 = .ok (.iconst 2, 1) := by decide +kernel
theorem dX7_readNumber_94 : decode cX7_readNumber 94 = .ok (.iload_n 3, 1) := by decide +kernel
theorem dX7_readNumber_95 : decode cX7_readNumber 95 = .ok (.invokevirtual 56, 3) := by decide +kernel
theorem dX7_readNumber_98 : decode cX7_readNumber 98 = .ok (.iload 4, 2) := by decide +kernel
theorem dX7_readNumber_100 : decode cX7_readNumber 100 = .ok (.ireturn, 1) := by decide +kernel
theorem dX7_takes_0 : decode cX7_takes 0 = .ok (.aload_n 0, 1) := by decide +kernel
theorem dX7_takes_1 : decode cX7_takes 1 = .ok (.invokevirtual 63, 3) := by decide +kernel
theorem dX7_takes_4 : decode cX7_takes 4 = .ok (.iload_n 1, 1) := by decide +kernel
theorem dX7_takes_5 : decode cX7_takes 5 = .ok (.if_icmp .eq 5, 3) := by decide +kernel
theorem dX7_takes_8 : decode cX7_takes 8 = .ok (.iconst 0, 1) := by decide +kernel
theorem dX7_takes_9 : decode cX7_takes 9 = .ok (.ireturn, 1) := by decide +kernel
theorem dX7_takes_10 : decode cX7_takes 10 = .ok (.aload_n 0, 1) := by decide +kernel
theorem dX7_takes_11 : decode cX7_takes 11 = .ok (.dup, 1) := by decide +kernel
theorem dX7_takes_12 : decode cX7_takes 12 = .ok (.getfield 26, 3) := by decide +kernel
theorem dX7_takes_15 : decode cX7_takes 15 = .ok (.iconst 1, 1) := by decide +kernel
theorem dX7_takes_16 : decode cX7_takes 16 = .ok (.iadd, 1) := by decide +kernel
theorem dX7_takes_17 : decode cX7_takes 17 = .ok (.putfield 26, 3) := by decide +kernel
theorem dX7_takes_20 : decode cX7_takes 20 = .ok (.iconst 1, 1) := by decide +kernel
theorem dX7_takes_21 : decode cX7_takes 21 = .ok (.ireturn, 1) := by decide +kernel
theorem dX7_code_0 : decode cX7_code 0 = .ok (.aload_n 0, 1) := by decide +kernel
theorem dX7_code_1 : decode cX7_code 1 = .ok (.getfield 26, 3) := by decide +kernel
theorem dX7_code_4 : decode cX7_code 4 = .ok (.aload_n 0, 1) := by decide +kernel
theorem dX7_code_5 : decode cX7_code 5 = .ok (.getfield 19, 3) := by decide +kernel
theorem dX7_code_8 : decode cX7_code 8 = .ok (.if_icmp .ge 17, 3) := by decide +kernel
theorem dX7_code_11 : decode cX7_code 11 = .ok (.aload_n 0, 1) := by decide +kernel
theorem dX7_code_12 : decode cX7_code 12 = .ok (.getfield 9, 3) := by decide +kernel
theorem dX7_code_15 : decode cX7_code 15 = .ok (.aload_n 0, 1) := by decide +kernel
theorem dX7_code_16 : decode cX7_code 16 = .ok (.getfield 26, 3) := by decide +kernel
theorem dX7_code_19 : decode cX7_code 19 = .ok (.invokestatic 76, 3) := by decide +kernel
theorem dX7_code_22 : decode cX7_code 22 = .ok (.goto 4, 3) := by decide +kernel
theorem dX7_code_25 : decode cX7_code 25 = .ok (.iconst 0, 1) := by decide +kernel
theorem dX7_code_26 : decode cX7_code 26 = .ok (.ireturn, 1) := by decide +kernel
theorem dX7_tellFault_0 : decode cX7_tellFault 0 = .ok (.aload_n 0, 1) := by decide +kernel
theorem dX7_tellFault_1 : decode cX7_tellFault 1 = .ok (.iload_n 1, 1) := by decide +kernel
theorem dX7_tellFault_2 : decode cX7_tellFault 2 = .ok (.putfield 15, 3) := by decide +kernel
theorem dX7_tellFault_5 : decode cX7_tellFault 5 = .ok (.aload_n 0, 1) := by decide +kernel
theorem dX7_tellFault_6 : decode cX7_tellFault 6 = .ok (.iload_n 2, 1) := by decide +kernel
theorem dX7_tellFault_7 : decode cX7_tellFault 7 = .ok (.putfield 80, 3) := by decide +kernel
theorem dX7_tellFault_10 : decode cX7_tellFault 10 = .ok (.return_, 1) := by decide +kernel
theorem dX7_isCell_0 : decode cX7_isCell 0 = .ok (.iload_n 0, 1) := by decide +kernel
theorem dX7_isCell_1 : decode cX7_isCell 1 = .ok (.bipush 46, 2) := by decide +kernel
theorem dX7_isCell_3 : decode cX7_isCell 3 = .ok (.if_icmp .eq 14, 3) := by decide +kernel
theorem dX7_isCell_6 : decode cX7_isCell 6 = .ok (.iload_n 0, 1) := by decide +kernel
theorem dX7_isCell_7 : decode cX7_isCell 7 = .ok (.bipush 97, 2) := by decide +kernel
theorem dX7_isCell_9 : decode cX7_isCell 9 = .ok (.bipush 99, 2) := by decide +kernel
theorem dX7_isCell_11 : decode cX7_isCell 11 = .ok (.invokestatic 83, 3) := by decide +kernel
theorem dX7_isCell_14 : decode cX7_isCell 14 = .ok (.ifCond .eq 7, 3) := by decide +kernel
theorem dX7_isCell_17 : decode cX7_isCell 17 = .ok (.iconst 1, 1) := by decide +kernel
theorem dX7_isCell_18 : decode cX7_isCell 18 = .ok (.goto 4, 3) := by decide +kernel
theorem dX7_isCell_21 : decode cX7_isCell 21 = .ok (.iconst 0, 1) := by decide +kernel
theorem dX7_isCell_22 : decode cX7_isCell 22 = .ok (.ireturn, 1) := by decide +kernel
theorem dX7_isDigit_0 : decode cX7_isDigit 0 = .ok (.iload_n 0, 1) := by decide +kernel
theorem dX7_isDigit_1 : decode cX7_isDigit 1 = .ok (.bipush 48, 2) := by decide +kernel
theorem dX7_isDigit_3 : decode cX7_isDigit 3 = .ok (.bipush 57, 2) := by decide +kernel
theorem dX7_isDigit_5 : decode cX7_isDigit 5 = .ok (.invokestatic 83, 3) := by decide +kernel
theorem dX7_isDigit_8 : decode cX7_isDigit 8 = .ok (.ireturn, 1) := by decide +kernel
theorem dX8_init_0 : decode cX8_init 0 = .ok (.aload_n 0, 1) := by decide +kernel
theorem dX8_init_1 : decode cX8_init 1 = .ok (.invokespecial 1, 3) := by decide +kernel
theorem dX8_init_4 : decode cX8_init 4 = .ok (.aload_n 0, 1) := by decide +kernel
theorem dX8_init_5 : decode cX8_init 5 = .ok (.new 7, 3) := by decide +kernel
theorem dX8_init_8 : decode cX8_init 8 = .ok (.dup, 1) := by decide +kernel
theorem dX8_init_9 : decode cX8_init 9 = .ok (.invokespecial 9, 3) := by decide +kernel
theorem dX8_init_12 : decode cX8_init 12 = .ok (.putfield 10, 3) := by decide +kernel
theorem dX8_init_15 : decode cX8_init 15 = .ok (.aload_n 0, 1) := by decide +kernel
theorem dX8_init_16 : decode cX8_init 16 = .ok (.new 16, 3) := by decide +kernel
theorem dX8_init_19 : decode cX8_init 19 = .ok (.dup, 1) := by decide +kernel
theorem dX8_init_20 : decode cX8_init 20 = .ok (.invokespecial 18, 3) := by decide +kernel
theorem dX8_init_23 : decode cX8_init 23 = .ok (.putfield 19, 3) := by decide +kernel
theorem dX8_init_26 : decode cX8_init 26 = .ok (.aload_n 0, 1) := by decide +kernel
theorem dX8_init_27 : decode cX8_init 27 = .ok (.new 23, 3) := by decide +kernel
theorem dX8_init_30 : decode cX8_init 30 = .ok (.dup, 1) := by decide +kernel
theorem dX8_init_31 : decode cX8_init 31 = .ok (.invokespecial 25, 3) := by decide +kernel
theorem dX8_init_34 : decode cX8_init 34 = .ok (.putfield 26, 3) := by decide +kernel
theorem dX8_init_37 : decode cX8_init 37 = .ok (.aload_n 0, 1) := by decide +kernel
theorem dX8_init_38 : decode cX8_init 38 = .ok (.new 30, 3) := by decide +kernel
theorem dX8_init_41 : decode cX8_init 41 = .ok (.dup, 1) := by decide +kernel
theorem dX8_init_42 : decode cX8_init 42 = .ok (.invokespecial 32, 3) := by decide +kernel
theorem dX8_init_45 : decode cX8_init 45 = .ok (.putfield 33, 3) := by decide +kernel
theorem dX8_init_48 : decode cX8_init 48 = .ok (.aload_n 0, 1) := by decide +kernel
theorem dX8_init_49 : decode cX8_init 49 = .ok (.new 37, 3) := by decide +kernel
theorem dX8_init_52 : decode cX8_init 52 = .ok (.dup, 1) := by decide +kernel
theorem dX8_init_53 : decode cX8_init 53 = .ok (.invokespecial 39, 3) := by decide +kernel
theorem dX8_init_56 : decode cX8_init 56 = .ok (.putfield 40, 3) := by decide +kernel
theorem dX8_init_59 : decode cX8_init 59 = .ok (.return_, 1) := by decide +kernel
theorem dX8_type_0 : decode cX8_type 0 = .ok (.iload_n 1, 1) := by decide +kernel
theorem dX8_type_1 : decode cX8_type 1 = .ok (.bipush 32, 2) := by decide +kernel
theorem dX8_type_3 : decode cX8_type 3 = .ok (.bipush 126, 2) := by decide +kernel
theorem dX8_type_5 : decode cX8_type 5 = .ok (.invokestatic 44, 3) := by decide +kernel
theorem dX8_type_8 : decode cX8_type 8 = .ok (.ifCond .ne 7, 3) := by decide +kernel
theorem dX8_type_11 : decode cX8_type 11 = .ok (.sipush (-1001), 3) := by decide +kernel
theorem dX8_type_14 : decode cX8_type 14 = .ok (.ireturn, 1) := by decide +kernel
theorem dX8_type_15 : decode cX8_type 15 = .ok (.aload_n 0, 1) := by decide +kernel
theorem dX8_type_16 : decode cX8_type 16 = .ok (.getfield 26, 3) := by decide +kernel
theorem dX8_type_19 : decode cX8_type 19 = .ok (.getfield 48, 3) := by decide +kernel
theorem dX8_type_22 : decode cX8_type 22 = .ok (.bipush 80, 2) := by decide +kernel
theorem dX8_type_24 : decode cX8_type 24 = .ok (.if_icmp .lt 7, 3) := by decide +kernel
theorem dX8_type_27 : decode cX8_type 27 = .ok (.sipush (-1003), 3) := by decide +kernel
theorem dX8_type_30 : decode cX8_type 30 = .ok (.ireturn, 1) := by decide +kernel
theorem dX8_type_31 : decode cX8_type 31 = .ok (.aload_n 0, 1) := by decide +kernel
theorem dX8_type_32 : decode cX8_type 32 = .ok (.getfield 26, 3) := by decide +kernel
theorem dX8_type_35 : decode cX8_type 35 = .ok (.iload_n 1, 1) := by decide +kernel
theorem dX8_type_36 : decode cX8_type 36 = .ok (.invokevirtual 52, 3) := by decide +kernel
theorem dX8_type_39 : decode cX8_type 39 = .ok (.aload_n 0, 1) := by decide +kernel
theorem dX8_type_40 : decode cX8_type 40 = .ok (.getfield 26, 3) := by decide +kernel
theorem dX8_type_43 : decode cX8_type 43 = .ok (.getfield 48, 3) := by decide +kernel
theorem dX8_type_46 : decode cX8_type 46 = .ok (.ireturn, 1) := by decide +kernel
theorem dX8_clearText_0 : decode cX8_clearText 0 = .ok (.aload_n 0, 1) := by decide +kernel
theorem dX8_clearText_1 : decode cX8_clearText 1 = .ok (.getfield 26, 3) := by decide +kernel
theorem dX8_clearText_4 : decode cX8_clearText 4 = .ok (.getfield 48, 3) := by decide +kernel
theorem dX8_clearText_7 : decode cX8_clearText 7 = .ok (.istore_n 1, 1) := by decide +kernel
theorem dX8_clearText_8 : decode cX8_clearText 8 = .ok (.aload_n 0, 1) := by decide +kernel
theorem dX8_clearText_9 : decode cX8_clearText 9 = .ok (.getfield 26, 3) := by decide +kernel
theorem dX8_clearText_12 : decode cX8_clearText 12 = .ok (.iconst 0, 1) := by decide +kernel
theorem dX8_clearText_13 : decode cX8_clearText 13 = .ok (.putfield 48, 3) := by decide +kernel
theorem dX8_clearText_16 : decode cX8_clearText 16 = .ok (.iload_n 1, 1) := by decide +kernel
theorem dX8_clearText_17 : decode cX8_clearText 17 = .ok (.ireturn, 1) := by decide +kernel
theorem dX8_load_0 : decode cX8_load 0 = .ok (.aload_n 0, 1) := by decide +kernel
theorem dX8_load_1 : decode cX8_load 1 = .ok (.getfield 26, 3) := by decide +kernel
theorem dX8_load_4 : decode cX8_load 4 = .ok (.aload_n 0, 1) := by decide +kernel
theorem dX8_load_5 : decode cX8_load 5 = .ok (.getfield 33, 3) := by decide +kernel
theorem dX8_load_8 : decode cX8_load 8 = .ok (.invokevirtual 56, 3) := by decide +kernel
theorem dX8_load_11 : decode cX8_load 11 = .ok (.ifCond .ne 14, 3) := by decide +kernel
theorem dX8_load_14 : decode cX8_load 14 = .ok (.bipush (-10), 2) := by decide +kernel
theorem dX8_load_16 : decode cX8_load 16 = .ok (.aload_n 0, 1) := by decide +kernel
theorem dX8_load_17 : decode cX8_load 17 = .ok (.getfield 26, 3) := by decide +kernel
theorem dX8_load_20 : decode cX8_load 20 = .ok (.getfield 60, 3) := by decide +kernel
theorem dX8_load_23 : decode cX8_load 23 = .ok (.isub, 1) := by decide +kernel
theorem dX8_load_24 : decode cX8_load 24 = .ok (.ireturn, 1) := by decide +kernel
theorem dX8_load_25 : decode cX8_load 25 = .ok (.aload_n 0, 1) := by decide +kernel
theorem dX8_load_26 : decode cX8_load 26 = .ok (.getfield 19, 3) := by decide +kernel
theorem dX8_load_29 : decode cX8_load 29 = .ok (.aload_n 0, 1) := by decide +kernel
theorem dX8_load_30 : decode cX8_load 30 = .ok (.getfield 10, 3) := by decide +kernel
theorem dX8_load_33 : decode cX8_load 33 = .ok (.invokevirtual 63, 3) := by decide +kernel
theorem dX8_load_36 : decode cX8_load 36 = .ok (.aload_n 0, 1) := by decide +kernel
theorem dX8_load_37 : decode cX8_load 37 = .ok (.getfield 10, 3) := by decide +kernel
theorem dX8_load_40 : decode cX8_load 40 = .ok (.getfield 67, 3) := by decide +kernel
theorem dX8_load_43 : decode cX8_load 43 = .ok (.aload_n 0, 1) := by decide +kernel
theorem dX8_load_44 : decode cX8_load 44 = .ok (.getfield 33, 3) := by decide +kernel
theorem dX8_load_47 : decode cX8_load 47 = .ok (.invokevirtual 70, 3) := by decide +kernel
theorem dX8_load_50 : decode cX8_load 50 = .ok (.aload_n 0, 1) := by decide +kernel
theorem dX8_load_51 : decode cX8_load 51 = .ok (.getfield 10, 3) := by decide +kernel
theorem dX8_load_54 : decode cX8_load 54 = .ok (.getfield 67, 3) := by decide +kernel
theorem dX8_load_57 : decode cX8_load 57 = .ok (.getfield 74, 3) := by decide +kernel
theorem dX8_load_60 : decode cX8_load 60 = .ok (.ireturn, 1) := by decide +kernel
theorem dX8_setSpeed_0 : decode cX8_setSpeed 0 = .ok (.iload_n 1, 1) := by decide +kernel
theorem dX8_setSpeed_1 : decode cX8_setSpeed 1 = .ok (.invokestatic 99, 3) := by decide +kernel
theorem dX8_setSpeed_4 : decode cX8_setSpeed 4 = .ok (.ifCond .eq 16, 3) := by decide +kernel
theorem dX8_setSpeed_7 : decode cX8_setSpeed 7 = .ok (.iload_n 2, 1) := by decide +kernel
theorem dX8_setSpeed_8 : decode cX8_setSpeed 8 = .ok (.sipush (-1000), 3) := by decide +kernel
theorem dX8_setSpeed_11 : decode cX8_setSpeed 11 = .ok (.sipush 1000, 3) := by decide +kernel
theorem dX8_setSpeed_14 : decode cX8_setSpeed 14 = .ok (.invokestatic 44, 3) := by decide +kernel
theorem dX8_setSpeed_17 : decode cX8_setSpeed 17 = .ok (.ifCond .ne 7, 3) := by decide +kernel
theorem dX8_setSpeed_20 : decode cX8_setSpeed 20 = .ok (.sipush (-1001), 3) := by decide +kernel
theorem dX8_setSpeed_23 : decode cX8_setSpeed 23 = .ok (.ireturn, 1) := by decide +kernel
theorem dX8_setSpeed_24 : decode cX8_setSpeed 24 = .ok (.aload_n 0, 1) := by decide +kernel
theorem dX8_setSpeed_25 : decode cX8_setSpeed 25 = .ok (.getfield 10, 3) := by decide +kernel
theorem dX8_setSpeed_28 : decode cX8_setSpeed 28 = .ok (.getfield 67, 3) := by decide +kernel
theorem dX8_setSpeed_31 : decode cX8_setSpeed 31 = .ok (.iload_n 1, 1) := by decide +kernel
theorem dX8_setSpeed_32 : decode cX8_setSpeed 32 = .ok (.invokevirtual 102, 3) := by decide +kernel
theorem dX8_setSpeed_35 : decode cX8_setSpeed 35 = .ok (.ifCond .ne 7, 3) := by decide +kernel
theorem dX8_setSpeed_38 : decode cX8_setSpeed 38 = .ok (.sipush (-1003), 3) := by decide +kernel
theorem dX8_setSpeed_41 : decode cX8_setSpeed 41 = .ok (.ireturn, 1) := by decide +kernel
theorem dX8_setSpeed_42 : decode cX8_setSpeed 42 = .ok (.aload_n 0, 1) := by decide +kernel
theorem dX8_setSpeed_43 : decode cX8_setSpeed 43 = .ok (.getfield 19, 3) := by decide +kernel
theorem dX8_setSpeed_46 : decode cX8_setSpeed 46 = .ok (.aload_n 0, 1) := by decide +kernel
theorem dX8_setSpeed_47 : decode cX8_setSpeed 47 = .ok (.getfield 10, 3) := by decide +kernel
theorem dX8_setSpeed_50 : decode cX8_setSpeed 50 = .ok (.invokevirtual 63, 3) := by decide +kernel
theorem dX8_setSpeed_53 : decode cX8_setSpeed 53 = .ok (.aload_n 0, 1) := by decide +kernel
theorem dX8_setSpeed_54 : decode cX8_setSpeed 54 = .ok (.getfield 10, 3) := by decide +kernel
theorem dX8_setSpeed_57 : decode cX8_setSpeed 57 = .ok (.getfield 67, 3) := by decide +kernel
theorem dX8_setSpeed_60 : decode cX8_setSpeed 60 = .ok (.iload_n 1, 1) := by decide +kernel
theorem dX8_setSpeed_61 : decode cX8_setSpeed 61 = .ok (.iload_n 2, 1) := by decide +kernel
theorem dX8_setSpeed_62 : decode cX8_setSpeed 62 = .ok (.invokevirtual 105, 3) := by decide +kernel
theorem dX8_setSpeed_65 : decode cX8_setSpeed 65 = .ok (.aload_n 0, 1) := by decide +kernel
theorem dX8_setSpeed_66 : decode cX8_setSpeed 66 = .ok (.getfield 10, 3) := by decide +kernel
theorem dX8_setSpeed_69 : decode cX8_setSpeed 69 = .ok (.getfield 67, 3) := by decide +kernel
theorem dX8_setSpeed_72 : decode cX8_setSpeed 72 = .ok (.getfield 109, 3) := by decide +kernel
theorem dX8_setSpeed_75 : decode cX8_setSpeed 75 = .ok (.ireturn, 1) := by decide +kernel
theorem dX8_markAt_0 : decode cX8_markAt 0 = .ok (.iload_n 1, 1) := by decide +kernel
theorem dX8_markAt_1 : decode cX8_markAt 1 = .ok (.invokestatic 99, 3) := by decide +kernel
theorem dX8_markAt_4 : decode cX8_markAt 4 = .ok (.ifCond .eq 11, 3) := by decide +kernel
theorem dX8_markAt_7 : decode cX8_markAt 7 = .ok (.aload_n 0, 1) := by decide +kernel
theorem dX8_markAt_8 : decode cX8_markAt 8 = .ok (.iload_n 2, 1) := by decide +kernel
theorem dX8_markAt_9 : decode cX8_markAt 9 = .ok (.invokevirtual 80, 3) := by decide +kernel
theorem dX8_markAt_12 : decode cX8_markAt 12 = .ok (.ifCond .ne 7, 3) := by decide +kernel
theorem dX8_markAt_15 : decode cX8_markAt 15 = .ok (.sipush (-1001), 3) := by decide +kernel
theorem dX8_markAt_18 : decode cX8_markAt 18 = .ok (.ireturn, 1) := by decide +kernel
theorem dX8_markAt_19 : decode cX8_markAt 19 = .ok (.aload_n 0, 1) := by decide +kernel
theorem dX8_markAt_20 : decode cX8_markAt 20 = .ok (.getfield 10, 3) := by decide +kernel
theorem dX8_markAt_23 : decode cX8_markAt 23 = .ok (.getfield 67, 3) := by decide +kernel
theorem dX8_markAt_26 : decode cX8_markAt 26 = .ok (.iload_n 2, 1) := by decide +kernel
theorem dX8_markAt_27 : decode cX8_markAt 27 = .ok (.aload_n 0, 1) := by decide +kernel
theorem dX8_markAt_28 : decode cX8_markAt 28 = .ok (.getfield 10, 3) := by decide +kernel
theorem dX8_markAt_31 : decode cX8_markAt 31 = .ok (.getfield 67, 3) := by decide +kernel
theorem dX8_markAt_34 : decode cX8_markAt 34 = .ok (.iload_n 1, 1) := by decide +kernel
theorem dX8_markAt_35 : decode cX8_markAt 35 = .ok (.invokevirtual 118, 3) := by decide +kernel
theorem dX8_markAt_38 : decode cX8_markAt 38 = .ok (.isub, 1) := by decide +kernel
theorem dX8_markAt_39 : decode cX8_markAt 39 = .ok (.aload_n 0, 1) := by decide +kernel
theorem dX8_markAt_40 : decode cX8_markAt 40 = .ok (.getfield 10, 3) := by decide +kernel
theorem dX8_markAt_43 : decode cX8_markAt 43 = .ok (.getfield 67, 3) := by decide +kernel
theorem dX8_markAt_46 : decode cX8_markAt 46 = .ok (.getfield 74, 3) := by decide +kernel
theorem dX8_markAt_49 : decode cX8_markAt 49 = .ok (.invokestatic 121, 3) := by decide +kernel
theorem dX8_markAt_52 : decode cX8_markAt 52 = .ok (.invokevirtual 84, 3) := by decide +kernel
theorem dX8_markAt_55 : decode cX8_markAt 55 = .ok (.ireturn, 1) := by decide +kernel
theorem dX8_turn_0 : decode cX8_turn 0 = .ok (.iload_n 1, 1) := by decide +kernel
theorem dX8_turn_1 : decode cX8_turn 1 = .ok (.invokestatic 99, 3) := by decide +kernel
theorem dX8_turn_4 : decode cX8_turn 4 = .ok (.ifCond .ne 7, 3) := by decide +kernel
theorem dX8_turn_7 : decode cX8_turn 7 = .ok (.sipush (-1001), 3) := by decide +kernel
theorem dX8_turn_10 : decode cX8_turn 10 = .ok (.ireturn, 1) := by decide +kernel
theorem dX8_turn_11 : decode cX8_turn 11 = .ok (.aload_n 0, 1) := by decide +kernel
theorem dX8_turn_12 : decode cX8_turn 12 = .ok (.getfield 10, 3) := by decide +kernel
theorem dX8_turn_15 : decode cX8_turn 15 = .ok (.getfield 67, 3) := by decide +kernel
theorem dX8_turn_18 : decode cX8_turn 18 = .ok (.iload_n 1, 1) := by decide +kernel
theorem dX8_turn_19 : decode cX8_turn 19 = .ok (.invokevirtual 118, 3) := by decide +kernel
theorem dX8_turn_22 : decode cX8_turn 22 = .ok (.aload_n 0, 1) := by decide +kernel
theorem dX8_turn_23 : decode cX8_turn 23 = .ok (.getfield 10, 3) := by decide +kernel
theorem dX8_turn_26 : decode cX8_turn 26 = .ok (.getfield 67, 3) := by decide +kernel
theorem dX8_turn_29 : decode cX8_turn 29 = .ok (.getfield 74, 3) := by decide +kernel
theorem dX8_turn_32 : decode cX8_turn 32 = .ok (.invokestatic 121, 3) := by decide +kernel
theorem dX8_turn_35 : decode cX8_turn 35 = .ok (.ireturn, 1) := by decide +kernel
theorem dX8_setFlash_0 : decode cX8_setFlash 0 = .ok (.iload_n 1, 1) := by decide +kernel
theorem dX8_setFlash_1 : decode cX8_setFlash 1 = .ok (.invokestatic 99, 3) := by decide +kernel
theorem dX8_setFlash_4 : decode cX8_setFlash 4 = .ok (.ifCond .eq 14, 3) := by decide +kernel
theorem dX8_setFlash_7 : decode cX8_setFlash 7 = .ok (.iload_n 2, 1) := by decide +kernel
theorem dX8_setFlash_8 : decode cX8_setFlash 8 = .ok (.iconst 1, 1) := by decide +kernel
theorem dX8_setFlash_9 : decode cX8_setFlash 9 = .ok (.sipush 500, 3) := by decide +kernel
theorem dX8_setFlash_12 : decode cX8_setFlash 12 = .ok (.invokestatic 44, 3) := by decide +kernel
theorem dX8_setFlash_15 : decode cX8_setFlash 15 = .ok (.ifCond .ne 7, 3) := by decide +kernel
theorem dX8_setFlash_18 : decode cX8_setFlash 18 = .ok (.sipush (-1001), 3) := by decide +kernel
theorem dX8_setFlash_21 : decode cX8_setFlash 21 = .ok (.ireturn, 1) := by decide +kernel
theorem dX8_setFlash_22 : decode cX8_setFlash 22 = .ok (.aload_n 0, 1) := by decide +kernel
theorem dX8_setFlash_23 : decode cX8_setFlash 23 = .ok (.getfield 19, 3) := by decide +kernel
theorem dX8_setFlash_26 : decode cX8_setFlash 26 = .ok (.aload_n 0, 1) := by decide +kernel
theorem dX8_setFlash_27 : decode cX8_setFlash 27 = .ok (.getfield 10, 3) := by decide +kernel
theorem dX8_setFlash_30 : decode cX8_setFlash 30 = .ok (.invokevirtual 63, 3) := by decide +kernel
theorem dX8_setFlash_33 : decode cX8_setFlash 33 = .ok (.aload_n 0, 1) := by decide +kernel
theorem dX8_setFlash_34 : decode cX8_setFlash 34 = .ok (.getfield 10, 3) := by decide +kernel
theorem dX8_setFlash_37 : decode cX8_setFlash 37 = .ok (.getfield 125, 3) := by decide +kernel
theorem dX8_setFlash_40 : decode cX8_setFlash 40 = .ok (.iload_n 1, 1) := by decide +kernel
theorem dX8_setFlash_41 : decode cX8_setFlash 41 = .ok (.putfield 129, 3) := by decide +kernel
theorem dX8_setFlash_44 : decode cX8_setFlash 44 = .ok (.aload_n 0, 1) := by decide +kernel
theorem dX8_setFlash_45 : decode cX8_setFlash 45 = .ok (.getfield 10, 3) := by decide +kernel
theorem dX8_setFlash_48 : decode cX8_setFlash 48 = .ok (.getfield 125, 3) := by decide +kernel
theorem dX8_setFlash_51 : decode cX8_setFlash 51 = .ok (.iload_n 2, 1) := by decide +kernel
theorem dX8_setFlash_52 : decode cX8_setFlash 52 = .ok (.putfield 134, 3) := by decide +kernel
theorem dX8_setFlash_55 : decode cX8_setFlash 55 = .ok (.aload_n 0, 1) := by decide +kernel
theorem dX8_setFlash_56 : decode cX8_setFlash 56 = .ok (.getfield 10, 3) := by decide +kernel
theorem dX8_setFlash_59 : decode cX8_setFlash 59 = .ok (.getfield 125, 3) := by decide +kernel
theorem dX8_setFlash_62 : decode cX8_setFlash 62 = .ok (.invokevirtual 137, 3) := by decide +kernel
theorem dX8_setFlash_65 : decode cX8_setFlash 65 = .ok (.ireturn, 1) := by decide +kernel
theorem dX8_flash_0 : decode cX8_flash 0 = .ok (.aload_n 0, 1) := by decide +kernel
theorem dX8_flash_1 : decode cX8_flash 1 = .ok (.iload_n 1, 1) := by decide +kernel
theorem dX8_flash_2 : decode cX8_flash 2 = .ok (.invokevirtual 141, 3) := by decide +kernel
theorem dX8_flash_5 : decode cX8_flash 5 = .ok (.ifCond .eq 12, 3) := by decide +kernel
theorem dX8_flash_8 : decode cX8_flash 8 = .ok (.iload_n 2, 1) := by decide +kernel
theorem dX8_flash_9 : decode cX8_flash 9 = .ok (.iconst 0, 1) := by decide +kernel
theorem dX8_flash_10 : decode cX8_flash 10 = .ok (.iconst 3, 1) := by decide +kernel
theorem dX8_flash_11 : decode cX8_flash 11 = .ok (.invokestatic 44, 3) := by decide +kernel
theorem dX8_flash_14 : decode cX8_flash 14 = .ok (.ifCond .ne 7, 3) := by decide +kernel
theorem dX8_flash_17 : decode cX8_flash 17 = .ok (.sipush (-1001), 3) := by decide +kernel
theorem dX8_flash_20 : decode cX8_flash 20 = .ok (.ireturn, 1) := by decide +kernel
theorem dX8_flash_21 : decode cX8_flash 21 = .ok (.aload_n 0, 1) := by decide +kernel
theorem dX8_flash_22 : decode cX8_flash 22 = .ok (.getfield 10, 3) := by decide +kernel
theorem dX8_flash_25 : decode cX8_flash 25 = .ok (.getfield 125, 3) := by decide +kernel
theorem dX8_flash_28 : decode cX8_flash 28 = .ok (.iload_n 1, 1) := by decide +kernel
theorem dX8_flash_29 : decode cX8_flash 29 = .ok (.invokevirtual 144, 3) := by decide +kernel
theorem dX8_flash_32 : decode cX8_flash 32 = .ok (.istore_n 3, 1) := by decide +kernel
theorem dX8_flash_33 : decode cX8_flash 33 = .ok (.iload_n 2, 1) := by decide +kernel
theorem dX8_flash_34 : decode cX8_flash 34 = .ok (.tableswitch 69 0 2 #[26, 28, 34], 26) := by decide +kernel
theorem dX8_flash_60 : decode cX8_flash 60 = .ok (.iload_n 3, 1) := by decide +kernel
theorem dX8_flash_61 : decode cX8_flash 61 = .ok (.ireturn, 1) := by decide +kernel
theorem dX8_flash_62 : decode cX8_flash 62 = .ok (.aload_n 0, 1) := by decide +kernel
theorem dX8_flash_63 : decode cX8_flash 63 = .ok (.iload_n 3, 1) := by decide +kernel
theorem dX8_flash_64 : decode cX8_flash 64 = .ok (.invokevirtual 147, 3) := by decide +kernel
theorem dX8_flash_67 : decode cX8_flash 67 = .ok (.ireturn, 1) := by decide +kernel
theorem dX8_flash_68 : decode cX8_flash 68 = .ok (.aload_n 0, 1) := by decide +kernel
theorem dX8_flash_69 : decode cX8_flash 69 = .ok (.iload_n 1, 1) := by decide +kernel
theorem dX8_flash_70 : decode cX8_flash 70 = .ok (.iconst 1, 1) := by decide +kernel
theorem dX8_flash_71 : decode cX8_flash 71 = .ok (.iadd, 1) := by decide +kernel
theorem dX8_flash_72 : decode cX8_flash 72 = .ok (.invokevirtual 141, 3) := by decide +kernel
theorem dX8_flash_75 : decode cX8_flash 75 = .ok (.ifCond .eq 24, 3) := by decide +kernel
theorem dX8_flash_78 : decode cX8_flash 78 = .ok (.aload_n 0, 1) := by decide +kernel
theorem dX8_flash_79 : decode cX8_flash 79 = .ok (.iload_n 3, 1) := by decide +kernel
theorem dX8_flash_80 : decode cX8_flash 80 = .ok (.aload_n 0, 1) := by decide +kernel
theorem dX8_flash_81 : decode cX8_flash 81 = .ok (.getfield 10, 3) := by decide +kernel
theorem dX8_flash_84 : decode cX8_flash 84 = .ok (.getfield 125, 3) := by decide +kernel
theorem dX8_flash_87 : decode cX8_flash 87 = .ok (.iload_n 1, 1) := by decide +kernel
theorem dX8_flash_88 : decode cX8_flash 88 = .ok (.iconst 1, 1) := by decide +kernel
theorem dX8_flash_89 : decode cX8_flash 89 = .ok (.iadd, 1) := by decide +kernel
theorem dX8_flash_90 : decode cX8_flash 90 = .ok (.invokevirtual 144, 3) := by decide +kernel
theorem dX8_flash_93 : decode cX8_flash 93 = .ok (.invokevirtual 150, 3) := by decide +kernel
theorem dX8_flash_96 : decode cX8_flash 96 = .ok (.goto 6, 3) := by decide +kernel
theorem dX8_flash_99 : decode cX8_flash 99 = .ok (.sipush (-1004), 3) := by decide +kernel
theorem dX8_flash_102 : decode cX8_flash 102 = .ok (.ireturn, 1) := by decide +kernel
theorem dX8_flash_103 : decode cX8_flash 103 = .ok (.aload_n 0, 1) := by decide +kernel
theorem dX8_flash_104 : decode cX8_flash 104 = .ok (.getfield 10, 3) := by decide +kernel
theorem dX8_flash_107 : decode cX8_flash 107 = .ok (.iload_n 1, 1) := by decide +kernel
theorem dX8_flash_108 : decode cX8_flash 108 = .ok (.invokevirtual 153, 3) := by decide +kernel
theorem dX8_flash_111 : decode cX8_flash 111 = .ok (.ireturn, 1) := by decide +kernel
theorem dX8_step_0 : decode cX8_step 0 = .ok (.iload_n 1, 1) := by decide +kernel
theorem dX8_step_1 : decode cX8_step 1 = .ok (.invokestatic 99, 3) := by decide +kernel
theorem dX8_step_4 : decode cX8_step 4 = .ok (.ifCond .eq 10, 3) := by decide +kernel
theorem dX8_step_7 : decode cX8_step 7 = .ok (.iload_n 2, 1) := by decide +kernel
theorem dX8_step_8 : decode cX8_step 8 = .ok (.invokestatic 99, 3) := by decide +kernel
theorem dX8_step_11 : decode cX8_step 11 = .ok (.ifCond .ne 7, 3) := by decide +kernel
theorem dX8_step_14 : decode cX8_step 14 = .ok (.sipush (-1001), 3) := by decide +kernel
theorem dX8_step_17 : decode cX8_step 17 = .ok (.ireturn, 1) := by decide +kernel
theorem dX8_step_18 : decode cX8_step 18 = .ok (.aload_n 0, 1) := by decide +kernel
theorem dX8_step_19 : decode cX8_step 19 = .ok (.getfield 10, 3) := by decide +kernel
theorem dX8_step_22 : decode cX8_step 22 = .ok (.getfield 67, 3) := by decide +kernel
theorem dX8_step_25 : decode cX8_step 25 = .ok (.iload_n 1, 1) := by decide +kernel
theorem dX8_step_26 : decode cX8_step 26 = .ok (.iload_n 2, 1) := by decide +kernel
theorem dX8_step_27 : decode cX8_step 27 = .ok (.aload_n 0, 1) := by decide +kernel
theorem dX8_step_28 : decode cX8_step 28 = .ok (.getfield 10, 3) := by decide +kernel
