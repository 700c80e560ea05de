theorem dX8_beginBlock_34 : decode cX8_beginBlock 34 = .ok (.i2l, 1) := by decide +kernel
theorem dX8_beginBlock_35 : decode cX8_beginBlock 35 = .ok (.lneg, 1) := by decide +kernel
theorem dX8_beginBlock_36 : decode cX8_beginBlock 36 = .ok (.lastore, 1) := by decide +kernel
theorem dX8_beginBlock_37 : decode cX8_beginBlock 37 = .ok (.aload_n 0, 1) := by decide +kernel
theorem dX8_beginBlock_38 : decode cX8_beginBlock 38 = .ok (.getfield 11, 3) := by decide +kernel
theorem dX8_beginBlock_41 : decode cX8_beginBlock 41 = .ok (.bipush 6, 2) := by decide +kernel
theorem dX8_beginBlock_43 : decode cX8_beginBlock 43 = .ok (.iload_n 2, 1) := by decide +kernel
theorem dX8_beginBlock_44 : decode cX8_beginBlock 44 = .ok (.iadd, 1) := by decide +kernel
theorem dX8_beginBlock_45 : decode cX8_beginBlock 45 = .ok (.getstatic 15, 3) := by decide +kernel
theorem dX8_beginBlock_48 : decode cX8_beginBlock 48 = .ok (.iload_n 2, 1) := by decide +kernel
theorem dX8_beginBlock_49 : decode cX8_beginBlock 49 = .ok (.laload, 1) := by decide +kernel
theorem dX8_beginBlock_50 : decode cX8_beginBlock 50 = .ok (.lastore, 1) := by decide +kernel
theorem dX8_beginBlock_51 : decode cX8_beginBlock 51 = .ok (.aload_n 0, 1) := by decide +kernel
theorem dX8_beginBlock_52 : decode cX8_beginBlock 52 = .ok (.getfield 11, 3) := by decide +kernel
theorem dX8_beginBlock_55 : decode cX8_beginBlock 55 = .ok (.bipush 9, 2) := by decide +kernel
theorem dX8_beginBlock_57 : decode cX8_beginBlock 57 = .ok (.iload_n 2, 1) := by decide +kernel
theorem dX8_beginBlock_58 : decode cX8_beginBlock 58 = .ok (.iadd, 1) := by decide +kernel
theorem dX8_beginBlock_59 : decode cX8_beginBlock 59 = .ok (.getstatic 18, 3) := by decide +kernel
theorem dX8_beginBlock_62 : decode cX8_beginBlock 62 = .ok (.iload_n 2, 1) := by decide +kernel
theorem dX8_beginBlock_63 : decode cX8_beginBlock 63 = .ok (.laload, 1) := by decide +kernel
theorem dX8_beginBlock_64 : decode cX8_beginBlock 64 = .ok (.lastore, 1) := by decide +kernel
theorem dX8_beginBlock_65 : decode cX8_beginBlock 65 = .ok (.iinc 2 1, 3) := by decide +kernel
theorem dX8_beginBlock_68 : decode cX8_beginBlock 68 = .ok (.goto (-66), 3) := by decide +kernel
theorem dX8_beginBlock_71 : decode cX8_beginBlock 71 = .ok (.return_, 1) := by decide +kernel
theorem dX8_beginPairs_0 : decode cX8_beginPairs 0 = .ok (.iconst 0, 1) := by decide +kernel
theorem dX8_beginPairs_1 : decode cX8_beginPairs 1 = .ok (.istore_n 1, 1) := by decide +kernel
theorem dX8_beginPairs_2 : decode cX8_beginPairs 2 = .ok (.iload_n 1, 1) := by decide +kernel
theorem dX8_beginPairs_3 : decode cX8_beginPairs 3 = .ok (.iconst 3, 1) := by decide +kernel
theorem dX8_beginPairs_4 : decode cX8_beginPairs 4 = .ok (.if_icmp .ge 53, 3) := by decide +kernel
theorem dX8_beginPairs_7 : decode cX8_beginPairs 7 = .ok (.aload_n 0, 1) := by decide +kernel
theorem dX8_beginPairs_8 : decode cX8_beginPairs 8 = .ok (.getfield 11, 3) := by decide +kernel
theorem dX8_beginPairs_11 : decode cX8_beginPairs 11 = .ok (.iload_n 1, 1) := by decide +kernel
theorem dX8_beginPairs_12 : decode cX8_beginPairs 12 = .ok (.getstatic 15, 3) := by decide +kernel
theorem dX8_beginPairs_15 : decode cX8_beginPairs 15 = .ok (.iload_n 1, 1) := by decide +kernel
theorem dX8_beginPairs_16 : decode cX8_beginPairs 16 = .ok (.laload, 1) := by decide +kernel
theorem dX8_beginPairs_17 : decode cX8_beginPairs 17 = .ok (.lastore, 1) := by decide +kernel
theorem dX8_beginPairs_18 : decode cX8_beginPairs 18 = .ok (.aload_n 0, 1) := by decide +kernel
theorem dX8_beginPairs_19 : decode cX8_beginPairs 19 = .ok (.getfield 11, 3) := by decide +kernel
theorem dX8_beginPairs_22 : decode cX8_beginPairs 22 = .ok (.iconst 3, 1) := by decide +kernel
theorem dX8_beginPairs_23 : decode cX8_beginPairs 23 = .ok (.iload_n 1, 1) := by decide +kernel
theorem dX8_beginPairs_24 : decode cX8_beginPairs 24 = .ok (.iadd, 1) := by decide +kernel
theorem dX8_beginPairs_25 : decode cX8_beginPairs 25 = .ok (.getstatic 18, 3) := by decide +kernel
theorem dX8_beginPairs_28 : decode cX8_beginPairs 28 = .ok (.iload_n 1, 1) := by decide +kernel
theorem dX8_beginPairs_29 : decode cX8_beginPairs 29 = .ok (.laload, 1) := by decide +kernel
theorem dX8_beginPairs_30 : decode cX8_beginPairs 30 = .ok (.lastore, 1) := by decide +kernel
theorem dX8_beginPairs_31 : decode cX8_beginPairs 31 = .ok (.aload_n 0, 1) := by decide +kernel
theorem dX8_beginPairs_32 : decode cX8_beginPairs 32 = .ok (.getfield 11, 3) := by decide +kernel
theorem dX8_beginPairs_35 : decode cX8_beginPairs 35 = .ok (.bipush 6, 2) := by decide +kernel
theorem dX8_beginPairs_37 : decode cX8_beginPairs 37 = .ok (.iload_n 1, 1) := by decide +kernel
theorem dX8_beginPairs_38 : decode cX8_beginPairs 38 = .ok (.iadd, 1) := by decide +kernel
theorem dX8_beginPairs_39 : decode cX8_beginPairs 39 = .ok (.lconst 0, 1) := by decide +kernel
theorem dX8_beginPairs_40 : decode cX8_beginPairs 40 = .ok (.lastore, 1) := by decide +kernel
theorem dX8_beginPairs_41 : decode cX8_beginPairs 41 = .ok (.aload_n 0, 1) := by decide +kernel
theorem dX8_beginPairs_42 : decode cX8_beginPairs 42 = .ok (.getfield 11, 3) := by decide +kernel
theorem dX8_beginPairs_45 : decode cX8_beginPairs 45 = .ok (.bipush 9, 2) := by decide +kernel
theorem dX8_beginPairs_47 : decode cX8_beginPairs 47 = .ok (.iload_n 1, 1) := by decide +kernel
theorem dX8_beginPairs_48 : decode cX8_beginPairs 48 = .ok (.iadd, 1) := by decide +kernel
theorem dX8_beginPairs_49 : decode cX8_beginPairs 49 = .ok (.lconst 0, 1) := by decide +kernel
theorem dX8_beginPairs_50 : decode cX8_beginPairs 50 = .ok (.lastore, 1) := by decide +kernel
theorem dX8_beginPairs_51 : decode cX8_beginPairs 51 = .ok (.iinc 1 1, 3) := by decide +kernel
theorem dX8_beginPairs_54 : decode cX8_beginPairs 54 = .ok (.goto (-52), 3) := by decide +kernel
theorem dX8_beginPairs_57 : decode cX8_beginPairs 57 = .ok (.return_, 1) := by decide +kernel
theorem dX8_copyFrom_0 : decode cX8_copyFrom 0 = .ok (.aload_n 1, 1) := by decide +kernel
theorem dX8_copyFrom_1 : decode cX8_copyFrom 1 = .ok (.getfield 11, 3) := by decide +kernel
theorem dX8_copyFrom_4 : decode cX8_copyFrom 4 = .ok (.iconst 0, 1) := by decide +kernel
theorem dX8_copyFrom_5 : decode cX8_copyFrom 5 = .ok (.aload_n 0, 1) := by decide +kernel
theorem dX8_copyFrom_6 : decode cX8_copyFrom 6 = .ok (.getfield 11, 3) := by decide +kernel
theorem dX8_copyFrom_9 : decode cX8_copyFrom 9 = .ok (.iconst 0, 1) := by decide +kernel
theorem dX8_copyFrom_10 : decode cX8_copyFrom 10 = .ok (.aload_n 0, 1) := by decide +kernel
theorem dX8_copyFrom_11 : decode cX8_copyFrom 11 = .ok (.getfield 11, 3) := by decide +kernel
theorem dX8_copyFrom_14 : decode cX8_copyFrom 14 = .ok (.arraylength, 1) := by decide +kernel
theorem dX8_copyFrom_15 : decode cX8_copyFrom 15 = .ok (.invokestatic 21, 3) := by decide +kernel
theorem dX8_copyFrom_18 : decode cX8_copyFrom 18 = .ok (.return_, 1) := by decide +kernel
theorem dX8_perform_0 : decode cX8_perform 0 = .ok (.iconst 0, 1) := by decide +kernel
theorem dX8_perform_1 : decode cX8_perform 1 = .ok (.istore_n 2, 1) := by decide +kernel
theorem dX8_perform_2 : decode cX8_perform 2 = .ok (.iload_n 2, 1) := by decide +kernel
theorem dX8_perform_3 : decode cX8_perform 3 = .ok (.aload_n 1, 1) := by decide +kernel
theorem dX8_perform_4 : decode cX8_perform 4 = .ok (.getfield 27, 3) := by decide +kernel
theorem dX8_perform_7 : decode cX8_perform 7 = .ok (.if_icmp .ge 41, 3) := by decide +kernel
theorem dX8_perform_10 : decode cX8_perform 10 = .ok (.aload_n 0, 1) := by decide +kernel
theorem dX8_perform_11 : decode cX8_perform 11 = .ok (.aload_n 1, 1) := by decide +kernel
theorem dX8_perform_12 : decode cX8_perform 12 = .ok (.iload_n 2, 1) := by decide +kernel
theorem dX8_perform_13 : decode cX8_perform 13 = .ok (.iconst 1, 1) := by decide +kernel
theorem dX8_perform_14 : decode cX8_perform 14 = .ok (.invokevirtual 33, 3) := by decide +kernel
theorem dX8_perform_17 : decode cX8_perform 17 = .ok (.aload_n 1, 1) := by decide +kernel
theorem dX8_perform_18 : decode cX8_perform 18 = .ok (.iload_n 2, 1) := by decide +kernel
theorem dX8_perform_19 : decode cX8_perform 19 = .ok (.iconst 2, 1) := by decide +kernel
theorem dX8_perform_20 : decode cX8_perform 20 = .ok (.invokevirtual 33, 3) := by decide +kernel
theorem dX8_perform_23 : decode cX8_perform 23 = .ok (.aload_n 1, 1) := by decide +kernel
theorem dX8_perform_24 : decode cX8_perform 24 = .ok (.iload_n 2, 1) := by decide +kernel
theorem dX8_perform_25 : decode cX8_perform 25 = .ok (.iconst 3, 1) := by decide +kernel
theorem dX8_perform_26 : decode cX8_perform 26 = .ok (.invokevirtual 33, 3) := by decide +kernel
theorem dX8_perform_29 : decode cX8_perform 29 = .ok (.invokevirtual 37, 3) := by decide +kernel
theorem dX8_perform_32 : decode cX8_perform 32 = .ok (.aload_n 0, 1) := by decide +kernel
theorem dX8_perform_33 : decode cX8_perform 33 = .ok (.aload_n 1, 1) := by decide +kernel
theorem dX8_perform_34 : decode cX8_perform 34 = .ok (.iload_n 2, 1) := by decide +kernel
theorem dX8_perform_35 : decode cX8_perform 35 = .ok (.invokevirtual 41, 3) := by decide +kernel
theorem dX8_perform_38 : decode cX8_perform 38 = .ok (.aload_n 0, 1) := by decide +kernel
theorem dX8_perform_39 : decode cX8_perform 39 = .ok (.invokevirtual 45, 3) := by decide +kernel
theorem dX8_perform_42 : decode cX8_perform 42 = .ok (.iinc 2 1, 3) := by decide +kernel
theorem dX8_perform_45 : decode cX8_perform 45 = .ok (.goto (-43), 3) := by decide +kernel
theorem dX8_perform_48 : decode cX8_perform 48 = .ok (.return_, 1) := by decide +kernel
theorem dX8_make_0 : decode cX8_make 0 = .ok (.aload_n 0, 1) := by decide +kernel
theorem dX8_make_1 : decode cX8_make 1 = .ok (.iload_n 1, 1) := by decide +kernel
theorem dX8_make_2 : decode cX8_make 2 = .ok (.aload_n 0, 1) := by decide +kernel
theorem dX8_make_3 : decode cX8_make 3 = .ok (.iload_n 2, 1) := by decide +kernel
theorem dX8_make_4 : decode cX8_make 4 = .ok (.iconst 0, 1) := by decide +kernel
theorem dX8_make_5 : decode cX8_make 5 = .ok (.invokevirtual 49, 3) := by decide +kernel
theorem dX8_make_8 : decode cX8_make 8 = .ok (.aload_n 0, 1) := by decide +kernel
theorem dX8_make_9 : decode cX8_make 9 = .ok (.iload_n 2, 1) := by decide +kernel
theorem dX8_make_10 : decode cX8_make 10 = .ok (.iconst 1, 1) := by decide +kernel
theorem dX8_make_11 : decode cX8_make 11 = .ok (.invokevirtual 49, 3) := by decide +kernel
theorem dX8_make_14 : decode cX8_make 14 = .ok (.aload_n 0, 1) := by decide +kernel
theorem dX8_make_15 : decode cX8_make 15 = .ok (.iload_n 2, 1) := by decide +kernel
theorem dX8_make_16 : decode cX8_make 16 = .ok (.iconst 2, 1) := by decide +kernel
theorem dX8_make_17 : decode cX8_make 17 = .ok (.invokevirtual 49, 3) := by decide +kernel
theorem dX8_make_20 : decode cX8_make 20 = .ok (.aload_n 0, 1) := by decide +kernel
theorem dX8_make_21 : decode cX8_make 21 = .ok (.iload_n 3, 1) := by decide +kernel
theorem dX8_make_22 : decode cX8_make 22 = .ok (.iconst 0, 1) := by decide +kernel
theorem dX8_make_23 : decode cX8_make 23 = .ok (.invokevirtual 49, 3) := by decide +kernel
theorem dX8_make_26 : decode cX8_make 26 = .ok (.aload_n 0, 1) := by decide +kernel
theorem dX8_make_27 : decode cX8_make 27 = .ok (.iload_n 3, 1) := by decide +kernel
theorem dX8_make_28 : decode cX8_make 28 = .ok (.iconst 1, 1) := by decide +kernel
theorem dX8_make_29 : decode cX8_make 29 = .ok (.invokevirtual 49, 3) := by decide +kernel
theorem dX8_make_32 : decode cX8_make 32 = .ok (.aload_n 0, 1) := by decide +kernel
theorem dX8_make_33 : decode cX8_make 33 = .ok (.iload_n 3, 1) := by decide +kernel
theorem dX8_make_34 : decode cX8_make 34 = .ok (.iconst 2, 1) := by decide +kernel
theorem dX8_make_35 : decode cX8_make 35 = .ok (.invokevirtual 49, 3) := by decide +kernel
theorem dX8_make_38 : decode cX8_make 38 = .ok (.invokevirtual 53, 3) := by decide +kernel
theorem dX8_make_41 : decode cX8_make 41 = .ok (.return_, 1) := by decide +kernel
theorem dX8_storeMade_0 : decode cX8_storeMade 0 = .ok (.aload_n 2, 1) := by decide +kernel
theorem dX8_storeMade_1 : decode cX8_storeMade 1 = .ok (.getfield 11, 3) := by decide +kernel
theorem dX8_storeMade_4 : decode cX8_storeMade 4 = .ok (.iload_n 1, 1) := by decide +kernel
theorem dX8_storeMade_5 : decode cX8_storeMade 5 = .ok (.iconst 3, 1) := by decide +kernel
theorem dX8_storeMade_6 : decode cX8_storeMade 6 = .ok (.imul, 1) := by decide +kernel
theorem dX8_storeMade_7 : decode cX8_storeMade 7 = .ok (.aload_n 0, 1) := by decide +kernel
theorem dX8_storeMade_8 : decode cX8_storeMade 8 = .ok (.getfield 57, 3) := by decide +kernel
theorem dX8_storeMade_11 : decode cX8_storeMade 11 = .ok (.lastore, 1) := by decide +kernel
theorem dX8_storeMade_12 : decode cX8_storeMade 12 = .ok (.aload_n 2, 1) := by decide +kernel
theorem dX8_storeMade_13 : decode cX8_storeMade 13 = .ok (.getfield 11, 3) := by decide +kernel
theorem dX8_storeMade_16 : decode cX8_storeMade 16 = .ok (.iload_n 1, 1) := by decide +kernel
theorem dX8_storeMade_17 : decode cX8_storeMade 17 = .ok (.iconst 3, 1) := by decide +kernel
theorem dX8_storeMade_18 : decode cX8_storeMade 18 = .ok (.imul, 1) := by decide +kernel
theorem dX8_storeMade_19 : decode cX8_storeMade 19 = .ok (.iconst 1, 1) := by decide +kernel
theorem dX8_storeMade_20 : decode cX8_storeMade 20 = .ok (.iadd, 1) := by decide +kernel
theorem dX8_storeMade_21 : decode cX8_storeMade 21 = .ok (.aload_n 0, 1) := by decide +kernel
theorem dX8_storeMade_22 : decode cX8_storeMade 22 = .ok (.getfield 61, 3) := by decide +kernel
theorem dX8_storeMade_25 : decode cX8_storeMade 25 = .ok (.lastore, 1) := by decide +kernel
theorem dX8_storeMade_26 : decode cX8_storeMade 26 = .ok (.aload_n 2, 1) := by decide +kernel
theorem dX8_storeMade_27 : decode cX8_storeMade 27 = .ok (.getfield 11, 3) := by decide +kernel
theorem dX8_storeMade_30 : decode cX8_storeMade 30 = .ok (.iload_n 1, 1) := by decide +kernel
theorem dX8_storeMade_31 : decode cX8_storeMade 31 = .ok (.iconst 3, 1) := by decide +kernel
theorem dX8_storeMade_32 : decode cX8_storeMade 32 = .ok (.imul, 1) := by decide +kernel
theorem dX8_storeMade_33 : decode cX8_storeMade 33 = .ok (.iconst 2, 1) := by decide +kernel
theorem dX8_storeMade_34 : decode cX8_storeMade 34 = .ok (.iadd, 1) := by decide +kernel
theorem dX8_storeMade_35 : decode cX8_storeMade 35 = .ok (.aload_n 0, 1) := by decide +kernel
theorem dX8_storeMade_36 : decode cX8_storeMade 36 = .ok (.getfield 64, 3) := by decide +kernel
theorem dX8_storeMade_39 : decode cX8_storeMade 39 = .ok (.lastore, 1) := by decide +kernel
theorem dX8_storeMade_40 : decode cX8_storeMade 40 = .ok (.return_, 1) := by decide +kernel
theorem dX8_hasMade_0 : decode cX8_hasMade 0 = .ok (.aload_n 2, 1) := by decide +kernel
theorem dX8_hasMade_1 : decode cX8_hasMade 1 = .ok (.getfield 11, 3) := by decide +kernel
theorem dX8_hasMade_4 : decode cX8_hasMade 4 = .ok (.iload_n 1, 1) := by decide +kernel
theorem dX8_hasMade_5 : decode cX8_hasMade 5 = .ok (.iconst 3, 1) := by decide +kernel
theorem dX8_hasMade_6 : decode cX8_hasMade 6 = .ok (.imul, 1) := by decide +kernel
theorem dX8_hasMade_7 : decode cX8_hasMade 7 = .ok (.laload, 1) := by decide +kernel
theorem dX8_hasMade_8 : decode cX8_hasMade 8 = .ok (.aload_n 0, 1) := by decide +kernel
theorem dX8_hasMade_9 : decode cX8_hasMade 9 = .ok (.getfield 57, 3) := by decide +kernel
theorem dX8_hasMade_12 : decode cX8_hasMade 12 = .ok (.lcmp, 1) := by decide +kernel
theorem dX8_hasMade_13 : decode cX8_hasMade 13 = .ok (.ifCond .ne 43, 3) := by decide +kernel
theorem dX8_hasMade_16 : decode cX8_hasMade 16 = .ok (.aload_n 2, 1) := by decide +kernel
theorem dX8_hasMade_17 : decode cX8_hasMade 17 = .ok (.getfield 11, 3) := by decide +kernel
theorem dX8_hasMade_20 : decode cX8_hasMade 20 = .ok (.iload_n 1, 1) := by decide +kernel
theorem dX8_hasMade_21 : decode cX8_hasMade 21 = .ok (.iconst 3, 1) := by decide +kernel
theorem dX8_hasMade_22 : decode cX8_hasMade 22 = .ok (.imul, 1) := by decide +kernel
theorem dX8_hasMade_23 : decode cX8_hasMade 23 = .ok (.iconst 1, 1) := by decide +kernel
theorem dX8_hasMade_24 : decode cX8_hasMade 24 = .ok (.iadd, 1) := by decide +kernel
theorem dX8_hasMade_25 : decode cX8_hasMade 25 = .ok (.laload, 1) := by decide +kernel
theorem dX8_hasMade_26 : decode cX8_hasMade 26 = .ok (.aload_n 0, 1) := by decide +kernel
theorem dX8_hasMade_27 : decode cX8_hasMade 27 = .ok (.getfield 61, 3) := by decide +kernel
theorem dX8_hasMade_30 : decode cX8_hasMade 30 = .ok (.lcmp, 1) := by decide +kernel
theorem dX8_hasMade_31 : decode cX8_hasMade 31 = .ok (.ifCond .ne 25, 3) := by decide +kernel
theorem dX8_hasMade_34 : decode cX8_hasMade 34 = .ok (.aload_n 2, 1) := by decide +kernel
theorem dX8_hasMade_35 : decode cX8_hasMade 35 = .ok (.getfield 11, 3) := by decide +kernel
theorem dX8_hasMade_38 : decode cX8_hasMade 38 = .ok (.iload_n 1, 1) := by decide +kernel
theorem dX8_hasMade_39 : decode cX8_hasMade 39 = .ok (.iconst 3, 1) := by decide +kernel
theorem dX8_hasMade_40 : decode cX8_hasMade 40 = .ok (.imul, 1) := by decide +kernel
theorem dX8_hasMade_41 : decode cX8_hasMade 41 = .ok (.iconst 2, 1) := by decide +kernel
theorem dX8_hasMade_42 : decode cX8_hasMade 42 = .ok (.iadd, 1) := by decide +kernel
theorem dX8_hasMade_43 : decode cX8_hasMade 43 = .ok (.laload, 1) := by decide +kernel
theorem dX8_hasMade_44 : decode cX8_hasMade 44 = .ok (.aload_n 0, 1) := by decide +kernel
theorem dX8_hasMade_45 : decode cX8_hasMade 45 = .ok (.getfield 64, 3) := by decide +kernel
theorem dX8_hasMade_48 : decode cX8_hasMade 48 = .ok (.lcmp, 1) := by decide +kernel
theorem dX8_hasMade_49 : decode cX8_hasMade 49 = .ok (.ifCond .ne 7, 3) := by decide +kernel
theorem dX8_hasMade_52 : decode cX8_hasMade 52 = .ok (.iconst 1, 1) := by decide +kernel
theorem dX8_hasMade_53 : decode cX8_hasMade 53 = .ok (.goto 4, 3) := by decide +kernel
theorem dX8_hasMade_56 : decode cX8_hasMade 56 = .ok (.iconst 0, 1) := by decide +kernel
theorem dX8_hasMade_57 : decode cX8_hasMade 57 = .ok (.ireturn, 1) := by decide +kernel
theorem dX8_unlikeIn_0 : decode cX8_unlikeIn 0 = .ok (.lconst 0, 1) := by decide +kernel
theorem dX8_unlikeIn_1 : decode cX8_unlikeIn 1 = .ok (.lstore_n 3, 1) := by decide +kernel
theorem dX8_unlikeIn_2 : decode cX8_unlikeIn 2 = .ok (.iload_n 1, 1) := by decide +kernel
theorem dX8_unlikeIn_3 : decode cX8_unlikeIn 3 = .ok (.iconst 3, 1) := by decide +kernel
theorem dX8_unlikeIn_4 : decode cX8_unlikeIn 4 = .ok (.imul, 1) := by decide +kernel
theorem dX8_unlikeIn_5 : decode cX8_unlikeIn 5 = .ok (.istore 5, 2) := by decide +kernel
theorem dX8_unlikeIn_7 : decode cX8_unlikeIn 7 = .ok (.iload 5, 2) := by decide +kernel
theorem dX8_unlikeIn_9 : decode cX8_unlikeIn 9 = .ok (.iload_n 1, 1) := by decide +kernel
theorem dX8_unlikeIn_10 : decode cX8_unlikeIn 10 = .ok (.iconst 3, 1) := by decide +kernel
theorem dX8_unlikeIn_11 : decode cX8_unlikeIn 11 = .ok (.imul, 1) := by decide +kernel
theorem dX8_unlikeIn_12 : decode cX8_unlikeIn 12 = .ok (.iconst 3, 1) := by decide +kernel
theorem dX8_unlikeIn_13 : decode cX8_unlikeIn 13 = .ok (.iadd, 1) := by decide +kernel
theorem dX8_unlikeIn_14 : decode cX8_unlikeIn 14 = .ok (.if_icmp .ge 27, 3) := by decide +kernel
theorem dX8_unlikeIn_17 : decode cX8_unlikeIn 17 = .ok (.lload_n 3, 1) := by decide +kernel
theorem dX8_unlikeIn_18 : decode cX8_unlikeIn 18 = .ok (.aload_n 0, 1) := by decide +kernel
theorem dX8_unlikeIn_19 : decode cX8_unlikeIn 19 = .ok (.getfield 11, 3) := by decide +kernel
theorem dX8_unlikeIn_22 : decode cX8_unlikeIn 22 = .ok (.iload 5, 2) := by decide +kernel
theorem dX8_unlikeIn_24 : decode cX8_unlikeIn 24 = .ok (.laload, 1) := by decide +kernel
theorem dX8_unlikeIn_25 : decode cX8_unlikeIn 25 = .ok (.aload_n 2, 1) := by decide +kernel
theorem dX8_unlikeIn_26 : decode cX8_unlikeIn 26 = .ok (.getfield 11, 3) := by decide +kernel
theorem dX8_unlikeIn_29 : decode cX8_unlikeIn 29 = .ok (.iload 5, 2) := by decide +kernel
theorem dX8_unlikeIn_31 : decode cX8_unlikeIn 31 = .ok (.laload, 1) := by decide +kernel
theorem dX8_unlikeIn_32 : decode cX8_unlikeIn 32 = .ok (.lxor, 1) := by decide +kernel
theorem dX8_unlikeIn_33 : decode cX8_unlikeIn 33 = .ok (.lor, 1) := by decide +kernel
theorem dX8_unlikeIn_34 : decode cX8_unlikeIn 34 = .ok (.lstore_n 3, 1) := by decide +kernel
theorem dX8_unlikeIn_35 : decode cX8_unlikeIn 35 = .ok (.iinc 5 1, 3) := by decide +kernel
theorem dX8_unlikeIn_38 : decode cX8_unlikeIn 38 = .ok (.goto (-31), 3) := by decide +kernel
theorem dX8_unlikeIn_41 : decode cX8_unlikeIn 41 = .ok (.lload_n 3, 1) := by decide +kernel
theorem dX8_unlikeIn_42 : decode cX8_unlikeIn 42 = .ok (.lreturn, 1) := by decide +kernel
theorem dX8_bit_0 : decode cX8_bit 0 = .ok (.iload_n 1, 1) := by decide +kernel
theorem dX8_bit_1 : decode cX8_bit 1 = .ok (.invokestatic 67, 3) := by decide +kernel
theorem dX8_bit_4 : decode cX8_bit 4 = .ok (.ifCond .eq 25, 3) := by decide +kernel
theorem dX8_bit_7 : decode cX8_bit 7 = .ok (.iload_n 1, 1) := by decide +kernel
theorem dX8_bit_8 : decode cX8_bit 8 = .ok (.invokestatic 71, 3) := by decide +kernel
theorem dX8_bit_11 : decode cX8_bit 11 = .ok (.ifCond .eq 16, 3) := by decide +kernel
theorem dX8_bit_14 : decode cX8_bit 14 = .ok (.iload_n 1, 1) := by decide +kernel
theorem dX8_bit_15 : decode cX8_bit 15 = .ok (.bipush 10, 2) := by decide +kernel
theorem dX8_bit_17 : decode cX8_bit 17 = .ok (.isub, 1) := by decide +kernel
theorem dX8_bit_18 : decode cX8_bit 18 = .ok (.iload_n 2, 1) := by decide +kernel
theorem dX8_bit_19 : decode cX8_bit 19 = .ok (.ishr, 1) := by decide +kernel
theorem dX8_bit_20 : decode cX8_bit 20 = .ok (.iconst 1, 1) := by decide +kernel
theorem dX8_bit_21 : decode cX8_bit 21 = .ok (.iand, 1) := by decide +kernel
theorem dX8_bit_22 : decode cX8_bit 22 = .ok (.i2l, 1) := by decide +kernel
theorem dX8_bit_23 : decode cX8_bit 23 = .ok (.lneg, 1) := by decide +kernel
theorem dX8_bit_24 : decode cX8_bit 24 = .ok (.goto 4, 3) := by decide +kernel
theorem dX8_bit_27 : decode cX8_bit 27 = .ok (.lconst 0, 1) := by decide +kernel
theorem dX8_bit_28 : decode cX8_bit 28 = .ok (.lreturn, 1) := by decide +kernel
theorem dX8_bit_29 : decode cX8_bit 29 = .ok (.aload_n 0, 1) := by decide +kernel
theorem dX8_bit_30 : decode cX8_bit 30 = .ok (.getfield 11, 3) := by decide +kernel
theorem dX8_bit_33 : decode cX8_bit 33 = .ok (.iload_n 1, 1) := by decide +kernel
theorem dX8_bit_34 : decode cX8_bit 34 = .ok (.iconst 3, 1) := by decide +kernel
theorem dX8_bit_35 : decode cX8_bit 35 = .ok (.imul, 1) := by decide +kernel
theorem dX8_bit_36 : decode cX8_bit 36 = .ok (.iload_n 2, 1) := by decide +kernel
theorem dX8_bit_37 : decode cX8_bit 37 = .ok (.iadd, 1) := by decide +kernel
theorem dX8_bit_38 : decode cX8_bit 38 = .ok (.laload, 1) := by decide +kernel
theorem dX8_bit_39 : decode cX8_bit 39 = .ok (.lreturn, 1) := by decide +kernel
theorem dX8_makeOf_0 : decode cX8_makeOf 0 = .ok (.iload_n 1, 1) := by decide +kernel
theorem dX8_makeOf_1 : decode cX8_makeOf 1 = .ok (.lookupswitch 169 #[(42, 95), (43, 43), (45, 62), (109, 151)], 43) := by decide +kernel
theorem dX8_makeOf_44 : decode cX8_makeOf 44 = .ok (.aload_n 0, 1) := by decide +kernel
theorem dX8_makeOf_45 : decode cX8_makeOf 45 = .ok (.lload_n 2, 1) := by decide +kernel
theorem dX8_makeOf_46 : decode cX8_makeOf 46 = .ok (.lload 4, 2) := by decide +kernel
theorem dX8_makeOf_48 : decode cX8_makeOf 48 = .ok (.lload 6, 2) := by decide +kernel
theorem dX8_makeOf_50 : decode cX8_makeOf 50 = .ok (.lload 8, 2) := by decide +kernel
theorem dX8_makeOf_52 : decode cX8_makeOf 52 = .ok (.lload 10, 2) := by decide +kernel
theorem dX8_makeOf_54 : decode cX8_makeOf 54 = .ok (.lload 12, 2) := by decide +kernel
theorem dX8_makeOf_56 : decode cX8_makeOf 56 = .ok (.lconst 0, 1) := by decide +kernel
theorem dX8_makeOf_57 : decode cX8_makeOf 57 = .ok (.invokevirtual 74, 3) := by decide +kernel
theorem dX8_makeOf_60 : decode cX8_makeOf 60 = .ok (.goto 127, 3) := by decide +kernel
theorem dX8_makeOf_63 : decode cX8_makeOf 63 = .ok (.aload_n 0, 1) := by decide +kernel
theorem dX8_makeOf_64 : decode cX8_makeOf 64 = .ok (.lload_n 2, 1) := by decide +kernel
theorem dX8_makeOf_65 : decode cX8_makeOf 65 = .ok (.lload 4, 2) := by decide +kernel
theorem dX8_makeOf_67 : decode cX8_makeOf 67 = .ok (.lload 6, 2) := by decide +kernel
theorem dX8_makeOf_69 : decode cX8_makeOf 69 = .ok (.lload 8, 2) := by decide +kernel
theorem dX8_makeOf_71 : decode cX8_makeOf 71 = .ok (.ldc2_w 78, 3) := by decide +kernel
theorem dX8_makeOf_74 : decode cX8_makeOf 74 = .ok (.lxor, 1) := by decide +kernel
theorem dX8_makeOf_75 : decode cX8_makeOf 75 = .ok (.lload 10, 2) := by decide +kernel
theorem dX8_makeOf_77 : decode cX8_makeOf 77 = .ok (.ldc2_w 78, 3) := by decide +kernel
theorem dX8_makeOf_80 : decode cX8_makeOf 80 = .ok (.lxor, 1) := by decide +kernel
theorem dX8_makeOf_81 : decode cX8_makeOf 81 = .ok (.lload 12, 2) := by decide +kernel
theorem dX8_makeOf_83 : decode cX8_makeOf 83 = .ok (.ldc2_w 78, 3) := by decide +kernel
theorem dX8_makeOf_86 : decode cX8_makeOf 86 = .ok (.lxor, 1) := by decide +kernel
theorem dX8_makeOf_87 : decode cX8_makeOf 87 = .ok (.ldc2_w 78, 3) := by decide +kernel
theorem dX8_makeOf_90 : decode cX8_makeOf 90 = .ok (.invokevirtual 74, 3) := by decide +kernel
theorem dX8_makeOf_93 : decode cX8_makeOf 93 = .ok (.goto 94, 3) := by decide +kernel
theorem dX8_makeOf_96 : decode cX8_makeOf 96 = .ok (.aload_n 0, 1) := by decide +kernel
theorem dX8_makeOf_97 : decode cX8_makeOf 97 = .ok (.lload_n 2, 1) := by decide +kernel
theorem dX8_makeOf_98 : decode cX8_makeOf 98 = .ok (.lload 8, 2) := by decide +kernel
theorem dX8_makeOf_100 : decode cX8_makeOf 100 = .ok (.land, 1) := by decide +kernel
theorem dX8_makeOf_101 : decode cX8_makeOf 101 = .ok (.putfield 57, 3) := by decide +kernel
theorem dX8_makeOf_104 : decode cX8_makeOf 104 = .ok (.aload_n 0, 1) := by decide +kernel
theorem dX8_makeOf_105 : decode cX8_makeOf 105 = .ok (.lload 4, 2) := by decide +kernel
theorem dX8_makeOf_107 : decode cX8_makeOf 107 = .ok (.lload 8, 2) := by decide +kernel
theorem dX8_makeOf_109 : decode cX8_makeOf 109 = .ok (.land, 1) := by decide +kernel
theorem dX8_makeOf_110 : decode cX8_makeOf 110 = .ok (.lload_n 2, 1) := by decide +kernel
theorem dX8_makeOf_111 : decode cX8_makeOf 111 = .ok (.lload 10, 2) := by decide +kernel
theorem dX8_makeOf_113 : decode cX8_makeOf 113 = .ok (.land, 1) := by decide +kernel
theorem dX8_makeOf_114 : decode cX8_makeOf 114 = .ok (.lxor, 1) := by decide +kernel
theorem dX8_makeOf_115 : decode cX8_makeOf 115 = .ok (.putfield 61, 3) := by decide +kernel
theorem dX8_makeOf_118 : decode cX8_makeOf 118 = .ok (.aload_n 0, 1) := by decide +kernel
theorem dX8_makeOf_119 : decode cX8_makeOf 119 = .ok (.lload 6, 2) := by decide +kernel
theorem dX8_makeOf_121 : decode cX8_makeOf 121 = .ok (.lload 8, 2) := by decide +kernel
theorem dX8_makeOf_123 : decode cX8_makeOf 123 = .ok (.land, 1) := by decide +kernel
theorem dX8_makeOf_124 : decode cX8_makeOf 124 = .ok (.lload 4, 2) := by decide +kernel
theorem dX8_makeOf_126 : decode cX8_makeOf 126 = .ok (.lload 10, 2) := by decide +kernel
theorem dX8_makeOf_128 : decode cX8_makeOf 128 = .ok (.land, 1) := by decide +kernel
theorem dX8_makeOf_129 : decode cX8_makeOf 129 = .ok (.lxor, 1) := by decide +kernel
theorem dX8_makeOf_130 : decode cX8_makeOf 130 = .ok (.lload_n 2, 1) := by decide +kernel
theorem dX8_makeOf_131 : decode cX8_makeOf 131 = .ok (.lload 12, 2) := by decide +kernel
theorem dX8_makeOf_133 : decode cX8_makeOf 133 = .ok (.land, 1) := by decide +kernel
theorem dX8_makeOf_134 : decode cX8_makeOf 134 = .ok (.lxor, 1) := by decide +kernel
theorem dX8_makeOf_135 : decode cX8_makeOf 135 = .ok (.lload 4, 2) := by decide +kernel
theorem dX8_makeOf_137 : decode cX8_makeOf 137 = .ok (.lload 8, 2) := by decide +kernel
theorem dX8_makeOf_139 : decode cX8_makeOf 139 = .ok (.land, 1) := by decide +kernel
theorem dX8_makeOf_140 : decode cX8_makeOf 140 = .ok (.lload_n 2, 1) := by decide +kernel
theorem dX8_makeOf_141 : decode cX8_makeOf 141 = .ok (.land, 1) := by decide +kernel
theorem dX8_makeOf_142 : decode cX8_makeOf 142 = .ok (.lload 10, 2) := by decide +kernel
theorem dX8_makeOf_144 : decode cX8_makeOf 144 = .ok (.land, 1) := by decide +kernel
theorem dX8_makeOf_145 : decode cX8_makeOf 145 = .ok (.lxor, 1) := by decide +kernel
theorem dX8_makeOf_146 : decode cX8_makeOf 146 = .ok (.putfield 64, 3) := by decide +kernel
theorem dX8_makeOf_149 : decode cX8_makeOf 149 = .ok (.goto 38, 3) := by decide +kernel
theorem dX8_makeOf_152 : decode cX8_makeOf 152 = .ok (.aload_n 0, 1) := by decide +kernel
theorem dX8_makeOf_153 : decode cX8_makeOf 153 = .ok (.lload_n 2, 1) := by decide +kernel
theorem dX8_makeOf_154 : decode cX8_makeOf 154 = .ok (.lload 4, 2) := by decide +kernel
theorem dX8_makeOf_156 : decode cX8_makeOf 156 = .ok (.lload 6, 2) := by decide +kernel
theorem dX8_makeOf_158 : decode cX8_makeOf 158 = .ok (.lload 8, 2) := by decide +kernel
theorem dX8_makeOf_160 : decode cX8_makeOf 160 = .ok (.lload 10, 2) := by decide +kernel
theorem dX8_makeOf_162 : decode cX8_makeOf 162 = .ok (.lload 12, 2) := by decide +kernel
theorem dX8_makeOf_164 : decode cX8_makeOf 164 = .ok (.invokevirtual 80, 3) := by decide +kernel
theorem dX8_makeOf_167 : decode cX8_makeOf 167 = .ok (.goto 20, 3) := by decide +kernel
theorem dX8_makeOf_170 : decode cX8_makeOf 170 = .ok (.aload_n 0, 1) := by decide +kernel
theorem dX8_makeOf_171 : decode cX8_makeOf 171 = .ok (.lload_n 2, 1) := by decide +kernel
theorem dX8_makeOf_172 : decode cX8_makeOf 172 = .ok (.putfield 57, 3) := by decide +kernel
theorem dX8_makeOf_175 : decode cX8_makeOf 175 = .ok (.aload_n 0, 1) := by decide +kernel
theorem dX8_makeOf_176 : decode cX8_makeOf 176 = .ok (.lload 4, 2) := by decide +kernel
theorem dX8_makeOf_178 : decode cX8_makeOf 178 = .ok (.putfield 61, 3) := by decide +kernel
theorem dX8_makeOf_181 : decode cX8_makeOf 181 = .ok (.aload_n 0, 1) := by decide +kernel
theorem dX8_makeOf_182 : decode cX8_makeOf 182 = .ok (.lload 6, 2) := by decide +kernel
theorem dX8_makeOf_184 : decode cX8_makeOf 184 = .ok (.putfield 64, 3) := by decide +kernel
theorem dX8_makeOf_187 : decode cX8_makeOf 187 = .ok (.return_, 1) := by decide +kernel
theorem dX8_sum_0 : decode cX8_sum 0 = .ok (.lload_n 1, 1) := by decide +kernel
theorem dX8_sum_1 : decode cX8_sum 1 = .ok (.lload 7, 2) := by decide +kernel
theorem dX8_sum_3 : decode cX8_sum 3 = .ok (.land, 1) := by decide +kernel
theorem dX8_sum_4 : decode cX8_sum 4 = .ok (.lload 13, 2) := by decide +kernel
theorem dX8_sum_6 : decode cX8_sum 6 = .ok (.lload_n 1, 1) := by decide +kernel
theorem dX8_sum_7 : decode cX8_sum 7 = .ok (.lload 7, 2) := by decide +kernel
theorem dX8_sum_9 : decode cX8_sum 9 = .ok (.lxor, 1) := by decide +kernel
theorem dX8_sum_10 : decode cX8_sum 10 = .ok (.land, 1) := by decide +kernel
theorem dX8_sum_11 : decode cX8_sum 11 = .ok (.lor, 1) := by decide +kernel
theorem dX8_sum_12 : decode cX8_sum 12 = .ok (.lstore 15, 2) := by decide +kernel
theorem dX8_sum_14 : decode cX8_sum 14 = .ok (.lload_n 3, 1) := by decide +kernel
theorem dX8_sum_15 : decode cX8_sum 15 = .ok (.lload 9, 2) := by decide +kernel
theorem dX8_sum_17 : decode cX8_sum 17 = .ok (.land, 1) := by decide +kernel
theorem dX8_sum_18 : decode cX8_sum 18 = .ok (.lload 15, 2) := by decide +kernel
theorem dX8_sum_20 : decode cX8_sum 20 = .ok (.lload_n 3, 1) := by decide +kernel
theorem dX8_sum_21 : decode cX8_sum 21 = .ok (.lload 9, 2) := by decide +kernel
theorem dX8_sum_23 : decode cX8_sum 23 = .ok (.lxor, 1) := by decide +kernel
theorem dX8_sum_24 : decode cX8_sum 24 = .ok (.land, 1) := by decide +kernel
theorem dX8_sum_25 : decode cX8_sum 25 = .ok (.lor, 1) := by decide +kernel
theorem dX8_sum_26 : decode cX8_sum 26 = .ok (.lstore 17, 2) := by decide +kernel
theorem dX8_sum_28 : decode cX8_sum 28 = .ok (.aload_n 0, 1) := by decide +kernel
theorem dX8_sum_29 : decode cX8_sum 29 = .ok (.lload_n 1, 1) := by decide +kernel
theorem dX8_sum_30 : decode cX8_sum 30 = .ok (.lload 7, 2) := by decide +kernel
theorem dX8_sum_32 : decode cX8_sum 32 = .ok (.lxor, 1) := by decide +kernel
theorem dX8_sum_33 : decode cX8_sum 33 = .ok (.lload 13, 2) := by decide +kernel
theorem dX8_sum_35 : decode cX8_sum 35 = .ok (.lxor, 1) := by decide +kernel
theorem dX8_sum_36 : decode cX8_sum 36 = .ok (.putfield 57, 3) := by decide +kernel
theorem dX8_sum_39 : decode cX8_sum 39 = .ok (.aload_n 0, 1) := by decide +kernel
theorem dX8_sum_40 : decode cX8_sum 40 = .ok (.lload_n 3, 1) := by decide +kernel
theorem dX8_sum_41 : decode cX8_sum 41 = .ok (.lload 9, 2) := by decide +kernel
theorem dX8_sum_43 : decode cX8_sum 43 = .ok (.lxor, 1) := by decide +kernel
theorem dX8_sum_44 : decode cX8_sum 44 = .ok (.lload 15, 2) := by decide +kernel
theorem dX8_sum_46 : decode cX8_sum 46 = .ok (.lxor, 1) := by decide +kernel
theorem dX8_sum_47 : decode cX8_sum 47 = .ok (.putfield 61, 3) := by decide +kernel
theorem dX8_sum_50 : decode cX8_sum 50 = .ok (.aload_n 0, 1) := by decide +kernel
theorem dX8_sum_51 : decode cX8_sum 51 = .ok (.lload 5, 2) := by decide +kernel
theorem dX8_sum_53 : decode cX8_sum 53 = .ok (.lload 11, 2) := by decide +kernel
theorem dX8_sum_55 : decode cX8_sum 55 = .ok (.lxor, 1) := by decide +kernel
theorem dX8_sum_56 : decode cX8_sum 56 = .ok (.lload 17, 2) := by decide +kernel
theorem dX8_sum_58 : decode cX8_sum 58 = .ok (.lxor, 1) := by decide +kernel
theorem dX8_sum_59 : decode cX8_sum 59 = .ok (.putfield 64, 3) := by decide +kernel
theorem dX8_sum_62 : decode cX8_sum 62 = .ok (.return_, 1) := by decide +kernel
theorem dX8_lesser_0 : decode cX8_lesser 0 = .ok (.lload_n 1, 1) := by decide +kernel
theorem dX8_lesser_1 : decode cX8_lesser 1 = .ok (.ldc2_w 78, 3) := by decide +kernel
theorem dX8_lesser_4 : decode cX8_lesser 4 = .ok (.lxor, 1) := by decide +kernel
theorem dX8_lesser_5 : decode cX8_lesser 5 = .ok (.lload 7, 2) := by decide +kernel
theorem dX8_lesser_7 : decode cX8_lesser 7 = .ok (.land, 1) := by decide +kernel
theorem dX8_lesser_8 : decode cX8_lesser 8 = .ok (.lstore 13, 2) := by decide +kernel
theorem dX8_lesser_10 : decode cX8_lesser 10 = .ok (.lload_n 3, 1) := by decide +kernel
theorem dX8_lesser_11 : decode cX8_lesser 11 = .ok (.ldc2_w 78, 3) := by decide +kernel
theorem dX8_lesser_14 : decode cX8_lesser 14 = .ok (.lxor, 1) := by decide +kernel
theorem dX8_lesser_15 : decode cX8_lesser 15 = .ok (.lload 9, 2) := by decide +kernel
theorem dX8_lesser_17 : decode cX8_lesser 17 = .ok (.land, 1) := by decide +kernel
theorem dX8_lesser_18 : decode cX8_lesser 18 = .ok (.lload_n 3, 1) := by decide +kernel
theorem dX8_lesser_19 : decode cX8_lesser 19 = .ok (.lload 9, 2) := by decide +kernel
theorem dX8_lesser_21 : decode cX8_lesser 21 = .ok (.lxor, 1) := by decide +kernel
theorem dX8_lesser_22 : decode cX8_lesser 22 = .ok (.ldc2_w 78, 3) := by decide +kernel
theorem dX8_lesser_25 : decode cX8_lesser 25 = .ok (.lxor, 1) := by decide +kernel
theorem dX8_lesser_26 : decode cX8_lesser 26 = .ok (.lload 13, 2) := by decide +kernel
theorem dX8_lesser_28 : decode cX8_lesser 28 = .ok (.land, 1) := by decide +kernel
theorem dX8_lesser_29 : decode cX8_lesser 29 = .ok (.lor, 1) := by decide +kernel
theorem dX8_lesser_30 : decode cX8_lesser 30 = .ok (.lstore 15, 2) := by decide +kernel
theorem dX8_lesser_32 : decode cX8_lesser 32 = .ok (.lload 5, 2) := by decide +kernel
theorem dX8_lesser_34 : decode cX8_lesser 34 = .ok (.ldc2_w 78, 3) := by decide +kernel
theorem dX8_lesser_37 : decode cX8_lesser 37 = .ok (.lxor, 1) := by decide +kernel
theorem dX8_lesser_38 : decode cX8_lesser 38 = .ok (.lload 11, 2) := by decide +kernel
theorem dX8_lesser_40 : decode cX8_lesser 40 = .ok (.land, 1) := by decide +kernel
theorem dX8_lesser_41 : decode cX8_lesser 41 = .ok (.lload 5, 2) := by decide +kernel
theorem dX8_lesser_43 : decode cX8_lesser 43 = .ok (.lload 11, 2) := by decide +kernel
theorem dX8_lesser_45 : decode cX8_lesser 45 = .ok (.lxor, 1) := by decide +kernel
theorem dX8_lesser_46 : decode cX8_lesser 46 = .ok (.ldc2_w 78, 3) := by decide +kernel
theorem dX8_lesser_49 : decode cX8_lesser 49 = .ok (.lxor, 1) := by decide +kernel
theorem dX8_lesser_50 : decode cX8_lesser 50 = .ok (.lload 15, 2) := by decide +kernel
theorem dX8_lesser_52 : decode cX8_lesser 52 = .ok (.land, 1) := by decide +kernel
theorem dX8_lesser_53 : decode cX8_lesser 53 = .ok (.lor, 1) := by decide +kernel
theorem dX8_lesser_54 : decode cX8_lesser 54 = .ok (.lstore 17, 2) := by decide +kernel
theorem dX8_lesser_56 : decode cX8_lesser 56 = .ok (.aload_n 0, 1) := by decide +kernel
theorem dX8_lesser_57 : decode cX8_lesser 57 = .ok (.lload_n 1, 1) := by decide +kernel
theorem dX8_lesser_58 : decode cX8_lesser 58 = .ok (.lload 17, 2) := by decide +kernel
theorem dX8_lesser_60 : decode cX8_lesser 60 = .ok (.land, 1) := by decide +kernel
theorem dX8_lesser_61 : decode cX8_lesser 61 = .ok (.lload 7, 2) := by decide +kernel
theorem dX8_lesser_63 : decode cX8_lesser 63 = .ok (.lload 17, 2) := by decide +kernel
theorem dX8_lesser_65 : decode cX8_lesser 65 = .ok (.ldc2_w 78, 3) := by decide +kernel
theorem dX8_lesser_68 : decode cX8_lesser 68 = .ok (.lxor, 1) := by decide +kernel
theorem dX8_lesser_69 : decode cX8_lesser 69 = .ok (.land, 1) := by decide +kernel
theorem dX8_lesser_70 : decode cX8_lesser 70 = .ok (.lor, 1) := by decide +kernel
theorem dX8_lesser_71 : decode cX8_lesser 71 = .ok (.putfield 57, 3) := by decide +kernel
theorem dX8_lesser_74 : decode cX8_lesser 74 = .ok (.aload_n 0, 1) := by decide +kernel
theorem dX8_lesser_75 : decode cX8_lesser 75 = .ok (.lload_n 3, 1) := by decide +kernel
theorem dX8_lesser_76 : decode cX8_lesser 76 = .ok (.lload 17, 2) := by decide +kernel
theorem dX8_lesser_78 : decode cX8_lesser 78 = .ok (.land, 1) := by decide +kernel
theorem dX8_lesser_79 : decode cX8_lesser 79 = .ok (.lload 9, 2) := by decide +kernel
theorem dX8_lesser_81 : decode cX8_lesser 81 = .ok (.lload 17, 2) := by decide +kernel
theorem dX8_lesser_83 : decode cX8_lesser 83 = .ok (.ldc2_w 78, 3) := by decide +kernel
theorem dX8_lesser_86 : decode cX8_lesser 86 = .ok (.lxor, 1) := by decide +kernel
theorem dX8_lesser_87 : decode cX8_lesser 87 = .ok (.land, 1) := by decide +kernel
theorem dX8_lesser_88 : decode cX8_lesser 88 = .ok (.lor, 1) := by decide +kernel
theorem dX8_lesser_89 : decode cX8_lesser 89 = .ok (.putfield 61, 3) := by decide +kernel
theorem dX8_lesser_92 : decode cX8_lesser 92 = .ok (.aload_n 0, 1) := by decide +kernel
theorem dX8_lesser_93 : decode cX8_lesser 93 = .ok (.lload 5, 2) := by decide +kernel
theorem dX8_lesser_95 : decode cX8_lesser 95 = .ok (.lload 17, 2) := by decide +kernel
theorem dX8_lesser_97 : decode cX8_lesser 97 = .ok (.land, 1) := by decide +kernel
theorem dX8_lesser_98 : decode cX8_lesser 98 = .ok (.lload 11, 2) := by decide +kernel
theorem dX8_lesser_100 : decode cX8_lesser 100 = .ok (.lload 17, 2) := by decide +kernel
theorem dX8_lesser_102 : decode cX8_lesser 102 = .ok (.ldc2_w 78, 3) := by decide +kernel
theorem dX8_lesser_105 : decode cX8_lesser 105 = .ok (.lxor, 1) := by decide +kernel
theorem dX8_lesser_106 : decode cX8_lesser 106 = .ok (.land, 1) := by decide +kernel
theorem dX8_lesser_107 : decode cX8_lesser 107 = .ok (.lor, 1) := by decide +kernel
theorem dX8_lesser_108 : decode cX8_lesser 108 = .ok (.putfield 64, 3) := by decide +kernel
theorem dX8_lesser_111 : decode cX8_lesser 111 = .ok (.return_, 1) := by decide +kernel
theorem dX9_init_0 : decode cX9_init 0 = .ok (.aload_n 0, 1) := by decide +kernel
theorem dX9_init_1 : decode cX9_init 1 = .ok (.invokespecial 3, 3) := by decide +kernel
theorem dX9_init_4 : decode cX9_init 4 = .ok (.aload_n 0, 1) := by decide +kernel
theorem dX9_init_5 : decode cX9_init 5 = .ok (.new 9, 3) := by decide +kernel
theorem dX9_init_8 : decode cX9_init 8 = .ok (.dup, 1) := by decide +kernel
theorem dX9_init_9 : decode cX9_init 9 = .ok (.invokespecial 11, 3) := by decide +kernel
theorem dX9_init_12 : decode cX9_init 12 = .ok (.putfield 12, 3) := by decide +kernel
theorem dX9_init_15 : decode cX9_init 15 = .ok (.aload_n 0, 1) := by decide +kernel
theorem dX9_init_16 : decode cX9_init 16 = .ok (.new 9, 3) := by decide +kernel
theorem dX9_init_19 : decode cX9_init 19 = .ok (.dup, 1) := by decide +kernel
theorem dX9_init_20 : decode cX9_init 20 = .ok (.invokespecial 11, 3) := by decide +kernel
theorem dX9_init_23 : decode cX9_init 23 = .ok (.putfield 18, 3) := by decide +kernel
theorem dX9_init_26 : decode cX9_init 26 = .ok (.aload_n 0, 1) := by decide +kernel
theorem dX9_init_27 : decode cX9_init 27 = .ok (.iconst 4, 1) := by decide +kernel
theorem dX9_init_28 : decode cX9_init 28 = .ok (.newarray .int, 2) := by decide +kernel
theorem dX9_init_30 : decode cX9_init 30 = .ok (.putfield 21, 3) := by decide +kernel
theorem dX9_init_33 : decode cX9_init 33 = .ok (.return_, 1) := by decide +kernel
theorem dX9_copySides_0 : decode cX9_copySides 0 = .ok (.aload_n 0, 1) := by decide +kernel
theorem dX9_copySides_1 : decode cX9_copySides 1 = .ok (.getfield 12, 3) := by decide +kernel
theorem dX9_copySides_4 : decode cX9_copySides 4 = .ok (.aload_n 1, 1) := by decide +kernel
theorem dX9_copySides_5 : decode cX9_copySides 5 = .ok (.invokevirtual 25, 3) := by decide +kernel
theorem dX9_copySides_8 : decode cX9_copySides 8 = .ok (.aload_n 0, 1) := by decide +kernel
theorem dX9_copySides_9 : decode cX9_copySides 9 = .ok (.getfield 18, 3) := by decide +kernel
theorem dX9_copySides_12 : decode cX9_copySides 12 = .ok (.aload_n 2, 1) := by decide +kernel
theorem dX9_copySides_13 : decode cX9_copySides 13 = .ok (.invokevirtual 25, 3) := by decide +kernel
theorem dX9_copySides_16 : decode cX9_copySides 16 = .ok (.return_, 1) := by decide +kernel
theorem dX9_countAfter_0 : decode cX9_countAfter 0 = .ok (.aload_n 1, 1) := by decide +kernel
theorem dX9_countAfter_1 : decode cX9_countAfter 1 = .ok (.getfield 29, 3) := by decide +kernel
theorem dX9_countAfter_4 : decode cX9_countAfter 4 = .ok (.aload_n 0, 1) := by decide +kernel
theorem dX9_countAfter_5 : decode cX9_countAfter 5 = .ok (.getfield 12, 3) := by decide +kernel
theorem dX9_countAfter_8 : decode cX9_countAfter 8 = .ok (.getfield 29, 3) := by decide +kernel
theorem dX9_countAfter_11 : decode cX9_countAfter 11 = .ok (.isub, 1) := by decide +kernel
theorem dX9_countAfter_12 : decode cX9_countAfter 12 = .ok (.aload_n 0, 1) := by decide +kernel
theorem dX9_countAfter_13 : decode cX9_countAfter 13 = .ok (.getfield 18, 3) := by decide +kernel
theorem dX9_countAfter_16 : decode cX9_countAfter 16 = .ok (.getfield 29, 3) := by decide +kernel
theorem dX9_countAfter_19 : decode cX9_countAfter 19 = .ok (.iadd, 1) := by decide +kernel
theorem dX9_countAfter_20 : decode cX9_countAfter 20 = .ok (.ireturn, 1) := by decide +kernel
theorem dX9_firstFit_0 : decode cX9_firstFit 0 = .ok (.iconst 0, 1) := by decide +kernel
theorem dX9_firstFit_1 : decode cX9_firstFit 1 = .ok (.istore_n 2, 1) := by decide +kernel
theorem dX9_firstFit_2 : decode cX9_firstFit 2 = .ok (.iload_n 2, 1) := by decide +kernel
theorem dX9_firstFit_3 : decode cX9_firstFit 3 = .ok (.aload_n 0, 1) := by decide +kernel
theorem dX9_firstFit_4 : decode cX9_firstFit 4 = .ok (.getfield 12, 3) := by decide +kernel
theorem dX9_firstFit_7 : decode cX9_firstFit 7 = .ok (.getfield 29, 3) := by decide +kernel
theorem dX9_firstFit_10 : decode cX9_firstFit 10 = .ok (.iadd, 1) := by decide +kernel
theorem dX9_firstFit_11 : decode cX9_firstFit 11 = .ok (.aload_n 1, 1) := by decide +kernel
theorem dX9_firstFit_12 : decode cX9_firstFit 12 = .ok (.getfield 29, 3) := by decide +kernel
theorem dX9_firstFit_15 : decode cX9_firstFit 15 = .ok (.if_icmp .gt 20, 3) := by decide +kernel
theorem dX9_firstFit_18 : decode cX9_firstFit 18 = .ok (.aload_n 0, 1) := by decide +kernel
theorem dX9_firstFit_19 : decode cX9_firstFit 19 = .ok (.aload_n 1, 1) := by decide +kernel
theorem dX9_firstFit_20 : decode cX9_firstFit 20 = .ok (.iload_n 2, 1) := by decide +kernel
theorem dX9_firstFit_21 : decode cX9_firstFit 21 = .ok (.invokevirtual 33, 3) := by decide +kernel
theorem dX9_firstFit_24 : decode cX9_firstFit 24 = .ok (.ifCond .eq 5, 3) := by decide +kernel
theorem dX9_firstFit_27 : decode cX9_firstFit 27 = .ok (.iload_n 2, 1) := by decide +kernel
theorem dX9_firstFit_28 : decode cX9_firstFit 28 = .ok (.ireturn, 1) := by decide +kernel
theorem dX9_firstFit_29 : decode cX9_firstFit 29 = .ok (.iinc 2 1, 3) := by decide +kernel
theorem dX9_firstFit_32 : decode cX9_firstFit 32 = .ok (.goto (-30), 3) := by decide +kernel
theorem dX9_firstFit_35 : decode cX9_firstFit 35 = .ok (.bipush (-6), 2) := by decide +kernel
theorem dX9_firstFit_37 : decode cX9_firstFit 37 = .ok (.ireturn, 1) := by decide +kernel
theorem dX9_fitsAt_0 : decode cX9_fitsAt 0 = .ok (.aload_n 0, 1) := by decide +kernel
theorem dX9_fitsAt_1 : decode cX9_fitsAt 1 = .ok (.getfield 21, 3) := by decide +kernel
theorem dX9_fitsAt_4 : decode cX9_fitsAt 4 = .ok (.bipush (-6), 2) := by decide +kernel
theorem dX9_fitsAt_6 : decode cX9_fitsAt 6 = .ok (.invokestatic 37, 3) := by decide +kernel
theorem dX9_fitsAt_9 : decode cX9_fitsAt 9 = .ok (.aload_n 0, 1) := by decide +kernel
theorem dX9_fitsAt_10 : decode cX9_fitsAt 10 = .ok (.iconst 0, 1) := by decide +kernel
theorem dX9_fitsAt_11 : decode cX9_fitsAt 11 = .ok (.putfield 43, 3) := by decide +kernel
theorem dX9_fitsAt_14 : decode cX9_fitsAt 14 = .ok (.iconst 0, 1) := by decide +kernel
theorem dX9_fitsAt_15 : decode cX9_fitsAt 15 = .ok (.istore_n 3, 1) := by decide +kernel
theorem dX9_fitsAt_16 : decode cX9_fitsAt 16 = .ok (.iload_n 3, 1) := by decide +kernel
theorem dX9_fitsAt_17 : decode cX9_fitsAt 17 = .ok (.aload_n 0, 1) := by decide +kernel
theorem dX9_fitsAt_18 : decode cX9_fitsAt 18 = .ok (.getfield 12, 3) := by decide +kernel
theorem dX9_fitsAt_21 : decode cX9_fitsAt 21 = .ok (.getfield 29, 3) := by decide +kernel
theorem dX9_fitsAt_24 : decode cX9_fitsAt 24 = .ok (.if_icmp .ge 85, 3) := by decide +kernel
theorem dX9_fitsAt_27 : decode cX9_fitsAt 27 = .ok (.iconst 0, 1) := by decide +kernel
theorem dX9_fitsAt_28 : decode cX9_fitsAt 28 = .ok (.istore 4, 2) := by decide +kernel
theorem dX9_fitsAt_30 : decode cX9_fitsAt 30 = .ok (.iload 4, 2) := by decide +kernel
theorem dX9_fitsAt_32 : decode cX9_fitsAt 32 = .ok (.iconst 3, 1) := by decide +kernel
theorem dX9_fitsAt_33 : decode cX9_fitsAt 33 = .ok (.if_icmp .gt 70, 3) := by decide +kernel
theorem dX9_fitsAt_36 : decode cX9_fitsAt 36 = .ok (.aload_n 0, 1) := by decide +kernel
theorem dX9_fitsAt_37 : decode cX9_fitsAt 37 = .ok (.getfield 12, 3) := by decide +kernel
theorem dX9_fitsAt_40 : decode cX9_fitsAt 40 = .ok (.iload_n 3, 1) := by decide +kernel
theorem dX9_fitsAt_41 : decode cX9_fitsAt 41 = .ok (.iload 4, 2) := by decide +kernel
theorem dX9_fitsAt_43 : decode cX9_fitsAt 43 = .ok (.invokevirtual 46, 3) := by decide +kernel
theorem dX9_fitsAt_46 : decode cX9_fitsAt 46 = .ok (.istore 5, 2) := by decide +kernel
theorem dX9_fitsAt_48 : decode cX9_fitsAt 48 = .ok (.aload_n 1, 1) := by decide +kernel
theorem dX9_fitsAt_49 : decode cX9_fitsAt 49 = .ok (.iload_n 2, 1) := by decide +kernel
theorem dX9_fitsAt_50 : decode cX9_fitsAt 50 = .ok (.iload_n 3, 1) := by decide +kernel
theorem dX9_fitsAt_51 : decode cX9_fitsAt 51 = .ok (.iadd, 1) := by decide +kernel
theorem dX9_fitsAt_52 : decode cX9_fitsAt 52 = .ok (.iload 4, 2) := by decide +kernel
theorem dX9_fitsAt_54 : decode cX9_fitsAt 54 = .ok (.invokevirtual 46, 3) := by decide +kernel
theorem dX9_fitsAt_57 : decode cX9_fitsAt 57 = .ok (.istore 6, 2) := by decide +kernel
theorem dX9_fitsAt_59 : decode cX9_fitsAt 59 = .ok (.iload 4, 2) := by decide +kernel
theorem dX9_fitsAt_61 : decode cX9_fitsAt 61 = .ok (.iconst 1, 1) := by decide +kernel
theorem dX9_fitsAt_62 : decode cX9_fitsAt 62 = .ok (.if_icmp .ne 18, 3) := by decide +kernel
theorem dX9_fitsAt_65 : decode cX9_fitsAt 65 = .ok (.iload 5, 2) := by decide +kernel
theorem dX9_fitsAt_67 : decode cX9_fitsAt 67 = .ok (.iload 6, 2) := by decide +kernel
theorem dX9_fitsAt_69 : decode cX9_fitsAt 69 = .ok (.if_icmp .ne 7, 3) := by decide +kernel
theorem dX9_fitsAt_72 : decode cX9_fitsAt 72 = .ok (.iconst 1, 1) := by decide +kernel
theorem dX9_fitsAt_73 : decode cX9_fitsAt 73 = .ok (.goto 15, 3) := by decide +kernel
theorem dX9_fitsAt_76 : decode cX9_fitsAt 76 = .ok (.iconst 0, 1) := by decide +kernel
theorem dX9_fitsAt_77 : decode cX9_fitsAt 77 = .ok (.goto 11, 3) := by decide +kernel
theorem dX9_fitsAt_80 : decode cX9_fitsAt 80 = .ok (.aload_n 0, 1) := by decide +kernel
theorem dX9_fitsAt_81 : decode cX9_fitsAt 81 = .ok (.iload 5, 2) := by decide +kernel
theorem dX9_fitsAt_83 : decode cX9_fitsAt 83 = .ok (.iload 6, 2) := by decide +kernel
theorem dX9_fitsAt_85 : decode cX9_fitsAt 85 = .ok (.invokevirtual 50, 3) := by decide +kernel
theorem dX9_fitsAt_88 : decode cX9_fitsAt 88 = .ok (.istore 7, 2) := by decide +kernel
theorem dX9_fitsAt_90 : decode cX9_fitsAt 90 = .ok (.iload 7, 2) := by decide +kernel
theorem dX9_fitsAt_92 : decode cX9_fitsAt 92 = .ok (.ifCond .ne 5, 3) := by decide +kernel
theorem dX9_fitsAt_95 : decode cX9_fitsAt 95 = .ok (.iconst 0, 1) := by decide +kernel
theorem dX9_fitsAt_96 : decode cX9_fitsAt 96 = .ok (.ireturn, 1) := by decide +kernel
theorem dX9_fitsAt_97 : decode cX9_fitsAt 97 = .ok (.iinc 4 1, 3) := by decide +kernel
theorem dX9_fitsAt_100 : decode cX9_fitsAt 100 = .ok (.goto (-70), 3) := by decide +kernel
theorem dX9_fitsAt_103 : decode cX9_fitsAt 103 = .ok (.iinc 3 1, 3) := by decide +kernel
theorem dX9_fitsAt_106 : decode cX9_fitsAt 106 = .ok (.goto (-90), 3) := by decide +kernel
theorem dX9_fitsAt_109 : decode cX9_fitsAt 109 = .ok (.iconst 1, 1) := by decide +kernel
theorem dX9_fitsAt_110 : decode cX9_fitsAt 110 = .ok (.ireturn, 1) := by decide +kernel
theorem dX9_mayBeCalled_0 : decode cX9_mayBeCalled 0 = .ok (.iload_n 1, 1) := by decide +kernel
theorem dX9_mayBeCalled_1 : decode cX9_mayBeCalled 1 = .ok (.invokestatic 54, 3) := by decide +kernel
theorem dX9_mayBeCalled_4 : decode cX9_mayBeCalled 4 = .ok (.ifCond .eq 14, 3) := by decide +kernel
theorem dX9_mayBeCalled_7 : decode cX9_mayBeCalled 7 = .ok (.iload_n 1, 1) := by decide +kernel
theorem dX9_mayBeCalled_8 : decode cX9_mayBeCalled 8 = .ok (.iload_n 2, 1) := by decide +kernel
theorem dX9_mayBeCalled_9 : decode cX9_mayBeCalled 9 = .ok (.if_icmp .ne 7, 3) := by decide +kernel
theorem dX9_mayBeCalled_12 : decode cX9_mayBeCalled 12 = .ok (.iconst 1, 1) := by decide +kernel
theorem dX9_mayBeCalled_13 : decode cX9_mayBeCalled 13 = .ok (.goto 4, 3) := by decide +kernel
theorem dX9_mayBeCalled_16 : decode cX9_mayBeCalled 16 = .ok (.iconst 0, 1) := by decide +kernel
theorem dX9_mayBeCalled_17 : decode cX9_mayBeCalled 17 = .ok (.ireturn, 1) := by decide +kernel
theorem dX9_mayBeCalled_18 : decode cX9_mayBeCalled 18 = .ok (.iload_n 2, 1) := by decide +kernel
theorem dX9_mayBeCalled_19 : decode cX9_mayBeCalled 19 = .ok (.invokestatic 54, 3) := by decide +kernel
theorem dX9_mayBeCalled_22 : decode cX9_mayBeCalled 22 = .ok (.ifCond .eq 5, 3) := by decide +kernel
theorem dX9_mayBeCalled_25 : decode cX9_mayBeCalled 25 = .ok (.iconst 0, 1) := by decide +kernel
theorem dX9_mayBeCalled_26 : decode cX9_mayBeCalled 26 = .ok (.ireturn, 1) := by decide +kernel
theorem dX9_mayBeCalled_27 : decode cX9_mayBeCalled 27 = .ok (.aload_n 0, 1) := by decide +kernel
theorem dX9_mayBeCalled_28 : decode cX9_mayBeCalled 28 = .ok (.getfield 21, 3) := by decide +kernel
theorem dX9_mayBeCalled_31 : decode cX9_mayBeCalled 31 = .ok (.iload_n 1, 1) := by decide +kernel
theorem dX9_mayBeCalled_32 : decode cX9_mayBeCalled 32 = .ok (.iaload, 1) := by decide +kernel
theorem dX9_mayBeCalled_33 : decode cX9_mayBeCalled 33 = .ok (.bipush (-6), 2) := by decide +kernel
theorem dX9_mayBeCalled_35 : decode cX9_mayBeCalled 35 = .ok (.if_icmp .ne 20, 3) := by decide +kernel
theorem dX9_mayBeCalled_38 : decode cX9_mayBeCalled 38 = .ok (.aload_n 0, 1) := by decide +kernel
theorem dX9_mayBeCalled_39 : decode cX9_mayBeCalled 39 = .ok (.getfield 43, 3) := by decide +kernel
theorem dX9_mayBeCalled_42 : decode cX9_mayBeCalled 42 = .ok (.iload_n 2, 1) := by decide +kernel
theorem dX9_mayBeCalled_43 : decode cX9_mayBeCalled 43 = .ok (.ishr, 1) := by decide +kernel
theorem dX9_mayBeCalled_44 : decode cX9_mayBeCalled 44 = .ok (.iconst 1, 1) := by decide +kernel
theorem dX9_mayBeCalled_45 : decode cX9_mayBeCalled 45 = .ok (.iand, 1) := by decide +kernel
theorem dX9_mayBeCalled_46 : decode cX9_mayBeCalled 46 = .ok (.ifCond .ne 9, 3) := by decide +kernel
theorem dX9_mayBeCalled_49 : decode cX9_mayBeCalled 49 = .ok (.aload_n 0, 1) := by decide +kernel
theorem dX9_mayBeCalled_50 : decode cX9_mayBeCalled 50 = .ok (.iload_n 1, 1) := by decide +kernel
theorem dX9_mayBeCalled_51 : decode cX9_mayBeCalled 51 = .ok (.iload_n 2, 1) := by decide +kernel
theorem dX9_mayBeCalled_52 : decode cX9_mayBeCalled 52 = .ok (.invokevirtual 58, 3) := by decide +kernel
theorem dX9_mayBeCalled_55 : decode cX9_mayBeCalled 55 = .ok (.aload_n 0, 1) := by decide +kernel
theorem dX9_mayBeCalled_56 : decode cX9_mayBeCalled 56 = .ok (.getfield 21, 3) := by decide +kernel
theorem dX9_mayBeCalled_59 : decode cX9_mayBeCalled 59 = .ok (.iload_n 1, 1) := by decide +kernel
theorem dX9_mayBeCalled_60 : decode cX9_mayBeCalled 60 = .ok (.iaload, 1) := by decide +kernel
theorem dX9_mayBeCalled_61 : decode cX9_mayBeCalled 61 = .ok (.iload_n 2, 1) := by decide +kernel
theorem dX9_mayBeCalled_62 : decode cX9_mayBeCalled 62 = .ok (.if_icmp .ne 7, 3) := by decide +kernel
theorem dX9_mayBeCalled_65 : decode cX9_mayBeCalled 65 = .ok (.iconst 1, 1) := by decide +kernel
theorem dX9_mayBeCalled_66 : decode cX9_mayBeCalled 66 = .ok (.goto 4, 3) := by decide +kernel
theorem dX9_mayBeCalled_69 : decode cX9_mayBeCalled 69 = .ok (.iconst 0, 1) := by decide +kernel
theorem dX9_mayBeCalled_70 : decode cX9_mayBeCalled 70 = .ok (.ireturn, 1) := by decide +kernel
theorem dX9_giveName_0 : decode cX9_giveName 0 = .ok (.aload_n 0, 1) := by decide +kernel
theorem dX9_giveName_1 : decode cX9_giveName 1 = .ok (.getfield 21, 3) := by decide +kernel
theorem dX9_giveName_4 : decode cX9_giveName 4 = .ok (.iload_n 1, 1) := by decide +kernel
theorem dX9_giveName_5 : decode cX9_giveName 5 = .ok (.iload_n 2, 1) := by decide +kernel
theorem dX9_giveName_6 : decode cX9_giveName 6 = .ok (.iastore, 1) := by decide +kernel
theorem dX9_giveName_7 : decode cX9_giveName 7 = .ok (.aload_n 0, 1) := by decide +kernel
theorem dX9_giveName_8 : decode cX9_giveName 8 = .ok (.dup, 1) := by decide +kernel
theorem dX9_giveName_9 : decode cX9_giveName 9 = .ok (.getfield 43, 3) := by decide +kernel
theorem dX9_giveName_12 : decode cX9_giveName 12 = .ok (.iconst 1, 1) := by decide +kernel
theorem dX9_giveName_13 : decode cX9_giveName 13 = .ok (.iload_n 2, 1) := by decide +kernel
theorem dX9_giveName_14 : decode cX9_giveName 14 = .ok (.ishl, 1) := by decide +kernel
theorem dX9_giveName_15 : decode cX9_giveName 15 = .ok (.ior, 1) := by decide +kernel
theorem dX9_giveName_16 : decode cX9_giveName 16 = .ok (.putfield 43, 3) := by decide +kernel
theorem dX9_giveName_19 : decode cX9_giveName 19 = .ok (.return_, 1) := by decide +kernel
theorem dX9_replaceAt_0 : decode cX9_replaceAt 0 = .ok (.aload_n 0, 1) := by decide +kernel
theorem dX9_replaceAt_1 : decode cX9_replaceAt 1 = .ok (.aload_n 1, 1) := by decide +kernel
theorem dX9_replaceAt_2 : decode cX9_replaceAt 2 = .ok (.iload_n 2, 1) := by decide +kernel
theorem dX9_replaceAt_3 : decode cX9_replaceAt 3 = .ok (.invokevirtual 33, 3) := by decide +kernel
theorem dX9_replaceAt_6 : decode cX9_replaceAt 6 = .ok (.ifCond .ne 4, 3) := by decide +kernel
theorem dX9_replaceAt_9 : decode cX9_replaceAt 9 = .ok (.return_, 1) := by decide +kernel
theorem dX9_replaceAt_10 : decode cX9_replaceAt 10 = .ok (.aload_n 0, 1) := by decide +kernel
theorem dX9_replaceAt_11 : decode cX9_replaceAt 11 = .ok (.invokevirtual 62, 3) := by decide +kernel
theorem dX9_replaceAt_14 : decode cX9_replaceAt 14 = .ok (.aload_n 3, 1) := by decide +kernel
theorem dX9_replaceAt_15 : decode cX9_replaceAt 15 = .ok (.aload_n 1, 1) := by decide +kernel
theorem dX9_replaceAt_16 : decode cX9_replaceAt 16 = .ok (.invokevirtual 25, 3) := by decide +kernel
theorem dX9_replaceAt_19 : decode cX9_replaceAt 19 = .ok (.aload_n 1, 1) := by decide +kernel
theorem dX9_replaceAt_20 : decode cX9_replaceAt 20 = .ok (.iload_n 2, 1) := by decide +kernel
theorem dX9_replaceAt_21 : decode cX9_replaceAt 21 = .ok (.putfield 29, 3) := by decide +kernel
theorem dX9_replaceAt_24 : decode cX9_replaceAt 24 = .ok (.iconst 0, 1) := by decide +kernel
theorem dX9_replaceAt_25 : decode cX9_replaceAt 25 = .ok (.istore 4, 2) := by decide +kernel
theorem dX9_replaceAt_27 : decode cX9_replaceAt 27 = .ok (.iload 4, 2) := by decide +kernel
theorem dX9_replaceAt_29 : decode cX9_replaceAt 29 = .ok (.aload_n 0, 1) := by decide +kernel
theorem dX9_replaceAt_30 : decode cX9_replaceAt 30 = .ok (.getfield 18, 3) := by decide +kernel
theorem dX9_replaceAt_33 : decode cX9_replaceAt 33 = .ok (.getfield 29, 3) := by decide +kernel
theorem dX9_replaceAt_36 : decode cX9_replaceAt 36 = .ok (.if_icmp .ge 65, 3) := by decide +kernel
theorem dX9_replaceAt_39 : decode cX9_replaceAt 39 = .ok (.aload_n 1, 1) := by decide +kernel
theorem dX9_replaceAt_40 : decode cX9_replaceAt 40 = .ok (.aload_n 0, 1) := by decide +kernel
theorem dX9_replaceAt_41 : decode cX9_replaceAt 41 = .ok (.aload_n 0, 1) := by decide +kernel
theorem dX9_replaceAt_42 : decode cX9_replaceAt 42 = .ok (.getfield 18, 3) := by decide +kernel
theorem dX9_replaceAt_45 : decode cX9_replaceAt 45 = .ok (.iload 4, 2) := by decide +kernel
theorem dX9_replaceAt_47 : decode cX9_replaceAt 47 = .ok (.iconst 0, 1) := by decide +kernel
theorem dX9_replaceAt_48 : decode cX9_replaceAt 48 = .ok (.invokevirtual 46, 3) := by decide +kernel
theorem dX9_replaceAt_51 : decode cX9_replaceAt 51 = .ok (.invokevirtual 65, 3) := by decide +kernel
theorem dX9_replaceAt_54 : decode cX9_replaceAt 54 = .ok (.aload_n 0, 1) := by decide +kernel
theorem dX9_replaceAt_55 : decode cX9_replaceAt 55 = .ok (.getfield 18, 3) := by decide +kernel
theorem dX9_replaceAt_58 : decode cX9_replaceAt 58 = .ok (.iload 4, 2) := by decide +kernel
theorem dX9_replaceAt_60 : decode cX9_replaceAt 60 = .ok (.iconst 1, 1) := by decide +kernel
theorem dX9_replaceAt_61 : decode cX9_replaceAt 61 = .ok (.invokevirtual 46, 3) := by decide +kernel
theorem dX9_replaceAt_64 : decode cX9_replaceAt 64 = .ok (.aload_n 0, 1) := by decide +kernel
theorem dX9_replaceAt_65 : decode cX9_replaceAt 65 = .ok (.aload_n 0, 1) := by decide +kernel
theorem dX9_replaceAt_66 : decode cX9_replaceAt 66 = .ok (.getfield 18, 3) := by decide +kernel
theorem dX9_replaceAt_69 : decode cX9_replaceAt 69 = .ok (.iload 4, 2) := by decide +kernel
theorem dX9_replaceAt_71 : decode cX9_replaceAt 71 = .ok (.iconst 2, 1) := by decide +kernel
theorem dX9_replaceAt_72 : decode cX9_replaceAt 72 = .ok (.invokevirtual 46, 3) := by decide +kernel
theorem dX9_replaceAt_75 : decode cX9_replaceAt 75 = .ok (.invokevirtual 65, 3) := by decide +kernel
theorem dX9_replaceAt_78 : decode cX9_replaceAt 78 = .ok (.aload_n 0, 1) := by decide +kernel
theorem dX9_replaceAt_79 : decode cX9_replaceAt 79 = .ok (.aload_n 0, 1) := by decide +kernel
theorem dX9_replaceAt_80 : decode cX9_replaceAt 80 = .ok (.getfield 18, 3) := by decide +kernel
theorem dX9_replaceAt_83 : decode cX9_replaceAt 83 = .ok (.iload 4, 2) := by decide +kernel
theorem dX9_replaceAt_85 : decode cX9_replaceAt 85 = .ok (.iconst 3, 1) := by decide +kernel
theorem dX9_replaceAt_86 : decode cX9_replaceAt 86 = .ok (.invokevirtual 46, 3) := by decide +kernel
theorem dX9_replaceAt_89 : decode cX9_replaceAt 89 = .ok (.invokevirtual 65, 3) := by decide +kernel
theorem dX9_replaceAt_92 : decode cX9_replaceAt 92 = .ok (.invokevirtual 69, 3) := by decide +kernel
theorem dX9_replaceAt_95 : decode cX9_replaceAt 95 = .ok (.iinc 4 1, 3) := by decide +kernel
theorem dX9_replaceAt_98 : decode cX9_replaceAt 98 = .ok (.goto (-71), 3) := by decide +kernel
theorem dX9_replaceAt_101 : decode cX9_replaceAt 101 = .ok (.iload_n 2, 1) := by decide +kernel
theorem dX9_replaceAt_102 : decode cX9_replaceAt 102 = .ok (.aload_n 0, 1) := by decide +kernel
theorem dX9_replaceAt_103 : decode cX9_replaceAt 103 = .ok (.getfield 12, 3) := by decide +kernel
theorem dX9_replaceAt_106 : decode cX9_replaceAt 106 = .ok (.getfield 29, 3) := by decide +kernel
theorem dX9_replaceAt_109 : decode cX9_replaceAt 109 = .ok (.iadd, 1) := by decide +kernel
theorem dX9_replaceAt_110 : decode cX9_replaceAt 110 = .ok (.istore 4, 2) := by decide +kernel
theorem dX9_replaceAt_112 : decode cX9_replaceAt 112 = .ok (.iload 4, 2) := by decide +kernel
theorem dX9_replaceAt_114 : decode cX9_replaceAt 114 = .ok (.aload_n 3, 1) := by decide +kernel
theorem dX9_replaceAt_115 : decode cX9_replaceAt 115 = .ok (.getfield 29, 3) := by decide +kernel
theorem dX9_replaceAt_118 : decode cX9_replaceAt 118 = .ok (.if_icmp .ge 16, 3) := by decide +kernel
theorem dX9_replaceAt_121 : decode cX9_replaceAt 121 = .ok (.aload_n 1, 1) := by decide +kernel
theorem dX9_replaceAt_122 : decode cX9_replaceAt 122 = .ok (.aload_n 3, 1) := by decide +kernel
theorem dX9_replaceAt_123 : decode cX9_replaceAt 123 = .ok (.iload 4, 2) := by decide +kernel
theorem dX9_replaceAt_125 : decode cX9_replaceAt 125 = .ok (.invokevirtual 73, 3) := by decide +kernel
theorem dX9_replaceAt_128 : decode cX9_replaceAt 128 = .ok (.iinc 4 1, 3) := by decide +kernel
theorem dX9_replaceAt_131 : decode cX9_replaceAt 131 = .ok (.goto (-19), 3) := by decide +kernel
theorem dX9_replaceAt_134 : decode cX9_replaceAt 134 = .ok (.return_, 1) := by decide +kernel
theorem dX9_nameTheRest_0 : decode cX9_nameTheRest 0 = .ok (.aload_n 0, 1) := by decide +kernel
theorem dX9_nameTheRest_1 : decode cX9_nameTheRest 1 = .ok (.getfield 18, 3) := by decide +kernel
theorem dX9_nameTheRest_4 : decode cX9_nameTheRest 4 = .ok (.invokevirtual 77, 3) := by decide +kernel
theorem dX9_nameTheRest_7 : decode cX9_nameTheRest 7 = .ok (.istore_n 1, 1) := by decide +kernel
theorem dX9_nameTheRest_8 : decode cX9_nameTheRest 8 = .ok (.iconst 0, 1) := by decide +kernel
theorem dX9_nameTheRest_9 : decode cX9_nameTheRest 9 = .ok (.istore_n 2, 1) := by decide +kernel
theorem dX9_nameTheRest_10 : decode cX9_nameTheRest 10 = .ok (.iload_n 2, 1) := by decide +kernel
theorem dX9_nameTheRest_11 : decode cX9_nameTheRest 11 = .ok (.iconst 4, 1) := by decide +kernel
theorem dX9_nameTheRest_12 : decode cX9_nameTheRest 12 = .ok (.if_icmp .ge 60, 3) := by decide +kernel
theorem dX9_nameTheRest_15 : decode cX9_nameTheRest 15 = .ok (.iload_n 1, 1) := by decide +kernel
theorem dX9_nameTheRest_16 : decode cX9_nameTheRest 16 = .ok (.iload_n 2, 1) := by decide +kernel
theorem dX9_nameTheRest_17 : decode cX9_nameTheRest 17 = .ok (.ishr, 1) := by decide +kernel
theorem dX9_nameTheRest_18 : decode cX9_nameTheRest 18 = .ok (.iconst 1, 1) := by decide +kernel
theorem dX9_nameTheRest_19 : decode cX9_nameTheRest 19 = .ok (.iand, 1) := by decide +kernel
theorem dX9_nameTheRest_20 : decode cX9_nameTheRest 20 = .ok (.iconst 1, 1) := by decide +kernel
theorem dX9_nameTheRest_21 : decode cX9_nameTheRest 21 = .ok (.if_icmp .ne 45, 3) := by decide +kernel
theorem dX9_nameTheRest_24 : decode cX9_nameTheRest 24 = .ok (.aload_n 0, 1) := by decide +kernel
theorem dX9_nameTheRest_25 : decode cX9_nameTheRest 25 = .ok (.getfield 21, 3) := by decide +kernel
theorem dX9_nameTheRest_28 : decode cX9_nameTheRest 28 = .ok (.iload_n 2, 1) := by decide +kernel
theorem dX9_nameTheRest_29 : decode cX9_nameTheRest 29 = .ok (.iaload, 1) := by decide +kernel
theorem dX9_nameTheRest_30 : decode cX9_nameTheRest 30 = .ok (.bipush (-6), 2) := by decide +kernel
theorem dX9_nameTheRest_32 : decode cX9_nameTheRest 32 = .ok (.if_icmp .ne 34, 3) := by decide +kernel
theorem dX9_nameTheRest_35 : decode cX9_nameTheRest 35 = .ok (.iconst 0, 1) := by decide +kernel
theorem dX9_nameTheRest_36 : decode cX9_nameTheRest 36 = .ok (.istore_n 3, 1) := by decide +kernel
theorem dX9_nameTheRest_37 : decode cX9_nameTheRest 37 = .ok (.iload_n 3, 1) := by decide +kernel
theorem dX9_nameTheRest_38 : decode cX9_nameTheRest 38 = .ok (.iconst 3, 1) := by decide +kernel
theorem dX9_nameTheRest_39 : decode cX9_nameTheRest 39 = .ok (.if_icmp .ge 21, 3) := by decide +kernel
theorem dX9_nameTheRest_42 : decode cX9_nameTheRest 42 = .ok (.aload_n 0, 1) := by decide +kernel
theorem dX9_nameTheRest_43 : decode cX9_nameTheRest 43 = .ok (.getfield 43, 3) := by decide +kernel
theorem dX9_nameTheRest_46 : decode cX9_nameTheRest 46 = .ok (.iload_n 3, 1) := by decide +kernel
theorem dX9_nameTheRest_47 : decode cX9_nameTheRest 47 = .ok (.ishr, 1) := by decide +kernel
theorem dX9_nameTheRest_48 : decode cX9_nameTheRest 48 = .ok (.iconst 1, 1) := by decide +kernel
theorem dX9_nameTheRest_49 : decode cX9_nameTheRest 49 = .ok (.iand, 1) := by decide +kernel
theorem dX9_nameTheRest_50 : decode cX9_nameTheRest 50 = .ok (.iconst 1, 1) := by decide +kernel
theorem dX9_nameTheRest_51 : decode cX9_nameTheRest 51 = .ok (.if_icmp .ne 9, 3) := by decide +kernel
theorem dX9_nameTheRest_54 : decode cX9_nameTheRest 54 = .ok (.iinc 3 1, 3) := by decide +kernel
theorem dX9_nameTheRest_57 : decode cX9_nameTheRest 57 = .ok (.goto (-20), 3) := by decide +kernel
theorem dX9_nameTheRest_60 : decode cX9_nameTheRest 60 = .ok (.aload_n 0, 1) := by decide +kernel
theorem dX9_nameTheRest_61 : decode cX9_nameTheRest 61 = .ok (.iload_n 2, 1) := by decide +kernel
theorem dX9_nameTheRest_62 : decode cX9_nameTheRest 62 = .ok (.iload_n 3, 1) := by decide +kernel
theorem dX9_nameTheRest_63 : decode cX9_nameTheRest 63 = .ok (.invokevirtual 58, 3) := by decide +kernel
theorem dX9_nameTheRest_66 : decode cX9_nameTheRest 66 = .ok (.iinc 2 1, 3) := by decide +kernel
theorem dX9_nameTheRest_69 : decode cX9_nameTheRest 69 = .ok (.goto (-59), 3) := by decide +kernel
theorem dX9_nameTheRest_72 : decode cX9_nameTheRest 72 = .ok (.return_, 1) := by decide +kernel
theorem dX9_called_0 : decode cX9_called 0 = .ok (.iload_n 1, 1) := by decide +kernel
theorem dX9_called_1 : decode cX9_called 1 = .ok (.invokestatic 54, 3) := by decide +kernel
theorem dX9_called_4 : decode cX9_called 4 = .ok (.ifCond .eq 7, 3) := by decide +kernel
theorem dX9_called_7 : decode cX9_called 7 = .ok (.iload_n 1, 1) := by decide +kernel
theorem dX9_called_8 : decode cX9_called 8 = .ok (.goto 9, 3) := by decide +kernel
theorem dX9_called_11 : decode cX9_called 11 = .ok (.aload_n 0, 1) := by decide +kernel
theorem dX9_called_12 : decode cX9_called 12 = .ok (.getfield 21, 3) := by decide +kernel
theorem dX9_called_15 : decode cX9_called 15 = .ok (.iload_n 1, 1) := by decide +kernel
theorem dX9_called_16 : decode cX9_called 16 = .ok (.iaload, 1) := by decide +kernel
theorem dX9_called_17 : decode cX9_called 17 = .ok (.ireturn, 1) := by decide +kernel
theorem dX10_init_0 : decode cX10_init 0 = .ok (.aload_n 0, 1) := by decide +kernel
theorem dX10_init_1 : decode cX10_init 1 = .ok (.invokespecial 3, 3) := by decide +kernel
theorem dX10_init_4 : decode cX10_init 4 = .ok (.aload_n 0, 1) := by decide +kernel
theorem dX10_init_5 : decode cX10_init 5 = .ok (.new 9, 3) := by decide +kernel
theorem dX10_init_8 : decode cX10_init 8 = .ok (.dup, 1) := by decide +kernel
theorem dX10_init_9 : decode cX10_init 9 = .ok (.invokespecial 11, 3) := by decide +kernel
theorem dX10_init_12 : decode cX10_init 12 = .ok (.putfield 12, 3) := by decide +kernel
theorem dX10_init_15 : decode cX10_init 15 = .ok (.aload_n 0, 1) := by decide +kernel
theorem dX10_init_16 : decode cX10_init 16 = .ok (.new 9, 3) := by decide +kernel
theorem dX10_init_19 : decode cX10_init 19 = .ok (.dup, 1) := by decide +kernel
theorem dX10_init_20 : decode cX10_init 20 = .ok (.invokespecial 11, 3) := by decide +kernel
theorem dX10_init_23 : decode cX10_init 23 = .ok (.putfield 18, 3) := by decide +kernel
theorem dX10_init_26 : decode cX10_init 26 = .ok (.aload_n 0, 1) := by decide +kernel
theorem dX10_init_27 : decode cX10_init 27 = .ok (.new 9, 3) := by decide +kernel
theorem dX10_init_30 : decode cX10_init 30 = .ok (.dup, 1) := by decide +kernel
theorem dX10_init_31 : decode cX10_init 31 = .ok (.invokespecial 11, 3) := by decide +kernel
theorem dX10_init_34 : decode cX10_init 34 = .ok (.putfield 21, 3) := by decide +kernel
theorem dX10_init_37 : decode cX10_init 37 = .ok (.aload_n 0, 1) := by decide +kernel
theorem dX10_init_38 : decode cX10_init 38 = .ok (.iconst 3, 1) := by decide +kernel
theorem dX10_init_39 : decode cX10_init 39 = .ok (.anewarray 9, 3) := by decide +kernel
theorem dX10_init_42 : decode cX10_init 42 = .ok (.putfield 24, 3) := by decide +kernel
theorem dX10_init_45 : decode cX10_init 45 = .ok (.aload_n 0, 1) := by decide +kernel
theorem dX10_init_46 : decode cX10_init 46 = .ok (.iconst 3, 1) := by decide +kernel
theorem dX10_init_47 : decode cX10_init 47 = .ok (.newarray .int, 2) := by decide +kernel
theorem dX10_init_49 : decode cX10_init 49 = .ok (.putfield 28, 3) := by decide +kernel
theorem dX10_init_52 : decode cX10_init 52 = .ok (.aload_n 0, 1) := by decide +kernel
theorem dX10_init_53 : decode cX10_init 53 = .ok (.getfield 12, 3) := by decide +kernel
theorem dX10_init_56 : decode cX10_init 56 = .ok (.invokevirtual 32, 3) := by decide +kernel
theorem dX10_init_59 : decode cX10_init 59 = .ok (.iconst 0, 1) := by decide +kernel
theorem dX10_init_60 : decode cX10_init 60 = .ok (.istore_n 1, 1) := by decide +kernel
theorem dX10_init_61 : decode cX10_init 61 = .ok (.iload_n 1, 1) := by decide +kernel
theorem dX10_init_62 : decode cX10_init 62 = .ok (.iconst 3, 1) := by decide +kernel
theorem dX10_init_63 : decode cX10_init 63 = .ok (.if_icmp .ge 22, 3) := by decide +kernel
theorem dX10_init_66 : decode cX10_init 66 = .ok (.aload_n 0, 1) := by decide +kernel
theorem dX10_init_67 : decode cX10_init 67 = .ok (.getfield 24, 3) := by decide +kernel
theorem dX10_init_70 : decode cX10_init 70 = .ok (.iload_n 1, 1) := by decide +kernel
theorem dX10_init_71 : decode cX10_init 71 = .ok (.new 9, 3) := by decide +kernel
theorem dX10_init_74 : decode cX10_init 74 = .ok (.dup, 1) := by decide +kernel
theorem dX10_init_75 : decode cX10_init 75 = .ok (.invokespecial 11, 3) := by decide +kernel
theorem dX10_init_78 : decode cX10_init 78 = .ok (.aastore, 1) := by decide +kernel
theorem dX10_init_79 : decode cX10_init 79 = .ok (.iinc 1 1, 3) := by decide +kernel
theorem dX10_init_82 : decode cX10_init 82 = .ok (.goto (-21), 3) := by decide +kernel
theorem dX10_init_85 : decode cX10_init 85 = .ok (.return_, 1) := by decide +kernel
theorem dX10_find_0 : decode cX10_find 0 = .ok (.aload_n 0, 1) := by decide +kernel
theorem dX10_find_1 : decode cX10_find 1 = .ok (.getfield 21, 3) := by decide +kernel
theorem dX10_find_4 : decode cX10_find 4 = .ok (.aload_n 0, 1) := by decide +kernel
theorem dX10_find_5 : decode cX10_find 5 = .ok (.getfield 12, 3) := by decide +kernel
theorem dX10_find_8 : decode cX10_find 8 = .ok (.invokevirtual 35, 3) := by decide +kernel
theorem dX10_find_11 : decode cX10_find 11 = .ok (.aload_n 0, 1) := by decide +kernel
theorem dX10_find_12 : decode cX10_find 12 = .ok (.getfield 21, 3) := by decide +kernel
theorem dX10_find_15 : decode cX10_find 15 = .ok (.aload_n 1, 1) := by decide +kernel
theorem dX10_find_16 : decode cX10_find 16 = .ok (.invokevirtual 39, 3) := by decide +kernel
theorem dX10_find_19 : decode cX10_find 19 = .ok (.iload_n 2, 1) := by decide +kernel
theorem dX10_find_20 : decode cX10_find 20 = .ok (.aload_n 0, 1) := by decide +kernel
theorem dX10_find_21 : decode cX10_find 21 = .ok (.getfield 43, 3) := by decide +kernel
theorem dX10_find_24 : decode cX10_find 24 = .ok (.if_icmp .ne 34, 3) := by decide +kernel
theorem dX10_find_27 : decode cX10_find 27 = .ok (.aload_n 0, 1) := by decide +kernel
theorem dX10_find_28 : decode cX10_find 28 = .ok (.getfield 21, 3) := by decide +kernel
theorem dX10_find_31 : decode cX10_find 31 = .ok (.iconst 0, 1) := by decide +kernel
theorem dX10_find_32 : decode cX10_find 32 = .ok (.aload_n 0, 1) := by decide +kernel
theorem dX10_find_33 : decode cX10_find 33 = .ok (.getfield 18, 3) := by decide +kernel
theorem dX10_find_36 : decode cX10_find 36 = .ok (.invokevirtual 47, 3) := by decide +kernel
theorem dX10_find_39 : decode cX10_find 39 = .ok (.aload_n 0, 1) := by decide +kernel
theorem dX10_find_40 : decode cX10_find 40 = .ok (.getfield 21, 3) := by decide +kernel
theorem dX10_find_43 : decode cX10_find 43 = .ok (.iconst 1, 1) := by decide +kernel
theorem dX10_find_44 : decode cX10_find 44 = .ok (.aload_n 0, 1) := by decide +kernel
theorem dX10_find_45 : decode cX10_find 45 = .ok (.getfield 18, 3) := by decide +kernel
theorem dX10_find_48 : decode cX10_find 48 = .ok (.invokevirtual 47, 3) := by decide +kernel
theorem dX10_find_51 : decode cX10_find 51 = .ok (.lor, 1) := by decide +kernel
theorem dX10_find_52 : decode cX10_find 52 = .ok (.lconst 0, 1) := by decide +kernel
theorem dX10_find_53 : decode cX10_find 53 = .ok (.lcmp, 1) := by decide +kernel
theorem dX10_find_54 : decode cX10_find 54 = .ok (.ifCond .ne 4, 3) := by decide +kernel
theorem dX10_find_57 : decode cX10_find 57 = .ok (.return_, 1) := by decide +kernel
theorem dX10_find_58 : decode cX10_find 58 = .ok (.aload_n 0, 1) := by decide +kernel
theorem dX10_find_59 : decode cX10_find 59 = .ok (.getfield 18, 3) := by decide +kernel
theorem dX10_find_62 : decode cX10_find 62 = .ok (.aload_n 0, 1) := by decide +kernel
theorem dX10_find_63 : decode cX10_find 63 = .ok (.getfield 21, 3) := by decide +kernel
theorem dX10_find_66 : decode cX10_find 66 = .ok (.invokevirtual 35, 3) := by decide +kernel
theorem dX10_find_69 : decode cX10_find 69 = .ok (.aload_n 0, 1) := by decide +kernel
theorem dX10_find_70 : decode cX10_find 70 = .ok (.iload_n 2, 1) := by decide +kernel
theorem dX10_find_71 : decode cX10_find 71 = .ok (.putfield 43, 3) := by decide +kernel
theorem dX10_find_74 : decode cX10_find 74 = .ok (.aload_n 0, 1) := by decide +kernel
theorem dX10_find_75 : decode cX10_find 75 = .ok (.aload_n 0, 1) := by decide +kernel
theorem dX10_find_76 : decode cX10_find 76 = .ok (.aload_n 0, 1) := by decide +kernel
theorem dX10_find_77 : decode cX10_find 77 = .ok (.getfield 12, 3) := by decide +kernel
theorem dX10_find_80 : decode cX10_find 80 = .ok (.iconst 0, 1) := by decide +kernel
theorem dX10_find_81 : decode cX10_find 81 = .ok (.invokevirtual 51, 3) := by decide +kernel
theorem dX10_find_84 : decode cX10_find 84 = .ok (.ifCond .ne 15, 3) := by decide +kernel
theorem dX10_find_87 : decode cX10_find 87 = .ok (.aload_n 0, 1) := by decide +kernel
theorem dX10_find_88 : decode cX10_find 88 = .ok (.aload_n 0, 1) := by decide +kernel
theorem dX10_find_89 : decode cX10_find 89 = .ok (.getfield 12, 3) := by decide +kernel
theorem dX10_find_92 : decode cX10_find 92 = .ok (.iconst 1, 1) := by decide +kernel
theorem dX10_find_93 : decode cX10_find 93 = .ok (.invokevirtual 51, 3) := by decide +kernel
theorem dX10_find_96 : decode cX10_find 96 = .ok (.ifCond .eq 8, 3) := by decide +kernel
theorem dX10_find_99 : decode cX10_find 99 = .ok (.bipush (-6), 2) := by decide +kernel
theorem dX10_find_101 : decode cX10_find 101 = .ok (.goto 4, 3) := by decide +kernel
theorem dX10_find_104 : decode cX10_find 104 = .ok (.iconst 0, 1) := by decide +kernel
theorem dX10_find_105 : decode cX10_find 105 = .ok (.putfield 55, 3) := by decide +kernel
theorem dX10_find_108 : decode cX10_find 108 = .ok (.iconst 1, 1) := by decide +kernel
theorem dX10_find_109 : decode cX10_find 109 = .ok (.istore_n 3, 1) := by decide +kernel
theorem dX10_find_110 : decode cX10_find 110 = .ok (.iload_n 3, 1) := by decide +kernel
theorem dX10_find_111 : decode cX10_find 111 = .ok (.iconst 3, 1) := by decide +kernel
theorem dX10_find_112 : decode cX10_find 112 = .ok (.if_icmp .gt 45, 3) := by decide +kernel
theorem dX10_find_115 : decode cX10_find 115 = .ok (.aload_n 0, 1) := by decide +kernel
theorem dX10_find_116 : decode cX10_find 116 = .ok (.getfield 55, 3) := by decide +kernel
theorem dX10_find_119 : decode cX10_find 119 = .ok (.bipush (-6), 2) := by decide +kernel
theorem dX10_find_121 : decode cX10_find 121 = .ok (.if_icmp .ne 36, 3) := by decide +kernel
theorem dX10_find_124 : decode cX10_find 124 = .ok (.aload_n 0, 1) := by decide +kernel
theorem dX10_find_125 : decode cX10_find 125 = .ok (.getfield 24, 3) := by decide +kernel
theorem dX10_find_128 : decode cX10_find 128 = .ok (.iconst 0, 1) := by decide +kernel
theorem dX10_find_129 : decode cX10_find 129 = .ok (.aaload, 1) := by decide +kernel
theorem dX10_find_130 : decode cX10_find 130 = .ok (.aload_n 0, 1) := by decide +kernel
theorem dX10_find_131 : decode cX10_find 131 = .ok (.getfield 12, 3) := by decide +kernel
theorem dX10_find_134 : decode cX10_find 134 = .ok (.invokevirtual 35, 3) := by decide +kernel
theorem dX10_find_137 : decode cX10_find 137 = .ok (.aload_n 0, 1) := by decide +kernel
theorem dX10_find_138 : decode cX10_find 138 = .ok (.iconst 0, 1) := by decide +kernel
theorem dX10_find_139 : decode cX10_find 139 = .ok (.iload_n 3, 1) := by decide +kernel
theorem dX10_find_140 : decode cX10_find 140 = .ok (.invokevirtual 58, 3) := by decide +kernel
theorem dX10_find_143 : decode cX10_find 143 = .ok (.ifCond .eq 8, 3) := by decide +kernel
theorem dX10_find_146 : decode cX10_find 146 = .ok (.aload_n 0, 1) := by decide +kernel
theorem dX10_find_147 : decode cX10_find 147 = .ok (.iload_n 3, 1) := by decide +kernel
theorem dX10_find_148 : decode cX10_find 148 = .ok (.putfield 55, 3) := by decide +kernel
theorem dX10_find_151 : decode cX10_find 151 = .ok (.iinc 3 1, 3) := by decide +kernel
theorem dX10_find_154 : decode cX10_find 154 = .ok (.goto (-44), 3) := by decide +kernel
theorem dX10_find_157 : decode cX10_find 157 = .ok (.return_, 1) := by decide +kernel
theorem dX10_differs_0 : decode cX10_differs 0 = .ok (.aload_n 0, 1) := by decide +kernel
theorem dX10_differs_1 : decode cX10_differs 1 = .ok (.getfield 43, 3) := by decide +kernel
theorem dX10_differs_4 : decode cX10_differs 4 = .ok (.iload_n 2, 1) := by decide +kernel
theorem dX10_differs_5 : decode cX10_differs 5 = .ok (.ishr, 1) := by decide +kernel
theorem dX10_differs_6 : decode cX10_differs 6 = .ok (.iconst 1, 1) := by decide +kernel
theorem dX10_differs_7 : decode cX10_differs 7 = .ok (.iand, 1) := by decide +kernel
theorem dX10_differs_8 : decode cX10_differs 8 = .ok (.iconst 1, 1) := by decide +kernel
theorem dX10_differs_9 : decode cX10_differs 9 = .ok (.if_icmp .ne 21, 3) := by decide +kernel
theorem dX10_differs_12 : decode cX10_differs 12 = .ok (.aload_n 1, 1) := by decide +kernel
theorem dX10_differs_13 : decode cX10_differs 13 = .ok (.iload_n 2, 1) := by decide +kernel
theorem dX10_differs_14 : decode cX10_differs 14 = .ok (.aload_n 0, 1) := by decide +kernel
theorem dX10_differs_15 : decode cX10_differs 15 = .ok (.getfield 18, 3) := by decide +kernel
theorem dX10_differs_18 : decode cX10_differs 18 = .ok (.invokevirtual 47, 3) := by decide +kernel
theorem dX10_differs_21 : decode cX10_differs 21 = .ok (.lconst 0, 1) := by decide +kernel
theorem dX10_differs_22 : decode cX10_differs 22 = .ok (.lcmp, 1) := by decide +kernel
theorem dX10_differs_23 : decode cX10_differs 23 = .ok (.ifCond .eq 7, 3) := by decide +kernel
theorem dX10_differs_26 : decode cX10_differs 26 = .ok (.iconst 1, 1) := by decide +kernel
theorem dX10_differs_27 : decode cX10_differs 27 = .ok (.goto 4, 3) := by decide +kernel
theorem dX10_differs_30 : decode cX10_differs 30 = .ok (.iconst 0, 1) := by decide +kernel
theorem dX10_differs_31 : decode cX10_differs 31 = .ok (.ireturn, 1) := by decide +kernel
theorem dX10_reaches_0 : decode cX10_reaches 0 = .ok (.iload_n 1, 1) := by decide +kernel
theorem dX10_reaches_1 : decode cX10_reaches 1 = .ok (.iload_n 2, 1) := by decide +kernel
theorem dX10_reaches_2 : decode cX10_reaches 2 = .ok (.if_icmp .ge 8, 3) := by decide +kernel
theorem dX10_reaches_5 : decode cX10_reaches 5 = .ok (.iload_n 1, 1) := by decide +kernel
theorem dX10_reaches_6 : decode cX10_reaches 6 = .ok (.iconst 3, 1) := by decide +kernel
theorem dX10_reaches_7 : decode cX10_reaches 7 = .ok (.if_icmp .lt 5, 3) := by decide +kernel
theorem dX10_reaches_10 : decode cX10_reaches 10 = .ok (.iconst 0, 1) := by decide +kernel
theorem dX10_reaches_11 : decode cX10_reaches 11 = .ok (.ireturn, 1) := by decide +kernel
theorem dX10_reaches_12 : decode cX10_reaches 12 = .ok (.iconst 0, 1) := by decide +kernel
theorem dX10_reaches_13 : decode cX10_reaches 13 = .ok (.istore_n 3, 1) := by decide +kernel
theorem dX10_reaches_14 : decode cX10_reaches 14 = .ok (.iload_n 3, 1) := by decide +kernel
theorem dX10_reaches_15 : decode cX10_reaches 15 = .ok (.iconst 2, 1) := by decide +kernel
theorem dX10_reaches_16 : decode cX10_reaches 16 = .ok (.if_icmp .ge 91, 3) := by decide +kernel
theorem dX10_reaches_19 : decode cX10_reaches 19 = .ok (.iload_n 1, 1) := by decide +kernel
theorem dX10_reaches_20 : decode cX10_reaches 20 = .ok (.iload_n 2, 1) := by decide +kernel
theorem dX10_reaches_21 : decode cX10_reaches 21 = .ok (.iconst 1, 1) := by decide +kernel
theorem dX10_reaches_22 : decode cX10_reaches 22 = .ok (.isub, 1) := by decide +kernel
theorem dX10_reaches_23 : decode cX10_reaches 23 = .ok (.if_icmp .ne 34, 3) := by decide +kernel
theorem dX10_reaches_26 : decode cX10_reaches 26 = .ok (.aload_n 0, 1) := by decide +kernel
theorem dX10_reaches_27 : decode cX10_reaches 27 = .ok (.aload_n 0, 1) := by decide +kernel
theorem dX10_reaches_28 : decode cX10_reaches 28 = .ok (.getfield 24, 3) := by decide +kernel
theorem dX10_reaches_31 : decode cX10_reaches 31 = .ok (.iload_n 1, 1) := by decide +kernel
theorem dX10_reaches_32 : decode cX10_reaches 32 = .ok (.aaload, 1) := by decide +kernel
theorem dX10_reaches_33 : decode cX10_reaches 33 = .ok (.iconst 1, 1) := by decide +kernel
theorem dX10_reaches_34 : decode cX10_reaches 34 = .ok (.iload_n 3, 1) := by decide +kernel
theorem dX10_reaches_35 : decode cX10_reaches 35 = .ok (.isub, 1) := by decide +kernel
theorem dX10_reaches_36 : decode cX10_reaches 36 = .ok (.invokevirtual 51, 3) := by decide +kernel
theorem dX10_reaches_39 : decode cX10_reaches 39 = .ok (.ifCond .ne 14, 3) := by decide +kernel
theorem dX10_reaches_42 : decode cX10_reaches 42 = .ok (.aload_n 0, 1) := by decide +kernel
theorem dX10_reaches_43 : decode cX10_reaches 43 = .ok (.getfield 43, 3) := by decide +kernel
theorem dX10_reaches_46 : decode cX10_reaches 46 = .ok (.iload_n 3, 1) := by decide +kernel
theorem dX10_reaches_47 : decode cX10_reaches 47 = .ok (.ishr, 1) := by decide +kernel
theorem dX10_reaches_48 : decode cX10_reaches 48 = .ok (.iconst 1, 1) := by decide +kernel
theorem dX10_reaches_49 : decode cX10_reaches 49 = .ok (.iand, 1) := by decide +kernel
theorem dX10_reaches_50 : decode cX10_reaches 50 = .ok (.ifCond .ne 7, 3) := by decide +kernel
theorem dX10_reaches_53 : decode cX10_reaches 53 = .ok (.iconst 1, 1) := by decide +kernel
theorem dX10_reaches_54 : decode cX10_reaches 54 = .ok (.goto 4, 3) := by decide +kernel
theorem dX10_reaches_57 : decode cX10_reaches 57 = .ok (.iconst 0, 1) := by decide +kernel
theorem dX10_reaches_58 : decode cX10_reaches 58 = .ok (.istore 4, 2) := by decide +kernel
theorem dX10_reaches_60 : decode cX10_reaches 60 = .ok (.iconst 0, 1) := by decide +kernel
theorem dX10_reaches_61 : decode cX10_reaches 61 = .ok (.istore 5, 2) := by decide +kernel
theorem dX10_reaches_63 : decode cX10_reaches 63 = .ok (.iload 5, 2) := by decide +kernel
theorem dX10_reaches_65 : decode cX10_reaches 65 = .ok (.getstatic 62, 3) := by decide +kernel
theorem dX10_reaches_68 : decode cX10_reaches 68 = .ok (.arraylength, 1) := by decide +kernel
theorem dX10_reaches_69 : decode cX10_reaches 69 = .ok (.if_icmp .ge 32, 3) := by decide +kernel
theorem dX10_reaches_72 : decode cX10_reaches 72 = .ok (.iload 4, 2) := by decide +kernel
theorem dX10_reaches_74 : decode cX10_reaches 74 = .ok (.ifCond .ne 27, 3) := by decide +kernel
theorem dX10_reaches_77 : decode cX10_reaches 77 = .ok (.aload_n 0, 1) := by decide +kernel
theorem dX10_reaches_78 : decode cX10_reaches 78 = .ok (.iload_n 1, 1) := by decide +kernel
theorem dX10_reaches_79 : decode cX10_reaches 79 = .ok (.iload_n 2, 1) := by decide +kernel
theorem dX10_reaches_80 : decode cX10_reaches 80 = .ok (.iload_n 3, 1) := by decide +kernel
theorem dX10_reaches_81 : decode cX10_reaches 81 = .ok (.getstatic 62, 3) := by decide +kernel
theorem dX10_reaches_84 : decode cX10_reaches 84 = .ok (.iload 5, 2) := by decide +kernel
theorem dX10_reaches_86 : decode cX10_reaches 86 = .ok (.iaload, 1) := by decide +kernel
theorem dX10_reaches_87 : decode cX10_reaches 87 = .ok (.invokevirtual 65, 3) := by decide +kernel
theorem dX10_reaches_90 : decode cX10_reaches 90 = .ok (.ifCond .eq 5, 3) := by decide +kernel
theorem dX10_reaches_93 : decode cX10_reaches 93 = .ok (.iconst 1, 1) := by decide +kernel
theorem dX10_reaches_94 : decode cX10_reaches 94 = .ok (.ireturn, 1) := by decide +kernel
theorem dX10_reaches_95 : decode cX10_reaches 95 = .ok (.iinc 5 1, 3) := by decide +kernel
theorem dX10_reaches_98 : decode cX10_reaches 98 = .ok (.goto (-35), 3) := by decide +kernel
theorem dX10_reaches_101 : decode cX10_reaches 101 = .ok (.iinc 3 1, 3) := by decide +kernel
theorem dX10_reaches_104 : decode cX10_reaches 104 = .ok (.goto (-90), 3) := by decide +kernel
theorem dX10_reaches_107 : decode cX10_reaches 107 = .ok (.iconst 0, 1) := by decide +kernel
theorem dX10_reaches_108 : decode cX10_reaches 108 = .ok (.ireturn, 1) := by decide +kernel
theorem dX10_reachesBy_0 : decode cX10_reachesBy 0 = .ok (.aload_n 0, 1) := by decide +kernel
theorem dX10_reachesBy_1 : decode cX10_reachesBy 1 = .ok (.getfield 24, 3) := by decide +kernel
theorem dX10_reachesBy_4 : decode cX10_reachesBy 4 = .ok (.iload_n 1, 1) := by decide +kernel
theorem dX10_reachesBy_5 : decode cX10_reachesBy 5 = .ok (.aaload, 1) := by decide +kernel
theorem dX10_reachesBy_6 : decode cX10_reachesBy 6 = .ok (.astore 5, 2) := by decide +kernel
theorem dX10_reachesBy_8 : decode cX10_reachesBy 8 = .ok (.iload 4, 2) := by decide +kernel
theorem dX10_reachesBy_10 : decode cX10_reachesBy 10 = .ok (.bipush 100, 2) := by decide +kernel
theorem dX10_reachesBy_12 : decode cX10_reachesBy 12 = .ok (.idiv, 1) := by decide +kernel
theorem dX10_reachesBy_13 : decode cX10_reachesBy 13 = .ok (.istore 6, 2) := by decide +kernel
theorem dX10_reachesBy_15 : decode cX10_reachesBy 15 = .ok (.iload 6, 2) := by decide +kernel
theorem dX10_reachesBy_17 : decode cX10_reachesBy 17 = .ok (.ifCond .ne 8, 3) := by decide +kernel
theorem dX10_reachesBy_20 : decode cX10_reachesBy 20 = .ok (.bipush 10, 2) := by decide +kernel
theorem dX10_reachesBy_22 : decode cX10_reachesBy 22 = .ok (.goto 23, 3) := by decide +kernel
theorem dX10_reachesBy_25 : decode cX10_reachesBy 25 = .ok (.iload 6, 2) := by decide +kernel
theorem dX10_reachesBy_27 : decode cX10_reachesBy 27 = .ok (.iconst 1, 1) := by decide +kernel
theorem dX10_reachesBy_28 : decode cX10_reachesBy 28 = .ok (.if_icmp .ne 9, 3) := by decide +kernel
theorem dX10_reachesBy_31 : decode cX10_reachesBy 31 = .ok (.iconst 1, 1) := by decide +kernel
theorem dX10_reachesBy_32 : decode cX10_reachesBy 32 = .ok (.iload_n 3, 1) := by decide +kernel
theorem dX10_reachesBy_33 : decode cX10_reachesBy 33 = .ok (.isub, 1) := by decide +kernel
theorem dX10_reachesBy_34 : decode cX10_reachesBy 34 = .ok (.goto 11, 3) := by decide +kernel
theorem dX10_reachesBy_37 : decode cX10_reachesBy 37 = .ok (.iload 4, 2) := by decide +kernel
theorem dX10_reachesBy_39 : decode cX10_reachesBy 39 = .ok (.bipush 10, 2) := by decide +kernel
theorem dX10_reachesBy_41 : decode cX10_reachesBy 41 = .ok (.idiv, 1) := by decide +kernel
theorem dX10_reachesBy_42 : decode cX10_reachesBy 42 = .ok (.bipush 10, 2) := by decide +kernel
theorem dX10_reachesBy_44 : decode cX10_reachesBy 44 = .ok (.irem, 1) := by decide +kernel
theorem dX10_reachesBy_45 : decode cX10_reachesBy 45 = .ok (.istore 7, 2) := by decide +kernel
theorem dX10_reachesBy_47 : decode cX10_reachesBy 47 = .ok (.iload 4, 2) := by decide +kernel
theorem dX10_reachesBy_49 : decode cX10_reachesBy 49 = .ok (.bipush 10, 2) := by decide +kernel
theorem dX10_reachesBy_51 : decode cX10_reachesBy 51 = .ok (.irem, 1) := by decide +kernel
theorem dX10_reachesBy_52 : decode cX10_reachesBy 52 = .ok (.iconst 2, 1) := by decide +kernel
theorem dX10_reachesBy_53 : decode cX10_reachesBy 53 = .ok (.if_icmp .ne 8, 3) := by decide +kernel
theorem dX10_reachesBy_56 : decode cX10_reachesBy 56 = .ok (.bipush 11, 2) := by decide +kernel
theorem dX10_reachesBy_58 : decode cX10_reachesBy 58 = .ok (.goto 8, 3) := by decide +kernel
theorem dX10_reachesBy_61 : decode cX10_reachesBy 61 = .ok (.iload 4, 2) := by decide +kernel
theorem dX10_reachesBy_63 : decode cX10_reachesBy 63 = .ok (.bipush 10, 2) := by decide +kernel
theorem dX10_reachesBy_65 : decode cX10_reachesBy 65 = .ok (.irem, 1) := by decide +kernel
theorem dX10_reachesBy_66 : decode cX10_reachesBy 66 = .ok (.istore 8, 2) := by decide +kernel
theorem dX10_reachesBy_68 : decode cX10_reachesBy 68 = .ok (.aload 5, 2) := by decide +kernel
theorem dX10_reachesBy_70 : decode cX10_reachesBy 70 = .ok (.iload 6, 2) := by decide +kernel
theorem dX10_reachesBy_72 : decode cX10_reachesBy 72 = .ok (.iconst 2, 1) := by decide +kernel
theorem dX10_reachesBy_73 : decode cX10_reachesBy 73 = .ok (.if_icmp .ge 8, 3) := by decide +kernel
theorem dX10_reachesBy_76 : decode cX10_reachesBy 76 = .ok (.bipush (-6), 2) := by decide +kernel
theorem dX10_reachesBy_78 : decode cX10_reachesBy 78 = .ok (.goto 11, 3) := by decide +kernel
theorem dX10_reachesBy_81 : decode cX10_reachesBy 81 = .ok (.getstatic 69, 3) := by decide +kernel
theorem dX10_reachesBy_84 : decode cX10_reachesBy 84 = .ok (.iload 6, 2) := by decide +kernel
theorem dX10_reachesBy_86 : decode cX10_reachesBy 86 = .ok (.iconst 2, 1) := by decide +kernel
theorem dX10_reachesBy_87 : decode cX10_reachesBy 87 = .ok (.isub, 1) := by decide +kernel
theorem dX10_reachesBy_88 : decode cX10_reachesBy 88 = .ok (.iaload, 1) := by decide +kernel
theorem dX10_reachesBy_89 : decode cX10_reachesBy 89 = .ok (.iload 7, 2) := by decide +kernel
theorem dX10_reachesBy_91 : decode cX10_reachesBy 91 = .ok (.iload 8, 2) := by decide +kernel
theorem dX10_reachesBy_93 : decode cX10_reachesBy 93 = .ok (.invokevirtual 72, 3) := by decide +kernel
theorem dX10_reachesBy_96 : decode cX10_reachesBy 96 = .ok (.aload_n 0, 1) := by decide +kernel
theorem dX10_reachesBy_97 : decode cX10_reachesBy 97 = .ok (.getfield 28, 3) := by decide +kernel
theorem dX10_reachesBy_100 : decode cX10_reachesBy 100 = .ok (.iload_n 1, 1) := by decide +kernel
theorem dX10_reachesBy_101 : decode cX10_reachesBy 101 = .ok (.sipush 1000, 3) := by decide +kernel
theorem dX10_reachesBy_104 : decode cX10_reachesBy 104 = .ok (.iload_n 3, 1) := by decide +kernel
theorem dX10_reachesBy_105 : decode cX10_reachesBy 105 = .ok (.imul, 1) := by decide +kernel
theorem dX10_reachesBy_106 : decode cX10_reachesBy 106 = .ok (.iload 4, 2) := by decide +kernel
theorem dX10_reachesBy_108 : decode cX10_reachesBy 108 = .ok (.iadd, 1) := by decide +kernel
theorem dX10_reachesBy_109 : decode cX10_reachesBy 109 = .ok (.iload 6, 2) := by decide +kernel
theorem dX10_reachesBy_111 : decode cX10_reachesBy 111 = .ok (.iconst 1, 1) := by decide +kernel
theorem dX10_reachesBy_112 : decode cX10_reachesBy 112 = .ok (.if_icmp .ne 11, 3) := by decide +kernel
theorem dX10_reachesBy_115 : decode cX10_reachesBy 115 = .ok (.bipush 10, 2) := by decide +kernel
theorem dX10_reachesBy_117 : decode cX10_reachesBy 117 = .ok (.iload 7, 2) := by decide +kernel
theorem dX10_reachesBy_119 : decode cX10_reachesBy 119 = .ok (.imul, 1) := by decide +kernel
theorem dX10_reachesBy_120 : decode cX10_reachesBy 120 = .ok (.goto 4, 3) := by decide +kernel
theorem dX10_reachesBy_123 : decode cX10_reachesBy 123 = .ok (.iconst 0, 1) := by decide +kernel
theorem dX10_reachesBy_124 : decode cX10_reachesBy 124 = .ok (.iadd, 1) := by decide +kernel
theorem dX10_reachesBy_125 : decode cX10_reachesBy 125 = .ok (.iastore, 1) := by decide +kernel
theorem dX10_reachesBy_126 : decode cX10_reachesBy 126 = .ok (.iload_n 1, 1) := by decide +kernel
theorem dX10_reachesBy_127 : decode cX10_reachesBy 127 = .ok (.iload_n 2, 1) := by decide +kernel
theorem dX10_reachesBy_128 : decode cX10_reachesBy 128 = .ok (.iconst 1, 1) := by decide +kernel
theorem dX10_reachesBy_129 : decode cX10_reachesBy 129 = .ok (.isub, 1) := by decide +kernel
theorem dX10_reachesBy_130 : decode cX10_reachesBy 130 = .ok (.if_icmp .ne 14, 3) := by decide +kernel
theorem dX10_reachesBy_133 : decode cX10_reachesBy 133 = .ok (.aload 5, 2) := by decide +kernel
theorem dX10_reachesBy_135 : decode cX10_reachesBy 135 = .ok (.iload_n 3, 1) := by decide +kernel
theorem dX10_reachesBy_136 : decode cX10_reachesBy 136 = .ok (.aload_n 0, 1) := by decide +kernel
theorem dX10_reachesBy_137 : decode cX10_reachesBy 137 = .ok (.getfield 18, 3) := by decide +kernel
theorem dX10_reachesBy_140 : decode cX10_reachesBy 140 = .ok (.invokevirtual 76, 3) := by decide +kernel
theorem dX10_reachesBy_143 : decode cX10_reachesBy 143 = .ok (.ireturn, 1) := by decide +kernel
theorem dX10_reachesBy_144 : decode cX10_reachesBy 144 = .ok (.iload_n 1, 1) := by decide +kernel
theorem dX10_reachesBy_145 : decode cX10_reachesBy 145 = .ok (.iconst 1, 1) := by decide +kernel
theorem dX10_reachesBy_146 : decode cX10_reachesBy 146 = .ok (.iadd, 1) := by decide +kernel
theorem dX10_reachesBy_147 : decode cX10_reachesBy 147 = .ok (.iconst 3, 1) := by decide +kernel
theorem dX10_reachesBy_148 : decode cX10_reachesBy 148 = .ok (.if_icmp .lt 5, 3) := by decide +kernel
theorem dX10_reachesBy_151 : decode cX10_reachesBy 151 = .ok (.iconst 0, 1) := by decide +kernel
theorem dX10_reachesBy_152 : decode cX10_reachesBy 152 = .ok (.ireturn, 1) := by decide +kernel
theorem dX10_reachesBy_153 : decode cX10_reachesBy 153 = .ok (.aload_n 0, 1) := by decide +kernel
theorem dX10_reachesBy_154 : decode cX10_reachesBy 154 = .ok (.getfield 24, 3) := by decide +kernel
theorem dX10_reachesBy_157 : decode cX10_reachesBy 157 = .ok (.iload_n 1, 1) := by decide +kernel
theorem dX10_reachesBy_158 : decode cX10_reachesBy 158 = .ok (.iconst 1, 1) := by decide +kernel
theorem dX10_reachesBy_159 : decode cX10_reachesBy 159 = .ok (.iadd, 1) := by decide +kernel
theorem dX10_reachesBy_160 : decode cX10_reachesBy 160 = .ok (.aaload, 1) := by decide +kernel
theorem dX10_reachesBy_161 : decode cX10_reachesBy 161 = .ok (.aload 5, 2) := by decide +kernel
theorem dX10_reachesBy_163 : decode cX10_reachesBy 163 = .ok (.invokevirtual 35, 3) := by decide +kernel
theorem dX10_reachesBy_166 : decode cX10_reachesBy 166 = .ok (.aload 5, 2) := by decide +kernel
theorem dX10_reachesBy_168 : decode cX10_reachesBy 168 = .ok (.iload_n 3, 1) := by decide +kernel
theorem dX10_reachesBy_169 : decode cX10_reachesBy 169 = .ok (.aload_n 0, 1) := by decide +kernel
theorem dX10_reachesBy_170 : decode cX10_reachesBy 170 = .ok (.getfield 24, 3) := by decide +kernel
theorem dX10_reachesBy_173 : decode cX10_reachesBy 173 = .ok (.iload_n 1, 1) := by decide +kernel
theorem dX10_reachesBy_174 : decode cX10_reachesBy 174 = .ok (.iconst 1, 1) := by decide +kernel
theorem dX10_reachesBy_175 : decode cX10_reachesBy 175 = .ok (.iadd, 1) := by decide +kernel
theorem dX10_reachesBy_176 : decode cX10_reachesBy 176 = .ok (.aaload, 1) := by decide +kernel
theorem dX10_reachesBy_177 : decode cX10_reachesBy 177 = .ok (.invokevirtual 80, 3) := by decide +kernel
theorem dX10_reachesBy_180 : decode cX10_reachesBy 180 = .ok (.aload_n 0, 1) := by decide +kernel
theorem dX10_reachesBy_181 : decode cX10_reachesBy 181 = .ok (.iload_n 1, 1) := by decide +kernel
theorem dX10_reachesBy_182 : decode cX10_reachesBy 182 = .ok (.iconst 1, 1) := by decide +kernel
theorem dX10_reachesBy_183 : decode cX10_reachesBy 183 = .ok (.iadd, 1) := by decide +kernel
theorem dX10_reachesBy_184 : decode cX10_reachesBy 184 = .ok (.iload_n 2, 1) := by decide +kernel
theorem dX10_reachesBy_185 : decode cX10_reachesBy 185 = .ok (.invokevirtual 58, 3) := by decide +kernel
theorem dX10_reachesBy_188 : decode cX10_reachesBy 188 = .ok (.ireturn, 1) := by decide +kernel
theorem dX11_init_0 : decode cX11_init 0 = .ok (.aload_n 0, 1) := by decide +kernel
theorem dX11_init_1 : decode cX11_init 1 = .ok (.invokespecial 3, 3) := by decide +kernel
theorem dX11_init_4 : decode cX11_init 4 = .ok (.aload_n 0, 1) := by decide +kernel
theorem dX11_init_5 : decode cX11_init 5 = .ok (.new 9, 3) := by decide +kernel
theorem dX11_init_8 : decode cX11_init 8 = .ok (.dup, 1) := by decide +kernel
theorem dX11_init_9 : decode cX11_init 9 = .ok (.invokespecial 11, 3) := by decide +kernel
theorem dX11_init_12 : decode cX11_init 12 = .ok (.putfield 12, 3) := by decide +kernel
theorem dX11_init_15 : decode cX11_init 15 = .ok (.aload_n 0, 1) := by decide +kernel
theorem dX11_init_16 : decode cX11_init 16 = .ok (.new 16, 3) := by decide +kernel
theorem dX11_init_19 : decode cX11_init 19 = .ok (.dup, 1) := by decide +kernel
theorem dX11_init_20 : decode cX11_init 20 = .ok (.invokespecial 18, 3) := by decide +kernel
theorem dX11_init_23 : decode cX11_init 23 = .ok (.putfield 19, 3) := by decide +kernel
theorem dX11_init_26 : decode cX11_init 26 = .ok (.aload_n 0, 1) := by decide +kernel
theorem dX11_init_27 : decode cX11_init 27 = .ok (.iconst 2, 1) := by decide +kernel
theorem dX11_init_28 : decode cX11_init 28 = .ok (.anewarray 16, 3) := by decide +kernel
theorem dX11_init_31 : decode cX11_init 31 = .ok (.putfield 23, 3) := by decide +kernel
theorem dX11_init_34 : decode cX11_init 34 = .ok (.iconst 0, 1) := by decide +kernel
theorem dX11_init_35 : decode cX11_init 35 = .ok (.istore_n 1, 1) := by decide +kernel
theorem dX11_init_36 : decode cX11_init 36 = .ok (.iload_n 1, 1) := by decide +kernel
theorem dX11_init_37 : decode cX11_init 37 = .ok (.iconst 2, 1) := by decide +kernel
theorem dX11_init_38 : decode cX11_init 38 = .ok (.if_icmp .ge 22, 3) := by decide +kernel
theorem dX11_init_41 : decode cX11_init 41 = .ok (.aload_n 0, 1) := by decide +kernel
theorem dX11_init_42 : decode cX11_init 42 = .ok (.getfield 23, 3) := by decide +kernel
theorem dX11_init_45 : decode cX11_init 45 = .ok (.iload_n 1, 1) := by decide +kernel
theorem dX11_init_46 : decode cX11_init 46 = .ok (.new 16, 3) := by decide +kernel
theorem dX11_init_49 : decode cX11_init 49 = .ok (.dup, 1) := by decide +kernel
theorem dX11_init_50 : decode cX11_init 50 = .ok (.invokespecial 18, 3) := by decide +kernel
theorem dX11_init_53 : decode cX11_init 53 = .ok (.aastore, 1) := by decide +kernel
theorem dX11_init_54 : decode cX11_init 54 = .ok (.iinc 1 1, 3) := by decide +kernel
theorem dX11_init_57 : decode cX11_init 57 = .ok (.goto (-21), 3) := by decide +kernel
theorem dX11_init_60 : decode cX11_init 60 = .ok (.aload_n 0, 1) := by decide +kernel
theorem dX11_init_61 : decode cX11_init 61 = .ok (.iconst 2, 1) := by decide +kernel
theorem dX11_init_62 : decode cX11_init 62 = .ok (.newarray .boolean, 2) := by decide +kernel
theorem dX11_init_64 : decode cX11_init 64 = .ok (.putfield 27, 3) := by decide +kernel
theorem dX11_init_67 : decode cX11_init 67 = .ok (.aload_n 0, 1) := by decide +kernel
theorem dX11_init_68 : decode cX11_init 68 = .ok (.new 31, 3) := by decide +kernel
theorem dX11_init_71 : decode cX11_init 71 = .ok (.dup, 1) := by decide +kernel
theorem dX11_init_72 : decode cX11_init 72 = .ok (.invokespecial 33, 3) := by decide +kernel
theorem dX11_init_75 : decode cX11_init 75 = .ok (.putfield 34, 3) := by decide +kernel
theorem dX11_init_78 : decode cX11_init 78 = .ok (.aload_n 0, 1) := by decide +kernel
theorem dX11_init_79 : decode cX11_init 79 = .ok (.new 38, 3) := by decide +kernel
theorem dX11_init_82 : decode cX11_init 82 = .ok (.dup, 1) := by decide +kernel
theorem dX11_init_83 : decode cX11_init 83 = .ok (.invokespecial 40, 3) := by decide +kernel
theorem dX11_init_86 : decode cX11_init 86 = .ok (.putfield 41, 3) := by decide +kernel
theorem dX11_init_89 : decode cX11_init 89 = .ok (.aload_n 0, 1) := by decide +kernel
theorem dX11_init_90 : decode cX11_init 90 = .ok (.new 45, 3) := by decide +kernel
theorem dX11_init_93 : decode cX11_init 93 = .ok (.dup, 1) := by decide +kernel
theorem dX11_init_94 : decode cX11_init 94 = .ok (.invokespecial 47, 3) := by decide +kernel
theorem dX11_init_97 : decode cX11_init 97 = .ok (.putfield 48, 3) := by decide +kernel
theorem dX11_init_100 : decode cX11_init 100 = .ok (.aload_n 0, 1) := by decide +kernel
theorem dX11_init_101 : decode cX11_init 101 = .ok (.new 52, 3) := by decide +kernel
theorem dX11_init_104 : decode cX11_init 104 = .ok (.dup, 1) := by decide +kernel
theorem dX11_init_105 : decode cX11_init 105 = .ok (.invokespecial 54, 3) := by decide +kernel
theorem dX11_init_108 : decode cX11_init 108 = .ok (.putfield 55, 3) := by decide +kernel
theorem dX11_init_111 : decode cX11_init 111 = .ok (.aload_n 0, 1) := by decide +kernel
theorem dX11_init_112 : decode cX11_init 112 = .ok (.new 59, 3) := by decide +kernel
theorem dX11_init_115 : decode cX11_init 115 = .ok (.dup, 1) := by decide +kernel
theorem dX11_init_116 : decode cX11_init 116 = .ok (.invokespecial 61, 3) := by decide +kernel
theorem dX11_init_119 : decode cX11_init 119 = .ok (.putfield 62, 3) := by decide +kernel
theorem dX11_init_122 : decode cX11_init 122 = .ok (.aload_n 0, 1) := by decide +kernel
theorem dX11_init_123 : decode cX11_init 123 = .ok (.new 66, 3) := by decide +kernel
theorem dX11_init_126 : decode cX11_init 126 = .ok (.dup, 1) := by decide +kernel
theorem dX11_init_127 : decode cX11_init 127 = .ok (.invokespecial 68, 3) := by decide +kernel
theorem dX11_init_130 : decode cX11_init 130 = .ok (.putfield 69, 3) := by decide +kernel
theorem dX11_init_133 : decode cX11_init 133 = .ok (.aload_n 0, 1) := by decide +kernel
theorem dX11_init_134 : decode cX11_init 134 = .ok (.new 66, 3) := by decide +kernel
theorem dX11_init_137 : decode cX11_init 137 = .ok (.dup, 1) := by decide +kernel
theorem dX11_init_138 : decode cX11_init 138 = .ok (.invokespecial 68, 3) := by decide +kernel
theorem dX11_init_141 : decode cX11_init 141 = .ok (.putfield 73, 3) := by decide +kernel
theorem dX11_init_144 : decode cX11_init 144 = .ok (.aload_n 0, 1) := by decide +kernel
theorem dX11_init_145 : decode cX11_init 145 = .ok (.new 76, 3) := by decide +kernel
theorem dX11_init_148 : decode cX11_init 148 = .ok (.dup, 1) := by decide +kernel
theorem dX11_init_149 : decode cX11_init 149 = .ok (.invokespecial 78, 3) := by decide +kernel
theorem dX11_init_152 : decode cX11_init 152 = .ok (.putfield 79, 3) := by decide +kernel
theorem dX11_init_155 : decode cX11_init 155 = .ok (.aload_n 0, 1) := by decide +kernel
theorem dX11_init_156 : decode cX11_init 156 = .ok (.new 83, 3) := by decide +kernel
theorem dX11_init_159 : decode cX11_init 159 = .ok (.dup, 1) := by decide +kernel
theorem dX11_init_160 : decode cX11_init 160 = .ok (.invokespecial 85, 3) := by decide +kernel
theorem dX11_init_163 : decode cX11_init 163 = .ok (.putfield 86, 3) := by decide +kernel
theorem dX11_init_166 : decode cX11_init 166 = .ok (.aload_n 0, 1) := by decide +kernel
theorem dX11_init_167 : decode cX11_init 167 = .ok (.iconst 4, 1) := by decide +kernel
theorem dX11_init_168 : decode cX11_init 168 = .ok (.newarray .int, 2) := by decide +kernel
theorem dX11_init_170 : decode cX11_init 170 = .ok (.putfield 90, 3) := by decide +kernel
theorem dX11_init_173 : decode cX11_init 173 = .ok (.return_, 1) := by decide +kernel
theorem dX11_say_0 : decode cX11_say 0 = .ok (.iload_n 1, 1) := by decide +kernel
theorem dX11_say_1 : decode cX11_say 1 = .ok (.bipush 33, 2) := by decide +kernel
theorem dX11_say_3 : decode cX11_say 3 = .ok (.if_icmp .lt 9, 3) := by decide +kernel
theorem dX11_say_6 : decode cX11_say 6 = .ok (.iload_n 1, 1) := by decide +kernel
theorem dX11_say_7 : decode cX11_say 7 = .ok (.bipush 126, 2) := by decide +kernel
theorem dX11_say_9 : decode cX11_say 9 = .ok (.if_icmp .le 6, 3) := by decide +kernel
theorem dX11_say_12 : decode cX11_say 12 = .ok (.bipush (-2), 2) := by decide +kernel
theorem dX11_say_14 : decode cX11_say 14 = .ok (.ireturn, 1) := by decide +kernel
theorem dX11_say_15 : decode cX11_say 15 = .ok (.aload_n 0, 1) := by decide +kernel
theorem dX11_say_16 : decode cX11_say 16 = .ok (.getfield 12, 3) := by decide +kernel
theorem dX11_say_19 : decode cX11_say 19 = .ok (.iload_n 1, 1) := by decide +kernel
theorem dX11_say_20 : decode cX11_say 20 = .ok (.invokevirtual 94, 3) := by decide +kernel
theorem dX11_say_23 : decode cX11_say 23 = .ok (.ireturn, 1) := by decide +kernel
theorem dX11_wipe_0 : decode cX11_wipe 0 = .ok (.aload_n 0, 1) := by decide +kernel
theorem dX11_wipe_1 : decode cX11_wipe 1 = .ok (.getfield 12, 3) := by decide +kernel
theorem dX11_wipe_4 : decode cX11_wipe 4 = .ok (.invokevirtual 98, 3) := by decide +kernel
theorem dX11_wipe_7 : decode cX11_wipe 7 = .ok (.ireturn, 1) := by decide +kernel
theorem dX11_fault_0 : decode cX11_fault 0 = .ok (.iload_n 1, 1) := by decide +kernel
theorem dX11_fault_1 : decode cX11_fault 1 = .ok (.ifCond .eq 11, 3) := by decide +kernel
theorem dX11_fault_4 : decode cX11_fault 4 = .ok (.iload_n 1, 1) := by decide +kernel
theorem dX11_fault_5 : decode cX11_fault 5 = .ok (.iconst 1, 1) := by decide +kernel
theorem dX11_fault_6 : decode cX11_fault 6 = .ok (.if_icmp .eq 6, 3) := by decide +kernel
theorem dX11_fault_9 : decode cX11_fault 9 = .ok (.bipush (-2), 2) := by decide +kernel
theorem dX11_fault_11 : decode cX11_fault 11 = .ok (.ireturn, 1) := by decide +kernel
theorem dX11_fault_12 : decode cX11_fault 12 = .ok (.aload_n 0, 1) := by decide +kernel
theorem dX11_fault_13 : decode cX11_fault 13 = .ok (.getfield 12, 3) := by decide +kernel
theorem dX11_fault_16 : decode cX11_fault 16 = .ok (.iload_n 1, 1) := by decide +kernel
theorem dX11_fault_17 : decode cX11_fault 17 = .ok (.iconst 1, 1) := by decide +kernel
theorem dX11_fault_18 : decode cX11_fault 18 = .ok (.if_icmp .ne 7, 3) := by decide +kernel
theorem dX11_fault_21 : decode cX11_fault 21 = .ok (.iconst 1, 1) := by decide +kernel
theorem dX11_fault_22 : decode cX11_fault 22 = .ok (.goto 4, 3) := by decide +kernel
theorem dX11_fault_25 : decode cX11_fault 25 = .ok (.iconst 0, 1) := by decide +kernel
theorem dX11_fault_26 : decode cX11_fault 26 = .ok (.invokevirtual 102, 3) := by decide +kernel
theorem dX11_fault_29 : decode cX11_fault 29 = .ok (.ireturn, 1) := by decide +kernel
theorem dX11_code_0 : decode cX11_code 0 = .ok (.aload_n 0, 1) := by decide +kernel
theorem dX11_code_1 : decode cX11_code 1 = .ok (.getfield 12, 3) := by decide +kernel
theorem dX11_code_4 : decode cX11_code 4 = .ok (.iconst 0, 1) := by decide +kernel
theorem dX11_code_5 : decode cX11_code 5 = .ok (.invokevirtual 102, 3) := by decide +kernel
theorem dX11_code_8 : decode cX11_code 8 = .ok (.bipush (-6), 2) := by decide +kernel
theorem dX11_code_10 : decode cX11_code 10 = .ok (.if_icmp .eq 6, 3) := by decide +kernel
theorem dX11_code_13 : decode cX11_code 13 = .ok (.bipush (-5), 2) := by decide +kernel
theorem dX11_code_15 : decode cX11_code 15 = .ok (.ireturn, 1) := by decide +kernel
theorem dX11_code_16 : decode cX11_code 16 = .ok (.aload_n 0, 1) := by decide +kernel
theorem dX11_code_17 : decode cX11_code 17 = .ok (.getfield 19, 3) := by decide +kernel
theorem dX11_code_20 : decode cX11_code 20 = .ok (.getfield 106, 3) := by decide +kernel
theorem dX11_code_23 : decode cX11_code 23 = .ok (.aload_n 0, 1) := by decide +kernel
theorem dX11_code_24 : decode cX11_code 24 = .ok (.getfield 12, 3) := by decide +kernel
theorem dX11_code_27 : decode cX11_code 27 = .ok (.getfield 109, 3) := by decide +kernel
theorem dX11_code_30 : decode cX11_code 30 = .ok (.invokevirtual 112, 3) := by decide +kernel
theorem dX11_code_33 : decode cX11_code 33 = .ok (.aload_n 0, 1) := by decide +kernel
theorem dX11_code_34 : decode cX11_code 34 = .ok (.getfield 12, 3) := by decide +kernel
theorem dX11_code_37 : decode cX11_code 37 = .ok (.invokevirtual 98, 3) := by decide +kernel
theorem dX11_code_40 : decode cX11_code 40 = .ok (.pop, 1) := by decide +kernel
theorem dX11_code_41 : decode cX11_code 41 = .ok (.aload_n 0, 1) := by decide +kernel
theorem dX11_code_42 : decode cX11_code 42 = .ok (.getfield 19, 3) := by decide +kernel
theorem dX11_code_45 : decode cX11_code 45 = .ok (.getfield 106, 3) := by decide +kernel
theorem dX11_code_48 : decode cX11_code 48 = .ok (.getfield 116, 3) := by decide +kernel
theorem dX11_code_51 : decode cX11_code 51 = .ok (.ireturn, 1) := by decide +kernel
theorem dX11_want_0 : decode cX11_want 0 = .ok (.iload_n 1, 1) := by decide +kernel
theorem dX11_want_1 : decode cX11_want 1 = .ok (.iconst 1, 1) := by decide +kernel
theorem dX11_want_2 : decode cX11_want 2 = .ok (.if_icmp .lt 9, 3) := by decide +kernel
theorem dX11_want_5 : decode cX11_want 5 = .ok (.iload_n 1, 1) := by decide +kernel
theorem dX11_want_6 : decode cX11_want 6 = .ok (.bipush 15, 2) := by decide +kernel
theorem dX11_want_8 : decode cX11_want 8 = .ok (.if_icmp .le 6, 3) := by decide +kernel
theorem dX11_want_11 : decode cX11_want 11 = .ok (.bipush (-2), 2) := by decide +kernel
theorem dX11_want_13 : decode cX11_want 13 = .ok (.ireturn, 1) := by decide +kernel
theorem dX11_want_14 : decode cX11_want 14 = .ok (.aload_n 0, 1) := by decide +kernel
theorem dX11_want_15 : decode cX11_want 15 = .ok (.getfield 19, 3) := by decide +kernel
theorem dX11_want_18 : decode cX11_want 18 = .ok (.getfield 120, 3) := by decide +kernel
theorem dX11_want_21 : decode cX11_want 21 = .ok (.istore_n 2, 1) := by decide +kernel
theorem dX11_want_22 : decode cX11_want 22 = .ok (.aload_n 0, 1) := by decide +kernel
theorem dX11_want_23 : decode cX11_want 23 = .ok (.getfield 19, 3) := by decide +kernel
theorem dX11_want_26 : decode cX11_want 26 = .ok (.iload_n 1, 1) := by decide +kernel
theorem dX11_want_27 : decode cX11_want 27 = .ok (.putfield 120, 3) := by decide +kernel
theorem dX11_want_30 : decode cX11_want 30 = .ok (.iload_n 2, 1) := by decide +kernel
theorem dX11_want_31 : decode cX11_want 31 = .ok (.ireturn, 1) := by decide +kernel
theorem dX11_step_0 : decode cX11_step 0 = .ok (.aload_n 0, 1) := by decide +kernel
theorem dX11_step_1 : decode cX11_step 1 = .ok (.iload_n 1, 1) := by decide +kernel
theorem dX11_step_2 : decode cX11_step 2 = .ok (.invokevirtual 123, 3) := by decide +kernel
theorem dX11_step_5 : decode cX11_step 5 = .ok (.ifCond .eq 5, 3) := by decide +kernel
theorem dX11_step_8 : decode cX11_step 8 = .ok (.iconst (-1), 1) := by decide +kernel
theorem dX11_step_9 : decode cX11_step 9 = .ok (.ireturn, 1) := by decide +kernel
theorem dX11_step_10 : decode cX11_step 10 = .ok (.iload_n 2, 1) := by decide +kernel
theorem dX11_step_11 : decode cX11_step 11 = .ok (.ifCond .lt 8, 3) := by decide +kernel
theorem dX11_step_14 : decode cX11_step 14 = .ok (.iload_n 2, 1) := by decide +kernel
theorem dX11_step_15 : decode cX11_step 15 = .ok (.iconst 3, 1) := by decide +kernel
theorem dX11_step_16 : decode cX11_step 16 = .ok (.if_icmp .le 6, 3) := by decide +kernel
theorem dX11_step_19 : decode cX11_step 19 = .ok (.bipush (-2), 2) := by decide +kernel
theorem dX11_step_21 : decode cX11_step 21 = .ok (.ireturn, 1) := by decide +kernel
theorem dX11_step_22 : decode cX11_step 22 = .ok (.aload_n 0, 1) := by decide +kernel
theorem dX11_step_23 : decode cX11_step 23 = .ok (.getfield 19, 3) := by decide +kernel
theorem dX11_step_26 : decode cX11_step 26 = .ok (.getfield 106, 3) := by decide +kernel
theorem dX11_step_29 : decode cX11_step 29 = .ok (.iload_n 1, 1) := by decide +kernel
theorem dX11_step_30 : decode cX11_step 30 = .ok (.iload_n 2, 1) := by decide +kernel
theorem dX11_step_31 : decode cX11_step 31 = .ok (.invokevirtual 127, 3) := by decide +kernel
theorem dX11_step_34 : decode cX11_step 34 = .ok (.ireturn, 1) := by decide +kernel
theorem dX11_run_0 : decode cX11_run 0 = .ok (.iload_n 1, 1) := by decide +kernel
theorem dX11_run_1 : decode cX11_run 1 = .ok (.ifCond .lt 28, 3) := by decide +kernel
theorem dX11_run_4 : decode cX11_run 4 = .ok (.iload_n 1, 1) := by decide +kernel
theorem dX11_run_5 : decode cX11_run 5 = .ok (.sipush 4096, 3) := by decide +kernel
theorem dX11_run_8 : decode cX11_run 8 = .ok (.if_icmp .ge 21, 3) := by decide +kernel
theorem dX11_run_11 : decode cX11_run 11 = .ok (.iload_n 2, 1) := by decide +kernel
theorem dX11_run_12 : decode cX11_run 12 = .ok (.ifCond .lt 17, 3) := by decide +kernel
theorem dX11_run_15 : decode cX11_run 15 = .ok (.iload_n 2, 1) := by decide +kernel
theorem dX11_run_16 : decode cX11_run 16 = .ok (.aload_n 0, 1) := by decide +kernel
theorem dX11_run_17 : decode cX11_run 17 = .ok (.getfield 19, 3) := by decide +kernel
theorem dX11_run_20 : decode cX11_run 20 = .ok (.getfield 106, 3) := by decide +kernel
theorem dX11_run_23 : decode cX11_run 23 = .ok (.getfield 116, 3) := by decide +kernel
theorem dX11_run_26 : decode cX11_run 26 = .ok (.if_icmp .le 6, 3) := by decide +kernel
theorem dX11_run_29 : decode cX11_run 29 = .ok (.bipush (-2), 2) := by decide +kernel
theorem dX11_run_31 : decode cX11_run 31 = .ok (.ireturn, 1) := by decide +kernel
theorem dX11_run_32 : decode cX11_run 32 = .ok (.iconst 0, 1) := by decide +kernel
theorem dX11_run_33 : decode cX11_run 33 = .ok (.istore_n 3, 1) := by decide +kernel
theorem dX11_run_34 : decode cX11_run 34 = .ok (.iload_n 3, 1) := by decide +kernel
theorem dX11_run_35 : decode cX11_run 35 = .ok (.iconst 4, 1) := by decide +kernel
theorem dX11_run_36 : decode cX11_run 36 = .ok (.if_icmp .ge 25, 3) := by decide +kernel
theorem dX11_run_39 : decode cX11_run 39 = .ok (.aload_n 0, 1) := by decide +kernel
theorem dX11_run_40 : decode cX11_run 40 = .ok (.getfield 90, 3) := by decide +kernel
theorem dX11_run_43 : decode cX11_run 43 = .ok (.iload_n 3, 1) := by decide +kernel
theorem dX11_run_44 : decode cX11_run 44 = .ok (.iload_n 1, 1) := by decide +kernel
theorem dX11_run_45 : decode cX11_run 45 = .ok (.iconst 3, 1) := by decide +kernel
theorem dX11_run_46 : decode cX11_run 46 = .ok (.iconst 3, 1) := by decide +kernel
theorem dX11_run_47 : decode cX11_run 47 = .ok (.iload_n 3, 1) := by decide +kernel
theorem dX11_run_48 : decode cX11_run 48 = .ok (.isub, 1) := by decide +kernel
theorem dX11_run_49 : decode cX11_run 49 = .ok (.imul, 1) := by decide +kernel
theorem dX11_run_50 : decode cX11_run 50 = .ok (.ishr, 1) := by decide +kernel
theorem dX11_run_51 : decode cX11_run 51 = .ok (.bipush 7, 2) := by decide +kernel
theorem dX11_run_53 : decode cX11_run 53 = .ok (.iand, 1) := by decide +kernel
theorem dX11_run_54 : decode cX11_run 54 = .ok (.iastore, 1) := by decide +kernel
theorem dX11_run_55 : decode cX11_run 55 = .ok (.iinc 3 1, 3) := by decide +kernel
theorem dX11_run_58 : decode cX11_run 58 = .ok (.goto (-24), 3) := by decide +kernel
theorem dX11_run_61 : decode cX11_run 61 = .ok (.iconst 0, 1) := by decide +kernel
theorem dX11_run_62 : decode cX11_run 62 = .ok (.istore_n 3, 1) := by decide +kernel
theorem dX11_run_63 : decode cX11_run 63 = .ok (.iload_n 3, 1) := by decide +kernel
theorem dX11_run_64 : decode cX11_run 64 = .ok (.iload_n 2, 1) := by decide +kernel
theorem dX11_run_65 : decode cX11_run 65 = .ok (.if_icmp .ge 37, 3) := by decide +kernel
theorem dX11_run_68 : decode cX11_run 68 = .ok (.aload_n 0, 1) := by decide +kernel
theorem dX11_run_69 : decode cX11_run 69 = .ok (.getfield 90, 3) := by decide +kernel
theorem dX11_run_72 : decode cX11_run 72 = .ok (.aload_n 0, 1) := by decide +kernel
theorem dX11_run_73 : decode cX11_run 73 = .ok (.getfield 19, 3) := by decide +kernel
theorem dX11_run_76 : decode cX11_run 76 = .ok (.getfield 106, 3) := by decide +kernel
theorem dX11_run_79 : decode cX11_run 79 = .ok (.iload_n 3, 1) := by decide +kernel
theorem dX11_run_80 : decode cX11_run 80 = .ok (.invokevirtual 131, 3) := by decide +kernel
theorem dX11_run_83 : decode cX11_run 83 = .ok (.aload_n 0, 1) := by decide +kernel
theorem dX11_run_84 : decode cX11_run 84 = .ok (.aload_n 0, 1) := by decide +kernel
theorem dX11_run_85 : decode cX11_run 85 = .ok (.getfield 19, 3) := by decide +kernel
theorem dX11_run_88 : decode cX11_run 88 = .ok (.getfield 106, 3) := by decide +kernel
theorem dX11_run_91 : decode cX11_run 91 = .ok (.iload_n 3, 1) := by decide +kernel
theorem dX11_run_92 : decode cX11_run 92 = .ok (.invokevirtual 134, 3) := by decide +kernel
theorem dX11_run_95 : decode cX11_run 95 = .ok (.iastore, 1) := by decide +kernel
theorem dX11_run_96 : decode cX11_run 96 = .ok (.iinc 3 1, 3) := by decide +kernel
theorem dX11_run_99 : decode cX11_run 99 = .ok (.goto (-36), 3) := by decide +kernel
theorem dX11_run_102 : decode cX11_run 102 = .ok (.iconst 0, 1) := by decide +kernel
theorem dX11_run_103 : decode cX11_run 103 = .ok (.istore_n 3, 1) := by decide +kernel
theorem dX11_run_104 : decode cX11_run 104 = .ok (.iconst 0, 1) := by decide +kernel
theorem dX11_run_105 : decode cX11_run 105 = .ok (.istore 4, 2) := by decide +kernel
theorem dX11_run_107 : decode cX11_run 107 = .ok (.iload 4, 2) := by decide +kernel
theorem dX11_run_109 : decode cX11_run 109 = .ok (.iconst 4, 1) := by decide +kernel
theorem dX11_run_110 : decode cX11_run 110 = .ok (.if_icmp .ge 22, 3) := by decide +kernel
theorem dX11_run_113 : decode cX11_run 113 = .ok (.iload_n 3, 1) := by decide +kernel
theorem dX11_run_114 : decode cX11_run 114 = .ok (.bipush 8, 2) := by decide +kernel
theorem dX11_run_116 : decode cX11_run 116 = .ok (.imul, 1) := by decide +kernel
theorem dX11_run_117 : decode cX11_run 117 = .ok (.aload_n 0, 1) := by decide +kernel
theorem dX11_run_118 : decode cX11_run 118 = .ok (.getfield 90, 3) := by decide +kernel
theorem dX11_run_121 : decode cX11_run 121 = .ok (.iload 4, 2) := by decide +kernel
theorem dX11_run_123 : decode cX11_run 123 = .ok (.iaload, 1) := by decide +kernel
theorem dX11_run_124 : decode cX11_run 124 = .ok (.iadd, 1) := by decide +kernel
theorem dX11_run_125 : decode cX11_run 125 = .ok (.istore_n 3, 1) := by decide +kernel
theorem dX11_run_126 : decode cX11_run 126 = .ok (.iinc 4 1, 3) := by decide +kernel
theorem dX11_run_129 : decode cX11_run 129 = .ok (.goto (-22), 3) := by decide +kernel
theorem dX11_run_132 : decode cX11_run 132 = .ok (.iload_n 3, 1) := by decide +kernel
theorem dX11_run_133 : decode cX11_run 133 = .ok (.ireturn, 1) := by decide +kernel
theorem dX11_keep_0 : decode cX11_keep 0 = .ok (.aload_n 0, 1) := by decide +kernel
theorem dX11_keep_1 : decode cX11_keep 1 = .ok (.getfield 19, 3) := by decide +kernel
theorem dX11_keep_4 : decode cX11_keep 4 = .ok (.getfield 138, 3) := by decide +kernel
theorem dX11_keep_7 : decode cX11_keep 7 = .ok (.aload_n 0, 1) := by decide +kernel
theorem dX11_keep_8 : decode cX11_keep 8 = .ok (.getfield 19, 3) := by decide +kernel
theorem dX11_keep_11 : decode cX11_keep 11 = .ok (.getfield 106, 3) := by decide +kernel
theorem dX11_keep_14 : decode cX11_keep 14 = .ok (.invokevirtual 112, 3) := by decide +kernel
theorem dX11_keep_17 : decode cX11_keep 17 = .ok (.aload_n 0, 1) := by decide +kernel
theorem dX11_keep_18 : decode cX11_keep 18 = .ok (.getfield 19, 3) := by decide +kernel
theorem dX11_keep_21 : decode cX11_keep 21 = .ok (.getfield 138, 3) := by decide +kernel
theorem dX11_keep_24 : decode cX11_keep 24 = .ok (.getfield 116, 3) := by decide +kernel
theorem dX11_keep_27 : decode cX11_keep 27 = .ok (.ireturn, 1) := by decide +kernel
theorem dX11_unlike_0 : decode cX11_unlike 0 = .ok (.aload_n 0, 1) := by decide +kernel
theorem dX11_unlike_1 : decode cX11_unlike 1 = .ok (.aload_n 0, 1) := by decide +kernel
theorem dX11_unlike_2 : decode cX11_unlike 2 = .ok (.getfield 19, 3) := by decide +kernel
theorem dX11_unlike_5 : decode cX11_unlike 5 = .ok (.getfield 106, 3) := by decide +kernel
theorem dX11_unlike_8 : decode cX11_unlike 8 = .ok (.aload_n 0, 1) := by decide +kernel
theorem dX11_unlike_9 : decode cX11_unlike 9 = .ok (.getfield 19, 3) := by decide +kernel
theorem dX11_unlike_12 : decode cX11_unlike 12 = .ok (.getfield 138, 3) := by decide +kernel
theorem dX11_unlike_15 : decode cX11_unlike 15 = .ok (.aload_n 0, 1) := by decide +kernel
theorem dX11_unlike_16 : decode cX11_unlike 16 = .ok (.getfield 19, 3) := by decide +kernel
theorem dX11_unlike_19 : decode cX11_unlike 19 = .ok (.getfield 120, 3) := by decide +kernel
theorem dX11_unlike_22 : decode cX11_unlike 22 = .ok (.invokevirtual 141, 3) := by decide +kernel
theorem dX11_unlike_25 : decode cX11_unlike 25 = .ok (.ireturn, 1) := by decide +kernel
theorem dX11_live_0 : decode cX11_live 0 = .ok (.aload_n 0, 1) := by decide +kernel
theorem dX11_live_1 : decode cX11_live 1 = .ok (.iload_n 1, 1) := by decide +kernel
theorem dX11_live_2 : decode cX11_live 2 = .ok (.invokevirtual 145, 3) := by decide +kernel
theorem dX11_live_5 : decode cX11_live 5 = .ok (.ifCond .eq 5, 3) := by decide +kernel
theorem dX11_live_8 : decode cX11_live 8 = .ok (.iconst (-1), 1) := by decide +kernel
theorem dX11_live_9 : decode cX11_live 9 = .ok (.ireturn, 1) := by decide +kernel
theorem dX11_live_10 : decode cX11_live 10 = .ok (.aload_n 0, 1) := by decide +kernel
theorem dX11_live_11 : decode cX11_live 11 = .ok (.getfield 34, 3) := by decide +kernel
theorem dX11_live_14 : decode cX11_live 14 = .ok (.aload_n 0, 1) := by decide +kernel
theorem dX11_live_15 : decode cX11_live 15 = .ok (.getfield 19, 3) := by decide +kernel
theorem dX11_live_18 : decode cX11_live 18 = .ok (.getfield 106, 3) := by decide +kernel
theorem dX11_live_21 : decode cX11_live 21 = .ok (.aload_n 0, 1) := by decide +kernel
theorem dX11_live_22 : decode cX11_live 22 = .ok (.getfield 19, 3) := by decide +kernel
theorem dX11_live_25 : decode cX11_live 25 = .ok (.getfield 120, 3) := by decide +kernel
theorem dX11_live_28 : decode cX11_live 28 = .ok (.invokevirtual 148, 3) := by decide +kernel
theorem dX11_live_31 : decode cX11_live 31 = .ok (.aload_n 0, 1) := by decide +kernel
theorem dX11_live_32 : decode cX11_live 32 = .ok (.getfield 34, 3) := by decide +kernel
theorem dX11_live_35 : decode cX11_live 35 = .ok (.getfield 152, 3) := by decide +kernel
theorem dX11_live_38 : decode cX11_live 38 = .ok (.iload_n 1, 1) := by decide +kernel
theorem dX11_live_39 : decode cX11_live 39 = .ok (.iaload, 1) := by decide +kernel
theorem dX11_live_40 : decode cX11_live 40 = .ok (.ireturn, 1) := by decide +kernel
theorem dX11_bad_0 : decode cX11_bad 0 = .ok (.iload_n 1, 1) := by decide +kernel
theorem dX11_bad_1 : decode cX11_bad 1 = .ok (.ifCond .eq 11, 3) := by decide +kernel
theorem dX11_bad_4 : decode cX11_bad 4 = .ok (.iload_n 1, 1) := by decide +kernel
theorem dX11_bad_5 : decode cX11_bad 5 = .ok (.iconst 1, 1) := by decide +kernel
theorem dX11_bad_6 : decode cX11_bad 6 = .ok (.if_icmp .eq 6, 3) := by decide +kernel
theorem dX11_bad_9 : decode cX11_bad 9 = .ok (.bipush (-2), 2) := by decide +kernel
theorem dX11_bad_11 : decode cX11_bad 11 = .ok (.ireturn, 1) := by decide +kernel
theorem dX11_bad_12 : decode cX11_bad 12 = .ok (.iload_n 1, 1) := by decide +kernel
theorem dX11_bad_13 : decode cX11_bad 13 = .ok (.ifCond .ne 27, 3) := by decide +kernel
theorem dX11_bad_16 : decode cX11_bad 16 = .ok (.aload_n 0, 1) := by decide +kernel
theorem dX11_bad_17 : decode cX11_bad 17 = .ok (.getfield 34, 3) := by decide +kernel
theorem dX11_bad_20 : decode cX11_bad 20 = .ok (.aload_n 0, 1) := by decide +kernel
theorem dX11_bad_21 : decode cX11_bad 21 = .ok (.getfield 19, 3) := by decide +kernel
theorem dX11_bad_24 : decode cX11_bad 24 = .ok (.getfield 106, 3) := by decide +kernel
theorem dX11_bad_27 : decode cX11_bad 27 = .ok (.aload_n 0, 1) := by decide +kernel
theorem dX11_bad_28 : decode cX11_bad 28 = .ok (.getfield 19, 3) := by decide +kernel
theorem dX11_bad_31 : decode cX11_bad 31 = .ok (.getfield 120, 3) := by decide +kernel
theorem dX11_bad_34 : decode cX11_bad 34 = .ok (.invokevirtual 148, 3) := by decide +kernel
theorem dX11_bad_37 : decode cX11_bad 37 = .ok (.goto 17, 3) := by decide +kernel
theorem dX11_bad_40 : decode cX11_bad 40 = .ok (.aload_n 0, 1) := by decide +kernel
theorem dX11_bad_41 : decode cX11_bad 41 = .ok (.getfield 34, 3) := by decide +kernel
theorem dX11_bad_44 : decode cX11_bad 44 = .ok (.aload_n 0, 1) := by decide +kernel
theorem dX11_bad_45 : decode cX11_bad 45 = .ok (.getfield 19, 3) := by decide +kernel
theorem dX11_bad_48 : decode cX11_bad 48 = .ok (.getfield 106, 3) := by decide +kernel
theorem dX11_bad_51 : decode cX11_bad 51 = .ok (.invokevirtual 155, 3) := by decide +kernel
theorem dX11_bad_54 : decode cX11_bad 54 = .ok (.iconst 0, 1) := by decide +kernel
theorem dX11_bad_55 : decode cX11_bad 55 = .ok (.istore_n 2, 1) := by decide +kernel
theorem dX11_bad_56 : decode cX11_bad 56 = .ok (.iconst 0, 1) := by decide +kernel
theorem dX11_bad_57 : decode cX11_bad 57 = .ok (.istore_n 3, 1) := by decide +kernel
theorem dX11_bad_58 : decode cX11_bad 58 = .ok (.iload_n 3, 1) := by decide +kernel
theorem dX11_bad_59 : decode cX11_bad 59 = .ok (.aload_n 0, 1) := by decide +kernel
theorem dX11_bad_60 : decode cX11_bad 60 = .ok (.getfield 19, 3) := by decide +kernel
theorem dX11_bad_63 : decode cX11_bad 63 = .ok (.getfield 106, 3) := by decide +kernel
theorem dX11_bad_66 : decode cX11_bad 66 = .ok (.getfield 116, 3) := by decide +kernel
theorem dX11_bad_69 : decode cX11_bad 69 = .ok (.if_icmp .ge 62, 3) := by decide +kernel
theorem dX11_bad_72 : decode cX11_bad 72 = .ok (.iload_n 1, 1) := by decide +kernel
theorem dX11_bad_73 : decode cX11_bad 73 = .ok (.ifCond .ne 21, 3) := by decide +kernel
theorem dX11_bad_76 : decode cX11_bad 76 = .ok (.aload_n 0, 1) := by decide +kernel
theorem dX11_bad_77 : decode cX11_bad 77 = .ok (.getfield 34, 3) := by decide +kernel
theorem dX11_bad_80 : decode cX11_bad 80 = .ok (.aload_n 0, 1) := by decide +kernel
theorem dX11_bad_81 : decode cX11_bad 81 = .ok (.getfield 19, 3) := by decide +kernel
theorem dX11_bad_84 : decode cX11_bad 84 = .ok (.getfield 106, 3) := by decide +kernel
theorem dX11_bad_87 : decode cX11_bad 87 = .ok (.iload_n 3, 1) := by decide +kernel
theorem dX11_bad_88 : decode cX11_bad 88 = .ok (.invokevirtual 158, 3) := by decide +kernel
theorem dX11_bad_91 : decode cX11_bad 91 = .ok (.goto 21, 3) := by decide +kernel
theorem dX11_bad_94 : decode cX11_bad 94 = .ok (.aload_n 0, 1) := by decide +kernel
theorem dX11_bad_95 : decode cX11_bad 95 = .ok (.getfield 34, 3) := by decide +kernel
theorem dX11_bad_98 : decode cX11_bad 98 = .ok (.iload_n 3, 1) := by decide +kernel
theorem dX11_bad_99 : decode cX11_bad 99 = .ok (.invokevirtual 162, 3) := by decide +kernel
theorem dX11_bad_102 : decode cX11_bad 102 = .ok (.bipush (-6), 2) := by decide +kernel
theorem dX11_bad_104 : decode cX11_bad 104 = .ok (.if_icmp .eq 7, 3) := by decide +kernel
theorem dX11_bad_107 : decode cX11_bad 107 = .ok (.iconst 1, 1) := by decide +kernel
theorem dX11_bad_108 : decode cX11_bad 108 = .ok (.goto 4, 3) := by decide +kernel
theorem dX11_bad_111 : decode cX11_bad 111 = .ok (.iconst 0, 1) := by decide +kernel
theorem dX11_bad_112 : decode cX11_bad 112 = .ok (.istore 4, 2) := by decide +kernel
theorem dX11_bad_114 : decode cX11_bad 114 = .ok (.iload 4, 2) := by decide +kernel
theorem dX11_bad_116 : decode cX11_bad 116 = .ok (.ifCond .eq 9, 3) := by decide +kernel
theorem dX11_bad_119 : decode cX11_bad 119 = .ok (.iload_n 2, 1) := by decide +kernel
theorem dX11_bad_120 : decode cX11_bad 120 = .ok (.iconst 1, 1) := by decide +kernel
theorem dX11_bad_121 : decode cX11_bad 121 = .ok (.iload_n 3, 1) := by decide +kernel
theorem dX11_bad_122 : decode cX11_bad 122 = .ok (.ishl, 1) := by decide +kernel
theorem dX11_bad_123 : decode cX11_bad 123 = .ok (.ior, 1) := by decide +kernel
theorem dX11_bad_124 : decode cX11_bad 124 = .ok (.istore_n 2, 1) := by decide +kernel
theorem dX11_bad_125 : decode cX11_bad 125 = .ok (.iinc 3 1, 3) := by decide +kernel
theorem dX11_bad_128 : decode cX11_bad 128 = .ok (.goto (-70), 3) := by decide +kernel
theorem dX11_bad_131 : decode cX11_bad 131 = .ok (.iload_n 2, 1) := by decide +kernel
theorem dX11_bad_132 : decode cX11_bad 132 = .ok (.ireturn, 1) := by decide +kernel
theorem dX11_known_0 : decode cX11_known 0 = .ok (.aload_n 0, 1) := by decide +kernel
theorem dX11_known_1 : decode cX11_known 1 = .ok (.iload_n 1, 1) := by decide +kernel
theorem dX11_known_2 : decode cX11_known 2 = .ok (.invokevirtual 145, 3) := by decide +kernel
theorem dX11_known_5 : decode cX11_known 5 = .ok (.ifCond .ne 10, 3) := by decide +kernel
theorem dX11_known_8 : decode cX11_known 8 = .ok (.iload_n 2, 1) := by decide +kernel
theorem dX11_known_9 : decode cX11_known 9 = .ok (.invokestatic 165, 3) := by decide +kernel
theorem dX11_known_12 : decode cX11_known 12 = .ok (.ifCond .eq 5, 3) := by decide +kernel
theorem dX11_known_15 : decode cX11_known 15 = .ok (.iconst (-1), 1) := by decide +kernel
theorem dX11_known_16 : decode cX11_known 16 = .ok (.ireturn, 1) := by decide +kernel
theorem dX11_known_17 : decode cX11_known 17 = .ok (.aload_n 0, 1) := by decide +kernel
theorem dX11_known_18 : decode cX11_known 18 = .ok (.getfield 34, 3) := by decide +kernel
theorem dX11_known_21 : decode cX11_known 21 = .ok (.aload_n 0, 1) := by decide +kernel
theorem dX11_known_22 : decode cX11_known 22 = .ok (.getfield 19, 3) := by decide +kernel
theorem dX11_known_25 : decode cX11_known 25 = .ok (.getfield 106, 3) := by decide +kernel
theorem dX11_known_28 : decode cX11_known 28 = .ok (.invokevirtual 168, 3) := by decide +kernel
theorem dX11_known_31 : decode cX11_known 31 = .ok (.aload_n 0, 1) := by decide +kernel
theorem dX11_known_32 : decode cX11_known 32 = .ok (.getfield 34, 3) := by decide +kernel
theorem dX11_known_35 : decode cX11_known 35 = .ok (.getfield 171, 3) := by decide +kernel
theorem dX11_known_38 : decode cX11_known 38 = .ok (.iload_n 1, 1) := by decide +kernel
theorem dX11_known_39 : decode cX11_known 39 = .ok (.iconst 4, 1) := by decide +kernel
theorem dX11_known_40 : decode cX11_known 40 = .ok (.imul, 1) := by decide +kernel
theorem dX11_known_41 : decode cX11_known 41 = .ok (.iload_n 2, 1) := by decide +kernel
theorem dX11_known_42 : decode cX11_known 42 = .ok (.iadd, 1) := by decide +kernel
theorem dX11_known_43 : decode cX11_known 43 = .ok (.iaload, 1) := by decide +kernel
theorem dX11_known_44 : decode cX11_known 44 = .ok (.ireturn, 1) := by decide +kernel
theorem dX11_sort_0 : decode cX11_sort 0 = .ok (.aload_n 0, 1) := by decide +kernel
theorem dX11_sort_1 : decode cX11_sort 1 = .ok (.iload_n 1, 1) := by decide +kernel
theorem dX11_sort_2 : decode cX11_sort 2 = .ok (.invokevirtual 145, 3) := by decide +kernel
theorem dX11_sort_5 : decode cX11_sort 5 = .ok (.ifCond .ne 10, 3) := by decide +kernel
theorem dX11_sort_8 : decode cX11_sort 8 = .ok (.iload_n 2, 1) := by decide +kernel
theorem dX11_sort_9 : decode cX11_sort 9 = .ok (.invokestatic 165, 3) := by decide +kernel
theorem dX11_sort_12 : decode cX11_sort 12 = .ok (.ifCond .eq 5, 3) := by decide +kernel
theorem dX11_sort_15 : decode cX11_sort 15 = .ok (.iconst (-1), 1) := by decide +kernel
theorem dX11_sort_16 : decode cX11_sort 16 = .ok (.ireturn, 1) := by decide +kernel
theorem dX11_sort_17 : decode cX11_sort 17 = .ok (.aload_n 0, 1) := by decide +kernel
theorem dX11_sort_18 : decode cX11_sort 18 = .ok (.getfield 34, 3) := by decide +kernel
theorem dX11_sort_21 : decode cX11_sort 21 = .ok (.aload_n 0, 1) := by decide +kernel
theorem dX11_sort_22 : decode cX11_sort 22 = .ok (.getfield 19, 3) := by decide +kernel
theorem dX11_sort_25 : decode cX11_sort 25 = .ok (.getfield 106, 3) := by decide +kernel
theorem dX11_sort_28 : decode cX11_sort 28 = .ok (.invokevirtual 155, 3) := by decide +kernel
theorem dX11_sort_31 : decode cX11_sort 31 = .ok (.aload_n 0, 1) := by decide +kernel
theorem dX11_sort_32 : decode cX11_sort 32 = .ok (.getfield 34, 3) := by decide +kernel
theorem dX11_sort_35 : decode cX11_sort 35 = .ok (.getfield 174, 3) := by decide +kernel
theorem dX11_sort_38 : decode cX11_sort 38 = .ok (.iload_n 1, 1) := by decide +kernel
theorem dX11_sort_39 : decode cX11_sort 39 = .ok (.iconst 4, 1) := by decide +kernel
theorem dX11_sort_40 : decode cX11_sort 40 = .ok (.imul, 1) := by decide +kernel
theorem dX11_sort_41 : decode cX11_sort 41 = .ok (.iload_n 2, 1) := by decide +kernel
theorem dX11_sort_42 : decode cX11_sort 42 = .ok (.iadd, 1) := by decide +kernel
theorem dX11_sort_43 : decode cX11_sort 43 = .ok (.iaload, 1) := by decide +kernel
theorem dX11_sort_44 : decode cX11_sort 44 = .ok (.ireturn, 1) := by decide +kernel
theorem dX11_mend_0 : decode cX11_mend 0 = .ok (.iload_n 1, 1) := by decide +kernel
theorem dX11_mend_1 : decode cX11_mend 1 = .ok (.iconst 1, 1) := by decide +kernel
theorem dX11_mend_2 : decode cX11_mend 2 = .ok (.if_icmp .lt 8, 3) := by decide +kernel
theorem dX11_mend_5 : decode cX11_mend 5 = .ok (.iload_n 1, 1) := by decide +kernel
theorem dX11_mend_6 : decode cX11_mend 6 = .ok (.iconst 4, 1) := by decide +kernel
theorem dX11_mend_7 : decode cX11_mend 7 = .ok (.if_icmp .le 6, 3) := by decide +kernel
theorem dX11_mend_10 : decode cX11_mend 10 = .ok (.bipush (-2), 2) := by decide +kernel
theorem dX11_mend_12 : decode cX11_mend 12 = .ok (.ireturn, 1) := by decide +kernel
theorem dX11_mend_13 : decode cX11_mend 13 = .ok (.aload_n 0, 1) := by decide +kernel
theorem dX11_mend_14 : decode cX11_mend 14 = .ok (.getfield 41, 3) := by decide +kernel
theorem dX11_mend_17 : decode cX11_mend 17 = .ok (.iload_n 1, 1) := by decide +kernel
theorem dX11_mend_18 : decode cX11_mend 18 = .ok (.aload_n 0, 1) := by decide +kernel
theorem dX11_mend_19 : decode cX11_mend 19 = .ok (.getfield 19, 3) := by decide +kernel
theorem dX11_mend_22 : decode cX11_mend 22 = .ok (.getfield 106, 3) := by decide +kernel
theorem dX11_mend_25 : decode cX11_mend 25 = .ok (.aload_n 0, 1) := by decide +kernel
theorem dX11_mend_26 : decode cX11_mend 26 = .ok (.getfield 19, 3) := by decide +kernel
theorem dX11_mend_29 : decode cX11_mend 29 = .ok (.getfield 120, 3) := by decide +kernel
theorem dX11_mend_32 : decode cX11_mend 32 = .ok (.invokevirtual 177, 3) := by decide +kernel
theorem dX11_mend_35 : decode cX11_mend 35 = .ok (.ireturn, 1) := by decide +kernel
theorem dX11_clean_0 : decode cX11_clean 0 = .ok (.aload_n 0, 1) := by decide +kernel
theorem dX11_clean_1 : decode cX11_clean 1 = .ok (.getfield 41, 3) := by decide +kernel
theorem dX11_clean_4 : decode cX11_clean 4 = .ok (.aload_n 0, 1) := by decide +kernel
theorem dX11_clean_5 : decode cX11_clean 5 = .ok (.getfield 19, 3) := by decide +kernel
theorem dX11_clean_8 : decode cX11_clean 8 = .ok (.getfield 106, 3) := by decide +kernel
theorem dX11_clean_11 : decode cX11_clean 11 = .ok (.aload_n 0, 1) := by decide +kernel
theorem dX11_clean_12 : decode cX11_clean 12 = .ok (.getfield 19, 3) := by decide +kernel
theorem dX11_clean_15 : decode cX11_clean 15 = .ok (.getfield 120, 3) := by decide +kernel
theorem dX11_clean_18 : decode cX11_clean 18 = .ok (.invokevirtual 181, 3) := by decide +kernel
theorem dX11_clean_21 : decode cX11_clean 21 = .ok (.aload_n 0, 1) := by decide +kernel
theorem dX11_clean_22 : decode cX11_clean 22 = .ok (.getfield 19, 3) := by decide +kernel
theorem dX11_clean_25 : decode cX11_clean 25 = .ok (.getfield 106, 3) := by decide +kernel
theorem dX11_clean_28 : decode cX11_clean 28 = .ok (.getfield 116, 3) := by decide +kernel
theorem dX11_clean_31 : decode cX11_clean 31 = .ok (.ireturn, 1) := by decide +kernel
theorem dX11_behind_0 : decode cX11_behind 0 = .ok (.aload_n 0, 1) := by decide +kernel
theorem dX11_behind_1 : decode cX11_behind 1 = .ok (.iload_n 1, 1) := by decide +kernel
theorem dX11_behind_2 : decode cX11_behind 2 = .ok (.invokevirtual 123, 3) := by decide +kernel
theorem dX11_behind_5 : decode cX11_behind 5 = .ok (.ifCond .eq 5, 3) := by decide +kernel
theorem dX11_behind_8 : decode cX11_behind 8 = .ok (.iconst (-1), 1) := by decide +kernel
theorem dX11_behind_9 : decode cX11_behind 9 = .ok (.ireturn, 1) := by decide +kernel
theorem dX11_behind_10 : decode cX11_behind 10 = .ok (.aload_n 0, 1) := by decide +kernel
theorem dX11_behind_11 : decode cX11_behind 11 = .ok (.getfield 48, 3) := by decide +kernel
theorem dX11_behind_14 : decode cX11_behind 14 = .ok (.aload_n 0, 1) := by decide +kernel
theorem dX11_behind_15 : decode cX11_behind 15 = .ok (.getfield 19, 3) := by decide +kernel
theorem dX11_behind_18 : decode cX11_behind 18 = .ok (.getfield 106, 3) := by decide +kernel
theorem dX11_behind_21 : decode cX11_behind 21 = .ok (.invokevirtual 184, 3) := by decide +kernel
theorem dX11_behind_24 : decode cX11_behind 24 = .ok (.aload_n 0, 1) := by decide +kernel
theorem dX11_behind_25 : decode cX11_behind 25 = .ok (.getfield 48, 3) := by decide +kernel
theorem dX11_behind_28 : decode cX11_behind 28 = .ok (.iload_n 1, 1) := by decide +kernel
theorem dX11_behind_29 : decode cX11_behind 29 = .ok (.invokevirtual 187, 3) := by decide +kernel
theorem dX11_behind_32 : decode cX11_behind 32 = .ok (.ireturn, 1) := by decide +kernel
theorem dX11_orders_0 : decode cX11_orders 0 = .ok (.aload_n 0, 1) := by decide +kernel
theorem dX11_orders_1 : decode cX11_orders 1 = .ok (.getfield 48, 3) := by decide +kernel
theorem dX11_orders_4 : decode cX11_orders 4 = .ok (.aload_n 0, 1) := by decide +kernel
theorem dX11_orders_5 : decode cX11_orders 5 = .ok (.getfield 19, 3) := by decide +kernel
theorem dX11_orders_8 : decode cX11_orders 8 = .ok (.getfield 106, 3) := by decide +kernel
theorem dX11_orders_11 : decode cX11_orders 11 = .ok (.invokevirtual 184, 3) := by decide +kernel
theorem dX11_orders_14 : decode cX11_orders 14 = .ok (.aload_n 0, 1) := by decide +kernel
theorem dX11_orders_15 : decode cX11_orders 15 = .ok (.getfield 55, 3) := by decide +kernel
theorem dX11_orders_18 : decode cX11_orders 18 = .ok (.aload_n 0, 1) := by decide +kernel
theorem dX11_orders_19 : decode cX11_orders 19 = .ok (.getfield 48, 3) := by decide +kernel
theorem dX11_orders_22 : decode cX11_orders 22 = .ok (.aload_n 0, 1) := by decide +kernel
theorem dX11_orders_23 : decode cX11_orders 23 = .ok (.getfield 19, 3) := by decide +kernel
theorem dX11_orders_26 : decode cX11_orders 26 = .ok (.getfield 106, 3) := by decide +kernel
theorem dX11_orders_29 : decode cX11_orders 29 = .ok (.getfield 116, 3) := by decide +kernel
theorem dX11_orders_32 : decode cX11_orders 32 = .ok (.invokevirtual 190, 3) := by decide +kernel
theorem dX11_orders_35 : decode cX11_orders 35 = .ok (.ireturn, 1) := by decide +kernel
theorem dX11_set_0 : decode cX11_set 0 = .ok (.iload_n 1, 1) := by decide +kernel
theorem dX11_set_1 : decode cX11_set 1 = .ok (.ifCond .lt 8, 3) := by decide +kernel
theorem dX11_set_4 : decode cX11_set 4 = .ok (.iload_n 1, 1) := by decide +kernel
theorem dX11_set_5 : decode cX11_set 5 = .ok (.iconst 5, 1) := by decide +kernel
theorem dX11_set_6 : decode cX11_set 6 = .ok (.if_icmp .lt 6, 3) := by decide +kernel
theorem dX11_set_9 : decode cX11_set 9 = .ok (.bipush (-2), 2) := by decide +kernel
theorem dX11_set_11 : decode cX11_set 11 = .ok (.ireturn, 1) := by decide +kernel
theorem dX11_set_12 : decode cX11_set 12 = .ok (.iload_n 1, 1) := by decide +kernel
theorem dX11_set_13 : decode cX11_set 13 = .ok (.ifCond .ne 7, 3) := by decide +kernel
theorem dX11_set_16 : decode cX11_set 16 = .ok (.iconst 3, 1) := by decide +kernel
theorem dX11_set_17 : decode cX11_set 17 = .ok (.goto 4, 3) := by decide +kernel
theorem dX11_set_20 : decode cX11_set 20 = .ok (.iconst 5, 1) := by decide +kernel
theorem dX11_set_21 : decode cX11_set 21 = .ok (.istore_n 3, 1) := by decide +kernel
theorem dX11_set_22 : decode cX11_set 22 = .ok (.iload_n 2, 1) := by decide +kernel
theorem dX11_set_23 : decode cX11_set 23 = .ok (.iconst 1, 1) := by decide +kernel
theorem dX11_set_24 : decode cX11_set 24 = .ok (.if_icmp .lt 8, 3) := by decide +kernel
theorem dX11_set_27 : decode cX11_set 27 = .ok (.iload_n 2, 1) := by decide +kernel
theorem dX11_set_28 : decode cX11_set 28 = .ok (.iload_n 3, 1) := by decide +kernel
theorem dX11_set_29 : decode cX11_set 29 = .ok (.if_icmp .le 6, 3) := by decide +kernel
theorem dX11_set_32 : decode cX11_set 32 = .ok (.bipush (-2), 2) := by decide +kernel
theorem dX11_set_34 : decode cX11_set 34 = .ok (.ireturn, 1) := by decide +kernel
theorem dX11_set_35 : decode cX11_set 35 = .ok (.aload_n 0, 1) := by decide +kernel
theorem dX11_set_36 : decode cX11_set 36 = .ok (.getfield 19, 3) := by decide +kernel
theorem dX11_set_39 : decode cX11_set 39 = .ok (.getfield 194, 3) := by decide +kernel
theorem dX11_set_42 : decode cX11_set 42 = .ok (.iload_n 1, 1) := by decide +kernel
theorem dX11_set_43 : decode cX11_set 43 = .ok (.iaload, 1) := by decide +kernel
theorem dX11_set_44 : decode cX11_set 44 = .ok (.istore 4, 2) := by decide +kernel
theorem dX11_set_46 : decode cX11_set 46 = .ok (.aload_n 0, 1) := by decide +kernel
theorem dX11_set_47 : decode cX11_set 47 = .ok (.getfield 19, 3) := by decide +kernel
theorem dX11_set_50 : decode cX11_set 50 = .ok (.getfield 194, 3) := by decide +kernel
theorem dX11_set_53 : decode cX11_set 53 = .ok (.iload_n 1, 1) := by decide +kernel
theorem dX11_set_54 : decode cX11_set 54 = .ok (.iload_n 2, 1) := by decide +kernel
theorem dX11_set_55 : decode cX11_set 55 = .ok (.iastore, 1) := by decide +kernel
theorem dX11_set_56 : decode cX11_set 56 = .ok (.iload 4, 2) := by decide +kernel
theorem dX11_set_58 : decode cX11_set 58 = .ok (.ireturn, 1) := by decide +kernel
theorem dX11_tick_0 : decode cX11_tick 0 = .ok (.aload_n 0, 1) := by decide +kernel
theorem dX11_tick_1 : decode cX11_tick 1 = .ok (.iload_n 1, 1) := by decide +kernel
theorem dX11_tick_2 : decode cX11_tick 2 = .ok (.invokevirtual 123, 3) := by decide +kernel
theorem dX11_tick_5 : decode cX11_tick 5 = .ok (.ifCond .eq 5, 3) := by decide +kernel
theorem dX11_tick_8 : decode cX11_tick 8 = .ok (.iconst (-1), 1) := by decide +kernel
theorem dX11_tick_9 : decode cX11_tick 9 = .ok (.ireturn, 1) := by decide +kernel
theorem dX11_tick_10 : decode cX11_tick 10 = .ok (.aload_n 0, 1) := by decide +kernel
theorem dX11_tick_11 : decode cX11_tick 11 = .ok (.invokevirtual 197, 3) := by decide +kernel
theorem dX11_tick_14 : decode cX11_tick 14 = .ok (.aload_n 0, 1) := by decide +kernel
theorem dX11_tick_15 : decode cX11_tick 15 = .ok (.getfield 55, 3) := by decide +kernel
theorem dX11_tick_18 : decode cX11_tick 18 = .ok (.invokevirtual 200, 3) := by decide +kernel
theorem dX11_tick_21 : decode cX11_tick 21 = .ok (.pop, 1) := by decide +kernel
theorem dX11_tick_22 : decode cX11_tick 22 = .ok (.aload_n 0, 1) := by decide +kernel
theorem dX11_tick_23 : decode cX11_tick 23 = .ok (.getfield 55, 3) := by decide +kernel
theorem dX11_tick_26 : decode cX11_tick 26 = .ok (.getfield 203, 3) := by decide +kernel
theorem dX11_tick_29 : decode cX11_tick 29 = .ok (.iload_n 1, 1) := by decide +kernel
theorem dX11_tick_30 : decode cX11_tick 30 = .ok (.iaload, 1) := by decide +kernel
theorem dX11_tick_31 : decode cX11_tick 31 = .ok (.ireturn, 1) := by decide +kernel
theorem dX11_time_0 : decode cX11_time 0 = .ok (.aload_n 0, 1) := by decide +kernel
theorem dX11_time_1 : decode cX11_time 1 = .ok (.invokevirtual 197, 3) := by decide +kernel
theorem dX11_time_4 : decode cX11_time 4 = .ok (.aload_n 0, 1) := by decide +kernel
theorem dX11_time_5 : decode cX11_time 5 = .ok (.getfield 55, 3) := by decide +kernel
theorem dX11_time_8 : decode cX11_time 8 = .ok (.invokevirtual 200, 3) := by decide +kernel
theorem dX11_time_11 : decode cX11_time 11 = .ok (.ireturn, 1) := by decide +kernel
theorem dX11_quickest_0 : decode cX11_quickest 0 = .ok (.aload_n 0, 1) := by decide +kernel
theorem dX11_quickest_1 : decode cX11_quickest 1 = .ok (.getfield 19, 3) := by decide +kernel
theorem dX11_quickest_4 : decode cX11_quickest 4 = .ok (.getfield 106, 3) := by decide +kernel
theorem dX11_quickest_7 : decode cX11_quickest 7 = .ok (.getfield 116, 3) := by decide +kernel
theorem dX11_quickest_10 : decode cX11_quickest 10 = .ok (.bipush 8, 2) := by decide +kernel
theorem dX11_quickest_12 : decode cX11_quickest 12 = .ok (.if_icmp .le 6, 3) := by decide +kernel
theorem dX11_quickest_15 : decode cX11_quickest 15 = .ok (.bipush (-3), 2) := by decide +kernel
theorem dX11_quickest_17 : decode cX11_quickest 17 = .ok (.ireturn, 1) := by decide +kernel
theorem dX11_quickest_18 : decode cX11_quickest 18 = .ok (.iload_n 1, 1) := by decide +kernel
theorem dX11_quickest_19 : decode cX11_quickest 19 = .ok (.iconst (-1), 1) := by decide +kernel
theorem dX11_quickest_20 : decode cX11_quickest 20 = .ok (.if_icmp .lt 17, 3) := by decide +kernel
theorem dX11_quickest_23 : decode cX11_quickest 23 = .ok (.iload_n 1, 1) := by decide +kernel
theorem dX11_quickest_24 : decode cX11_quickest 24 = .ok (.aload_n 0, 1) := by decide +kernel
theorem dX11_quickest_25 : decode cX11_quickest 25 = .ok (.getfield 19, 3) := by decide +kernel
theorem dX11_quickest_28 : decode cX11_quickest 28 = .ok (.getfield 106, 3) := by decide +kernel
theorem dX11_quickest_31 : decode cX11_quickest 31 = .ok (.getfield 116, 3) := by decide +kernel
theorem dX11_quickest_34 : decode cX11_quickest 34 = .ok (.if_icmp .lt 6, 3) := by decide +kernel
theorem dX11_quickest_37 : decode cX11_quickest 37 = .ok (.bipush (-6), 2) := by decide +kernel
theorem dX11_quickest_39 : decode cX11_quickest 39 = .ok (.ireturn, 1) := by decide +kernel
theorem dX11_quickest_40 : decode cX11_quickest 40 = .ok (.aload_n 0, 1) := by decide +kernel
theorem dX11_quickest_41 : decode cX11_quickest 41 = .ok (.invokevirtual 197, 3) := by decide +kernel
theorem dX11_quickest_44 : decode cX11_quickest 44 = .ok (.aload_n 0, 1) := by decide +kernel
theorem dX11_quickest_45 : decode cX11_quickest 45 = .ok (.getfield 55, 3) := by decide +kernel
theorem dX11_quickest_48 : decode cX11_quickest 48 = .ok (.invokevirtual 206, 3) := by decide +kernel
theorem dX11_quickest_51 : decode cX11_quickest 51 = .ok (.iload_n 1, 1) := by decide +kernel
theorem dX11_quickest_52 : decode cX11_quickest 52 = .ok (.iconst (-1), 1) := by decide +kernel
theorem dX11_quickest_53 : decode cX11_quickest 53 = .ok (.if_icmp .ne 13, 3) := by decide +kernel
theorem dX11_quickest_56 : decode cX11_quickest 56 = .ok (.aload_n 0, 1) := by decide +kernel
theorem dX11_quickest_57 : decode cX11_quickest 57 = .ok (.getfield 55, 3) := by decide +kernel
theorem dX11_quickest_60 : decode cX11_quickest 60 = .ok (.getfield 209, 3) := by decide +kernel
theorem dX11_quickest_63 : decode cX11_quickest 63 = .ok (.goto 12, 3) := by decide +kernel
theorem dX11_quickest_66 : decode cX11_quickest 66 = .ok (.aload_n 0, 1) := by decide +kernel
theorem dX11_quickest_67 : decode cX11_quickest 67 = .ok (.getfield 55, 3) := by decide +kernel
theorem dX11_quickest_70 : decode cX11_quickest 70 = .ok (.getfield 212, 3) := by decide +kernel
theorem dX11_quickest_73 : decode cX11_quickest 73 = .ok (.iload_n 1, 1) := by decide +kernel
theorem dX11_quickest_74 : decode cX11_quickest 74 = .ok (.iaload, 1) := by decide +kernel
theorem dX11_quickest_75 : decode cX11_quickest 75 = .ok (.ireturn, 1) := by decide +kernel
theorem dX11_reads_0 : decode cX11_reads 0 = .ok (.aload_n 0, 1) := by decide +kernel
theorem dX11_reads_1 : decode cX11_reads 1 = .ok (.iload_n 1, 1) := by decide +kernel
theorem dX11_reads_2 : decode cX11_reads 2 = .ok (.invokevirtual 123, 3) := by decide +kernel
theorem dX11_reads_5 : decode cX11_reads 5 = .ok (.ifCond .eq 5, 3) := by decide +kernel
theorem dX11_reads_8 : decode cX11_reads 8 = .ok (.iconst (-1), 1) := by decide +kernel
theorem dX11_reads_9 : decode cX11_reads 9 = .ok (.ireturn, 1) := by decide +kernel
theorem dX11_reads_10 : decode cX11_reads 10 = .ok (.iload_n 2, 1) := by decide +kernel
theorem dX11_reads_11 : decode cX11_reads 11 = .ok (.ifCond .eq 11, 3) := by decide +kernel
theorem dX11_reads_14 : decode cX11_reads 14 = .ok (.iload_n 2, 1) := by decide +kernel
theorem dX11_reads_15 : decode cX11_reads 15 = .ok (.iconst 1, 1) := by decide +kernel
theorem dX11_reads_16 : decode cX11_reads 16 = .ok (.if_icmp .eq 6, 3) := by decide +kernel
theorem dX11_reads_19 : decode cX11_reads 19 = .ok (.bipush (-2), 2) := by decide +kernel
theorem dX11_reads_21 : decode cX11_reads 21 = .ok (.ireturn, 1) := by decide +kernel
theorem dX11_reads_22 : decode cX11_reads 22 = .ok (.aload_n 0, 1) := by decide +kernel
theorem dX11_reads_23 : decode cX11_reads 23 = .ok (.getfield 48, 3) := by decide +kernel
theorem dX11_reads_26 : decode cX11_reads 26 = .ok (.aload_n 0, 1) := by decide +kernel
theorem dX11_reads_27 : decode cX11_reads 27 = .ok (.getfield 19, 3) := by decide +kernel
theorem dX11_reads_30 : decode cX11_reads 30 = .ok (.getfield 106, 3) := by decide +kernel
theorem dX11_reads_33 : decode cX11_reads 33 = .ok (.invokevirtual 184, 3) := by decide +kernel
theorem dX11_reads_36 : decode cX11_reads 36 = .ok (.aload_n 0, 1) := by decide +kernel
theorem dX11_reads_37 : decode cX11_reads 37 = .ok (.getfield 48, 3) := by decide +kernel
theorem dX11_reads_40 : decode cX11_reads 40 = .ok (.getfield 215, 3) := by decide +kernel
theorem dX11_reads_43 : decode cX11_reads 43 = .ok (.iconst 2, 1) := by decide +kernel
theorem dX11_reads_44 : decode cX11_reads 44 = .ok (.iload_n 1, 1) := by decide +kernel
theorem dX11_reads_45 : decode cX11_reads 45 = .ok (.imul, 1) := by decide +kernel
theorem dX11_reads_46 : decode cX11_reads 46 = .ok (.iload_n 2, 1) := by decide +kernel
theorem dX11_reads_47 : decode cX11_reads 47 = .ok (.iadd, 1) := by decide +kernel
theorem dX11_reads_48 : decode cX11_reads 48 = .ok (.iaload, 1) := by decide +kernel
theorem dX11_reads_49 : decode cX11_reads 49 = .ok (.ireturn, 1) := by decide +kernel
theorem dX11_held_0 : decode cX11_held 0 = .ok (.aload_n 0, 1) := by decide +kernel
theorem dX11_held_1 : decode cX11_held 1 = .ok (.iload_n 1, 1) := by decide +kernel
theorem dX11_held_2 : decode cX11_held 2 = .ok (.invokevirtual 145, 3) := by decide +kernel
theorem dX11_held_5 : decode cX11_held 5 = .ok (.ifCond .eq 5, 3) := by decide +kernel
theorem dX11_held_8 : decode cX11_held 8 = .ok (.iconst (-1), 1) := by decide +kernel
theorem dX11_held_9 : decode cX11_held 9 = .ok (.ireturn, 1) := by decide +kernel
theorem dX11_held_10 : decode cX11_held 10 = .ok (.aload_n 0, 1) := by decide +kernel
theorem dX11_held_11 : decode cX11_held 11 = .ok (.invokevirtual 218, 3) := by decide +kernel
theorem dX11_held_14 : decode cX11_held 14 = .ok (.aload_n 0, 1) := by decide +kernel
theorem dX11_held_15 : decode cX11_held 15 = .ok (.getfield 62, 3) := by decide +kernel
theorem dX11_held_18 : decode cX11_held 18 = .ok (.iload_n 1, 1) := by decide +kernel
theorem dX11_held_19 : decode cX11_held 19 = .ok (.invokevirtual 221, 3) := by decide +kernel
theorem dX11_held_22 : decode cX11_held 22 = .ok (.ireturn, 1) := by decide +kernel
theorem dX11_width_0 : decode cX11_width 0 = .ok (.aload_n 0, 1) := by decide +kernel
theorem dX11_width_1 : decode cX11_width 1 = .ok (.invokevirtual 218, 3) := by decide +kernel
theorem dX11_width_4 : decode cX11_width 4 = .ok (.aload_n 0, 1) := by decide +kernel
theorem dX11_width_5 : decode cX11_width 5 = .ok (.getfield 62, 3) := by decide +kernel
theorem dX11_width_8 : decode cX11_width 8 = .ok (.invokevirtual 224, 3) := by decide +kernel
theorem dX11_width_11 : decode cX11_width 11 = .ok (.ireturn, 1) := by decide +kernel
theorem dX11_fewest_0 : decode cX11_fewest 0 = .ok (.aload_n 0, 1) := by decide +kernel
theorem dX11_fewest_1 : decode cX11_fewest 1 = .ok (.getfield 19, 3) := by decide +kernel
theorem dX11_fewest_4 : decode cX11_fewest 4 = .ok (.getfield 106, 3) := by decide +kernel
theorem dX11_fewest_7 : decode cX11_fewest 7 = .ok (.getfield 116, 3) := by decide +kernel
theorem dX11_fewest_10 : decode cX11_fewest 10 = .ok (.bipush 8, 2) := by decide +kernel
theorem dX11_fewest_12 : decode cX11_fewest 12 = .ok (.if_icmp .le 6, 3) := by decide +kernel
theorem dX11_fewest_15 : decode cX11_fewest 15 = .ok (.bipush (-3), 2) := by decide +kernel
theorem dX11_fewest_17 : decode cX11_fewest 17 = .ok (.ireturn, 1) := by decide +kernel
theorem dX11_fewest_18 : decode cX11_fewest 18 = .ok (.iload_n 1, 1) := by decide +kernel
theorem dX11_fewest_19 : decode cX11_fewest 19 = .ok (.iconst (-1), 1) := by decide +kernel
theorem dX11_fewest_20 : decode cX11_fewest 20 = .ok (.if_icmp .lt 17, 3) := by decide +kernel
theorem dX11_fewest_23 : decode cX11_fewest 23 = .ok (.iload_n 1, 1) := by decide +kernel
theorem dX11_fewest_24 : decode cX11_fewest 24 = .ok (.aload_n 0, 1) := by decide +kernel
theorem dX11_fewest_25 : decode cX11_fewest 25 = .ok (.getfield 19, 3) := by decide +kernel
theorem dX11_fewest_28 : decode cX11_fewest 28 = .ok (.getfield 106, 3) := by decide +kernel
theorem dX11_fewest_31 : decode cX11_fewest 31 = .ok (.getfield 116, 3) := by decide +kernel
theorem dX11_fewest_34 : decode cX11_fewest 34 = .ok (.if_icmp .lt 6, 3) := by decide +kernel
theorem dX11_fewest_37 : decode cX11_fewest 37 = .ok (.bipush (-6), 2) := by decide +kernel
theorem dX11_fewest_39 : decode cX11_fewest 39 = .ok (.ireturn, 1) := by decide +kernel
theorem dX11_fewest_40 : decode cX11_fewest 40 = .ok (.aload_n 0, 1) := by decide +kernel
theorem dX11_fewest_41 : decode cX11_fewest 41 = .ok (.invokevirtual 218, 3) := by decide +kernel
theorem dX11_fewest_44 : decode cX11_fewest 44 = .ok (.aload_n 0, 1) := by decide +kernel
theorem dX11_fewest_45 : decode cX11_fewest 45 = .ok (.getfield 62, 3) := by decide +kernel
theorem dX11_fewest_48 : decode cX11_fewest 48 = .ok (.invokevirtual 227, 3) := by decide +kernel
theorem dX11_fewest_51 : decode cX11_fewest 51 = .ok (.iload_n 1, 1) := by decide +kernel
theorem dX11_fewest_52 : decode cX11_fewest 52 = .ok (.iconst (-1), 1) := by decide +kernel
theorem dX11_fewest_53 : decode cX11_fewest 53 = .ok (.if_icmp .ne 13, 3) := by decide +kernel
theorem dX11_fewest_56 : decode cX11_fewest 56 = .ok (.aload_n 0, 1) := by decide +kernel
theorem dX11_fewest_57 : decode cX11_fewest 57 = .ok (.getfield 62, 3) := by decide +kernel
theorem dX11_fewest_60 : decode cX11_fewest 60 = .ok (.getfield 230, 3) := by decide +kernel
theorem dX11_fewest_63 : decode cX11_fewest 63 = .ok (.goto 12, 3) := by decide +kernel
theorem dX11_fewest_66 : decode cX11_fewest 66 = .ok (.aload_n 0, 1) := by decide +kernel
theorem dX11_fewest_67 : decode cX11_fewest 67 = .ok (.getfield 62, 3) := by decide +kernel
theorem dX11_fewest_70 : decode cX11_fewest 70 = .ok (.getfield 233, 3) := by decide +kernel
theorem dX11_fewest_73 : decode cX11_fewest 73 = .ok (.iload_n 1, 1) := by decide +kernel
theorem dX11_fewest_74 : decode cX11_fewest 74 = .ok (.iaload, 1) := by decide +kernel
theorem dX11_fewest_75 : decode cX11_fewest 75 = .ok (.ireturn, 1) := by decide +kernel
theorem dX11_spill_0 : decode cX11_spill 0 = .ok (.iload_n 1, 1) := by decide +kernel
theorem dX11_spill_1 : decode cX11_spill 1 = .ok (.iconst 1, 1) := by decide +kernel
theorem dX11_spill_2 : decode cX11_spill 2 = .ok (.if_icmp .lt 9, 3) := by decide +kernel
theorem dX11_spill_5 : decode cX11_spill 5 = .ok (.iload_n 1, 1) := by decide +kernel
theorem dX11_spill_6 : decode cX11_spill 6 = .ok (.bipush 8, 2) := by decide +kernel
theorem dX11_spill_8 : decode cX11_spill 8 = .ok (.if_icmp .le 6, 3) := by decide +kernel
theorem dX11_spill_11 : decode cX11_spill 11 = .ok (.bipush (-2), 2) := by decide +kernel
theorem dX11_spill_13 : decode cX11_spill 13 = .ok (.ireturn, 1) := by decide +kernel
theorem dX11_spill_14 : decode cX11_spill 14 = .ok (.aload_n 0, 1) := by decide +kernel
theorem dX11_spill_15 : decode cX11_spill 15 = .ok (.invokevirtual 218, 3) := by decide +kernel
theorem dX11_spill_18 : decode cX11_spill 18 = .ok (.aload_n 0, 1) := by decide +kernel
theorem dX11_spill_19 : decode cX11_spill 19 = .ok (.getfield 62, 3) := by decide +kernel
theorem dX11_spill_22 : decode cX11_spill 22 = .ok (.iload_n 1, 1) := by decide +kernel
theorem dX11_spill_23 : decode cX11_spill 23 = .ok (.invokevirtual 234, 3) := by decide +kernel
theorem dX11_spill_26 : decode cX11_spill 26 = .ok (.ireturn, 1) := by decide +kernel
theorem dX11_rule_0 : decode cX11_rule 0 = .ok (.aload_n 0, 1) := by decide +kernel
theorem dX11_rule_1 : decode cX11_rule 1 = .ok (.getfield 12, 3) := by decide +kernel
theorem dX11_rule_4 : decode cX11_rule 4 = .ok (.iconst 1, 1) := by decide +kernel
theorem dX11_rule_5 : decode cX11_rule 5 = .ok (.invokevirtual 102, 3) := by decide +kernel
theorem dX11_rule_8 : decode cX11_rule 8 = .ok (.bipush (-6), 2) := by decide +kernel
theorem dX11_rule_10 : decode cX11_rule 10 = .ok (.if_icmp .eq 6, 3) := by decide +kernel
theorem dX11_rule_13 : decode cX11_rule 13 = .ok (.bipush (-5), 2) := by decide +kernel
theorem dX11_rule_15 : decode cX11_rule 15 = .ok (.ireturn, 1) := by decide +kernel
theorem dX11_rule_16 : decode cX11_rule 16 = .ok (.aload_n 0, 1) := by decide +kernel
theorem dX11_rule_17 : decode cX11_rule 17 = .ok (.getfield 19, 3) := by decide +kernel
theorem dX11_rule_20 : decode cX11_rule 20 = .ok (.getfield 237, 3) := by decide +kernel
theorem dX11_rule_23 : decode cX11_rule 23 = .ok (.iconst 4, 1) := by decide +kernel
theorem dX11_rule_24 : decode cX11_rule 24 = .ok (.if_icmp .lt 6, 3) := by decide +kernel
theorem dX11_rule_27 : decode cX11_rule 27 = .ok (.bipush (-4), 2) := by decide +kernel
theorem dX11_rule_29 : decode cX11_rule 29 = .ok (.ireturn, 1) := by decide +kernel
theorem dX11_rule_30 : decode cX11_rule 30 = .ok (.aload_n 0, 1) := by decide +kernel
theorem dX11_rule_31 : decode cX11_rule 31 = .ok (.getfield 19, 3) := by decide +kernel
theorem dX11_rule_34 : decode cX11_rule 34 = .ok (.getfield 240, 3) := by decide +kernel
theorem dX11_rule_37 : decode cX11_rule 37 = .ok (.aload_n 0, 1) := by decide +kernel
theorem dX11_rule_38 : decode cX11_rule 38 = .ok (.getfield 19, 3) := by decide +kernel
theorem dX11_rule_41 : decode cX11_rule 41 = .ok (.getfield 237, 3) := by decide +kernel
theorem dX11_rule_44 : decode cX11_rule 44 = .ok (.aaload, 1) := by decide +kernel
theorem dX11_rule_45 : decode cX11_rule 45 = .ok (.aload_n 0, 1) := by decide +kernel
theorem dX11_rule_46 : decode cX11_rule 46 = .ok (.getfield 12, 3) := by decide +kernel
theorem dX11_rule_49 : decode cX11_rule 49 = .ok (.getfield 109, 3) := by decide +kernel
theorem dX11_rule_52 : decode cX11_rule 52 = .ok (.aload_n 0, 1) := by decide +kernel
theorem dX11_rule_53 : decode cX11_rule 53 = .ok (.getfield 12, 3) := by decide +kernel
theorem dX11_rule_56 : decode cX11_rule 56 = .ok (.getfield 244, 3) := by decide +kernel
theorem dX11_rule_59 : decode cX11_rule 59 = .ok (.invokevirtual 247, 3) := by decide +kernel
theorem dX11_rule_62 : decode cX11_rule 62 = .ok (.aload_n 0, 1) := by decide +kernel
theorem dX11_rule_63 : decode cX11_rule 63 = .ok (.getfield 12, 3) := by decide +kernel
theorem dX11_rule_66 : decode cX11_rule 66 = .ok (.invokevirtual 98, 3) := by decide +kernel
theorem dX11_rule_69 : decode cX11_rule 69 = .ok (.pop, 1) := by decide +kernel
theorem dX11_rule_70 : decode cX11_rule 70 = .ok (.aload_n 0, 1) := by decide +kernel
theorem dX11_rule_71 : decode cX11_rule 71 = .ok (.getfield 19, 3) := by decide +kernel
theorem dX11_rule_74 : decode cX11_rule 74 = .ok (.dup, 1) := by decide +kernel
theorem dX11_rule_75 : decode cX11_rule 75 = .ok (.getfield 237, 3) := by decide +kernel
theorem dX11_rule_78 : decode cX11_rule 78 = .ok (.dup_x1, 1) := by decide +kernel
theorem dX11_rule_79 : decode cX11_rule 79 = .ok (.iconst 1, 1) := by decide +kernel
theorem dX11_rule_80 : decode cX11_rule 80 = .ok (.iadd, 1) := by decide +kernel
theorem dX11_rule_81 : decode cX11_rule 81 = .ok (.putfield 237, 3) := by decide +kernel
theorem dX11_rule_84 : decode cX11_rule 84 = .ok (.ireturn, 1) := by decide +kernel
theorem dX11_free_0 : decode cX11_free 0 = .ok (.aload_n 0, 1) := by decide +kernel
theorem dX11_free_1 : decode cX11_free 1 = .ok (.getfield 19, 3) := by decide +kernel
theorem dX11_free_4 : decode cX11_free 4 = .ok (.getfield 237, 3) := by decide +kernel
theorem dX11_free_7 : decode cX11_free 7 = .ok (.istore_n 1, 1) := by decide +kernel
theorem dX11_free_8 : decode cX11_free 8 = .ok (.aload_n 0, 1) := by decide +kernel
theorem dX11_free_9 : decode cX11_free 9 = .ok (.getfield 19, 3) := by decide +kernel
theorem dX11_free_12 : decode cX11_free 12 = .ok (.iconst 0, 1) := by decide +kernel
theorem dX11_free_13 : decode cX11_free 13 = .ok (.putfield 237, 3) := by decide +kernel
theorem dX11_free_16 : decode cX11_free 16 = .ok (.iload_n 1, 1) := by decide +kernel
theorem dX11_free_17 : decode cX11_free 17 = .ok (.ireturn, 1) := by decide +kernel
theorem dX11_holds_0 : decode cX11_holds 0 = .ok (.aload_n 0, 1) := by decide +kernel
theorem dX11_holds_1 : decode cX11_holds 1 = .ok (.iload_n 1, 1) := by decide +kernel
theorem dX11_holds_2 : decode cX11_holds 2 = .ok (.invokevirtual 253, 3) := by decide +kernel
theorem dX11_holds_5 : decode cX11_holds 5 = .ok (.ifCond .eq 5, 3) := by decide +kernel
theorem dX11_holds_8 : decode cX11_holds 8 = .ok (.iconst (-1), 1) := by decide +kernel
theorem dX11_holds_9 : decode cX11_holds 9 = .ok (.ireturn, 1) := by decide +kernel
theorem dX11_holds_10 : decode cX11_holds 10 = .ok (.aload_n 0, 1) := by decide +kernel
theorem dX11_holds_11 : decode cX11_holds 11 = .ok (.getfield 19, 3) := by decide +kernel
theorem dX11_holds_14 : decode cX11_holds 14 = .ok (.getfield 240, 3) := by decide +kernel
theorem dX11_holds_17 : decode cX11_holds 17 = .ok (.iload_n 1, 1) := by decide +kernel
theorem dX11_holds_18 : decode cX11_holds 18 = .ok (.aaload, 1) := by decide +kernel
theorem dX11_holds_19 : decode cX11_holds 19 = .ok (.astore_n 2, 1) := by decide +kernel
theorem dX11_holds_20 : decode cX11_holds 20 = .ok (.aload_n 0, 1) := by decide +kernel
theorem dX11_holds_21 : decode cX11_holds 21 = .ok (.aload_n 2, 1) := by decide +kernel
theorem dX11_holds_22 : decode cX11_holds 22 = .ok (.getfield 256, 3) := by decide +kernel
theorem dX11_holds_25 : decode cX11_holds 25 = .ok (.aload_n 2, 1) := by decide +kernel
theorem dX11_holds_26 : decode cX11_holds 26 = .ok (.getfield 257, 3) := by decide +kernel
theorem dX11_holds_29 : decode cX11_holds 29 = .ok (.bipush 15, 2) := by decide +kernel
theorem dX11_holds_31 : decode cX11_holds 31 = .ok (.invokevirtual 141, 3) := by decide +kernel
theorem dX11_holds_34 : decode cX11_holds 34 = .ok (.bipush (-6), 2) := by decide +kernel
theorem dX11_holds_36 : decode cX11_holds 36 = .ok (.if_icmp .ne 7, 3) := by decide +kernel
theorem dX11_holds_39 : decode cX11_holds 39 = .ok (.iconst 1, 1) := by decide +kernel
theorem dX11_holds_40 : decode cX11_holds 40 = .ok (.goto 4, 3) := by decide +kernel
theorem dX11_holds_43 : decode cX11_holds 43 = .ok (.iconst 0, 1) := by decide +kernel
theorem dX11_holds_44 : decode cX11_holds 44 = .ok (.ireturn, 1) := by decide +kernel
theorem dX11_fits_0 : decode cX11_fits 0 = .ok (.aload_n 0, 1) := by decide +kernel
theorem dX11_fits_1 : decode cX11_fits 1 = .ok (.iload_n 1, 1) := by decide +kernel
theorem dX11_fits_2 : decode cX11_fits 2 = .ok (.invokevirtual 253, 3) := by decide +kernel
theorem dX11_fits_5 : decode cX11_fits 5 = .ok (.ifCond .eq 5, 3) := by decide +kernel
theorem dX11_fits_8 : decode cX11_fits 8 = .ok (.iconst (-1), 1) := by decide +kernel
theorem dX11_fits_9 : decode cX11_fits 9 = .ok (.ireturn, 1) := by decide +kernel
theorem dX11_fits_10 : decode cX11_fits 10 = .ok (.aload_n 0, 1) := by decide +kernel
theorem dX11_fits_11 : decode cX11_fits 11 = .ok (.getfield 19, 3) := by decide +kernel
theorem dX11_fits_14 : decode cX11_fits 14 = .ok (.getfield 240, 3) := by decide +kernel
theorem dX11_fits_17 : decode cX11_fits 17 = .ok (.iload_n 1, 1) := by decide +kernel
theorem dX11_fits_18 : decode cX11_fits 18 = .ok (.aaload, 1) := by decide +kernel
theorem dX11_fits_19 : decode cX11_fits 19 = .ok (.aload_n 0, 1) := by decide +kernel
theorem dX11_fits_20 : decode cX11_fits 20 = .ok (.getfield 19, 3) := by decide +kernel
theorem dX11_fits_23 : decode cX11_fits 23 = .ok (.getfield 106, 3) := by decide +kernel
theorem dX11_fits_26 : decode cX11_fits 26 = .ok (.invokevirtual 258, 3) := by decide +kernel
theorem dX11_fits_29 : decode cX11_fits 29 = .ok (.ireturn, 1) := by decide +kernel
theorem dX11_replace_0 : decode cX11_replace 0 = .ok (.aload_n 0, 1) := by decide +kernel
theorem dX11_replace_1 : decode cX11_replace 1 = .ok (.iload_n 1, 1) := by decide +kernel
theorem dX11_replace_2 : decode cX11_replace 2 = .ok (.invokevirtual 253, 3) := by decide +kernel
theorem dX11_replace_5 : decode cX11_replace 5 = .ok (.ifCond .eq 5, 3) := by decide +kernel
theorem dX11_replace_8 : decode cX11_replace 8 = .ok (.iconst (-1), 1) := by decide +kernel
theorem dX11_replace_9 : decode cX11_replace 9 = .ok (.ireturn, 1) := by decide +kernel
theorem dX11_replace_10 : decode cX11_replace 10 = .ok (.aload_n 0, 1) := by decide +kernel
theorem dX11_replace_11 : decode cX11_replace 11 = .ok (.getfield 19, 3) := by decide +kernel
theorem dX11_replace_14 : decode cX11_replace 14 = .ok (.getfield 240, 3) := by decide +kernel
theorem dX11_replace_17 : decode cX11_replace 17 = .ok (.iload_n 1, 1) := by decide +kernel
theorem dX11_replace_18 : decode cX11_replace 18 = .ok (.aaload, 1) := by decide +kernel
theorem dX11_replace_19 : decode cX11_replace 19 = .ok (.astore_n 2, 1) := by decide +kernel
theorem dX11_replace_20 : decode cX11_replace 20 = .ok (.aload_n 2, 1) := by decide +kernel
theorem dX11_replace_21 : decode cX11_replace 21 = .ok (.aload_n 0, 1) := by decide +kernel
theorem dX11_replace_22 : decode cX11_replace 22 = .ok (.getfield 19, 3) := by decide +kernel
theorem dX11_replace_25 : decode cX11_replace 25 = .ok (.getfield 106, 3) := by decide +kernel
theorem dX11_replace_28 : decode cX11_replace 28 = .ok (.invokevirtual 258, 3) := by decide +kernel
theorem dX11_replace_31 : decode cX11_replace 31 = .ok (.istore_n 3, 1) := by decide +kernel
theorem dX11_replace_32 : decode cX11_replace 32 = .ok (.iload_n 3, 1) := by decide +kernel
theorem dX11_replace_33 : decode cX11_replace 33 = .ok (.bipush (-6), 2) := by decide +kernel
theorem dX11_replace_35 : decode cX11_replace 35 = .ok (.if_icmp .ne 6, 3) := by decide +kernel
theorem dX11_replace_38 : decode cX11_replace 38 = .ok (.bipush (-3), 2) := by decide +kernel
theorem dX11_replace_40 : decode cX11_replace 40 = .ok (.ireturn, 1) := by decide +kernel
theorem dX11_replace_41 : decode cX11_replace 41 = .ok (.aload_n 2, 1) := by decide +kernel
theorem dX11_replace_42 : decode cX11_replace 42 = .ok (.aload_n 0, 1) := by decide +kernel
theorem dX11_replace_43 : decode cX11_replace 43 = .ok (.getfield 19, 3) := by decide +kernel
theorem dX11_replace_46 : decode cX11_replace 46 = .ok (.getfield 106, 3) := by decide +kernel
theorem dX11_replace_49 : decode cX11_replace 49 = .ok (.invokevirtual 262, 3) := by decide +kernel
theorem dX11_replace_52 : decode cX11_replace 52 = .ok (.bipush 12, 2) := by decide +kernel
theorem dX11_replace_54 : decode cX11_replace 54 = .ok (.if_icmp .le 6, 3) := by decide +kernel
theorem dX11_replace_57 : decode cX11_replace 57 = .ok (.bipush (-4), 2) := by decide +kernel
theorem dX11_replace_59 : decode cX11_replace 59 = .ok (.ireturn, 1) := by decide +kernel
theorem dX11_replace_60 : decode cX11_replace 60 = .ok (.aload_n 2, 1) := by decide +kernel
theorem dX11_replace_61 : decode cX11_replace 61 = .ok (.aload_n 0, 1) := by decide +kernel
theorem dX11_replace_62 : decode cX11_replace 62 = .ok (.getfield 19, 3) := by decide +kernel
theorem dX11_replace_65 : decode cX11_replace 65 = .ok (.getfield 106, 3) := by decide +kernel
theorem dX11_replace_68 : decode cX11_replace 68 = .ok (.iload_n 3, 1) := by decide +kernel
theorem dX11_replace_69 : decode cX11_replace 69 = .ok (.aload_n 0, 1) := by decide +kernel
theorem dX11_replace_70 : decode cX11_replace 70 = .ok (.getfield 86, 3) := by decide +kernel
theorem dX11_replace_73 : decode cX11_replace 73 = .ok (.invokevirtual 265, 3) := by decide +kernel
theorem dX11_replace_76 : decode cX11_replace 76 = .ok (.aload_n 0, 1) := by decide +kernel
theorem dX11_replace_77 : decode cX11_replace 77 = .ok (.getfield 19, 3) := by decide +kernel
theorem dX11_replace_80 : decode cX11_replace 80 = .ok (.getfield 106, 3) := by decide +kernel
theorem dX11_replace_83 : decode cX11_replace 83 = .ok (.getfield 116, 3) := by decide +kernel
theorem dX11_replace_86 : decode cX11_replace 86 = .ok (.ireturn, 1) := by decide +kernel
theorem dX11_go_0 : decode cX11_go 0 = .ok (.iconst 0, 1) := by decide +kernel
theorem dX11_go_1 : decode cX11_go 1 = .ok (.istore_n 1, 1) := by decide +kernel
theorem dX11_go_2 : decode cX11_go 2 = .ok (.iload_n 1, 1) := by decide +kernel
theorem dX11_go_3 : decode cX11_go 3 = .ok (.bipush 20, 2) := by decide +kernel
theorem dX11_go_5 : decode cX11_go 5 = .ok (.if_icmp .ge 18, 3) := by decide +kernel
theorem dX11_go_8 : decode cX11_go 8 = .ok (.aload_n 0, 1) := by decide +kernel
theorem dX11_go_9 : decode cX11_go 9 = .ok (.invokevirtual 269, 3) := by decide +kernel
theorem dX11_go_12 : decode cX11_go 12 = .ok (.ifCond .ne 5, 3) := by decide +kernel
theorem dX11_go_15 : decode cX11_go 15 = .ok (.iload_n 1, 1) := by decide +kernel
theorem dX11_go_16 : decode cX11_go 16 = .ok (.ireturn, 1) := by decide +kernel
theorem dX11_go_17 : decode cX11_go 17 = .ok (.iinc 1 1, 3) := by decide +kernel
theorem dX11_go_20 : decode cX11_go 20 = .ok (.goto (-18), 3) := by decide +kernel
theorem dX11_go_23 : decode cX11_go 23 = .ok (.bipush 20, 2) := by decide +kernel
theorem dX11_go_25 : decode cX11_go 25 = .ok (.ireturn, 1) := by decide +kernel
theorem dX11_shortest_0 : decode cX11_shortest 0 = .ok (.aload_n 0, 1) := by decide +kernel
theorem dX11_shortest_1 : decode cX11_shortest 1 = .ok (.getfield 19, 3) := by decide +kernel
theorem dX11_shortest_4 : decode cX11_shortest 4 = .ok (.getfield 120, 3) := by decide +kernel
theorem dX11_shortest_7 : decode cX11_shortest 7 = .ok (.aload_n 0, 1) := by decide +kernel
theorem dX11_shortest_8 : decode cX11_shortest 8 = .ok (.getfield 19, 3) := by decide +kernel
theorem dX11_shortest_11 : decode cX11_shortest 11 = .ok (.getfield 106, 3) := by decide +kernel
theorem dX11_shortest_14 : decode cX11_shortest 14 = .ok (.invokevirtual 273, 3) := by decide +kernel
theorem dX11_shortest_17 : decode cX11_shortest 17 = .ok (.ior, 1) := by decide +kernel
theorem dX11_shortest_18 : decode cX11_shortest 18 = .ok (.iconst 3, 1) := by decide +kernel
theorem dX11_shortest_19 : decode cX11_shortest 19 = .ok (.if_icmp .le 6, 3) := by decide +kernel
theorem dX11_shortest_22 : decode cX11_shortest 22 = .ok (.bipush (-3), 2) := by decide +kernel
theorem dX11_shortest_24 : decode cX11_shortest 24 = .ok (.ireturn, 1) := by decide +kernel
theorem dX11_shortest_25 : decode cX11_shortest 25 = .ok (.aload_n 0, 1) := by decide +kernel
theorem dX11_shortest_26 : decode cX11_shortest 26 = .ok (.getfield 79, 3) := by decide +kernel
theorem dX11_shortest_29 : decode cX11_shortest 29 = .ok (.aload_n 0, 1) := by decide +kernel
theorem dX11_shortest_30 : decode cX11_shortest 30 = .ok (.getfield 19, 3) := by decide +kernel
theorem dX11_shortest_33 : decode cX11_shortest 33 = .ok (.getfield 106, 3) := by decide +kernel
theorem dX11_shortest_36 : decode cX11_shortest 36 = .ok (.aload_n 0, 1) := by decide +kernel
theorem dX11_shortest_37 : decode cX11_shortest 37 = .ok (.getfield 19, 3) := by decide +kernel
theorem dX11_shortest_40 : decode cX11_shortest 40 = .ok (.getfield 120, 3) := by decide +kernel
theorem dX11_shortest_43 : decode cX11_shortest 43 = .ok (.invokevirtual 276, 3) := by decide +kernel
theorem dX11_shortest_46 : decode cX11_shortest 46 = .ok (.iload_n 1, 1) := by decide +kernel
theorem dX11_shortest_47 : decode cX11_shortest 47 = .ok (.iconst (-1), 1) := by decide +kernel
theorem dX11_shortest_48 : decode cX11_shortest 48 = .ok (.if_icmp .ne 11, 3) := by decide +kernel
theorem dX11_shortest_51 : decode cX11_shortest 51 = .ok (.aload_n 0, 1) := by decide +kernel
theorem dX11_shortest_52 : decode cX11_shortest 52 = .ok (.getfield 79, 3) := by decide +kernel
theorem dX11_shortest_55 : decode cX11_shortest 55 = .ok (.getfield 279, 3) := by decide +kernel
theorem dX11_shortest_58 : decode cX11_shortest 58 = .ok (.ireturn, 1) := by decide +kernel
theorem dX11_shortest_59 : decode cX11_shortest 59 = .ok (.iload_n 1, 1) := by decide +kernel
theorem dX11_shortest_60 : decode cX11_shortest 60 = .ok (.ifCond .lt 26, 3) := by decide +kernel
theorem dX11_shortest_63 : decode cX11_shortest 63 = .ok (.iload_n 1, 1) := by decide +kernel
theorem dX11_shortest_64 : decode cX11_shortest 64 = .ok (.aload_n 0, 1) := by decide +kernel
theorem dX11_shortest_65 : decode cX11_shortest 65 = .ok (.getfield 79, 3) := by decide +kernel
theorem dX11_shortest_68 : decode cX11_shortest 68 = .ok (.getfield 279, 3) := by decide +kernel
theorem dX11_shortest_71 : decode cX11_shortest 71 = .ok (.if_icmp .ge 15, 3) := by decide +kernel
theorem dX11_shortest_74 : decode cX11_shortest 74 = .ok (.aload_n 0, 1) := by decide +kernel
theorem dX11_shortest_75 : decode cX11_shortest 75 = .ok (.getfield 79, 3) := by decide +kernel
theorem dX11_shortest_78 : decode cX11_shortest 78 = .ok (.getfield 282, 3) := by decide +kernel
theorem dX11_shortest_81 : decode cX11_shortest 81 = .ok (.iload_n 1, 1) := by decide +kernel
theorem dX11_shortest_82 : decode cX11_shortest 82 = .ok (.iaload, 1) := by decide +kernel
theorem dX11_shortest_83 : decode cX11_shortest 83 = .ok (.goto 5, 3) := by decide +kernel
theorem dX11_shortest_86 : decode cX11_shortest 86 = .ok (.bipush (-6), 2) := by decide +kernel
theorem dX11_shortest_88 : decode cX11_shortest 88 = .ok (.ireturn, 1) := by decide +kernel
theorem dX11_image_0 : decode cX11_image 0 = .ok (.iload_n 1, 1) := by decide +kernel
theorem dX11_image_1 : decode cX11_image 1 = .ok (.ifCond .lt 8, 3) := by decide +kernel
theorem dX11_image_4 : decode cX11_image 4 = .ok (.iload_n 1, 1) := by decide +kernel
theorem dX11_image_5 : decode cX11_image 5 = .ok (.iconst 2, 1) := by decide +kernel
theorem dX11_image_6 : decode cX11_image 6 = .ok (.if_icmp .lt 6, 3) := by decide +kernel
theorem dX11_image_9 : decode cX11_image 9 = .ok (.bipush (-2), 2) := by decide +kernel
theorem dX11_image_11 : decode cX11_image 11 = .ok (.ireturn, 1) := by decide +kernel
theorem dX11_image_12 : decode cX11_image 12 = .ok (.aload_n 0, 1) := by decide +kernel
theorem dX11_image_13 : decode cX11_image 13 = .ok (.getfield 23, 3) := by decide +kernel
theorem dX11_image_16 : decode cX11_image 16 = .ok (.iload_n 1, 1) := by decide +kernel
theorem dX11_image_17 : decode cX11_image 17 = .ok (.aaload, 1) := by decide +kernel
theorem dX11_image_18 : decode cX11_image 18 = .ok (.aload_n 0, 1) := by decide +kernel
theorem dX11_image_19 : decode cX11_image 19 = .ok (.getfield 19, 3) := by decide +kernel
theorem dX11_image_22 : decode cX11_image 22 = .ok (.invokevirtual 285, 3) := by decide +kernel
theorem dX11_image_25 : decode cX11_image 25 = .ok (.aload_n 0, 1) := by decide +kernel
theorem dX11_image_26 : decode cX11_image 26 = .ok (.getfield 27, 3) := by decide +kernel
theorem dX11_image_29 : decode cX11_image 29 = .ok (.iload_n 1, 1) := by decide +kernel
theorem dX11_image_30 : decode cX11_image 30 = .ok (.iconst 1, 1) := by decide +kernel
theorem dX11_image_31 : decode cX11_image 31 = .ok (.bastore, 1) := by decide +kernel
theorem dX11_image_32 : decode cX11_image 32 = .ok (.iconst 1, 1) := by decide +kernel
theorem dX11_image_33 : decode cX11_image 33 = .ok (.ireturn, 1) := by decide +kernel
theorem dX11_restore_0 : decode cX11_restore 0 = .ok (.iload_n 1, 1) := by decide +kernel
theorem dX11_restore_1 : decode cX11_restore 1 = .ok (.ifCond .lt 8, 3) := by decide +kernel
theorem dX11_restore_4 : decode cX11_restore 4 = .ok (.iload_n 1, 1) := by decide +kernel
theorem dX11_restore_5 : decode cX11_restore 5 = .ok (.iconst 2, 1) := by decide +kernel
theorem dX11_restore_6 : decode cX11_restore 6 = .ok (.if_icmp .lt 6, 3) := by decide +kernel
theorem dX11_restore_9 : decode cX11_restore 9 = .ok (.bipush (-2), 2) := by decide +kernel
theorem dX11_restore_11 : decode cX11_restore 11 = .ok (.ireturn, 1) := by decide +kernel
theorem dX11_restore_12 : decode cX11_restore 12 = .ok (.aload_n 0, 1) := by decide +kernel
theorem dX11_restore_13 : decode cX11_restore 13 = .ok (.getfield 27, 3) := by decide +kernel
theorem dX11_restore_16 : decode cX11_restore 16 = .ok (.iload_n 1, 1) := by decide +kernel
theorem dX11_restore_17 : decode cX11_restore 17 = .ok (.baload, 1) := by decide +kernel
theorem dX11_restore_18 : decode cX11_restore 18 = .ok (.ifCond .ne 6, 3) := by decide +kernel
theorem dX11_restore_21 : decode cX11_restore 21 = .ok (.bipush (-3), 2) := by decide +kernel
theorem dX11_restore_23 : decode cX11_restore 23 = .ok (.ireturn, 1) := by decide +kernel
theorem dX11_restore_24 : decode cX11_restore 24 = .ok (.aload_n 0, 1) := by decide +kernel
theorem dX11_restore_25 : decode cX11_restore 25 = .ok (.getfield 19, 3) := by decide +kernel
theorem dX11_restore_28 : decode cX11_restore 28 = .ok (.aload_n 0, 1) := by decide +kernel
theorem dX11_restore_29 : decode cX11_restore 29 = .ok (.getfield 23, 3) := by decide +kernel
theorem dX11_restore_32 : decode cX11_restore 32 = .ok (.iload_n 1, 1) := by decide +kernel
theorem dX11_restore_33 : decode cX11_restore 33 = .ok (.aaload, 1) := by decide +kernel
theorem dX11_restore_34 : decode cX11_restore 34 = .ok (.invokevirtual 285, 3) := by decide +kernel
theorem dX11_restore_37 : decode cX11_restore 37 = .ok (.iconst 1, 1) := by decide +kernel
theorem dX11_restore_38 : decode cX11_restore 38 = .ok (.ireturn, 1) := by decide +kernel
theorem dX11_told_0 : decode cX11_told 0 = .ok (.iload_n 1, 1) := by decide +kernel
theorem dX11_told_1 : decode cX11_told 1 = .ok (.tableswitch 101 0 9 #[55, 66, 74, 82, 101, 101, 101, 101, 101, 90], 55) := by decide +kernel
theorem dX11_told_56 : decode cX11_told 56 = .ok (.aload_n 0, 1) := by decide +kernel
theorem dX11_told_57 : decode cX11_told 57 = .ok (.getfield 19, 3) := by decide +kernel
theorem dX11_told_60 : decode cX11_told 60 = .ok (.getfield 106, 3) := by decide +kernel
theorem dX11_told_63 : decode cX11_told 63 = .ok (.getfield 116, 3) := by decide +kernel
theorem dX11_told_66 : decode cX11_told 66 = .ok (.ireturn, 1) := by decide +kernel
theorem dX11_told_67 : decode cX11_told 67 = .ok (.aload_n 0, 1) := by decide +kernel
theorem dX11_told_68 : decode cX11_told 68 = .ok (.getfield 12, 3) := by decide +kernel
theorem dX11_told_71 : decode cX11_told 71 = .ok (.getfield 288, 3) := by decide +kernel
theorem dX11_told_74 : decode cX11_told 74 = .ok (.ireturn, 1) := by decide +kernel
theorem dX11_told_75 : decode cX11_told 75 = .ok (.aload_n 0, 1) := by decide +kernel
theorem dX11_told_76 : decode cX11_told 76 = .ok (.getfield 19, 3) := by decide +kernel
theorem dX11_told_79 : decode cX11_told 79 = .ok (.getfield 120, 3) := by decide +kernel
theorem dX11_told_82 : decode cX11_told 82 = .ok (.ireturn, 1) := by decide +kernel
theorem dX11_told_83 : decode cX11_told 83 = .ok (.aload_n 0, 1) := by decide +kernel
theorem dX11_told_84 : decode cX11_told 84 = .ok (.getfield 19, 3) := by decide +kernel
theorem dX11_told_87 : decode cX11_told 87 = .ok (.getfield 237, 3) := by decide +kernel
theorem dX11_told_90 : decode cX11_told 90 = .ok (.ireturn, 1) := by decide +kernel
theorem dX11_told_91 : decode cX11_told 91 = .ok (.aload_n 0, 1) := by decide +kernel
theorem dX11_told_92 : decode cX11_told 92 = .ok (.getfield 19, 3) := by decide +kernel
theorem dX11_told_95 : decode cX11_told 95 = .ok (.getfield 138, 3) := by decide +kernel
theorem dX11_told_98 : decode cX11_told 98 = .ok (.getfield 116, 3) := by decide +kernel
theorem dX11_told_101 : decode cX11_told 101 = .ok (.ireturn, 1) := by decide +kernel
theorem dX11_told_102 : decode cX11_told 102 = .ok (.iload_n 1, 1) := by decide +kernel
theorem dX11_told_103 : decode cX11_told 103 = .ok (.iconst 4, 1) := by decide +kernel
theorem dX11_told_104 : decode cX11_told 104 = .ok (.if_icmp .lt 23, 3) := by decide +kernel
theorem dX11_told_107 : decode cX11_told 107 = .ok (.iload_n 1, 1) := by decide +kernel
theorem dX11_told_108 : decode cX11_told 108 = .ok (.bipush 9, 2) := by decide +kernel
theorem dX11_told_110 : decode cX11_told 110 = .ok (.if_icmp .ge 17, 3) := by decide +kernel
theorem dX11_told_113 : decode cX11_told 113 = .ok (.aload_n 0, 1) := by decide +kernel
theorem dX11_told_114 : decode cX11_told 114 = .ok (.getfield 19, 3) := by decide +kernel
theorem dX11_told_117 : decode cX11_told 117 = .ok (.getfield 194, 3) := by decide +kernel
theorem dX11_told_120 : decode cX11_told 120 = .ok (.iload_n 1, 1) := by decide +kernel
theorem dX11_told_121 : decode cX11_told 121 = .ok (.iconst 4, 1) := by decide +kernel
theorem dX11_told_122 : decode cX11_told 122 = .ok (.isub, 1) := by decide +kernel
theorem dX11_told_123 : decode cX11_told 123 = .ok (.iaload, 1) := by decide +kernel
theorem dX11_told_124 : decode cX11_told 124 = .ok (.goto 5, 3) := by decide +kernel
theorem dX11_told_127 : decode cX11_told 127 = .ok (.bipush (-2), 2) := by decide +kernel
theorem dX11_told_129 : decode cX11_told 129 = .ok (.ireturn, 1) := by decide +kernel
theorem dX11_isNoStep_0 : decode cX11_isNoStep 0 = .ok (.iload_n 1, 1) := by decide +kernel
theorem dX11_isNoStep_1 : decode cX11_isNoStep 1 = .ok (.ifCond .lt 17, 3) := by decide +kernel
theorem dX11_isNoStep_4 : decode cX11_isNoStep 4 = .ok (.iload_n 1, 1) := by decide +kernel
theorem dX11_isNoStep_5 : decode cX11_isNoStep 5 = .ok (.aload_n 0, 1) := by decide +kernel
theorem dX11_isNoStep_6 : decode cX11_isNoStep 6 = .ok (.getfield 19, 3) := by decide +kernel
theorem dX11_isNoStep_9 : decode cX11_isNoStep 9 = .ok (.getfield 106, 3) := by decide +kernel
theorem dX11_isNoStep_12 : decode cX11_isNoStep 12 = .ok (.getfield 116, 3) := by decide +kernel
theorem dX11_isNoStep_15 : decode cX11_isNoStep 15 = .ok (.if_icmp .lt 7, 3) := by decide +kernel
theorem dX11_isNoStep_18 : decode cX11_isNoStep 18 = .ok (.iconst 1, 1) := by decide +kernel
theorem dX11_isNoStep_19 : decode cX11_isNoStep 19 = .ok (.goto 4, 3) := by decide +kernel
theorem dX11_isNoStep_22 : decode cX11_isNoStep 22 = .ok (.iconst 0, 1) := by decide +kernel
theorem dX11_isNoStep_23 : decode cX11_isNoStep 23 = .ok (.ireturn, 1) := by decide +kernel
theorem dX11_isNoPlace_0 : decode cX11_isNoPlace 0 = .ok (.iload_n 1, 1) := by decide +kernel
theorem dX11_isNoPlace_1 : decode cX11_isNoPlace 1 = .ok (.ifCond .lt 17, 3) := by decide +kernel
theorem dX11_isNoPlace_4 : decode cX11_isNoPlace 4 = .ok (.iload_n 1, 1) := by decide +kernel
theorem dX11_isNoPlace_5 : decode cX11_isNoPlace 5 = .ok (.aload_n 0, 1) := by decide +kernel
theorem dX11_isNoPlace_6 : decode cX11_isNoPlace 6 = .ok (.getfield 19, 3) := by decide +kernel
theorem dX11_isNoPlace_9 : decode cX11_isNoPlace 9 = .ok (.getfield 106, 3) := by decide +kernel
theorem dX11_isNoPlace_12 : decode cX11_isNoPlace 12 = .ok (.getfield 116, 3) := by decide +kernel
theorem dX11_isNoPlace_15 : decode cX11_isNoPlace 15 = .ok (.if_icmp .le 7, 3) := by decide +kernel
theorem dX11_isNoPlace_18 : decode cX11_isNoPlace 18 = .ok (.iconst 1, 1) := by decide +kernel
theorem dX11_isNoPlace_19 : decode cX11_isNoPlace 19 = .ok (.goto 4, 3) := by decide +kernel
theorem dX11_isNoPlace_22 : decode cX11_isNoPlace 22 = .ok (.iconst 0, 1) := by decide +kernel
theorem dX11_isNoPlace_23 : decode cX11_isNoPlace 23 = .ok (.ireturn, 1) := by decide +kernel
theorem dX11_isNoRule_0 : decode cX11_isNoRule 0 = .ok (.iload_n 1, 1) := by decide +kernel
theorem dX11_isNoRule_1 : decode cX11_isNoRule 1 = .ok (.ifCond .lt 14, 3) := by decide +kernel
theorem dX11_isNoRule_4 : decode cX11_isNoRule 4 = .ok (.iload_n 1, 1) := by decide +kernel
theorem dX11_isNoRule_5 : decode cX11_isNoRule 5 = .ok (.aload_n 0, 1) := by decide +kernel
theorem dX11_isNoRule_6 : decode cX11_isNoRule 6 = .ok (.getfield 19, 3) := by decide +kernel
theorem dX11_isNoRule_9 : decode cX11_isNoRule 9 = .ok (.getfield 237, 3) := by decide +kernel
theorem dX11_isNoRule_12 : decode cX11_isNoRule 12 = .ok (.if_icmp .lt 7, 3) := by decide +kernel
theorem dX11_isNoRule_15 : decode cX11_isNoRule 15 = .ok (.iconst 1, 1) := by decide +kernel
theorem dX11_isNoRule_16 : decode cX11_isNoRule 16 = .ok (.goto 4, 3) := by decide +kernel
theorem dX11_isNoRule_19 : decode cX11_isNoRule 19 = .ok (.iconst 0, 1) := by decide +kernel
theorem dX11_isNoRule_20 : decode cX11_isNoRule 20 = .ok (.ireturn, 1) := by decide +kernel
theorem dX11_madeBy_0 : decode cX11_madeBy 0 = .ok (.aload_n 0, 1) := by decide +kernel
theorem dX11_madeBy_1 : decode cX11_madeBy 1 = .ok (.aload_n 1, 1) := by decide +kernel
theorem dX11_madeBy_2 : decode cX11_madeBy 2 = .ok (.iload_n 2, 1) := by decide +kernel
theorem dX11_madeBy_3 : decode cX11_madeBy 3 = .ok (.iconst 2, 1) := by decide +kernel
theorem dX11_madeBy_4 : decode cX11_madeBy 4 = .ok (.invokevirtual 127, 3) := by decide +kernel
theorem dX11_madeBy_7 : decode cX11_madeBy 7 = .ok (.invokevirtual 289, 3) := by decide +kernel
theorem dX11_madeBy_10 : decode cX11_madeBy 10 = .ok (.istore_n 3, 1) := by decide +kernel
theorem dX11_madeBy_11 : decode cX11_madeBy 11 = .ok (.aload_n 0, 1) := by decide +kernel
theorem dX11_madeBy_12 : decode cX11_madeBy 12 = .ok (.aload_n 1, 1) := by decide +kernel
theorem dX11_madeBy_13 : decode cX11_madeBy 13 = .ok (.iload_n 2, 1) := by decide +kernel
theorem dX11_madeBy_14 : decode cX11_madeBy 14 = .ok (.iconst 3, 1) := by decide +kernel
theorem dX11_madeBy_15 : decode cX11_madeBy 15 = .ok (.invokevirtual 127, 3) := by decide +kernel
theorem dX11_madeBy_18 : decode cX11_madeBy 18 = .ok (.invokevirtual 289, 3) := by decide +kernel
theorem dX11_madeBy_21 : decode cX11_madeBy 21 = .ok (.istore 4, 2) := by decide +kernel
theorem dX11_madeBy_23 : decode cX11_madeBy 23 = .ok (.aload_n 1, 1) := by decide +kernel
theorem dX11_madeBy_24 : decode cX11_madeBy 24 = .ok (.iload_n 2, 1) := by decide +kernel
theorem dX11_madeBy_25 : decode cX11_madeBy 25 = .ok (.iconst 1, 1) := by decide +kernel
theorem dX11_madeBy_26 : decode cX11_madeBy 26 = .ok (.invokevirtual 127, 3) := by decide +kernel
theorem dX11_madeBy_29 : decode cX11_madeBy 29 = .ok (.iload_n 3, 1) := by decide +kernel
theorem dX11_madeBy_30 : decode cX11_madeBy 30 = .ok (.iload 4, 2) := by decide +kernel
theorem dX11_madeBy_32 : decode cX11_madeBy 32 = .ok (.invokestatic 292, 3) := by decide +kernel
theorem dX11_madeBy_35 : decode cX11_madeBy 35 = .ok (.ireturn, 1) := by decide +kernel
theorem dX11_numberOf_0 : decode cX11_numberOf 0 = .ok (.iload_n 1, 1) := by decide +kernel
theorem dX11_numberOf_1 : decode cX11_numberOf 1 = .ok (.invokestatic 165, 3) := by decide +kernel
theorem dX11_numberOf_4 : decode cX11_numberOf 4 = .ok (.ifCond .eq 18, 3) := by decide +kernel
theorem dX11_numberOf_7 : decode cX11_numberOf 7 = .ok (.iload_n 1, 1) := by decide +kernel
theorem dX11_numberOf_8 : decode cX11_numberOf 8 = .ok (.bipush 10, 2) := by decide +kernel
theorem dX11_numberOf_10 : decode cX11_numberOf 10 = .ok (.if_icmp .lt 10, 3) := by decide +kernel
theorem dX11_numberOf_13 : decode cX11_numberOf 13 = .ok (.iload_n 1, 1) := by decide +kernel
theorem dX11_numberOf_14 : decode cX11_numberOf 14 = .ok (.bipush 10, 2) := by decide +kernel
theorem dX11_numberOf_16 : decode cX11_numberOf 16 = .ok (.isub, 1) := by decide +kernel
theorem dX11_numberOf_17 : decode cX11_numberOf 17 = .ok (.goto 4, 3) := by decide +kernel
theorem dX11_numberOf_20 : decode cX11_numberOf 20 = .ok (.iconst 0, 1) := by decide +kernel
theorem dX11_numberOf_21 : decode cX11_numberOf 21 = .ok (.ireturn, 1) := by decide +kernel
theorem dX11_numberOf_22 : decode cX11_numberOf 22 = .ok (.aload_n 0, 1) := by decide +kernel
theorem dX11_numberOf_23 : decode cX11_numberOf 23 = .ok (.getfield 90, 3) := by decide +kernel
theorem dX11_numberOf_26 : decode cX11_numberOf 26 = .ok (.iload_n 1, 1) := by decide +kernel
theorem dX11_numberOf_27 : decode cX11_numberOf 27 = .ok (.iaload, 1) := by decide +kernel
theorem dX11_numberOf_28 : decode cX11_numberOf 28 = .ok (.ireturn, 1) := by decide +kernel
theorem dX11_firstUnlike_0 : decode cX11_firstUnlike 0 = .ok (.iconst 0, 1) := by decide +kernel
theorem dX11_firstUnlike_1 : decode cX11_firstUnlike 1 = .ok (.istore 4, 2) := by decide +kernel
theorem dX11_firstUnlike_3 : decode cX11_firstUnlike 3 = .ok (.iload 4, 2) := by decide +kernel
theorem dX11_firstUnlike_5 : decode cX11_firstUnlike 5 = .ok (.bipush 64, 2) := by decide +kernel
theorem dX11_firstUnlike_7 : decode cX11_firstUnlike 7 = .ok (.if_icmp .ge 108, 3) := by decide +kernel
theorem dX11_firstUnlike_10 : decode cX11_firstUnlike 10 = .ok (.aload_n 0, 1) := by decide +kernel
theorem dX11_firstUnlike_11 : decode cX11_firstUnlike 11 = .ok (.getfield 69, 3) := by decide +kernel
theorem dX11_firstUnlike_14 : decode cX11_firstUnlike 14 = .ok (.iload 4, 2) := by decide +kernel
theorem dX11_firstUnlike_16 : decode cX11_firstUnlike 16 = .ok (.invokevirtual 296, 3) := by decide +kernel
theorem dX11_firstUnlike_19 : decode cX11_firstUnlike 19 = .ok (.aload_n 0, 1) := by decide +kernel
theorem dX11_firstUnlike_20 : decode cX11_firstUnlike 20 = .ok (.getfield 69, 3) := by decide +kernel
theorem dX11_firstUnlike_23 : decode cX11_firstUnlike 23 = .ok (.aload_n 1, 1) := by decide +kernel
theorem dX11_firstUnlike_24 : decode cX11_firstUnlike 24 = .ok (.invokevirtual 300, 3) := by decide +kernel
theorem dX11_firstUnlike_27 : decode cX11_firstUnlike 27 = .ok (.aload_n 0, 1) := by decide +kernel
theorem dX11_firstUnlike_28 : decode cX11_firstUnlike 28 = .ok (.getfield 73, 3) := by decide +kernel
theorem dX11_firstUnlike_31 : decode cX11_firstUnlike 31 = .ok (.iload 4, 2) := by decide +kernel
theorem dX11_firstUnlike_33 : decode cX11_firstUnlike 33 = .ok (.invokevirtual 296, 3) := by decide +kernel
theorem dX11_firstUnlike_36 : decode cX11_firstUnlike 36 = .ok (.aload_n 0, 1) := by decide +kernel
theorem dX11_firstUnlike_37 : decode cX11_firstUnlike 37 = .ok (.getfield 73, 3) := by decide +kernel
theorem dX11_firstUnlike_40 : decode cX11_firstUnlike 40 = .ok (.aload_n 2, 1) := by decide +kernel
theorem dX11_firstUnlike_41 : decode cX11_firstUnlike 41 = .ok (.invokevirtual 300, 3) := by decide +kernel
theorem dX11_firstUnlike_44 : decode cX11_firstUnlike 44 = .ok (.lconst 0, 1) := by decide +kernel
theorem dX11_firstUnlike_45 : decode cX11_firstUnlike 45 = .ok (.lstore 5, 2) := by decide +kernel
theorem dX11_firstUnlike_47 : decode cX11_firstUnlike 47 = .ok (.iconst 0, 1) := by decide +kernel
theorem dX11_firstUnlike_48 : decode cX11_firstUnlike 48 = .ok (.istore 7, 2) := by decide +kernel
theorem dX11_firstUnlike_50 : decode cX11_firstUnlike 50 = .ok (.iload 7, 2) := by decide +kernel
theorem dX11_firstUnlike_52 : decode cX11_firstUnlike 52 = .ok (.iconst 4, 1) := by decide +kernel
theorem dX11_firstUnlike_53 : decode cX11_firstUnlike 53 = .ok (.if_icmp .ge 37, 3) := by decide +kernel
theorem dX11_firstUnlike_56 : decode cX11_firstUnlike 56 = .ok (.iload_n 3, 1) := by decide +kernel
theorem dX11_firstUnlike_57 : decode cX11_firstUnlike 57 = .ok (.iload 7, 2) := by decide +kernel
theorem dX11_firstUnlike_59 : decode cX11_firstUnlike 59 = .ok (.ishr, 1) := by decide +kernel
theorem dX11_firstUnlike_60 : decode cX11_firstUnlike 60 = .ok (.iconst 1, 1) := by decide +kernel
theorem dX11_firstUnlike_61 : decode cX11_firstUnlike 61 = .ok (.iand, 1) := by decide +kernel
theorem dX11_firstUnlike_62 : decode cX11_firstUnlike 62 = .ok (.iconst 1, 1) := by decide +kernel
theorem dX11_firstUnlike_63 : decode cX11_firstUnlike 63 = .ok (.if_icmp .ne 21, 3) := by decide +kernel
theorem dX11_firstUnlike_66 : decode cX11_firstUnlike 66 = .ok (.lload 5, 2) := by decide +kernel
theorem dX11_firstUnlike_68 : decode cX11_firstUnlike 68 = .ok (.aload_n 0, 1) := by decide +kernel
theorem dX11_firstUnlike_69 : decode cX11_firstUnlike 69 = .ok (.getfield 69, 3) := by decide +kernel
theorem dX11_firstUnlike_72 : decode cX11_firstUnlike 72 = .ok (.iload 7, 2) := by decide +kernel
theorem dX11_firstUnlike_74 : decode cX11_firstUnlike 74 = .ok (.aload_n 0, 1) := by decide +kernel
theorem dX11_firstUnlike_75 : decode cX11_firstUnlike 75 = .ok (.getfield 73, 3) := by decide +kernel
theorem dX11_firstUnlike_78 : decode cX11_firstUnlike 78 = .ok (.invokevirtual 303, 3) := by decide +kernel
theorem dX11_firstUnlike_81 : decode cX11_firstUnlike 81 = .ok (.lor, 1) := by decide +kernel
theorem dX11_firstUnlike_82 : decode cX11_firstUnlike 82 = .ok (.lstore 5, 2) := by decide +kernel
theorem dX11_firstUnlike_84 : decode cX11_firstUnlike 84 = .ok (.iinc 7 1, 3) := by decide +kernel
theorem dX11_firstUnlike_87 : decode cX11_firstUnlike 87 = .ok (.goto (-37), 3) := by decide +kernel
theorem dX11_firstUnlike_90 : decode cX11_firstUnlike 90 = .ok (.lload 5, 2) := by decide +kernel
theorem dX11_firstUnlike_92 : decode cX11_firstUnlike 92 = .ok (.lconst 0, 1) := by decide +kernel
theorem dX11_firstUnlike_93 : decode cX11_firstUnlike 93 = .ok (.lcmp, 1) := by decide +kernel
theorem dX11_firstUnlike_94 : decode cX11_firstUnlike 94 = .ok (.ifCond .eq 15, 3) := by decide +kernel
theorem dX11_firstUnlike_97 : decode cX11_firstUnlike 97 = .ok (.iload 4, 2) := by decide +kernel
theorem dX11_firstUnlike_99 : decode cX11_firstUnlike 99 = .ok (.bipush 64, 2) := by decide +kernel
theorem dX11_firstUnlike_101 : decode cX11_firstUnlike 101 = .ok (.imul, 1) := by decide +kernel
theorem dX11_firstUnlike_102 : decode cX11_firstUnlike 102 = .ok (.lload 5, 2) := by decide +kernel
theorem dX11_firstUnlike_104 : decode cX11_firstUnlike 104 = .ok (.invokestatic 307, 3) := by decide +kernel
theorem dX11_firstUnlike_107 : decode cX11_firstUnlike 107 = .ok (.iadd, 1) := by decide +kernel
theorem dX11_firstUnlike_108 : decode cX11_firstUnlike 108 = .ok (.ireturn, 1) := by decide +kernel
theorem dX11_firstUnlike_109 : decode cX11_firstUnlike 109 = .ok (.iinc 4 1, 3) := by decide +kernel
theorem dX11_firstUnlike_112 : decode cX11_firstUnlike 112 = .ok (.goto (-109), 3) := by decide +kernel
theorem dX11_firstUnlike_115 : decode cX11_firstUnlike 115 = .ok (.bipush (-6), 2) := by decide +kernel
theorem dX11_firstUnlike_117 : decode cX11_firstUnlike 117 = .ok (.ireturn, 1) := by decide +kernel
theorem dX11_lowestBit_0 : decode cX11_lowestBit 0 = .ok (.iconst 0, 1) := by decide +kernel
theorem dX11_lowestBit_1 : decode cX11_lowestBit 1 = .ok (.istore_n 2, 1) := by decide +kernel
theorem dX11_lowestBit_2 : decode cX11_lowestBit 2 = .ok (.iload_n 2, 1) := by decide +kernel
theorem dX11_lowestBit_3 : decode cX11_lowestBit 3 = .ok (.bipush 63, 2) := by decide +kernel
theorem dX11_lowestBit_5 : decode cX11_lowestBit 5 = .ok (.if_icmp .ge 19, 3) := by decide +kernel
theorem dX11_lowestBit_8 : decode cX11_lowestBit 8 = .ok (.lload_n 0, 1) := by decide +kernel
theorem dX11_lowestBit_9 : decode cX11_lowestBit 9 = .ok (.iload_n 2, 1) := by decide +kernel
theorem dX11_lowestBit_10 : decode cX11_lowestBit 10 = .ok (.lushr, 1) := by decide +kernel
theorem dX11_lowestBit_11 : decode cX11_lowestBit 11 = .ok (.lconst 1, 1) := by decide +kernel
theorem dX11_lowestBit_12 : decode cX11_lowestBit 12 = .ok (.land, 1) := by decide +kernel
theorem dX11_lowestBit_13 : decode cX11_lowestBit 13 = .ok (.lconst 0, 1) := by decide +kernel
theorem dX11_lowestBit_14 : decode cX11_lowestBit 14 = .ok (.lcmp, 1) := by decide +kernel
theorem dX11_lowestBit_15 : decode cX11_lowestBit 15 = .ok (.ifCond .ne 9, 3) := by decide +kernel
theorem dX11_lowestBit_18 : decode cX11_lowestBit 18 = .ok (.iinc 2 1, 3) := by decide +kernel
theorem dX11_lowestBit_21 : decode cX11_lowestBit 21 = .ok (.goto (-19), 3) := by decide +kernel
theorem dX11_lowestBit_24 : decode cX11_lowestBit 24 = .ok (.iload_n 2, 1) := by decide +kernel
theorem dX11_lowestBit_25 : decode cX11_lowestBit 25 = .ok (.ireturn, 1) := by decide +kernel
theorem dX11_windClock_0 : decode cX11_windClock 0 = .ok (.aload_n 0, 1) := by decide +kernel
theorem dX11_windClock_1 : decode cX11_windClock 1 = .ok (.getfield 48, 3) := by decide +kernel
theorem dX11_windClock_4 : decode cX11_windClock 4 = .ok (.aload_n 0, 1) := by decide +kernel
theorem dX11_windClock_5 : decode cX11_windClock 5 = .ok (.getfield 19, 3) := by decide +kernel
theorem dX11_windClock_8 : decode cX11_windClock 8 = .ok (.getfield 106, 3) := by decide +kernel
theorem dX11_windClock_11 : decode cX11_windClock 11 = .ok (.invokevirtual 184, 3) := by decide +kernel
theorem dX11_windClock_14 : decode cX11_windClock 14 = .ok (.aload_n 0, 1) := by decide +kernel
theorem dX11_windClock_15 : decode cX11_windClock 15 = .ok (.getfield 55, 3) := by decide +kernel
theorem dX11_windClock_18 : decode cX11_windClock 18 = .ok (.aload_n 0, 1) := by decide +kernel
theorem dX11_windClock_19 : decode cX11_windClock 19 = .ok (.getfield 19, 3) := by decide +kernel
theorem dX11_windClock_22 : decode cX11_windClock 22 = .ok (.getfield 106, 3) := by decide +kernel
theorem dX11_windClock_25 : decode cX11_windClock 25 = .ok (.aload_n 0, 1) := by decide +kernel
theorem dX11_windClock_26 : decode cX11_windClock 26 = .ok (.getfield 48, 3) := by decide +kernel
theorem dX11_windClock_29 : decode cX11_windClock 29 = .ok (.aload_n 0, 1) := by decide +kernel
theorem dX11_windClock_30 : decode cX11_windClock 30 = .ok (.getfield 19, 3) := by decide +kernel
theorem dX11_windClock_33 : decode cX11_windClock 33 = .ok (.getfield 194, 3) := by decide +kernel
theorem dX11_windClock_36 : decode cX11_windClock 36 = .ok (.invokevirtual 311, 3) := by decide +kernel
theorem dX11_windClock_39 : decode cX11_windClock 39 = .ok (.return_, 1) := by decide +kernel
theorem dX11_weighValues_0 : decode cX11_weighValues 0 = .ok (.aload_n 0, 1) := by decide +kernel
theorem dX11_weighValues_1 : decode cX11_weighValues 1 = .ok (.getfield 48, 3) := by decide +kernel
theorem dX11_weighValues_4 : decode cX11_weighValues 4 = .ok (.aload_n 0, 1) := by decide +kernel
theorem dX11_weighValues_5 : decode cX11_weighValues 5 = .ok (.getfield 19, 3) := by decide +kernel
theorem dX11_weighValues_8 : decode cX11_weighValues 8 = .ok (.getfield 106, 3) := by decide +kernel
theorem dX11_weighValues_11 : decode cX11_weighValues 11 = .ok (.invokevirtual 184, 3) := by decide +kernel
theorem dX11_weighValues_14 : decode cX11_weighValues 14 = .ok (.aload_n 0, 1) := by decide +kernel
theorem dX11_weighValues_15 : decode cX11_weighValues 15 = .ok (.getfield 34, 3) := by decide +kernel
theorem dX11_weighValues_18 : decode cX11_weighValues 18 = .ok (.aload_n 0, 1) := by decide +kernel
theorem dX11_weighValues_19 : decode cX11_weighValues 19 = .ok (.getfield 19, 3) := by decide +kernel
theorem dX11_weighValues_22 : decode cX11_weighValues 22 = .ok (.getfield 106, 3) := by decide +kernel
theorem dX11_weighValues_25 : decode cX11_weighValues 25 = .ok (.aload_n 0, 1) := by decide +kernel
theorem dX11_weighValues_26 : decode cX11_weighValues 26 = .ok (.getfield 19, 3) := by decide +kernel
theorem dX11_weighValues_29 : decode cX11_weighValues 29 = .ok (.getfield 120, 3) := by decide +kernel
theorem dX11_weighValues_32 : decode cX11_weighValues 32 = .ok (.invokevirtual 148, 3) := by decide +kernel
theorem dX11_weighValues_35 : decode cX11_weighValues 35 = .ok (.aload_n 0, 1) := by decide +kernel
theorem dX11_weighValues_36 : decode cX11_weighValues 36 = .ok (.getfield 62, 3) := by decide +kernel
theorem dX11_weighValues_39 : decode cX11_weighValues 39 = .ok (.aload_n 0, 1) := by decide +kernel
theorem dX11_weighValues_40 : decode cX11_weighValues 40 = .ok (.getfield 19, 3) := by decide +kernel
theorem dX11_weighValues_43 : decode cX11_weighValues 43 = .ok (.getfield 106, 3) := by decide +kernel
theorem dX11_weighValues_46 : decode cX11_weighValues 46 = .ok (.aload_n 0, 1) := by decide +kernel
theorem dX11_weighValues_47 : decode cX11_weighValues 47 = .ok (.getfield 48, 3) := by decide +kernel
theorem dX11_weighValues_50 : decode cX11_weighValues 50 = .ok (.aload_n 0, 1) := by decide +kernel
theorem dX11_weighValues_51 : decode cX11_weighValues 51 = .ok (.getfield 34, 3) := by decide +kernel
theorem dX11_weighValues_54 : decode cX11_weighValues 54 = .ok (.invokevirtual 315, 3) := by decide +kernel
theorem dX11_weighValues_57 : decode cX11_weighValues 57 = .ok (.return_, 1) := by decide +kernel
theorem dX11_replaceOnce_0 : decode cX11_replaceOnce 0 = .ok (.iconst 0, 1) := by decide +kernel
theorem dX11_replaceOnce_1 : decode cX11_replaceOnce 1 = .ok (.istore_n 1, 1) := by decide +kernel
theorem dX11_replaceOnce_2 : decode cX11_replaceOnce 2 = .ok (.iload_n 1, 1) := by decide +kernel
theorem dX11_replaceOnce_3 : decode cX11_replaceOnce 3 = .ok (.aload_n 0, 1) := by decide +kernel
theorem dX11_replaceOnce_4 : decode cX11_replaceOnce 4 = .ok (.getfield 19, 3) := by decide +kernel
theorem dX11_replaceOnce_7 : decode cX11_replaceOnce 7 = .ok (.getfield 237, 3) := by decide +kernel
theorem dX11_replaceOnce_10 : decode cX11_replaceOnce 10 = .ok (.if_icmp .ge 73, 3) := by decide +kernel
theorem dX11_replaceOnce_13 : decode cX11_replaceOnce 13 = .ok (.aload_n 0, 1) := by decide +kernel
theorem dX11_replaceOnce_14 : decode cX11_replaceOnce 14 = .ok (.getfield 19, 3) := by decide +kernel
theorem dX11_replaceOnce_17 : decode cX11_replaceOnce 17 = .ok (.getfield 240, 3) := by decide +kernel
theorem dX11_replaceOnce_20 : decode cX11_replaceOnce 20 = .ok (.iload_n 1, 1) := by decide +kernel
theorem dX11_replaceOnce_21 : decode cX11_replaceOnce 21 = .ok (.aaload, 1) := by decide +kernel
theorem dX11_replaceOnce_22 : decode cX11_replaceOnce 22 = .ok (.astore_n 2, 1) := by decide +kernel
theorem dX11_replaceOnce_23 : decode cX11_replaceOnce 23 = .ok (.aload_n 2, 1) := by decide +kernel
theorem dX11_replaceOnce_24 : decode cX11_replaceOnce 24 = .ok (.aload_n 0, 1) := by decide +kernel
theorem dX11_replaceOnce_25 : decode cX11_replaceOnce 25 = .ok (.getfield 19, 3) := by decide +kernel
theorem dX11_replaceOnce_28 : decode cX11_replaceOnce 28 = .ok (.getfield 106, 3) := by decide +kernel
theorem dX11_replaceOnce_31 : decode cX11_replaceOnce 31 = .ok (.invokevirtual 258, 3) := by decide +kernel
theorem dX11_replaceOnce_34 : decode cX11_replaceOnce 34 = .ok (.istore_n 3, 1) := by decide +kernel
theorem dX11_replaceOnce_35 : decode cX11_replaceOnce 35 = .ok (.iload_n 3, 1) := by decide +kernel
theorem dX11_replaceOnce_36 : decode cX11_replaceOnce 36 = .ok (.bipush (-6), 2) := by decide +kernel
theorem dX11_replaceOnce_38 : decode cX11_replaceOnce 38 = .ok (.if_icmp .eq 39, 3) := by decide +kernel
theorem dX11_replaceOnce_41 : decode cX11_replaceOnce 41 = .ok (.aload_n 2, 1) := by decide +kernel
theorem dX11_replaceOnce_42 : decode cX11_replaceOnce 42 = .ok (.aload_n 0, 1) := by decide +kernel
theorem dX11_replaceOnce_43 : decode cX11_replaceOnce 43 = .ok (.getfield 19, 3) := by decide +kernel
theorem dX11_replaceOnce_46 : decode cX11_replaceOnce 46 = .ok (.getfield 106, 3) := by decide +kernel
theorem dX11_replaceOnce_49 : decode cX11_replaceOnce 49 = .ok (.invokevirtual 262, 3) := by decide +kernel
theorem dX11_replaceOnce_52 : decode cX11_replaceOnce 52 = .ok (.bipush 12, 2) := by decide +kernel
theorem dX11_replaceOnce_54 : decode cX11_replaceOnce 54 = .ok (.if_icmp .le 5, 3) := by decide +kernel
theorem dX11_replaceOnce_57 : decode cX11_replaceOnce 57 = .ok (.iconst 0, 1) := by decide +kernel
theorem dX11_replaceOnce_58 : decode cX11_replaceOnce 58 = .ok (.ireturn, 1) := by decide +kernel
theorem dX11_replaceOnce_59 : decode cX11_replaceOnce 59 = .ok (.aload_n 2, 1) := by decide +kernel
theorem dX11_replaceOnce_60 : decode cX11_replaceOnce 60 = .ok (.aload_n 0, 1) := by decide +kernel
theorem dX11_replaceOnce_61 : decode cX11_replaceOnce 61 = .ok (.getfield 19, 3) := by decide +kernel
theorem dX11_replaceOnce_64 : decode cX11_replaceOnce 64 = .ok (.getfield 106, 3) := by decide +kernel
theorem dX11_replaceOnce_67 : decode cX11_replaceOnce 67 = .ok (.iload_n 3, 1) := by decide +kernel
theorem dX11_replaceOnce_68 : decode cX11_replaceOnce 68 = .ok (.aload_n 0, 1) := by decide +kernel
theorem dX11_replaceOnce_69 : decode cX11_replaceOnce 69 = .ok (.getfield 86, 3) := by decide +kernel
theorem dX11_replaceOnce_72 : decode cX11_replaceOnce 72 = .ok (.invokevirtual 265, 3) := by decide +kernel
theorem dX11_replaceOnce_75 : decode cX11_replaceOnce 75 = .ok (.iconst 1, 1) := by decide +kernel
theorem dX11_replaceOnce_76 : decode cX11_replaceOnce 76 = .ok (.ireturn, 1) := by decide +kernel
theorem dX11_replaceOnce_77 : decode cX11_replaceOnce 77 = .ok (.iinc 1 1, 3) := by decide +kernel
theorem dX11_replaceOnce_80 : decode cX11_replaceOnce 80 = .ok (.goto (-78), 3) := by decide +kernel
theorem dX11_replaceOnce_83 : decode cX11_replaceOnce 83 = .ok (.iconst 0, 1) := by decide +kernel
theorem dX11_replaceOnce_84 : decode cX11_replaceOnce 84 = .ok (.ireturn, 1) := by decide +kernel
theorem dX11_isNoRegister_0 : decode cX11_isNoRegister 0 = .ok (.iload_n 0, 1) := by decide +kernel
theorem dX11_isNoRegister_1 : decode cX11_isNoRegister 1 = .ok (.ifCond .lt 8, 3) := by decide +kernel
theorem dX11_isNoRegister_4 : decode cX11_isNoRegister 4 = .ok (.iload_n 0, 1) := by decide +kernel
theorem dX11_isNoRegister_5 : decode cX11_isNoRegister 5 = .ok (.iconst 4, 1) := by decide +kernel
theorem dX11_isNoRegister_6 : decode cX11_isNoRegister 6 = .ok (.if_icmp .lt 7, 3) := by decide +kernel
theorem dX11_isNoRegister_9 : decode cX11_isNoRegister 9 = .ok (.iconst 1, 1) := by decide +kernel
theorem dX11_isNoRegister_10 : decode cX11_isNoRegister 10 = .ok (.goto 4, 3) := by decide +kernel
theorem dX11_isNoRegister_13 : decode cX11_isNoRegister 13 = .ok (.iconst 0, 1) := by decide +kernel
theorem dX11_isNoRegister_14 : decode cX11_isNoRegister 14 = .ok (.ireturn, 1) := by decide +kernel
theorem dX11_isDigit_0 : decode cX11_isDigit 0 = .ok (.iload_n 0, 1) := by decide +kernel
theorem dX11_isDigit_1 : decode cX11_isDigit 1 = .ok (.bipush 10, 2) := by decide +kernel
theorem dX11_isDigit_3 : decode cX11_isDigit 3 = .ok (.if_icmp .lt 13, 3) := by decide +kernel
theorem dX11_isDigit_6 : decode cX11_isDigit 6 = .ok (.iload_n 0, 1) := by decide +kernel
theorem dX11_isDigit_7 : decode cX11_isDigit 7 = .ok (.bipush 18, 2) := by decide +kernel
theorem dX11_isDigit_9 : decode cX11_isDigit 9 = .ok (.if_icmp .ge 7, 3) := by decide +kernel
theorem dX11_isDigit_12 : decode cX11_isDigit 12 = .ok (.iconst 1, 1) := by decide +kernel
theorem dX11_isDigit_13 : decode cX11_isDigit 13 = .ok (.goto 4, 3) := by decide +kernel
theorem dX11_isDigit_16 : decode cX11_isDigit 16 = .ok (.iconst 0, 1) := by decide +kernel
theorem dX11_isDigit_17 : decode cX11_isDigit 17 = .ok (.ireturn, 1) := by decide +kernel
theorem dX11_isAct_0 : decode cX11_isAct 0 = .ok (.iload_n 0, 1) := by decide +kernel
theorem dX11_isAct_1 : decode cX11_isAct 1 = .ok (.bipush 43, 2) := by decide +kernel
theorem dX11_isAct_3 : decode cX11_isAct 3 = .ok (.if_icmp .eq 21, 3) := by decide +kernel
theorem dX11_isAct_6 : decode cX11_isAct 6 = .ok (.iload_n 0, 1) := by decide +kernel
theorem dX11_isAct_7 : decode cX11_isAct 7 = .ok (.bipush 45, 2) := by decide +kernel
theorem dX11_isAct_9 : decode cX11_isAct 9 = .ok (.if_icmp .eq 15, 3) := by decide +kernel
theorem dX11_isAct_12 : decode cX11_isAct 12 = .ok (.iload_n 0, 1) := by decide +kernel
theorem dX11_isAct_13 : decode cX11_isAct 13 = .ok (.bipush 42, 2) := by decide +kernel
theorem dX11_isAct_15 : decode cX11_isAct 15 = .ok (.if_icmp .eq 9, 3) := by decide +kernel
theorem dX11_isAct_18 : decode cX11_isAct 18 = .ok (.iload_n 0, 1) := by decide +kernel
theorem dX11_isAct_19 : decode cX11_isAct 19 = .ok (.bipush 109, 2) := by decide +kernel
theorem dX11_isAct_21 : decode cX11_isAct 21 = .ok (.if_icmp .ne 7, 3) := by decide +kernel
theorem dX11_isAct_24 : decode cX11_isAct 24 = .ok (.iconst 1, 1) := by decide +kernel
theorem dX11_isAct_25 : decode cX11_isAct 25 = .ok (.goto 4, 3) := by decide +kernel
theorem dX11_isAct_28 : decode cX11_isAct 28 = .ok (.iconst 0, 1) := by decide +kernel
theorem dX11_isAct_29 : decode cX11_isAct 29 = .ok (.ireturn, 1) := by decide +kernel
theorem dX11_act_0 : decode cX11_act 0 = .ok (.iload_n 0, 1) := by decide +kernel
theorem dX11_act_1 : decode cX11_act 1 = .ok (.lookupswitch 70 #[(42, 57), (43, 43), (45, 50), (109, 64)], 43) := by decide +kernel
theorem dX11_act_44 : decode cX11_act 44 = .ok (.iload_n 1, 1) := by decide +kernel
theorem dX11_act_45 : decode cX11_act 45 = .ok (.iload_n 2, 1) := by decide +kernel
theorem dX11_act_46 : decode cX11_act 46 = .ok (.iadd, 1) := by decide +kernel
theorem dX11_act_47 : decode cX11_act 47 = .ok (.bipush 7, 2) := by decide +kernel
theorem dX11_act_49 : decode cX11_act 49 = .ok (.iand, 1) := by decide +kernel
theorem dX11_act_50 : decode cX11_act 50 = .ok (.ireturn, 1) := by decide +kernel
theorem dX11_act_51 : decode cX11_act 51 = .ok (.iload_n 1, 1) := by decide +kernel
theorem dX11_act_52 : decode cX11_act 52 = .ok (.iload_n 2, 1) := by decide +kernel
theorem dX11_act_53 : decode cX11_act 53 = .ok (.isub, 1) := by decide +kernel
theorem dX11_act_54 : decode cX11_act 54 = .ok (.bipush 7, 2) := by decide +kernel
theorem dX11_act_56 : decode cX11_act 56 = .ok (.iand, 1) := by decide +kernel
theorem dX11_act_57 : decode cX11_act 57 = .ok (.ireturn, 1) := by decide +kernel
theorem dX11_act_58 : decode cX11_act 58 = .ok (.iload_n 1, 1) := by decide +kernel
theorem dX11_act_59 : decode cX11_act 59 = .ok (.iload_n 2, 1) := by decide +kernel
theorem dX11_act_60 : decode cX11_act 60 = .ok (.imul, 1) := by decide +kernel
theorem dX11_act_61 : decode cX11_act 61 = .ok (.bipush 7, 2) := by decide +kernel
theorem dX11_act_63 : decode cX11_act 63 = .ok (.iand, 1) := by decide +kernel
theorem dX11_act_64 : decode cX11_act 64 = .ok (.ireturn, 1) := by decide +kernel
theorem dX11_act_65 : decode cX11_act 65 = .ok (.iload_n 1, 1) := by decide +kernel
theorem dX11_act_66 : decode cX11_act 66 = .ok (.iload_n 2, 1) := by decide +kernel
theorem dX11_act_67 : decode cX11_act 67 = .ok (.invokestatic 319, 3) := by decide +kernel
theorem dX11_act_70 : decode cX11_act 70 = .ok (.ireturn, 1) := by decide +kernel
theorem dX11_act_71 : decode cX11_act 71 = .ok (.iload_n 1, 1) := by decide +kernel
theorem dX11_act_72 : decode cX11_act 72 = .ok (.ireturn, 1) := by decide +kernel
theorem dX12_init_0 : decode cX12_init 0 = .ok (.aload_n 0, 1) := by decide +kernel
theorem dX12_init_1 : decode cX12_init 1 = .ok (.invokespecial 1, 3) := by decide +kernel
theorem dX12_init_4 : decode cX12_init 4 = .ok (.aload_n 0, 1) := by decide +kernel
theorem dX12_init_5 : decode cX12_init 5 = .ok (.bipush 80, 2) := by decide +kernel
theorem dX12_init_7 : decode cX12_init 7 = .ok (.newarray .int, 2) := by decide +kernel
theorem dX12_init_9 : decode cX12_init 9 = .ok (.putfield 7, 3) := by decide +kernel
theorem dX12_init_12 : decode cX12_init 12 = .ok (.aload_n 0, 1) := by decide +kernel
theorem dX12_init_13 : decode cX12_init 13 = .ok (.bipush 12, 2) := by decide +kernel
theorem dX12_init_15 : decode cX12_init 15 = .ok (.newarray .int, 2) := by decide +kernel
theorem dX12_init_17 : decode cX12_init 17 = .ok (.putfield 13, 3) := by decide +kernel
theorem dX12_init_20 : decode cX12_init 20 = .ok (.aload_n 0, 1) := by decide +kernel
theorem dX12_init_21 : decode cX12_init 21 = .ok (.bipush 12, 2) := by decide +kernel
theorem dX12_init_23 : decode cX12_init 23 = .ok (.newarray .int, 2) := by decide +kernel
theorem dX12_init_25 : decode cX12_init 25 = .ok (.putfield 16, 3) := by decide +kernel
theorem dX12_init_28 : decode cX12_init 28 = .ok (.aload_n 0, 1) := by decide +kernel
theorem dX12_init_29 : decode cX12_init 29 = .ok (.bipush 12, 2) := by decide +kernel
theorem dX12_init_31 : decode cX12_init 31 = .ok (.newarray .int, 2) := by decide +kernel
theorem dX12_init_33 : decode cX12_init 33 = .ok (.putfield 19, 3) := by decide +kernel
theorem dX12_init_36 : decode cX12_init 36 = .ok (.aload_n 0, 1) := by decide +kernel
theorem dX12_init_37 : decode cX12_init 37 = .ok (.bipush 12, 2) := by decide +kernel
theorem dX12_init_39 : decode cX12_init 39 = .ok (.newarray .int, 2) := by decide +kernel
theorem dX12_init_41 : decode cX12_init 41 = .ok (.putfield 22, 3) := by decide +kernel
theorem dX12_init_44 : decode cX12_init 44 = .ok (.aload_n 0, 1) := by decide +kernel
theorem dX12_init_45 : decode cX12_init 45 = .ok (.bipush 48, 2) := by decide +kernel
theorem dX12_init_47 : decode cX12_init 47 = .ok (.newarray .int, 2) := by decide +kernel
theorem dX12_init_49 : decode cX12_init 49 = .ok (.putfield 25, 3) := by decide +kernel
theorem dX12_init_52 : decode cX12_init 52 = .ok (.aload_n 0, 1) := by decide +kernel
theorem dX12_init_53 : decode cX12_init 53 = .ok (.iconst 4, 1) := by decide +kernel
theorem dX12_init_54 : decode cX12_init 54 = .ok (.newarray .int, 2) := by decide +kernel
theorem dX12_init_56 : decode cX12_init 56 = .ok (.putfield 28, 3) := by decide +kernel
theorem dX12_init_59 : decode cX12_init 59 = .ok (.aload_n 0, 1) := by decide +kernel
theorem dX12_init_60 : decode cX12_init 60 = .ok (.bipush 48, 2) := by decide +kernel
theorem dX12_init_62 : decode cX12_init 62 = .ok (.newarray .int, 2) := by decide +kernel
theorem dX12_init_64 : decode cX12_init 64 = .ok (.putfield 31, 3) := by decide +kernel
theorem dX12_init_67 : decode cX12_init 67 = .ok (.aload_n 0, 1) := by decide +kernel
theorem dX12_init_68 : decode cX12_init 68 = .ok (.iconst 4, 1) := by decide +kernel
theorem dX12_init_69 : decode cX12_init 69 = .ok (.newarray .int, 2) := by decide +kernel
theorem dX12_init_71 : decode cX12_init 71 = .ok (.putfield 34, 3) := by decide +kernel
theorem dX12_init_74 : decode cX12_init 74 = .ok (.aload_n 0, 1) := by decide +kernel
theorem dX12_init_75 : decode cX12_init 75 = .ok (.iconst 4, 1) := by decide +kernel
theorem dX12_init_76 : decode cX12_init 76 = .ok (.newarray .int, 2) := by decide +kernel
theorem dX12_init_78 : decode cX12_init 78 = .ok (.putfield 37, 3) := by decide +kernel
theorem dX12_init_81 : decode cX12_init 81 = .ok (.aload_n 0, 1) := by decide +kernel
theorem dX12_init_82 : decode cX12_init 82 = .ok (.bipush 8, 2) := by decide +kernel
theorem dX12_init_84 : decode cX12_init 84 = .ok (.newarray .int, 2) := by decide +kernel
theorem dX12_init_86 : decode cX12_init 86 = .ok (.putfield 40, 3) := by decide +kernel
theorem dX12_init_89 : decode cX12_init 89 = .ok (.aload_n 0, 1) := by decide +kernel
theorem dX12_init_90 : decode cX12_init 90 = .ok (.bipush 12, 2) := by decide +kernel
theorem dX12_init_92 : decode cX12_init 92 = .ok (.newarray .int, 2) := by decide +kernel
theorem dX12_init_94 : decode cX12_init 94 = .ok (.putfield 43, 3) := by decide +kernel
theorem dX12_init_97 : decode cX12_init 97 = .ok (.aload_n 0, 1) := by decide +kernel
theorem dX12_init_98 : decode cX12_init 98 = .ok (.bipush 12, 2) := by decide +kernel
theorem dX12_init_100 : decode cX12_init 100 = .ok (.newarray .int, 2) := by decide +kernel
theorem dX12_init_102 : decode cX12_init 102 = .ok (.putfield 46, 3) := by decide +kernel
theorem dX12_init_105 : decode cX12_init 105 = .ok (.aload_n 0, 1) := by decide +kernel
theorem dX12_init_106 : decode cX12_init 106 = .ok (.bipush 12, 2) := by decide +kernel
theorem dX12_init_108 : decode cX12_init 108 = .ok (.newarray .int, 2) := by decide +kernel
theorem dX12_init_110 : decode cX12_init 110 = .ok (.putfield 49, 3) := by decide +kernel
theorem dX12_init_113 : decode cX12_init 113 = .ok (.aload_n 0, 1) := by decide +kernel
theorem dX12_init_114 : decode cX12_init 114 = .ok (.bipush 12, 2) := by decide +kernel
theorem dX12_init_116 : decode cX12_init 116 = .ok (.newarray .int, 2) := by decide +kernel
theorem dX12_init_118 : decode cX12_init 118 = .ok (.putfield 52, 3) := by decide +kernel
theorem dX12_init_121 : decode cX12_init 121 = .ok (.aload_n 0, 1) := by decide +kernel
theorem dX12_init_122 : decode cX12_init 122 = .ok (.bipush 12, 2) := by decide +kernel
theorem dX12_init_124 : decode cX12_init 124 = .ok (.newarray .int, 2) := by decide +kernel
theorem dX12_init_126 : decode cX12_init 126 = .ok (.putfield 55, 3) := by decide +kernel
theorem dX12_init_129 : decode cX12_init 129 = .ok (.aload_n 0, 1) := by decide +kernel
theorem dX12_init_130 : decode cX12_init 130 = .ok (.bipush 12, 2) := by decide +kernel
theorem dX12_init_132 : decode cX12_init 132 = .ok (.newarray .int, 2) := by decide +kernel
theorem dX12_init_134 : decode cX12_init 134 = .ok (.putfield 58, 3) := by decide +kernel
theorem dX12_init_137 : decode cX12_init 137 = .ok (.aload_n 0, 1) := by decide +kernel
theorem dX12_init_138 : decode cX12_init 138 = .ok (.bipush 12, 2) := by decide +kernel
theorem dX12_init_140 : decode cX12_init 140 = .ok (.newarray .boolean, 2) := by decide +kernel
theorem dX12_init_142 : decode cX12_init 142 = .ok (.putfield 61, 3) := by decide +kernel
theorem dX12_init_145 : decode cX12_init 145 = .ok (.aload_n 0, 1) := by decide +kernel
theorem dX12_init_146 : decode cX12_init 146 = .ok (.bipush 12, 2) := by decide +kernel
theorem dX12_init_148 : decode cX12_init 148 = .ok (.newarray .int, 2) := by decide +kernel
theorem dX12_init_150 : decode cX12_init 150 = .ok (.putfield 65, 3) := by decide +kernel
theorem dX12_init_153 : decode cX12_init 153 = .ok (.aload_n 0, 1) := by decide +kernel
theorem dX12_init_154 : decode cX12_init 154 = .ok (.bipush 12, 2) := by decide +kernel
theorem dX12_init_156 : decode cX12_init 156 = .ok (.newarray .int, 2) := by decide +kernel
theorem dX12_init_158 : decode cX12_init 158 = .ok (.putfield 68, 3) := by decide +kernel
theorem dX12_init_161 : decode cX12_init 161 = .ok (.aload_n 0, 1) := by decide +kernel
theorem dX12_init_162 : decode cX12_init 162 = .ok (.sipush 4096, 3) := by decide +kernel
theorem dX12_init_165 : decode cX12_init 165 = .ok (.newarray .int, 2) := by decide +kernel
theorem dX12_init_167 : decode cX12_init 167 = .ok (.putfield 71, 3) := by decide +kernel
theorem dX12_init_170 : decode cX12_init 170 = .ok (.aload_n 0, 1) := by decide +kernel
theorem dX12_init_171 : decode cX12_init 171 = .ok (.bipush 12, 2) := by decide +kernel
theorem dX12_init_173 : decode cX12_init 173 = .ok (.newarray .int, 2) := by decide +kernel
theorem dX12_init_175 : decode cX12_init 175 = .ok (.putfield 74, 3) := by decide +kernel
theorem dX12_init_178 : decode cX12_init 178 = .ok (.aload_n 0, 1) := by decide +kernel
theorem dX12_init_179 : decode cX12_init 179 = .ok (.bipush 12, 2) := by decide +kernel
theorem dX12_init_181 : decode cX12_init 181 = .ok (.newarray .int, 2) := by decide +kernel
theorem dX12_init_183 : decode cX12_init 183 = .ok (.putfield 77, 3) := by decide +kernel
theorem dX12_init_186 : decode cX12_init 186 = .ok (.aload_n 0, 1) := by decide +kernel
theorem dX12_init_187 : decode cX12_init 187 = .ok (.bipush 12, 2) := by decide +kernel
theorem dX12_init_189 : decode cX12_init 189 = .ok (.newarray .int, 2) := by decide +kernel
theorem dX12_init_191 : decode cX12_init 191 = .ok (.putfield 80, 3) := by decide +kernel
theorem dX12_init_194 : decode cX12_init 194 = .ok (.aload_n 0, 1) := by decide +kernel
theorem dX12_init_195 : decode cX12_init 195 = .ok (.bipush 13, 2) := by decide +kernel
theorem dX12_init_197 : decode cX12_init 197 = .ok (.newarray .int, 2) := by decide +kernel
theorem dX12_init_199 : decode cX12_init 199 = .ok (.putfield 83, 3) := by decide +kernel
theorem dX12_init_202 : decode cX12_init 202 = .ok (.aload_n 0, 1) := by decide +kernel
theorem dX12_init_203 : decode cX12_init 203 = .ok (.bipush 12, 2) := by decide +kernel
theorem dX12_init_205 : decode cX12_init 205 = .ok (.newarray .int, 2) := by decide +kernel
theorem dX12_init_207 : decode cX12_init 207 = .ok (.putfield 86, 3) := by decide +kernel
theorem dX12_init_210 : decode cX12_init 210 = .ok (.aload_n 0, 1) := by decide +kernel
theorem dX12_init_211 : decode cX12_init 211 = .ok (.bipush 96, 2) := by decide +kernel
theorem dX12_init_213 : decode cX12_init 213 = .ok (.newarray .int, 2) := by decide +kernel
theorem dX12_init_215 : decode cX12_init 215 = .ok (.putfield 89, 3) := by decide +kernel
theorem dX12_init_218 : decode cX12_init 218 = .ok (.aload_n 0, 1) := by decide +kernel
theorem dX12_init_219 : decode cX12_init 219 = .ok (.iconst 4, 1) := by decide +kernel
theorem dX12_init_220 : decode cX12_init 220 = .ok (.newarray .int, 2) := by decide +kernel
theorem dX12_init_222 : decode cX12_init 222 = .ok (.putfield 92, 3) := by decide +kernel
theorem dX12_init_225 : decode cX12_init 225 = .ok (.aload_n 0, 1) := by decide +kernel
theorem dX12_init_226 : decode cX12_init 226 = .ok (.iconst 4, 1) := by decide +kernel
theorem dX12_init_227 : decode cX12_init 227 = .ok (.newarray .int, 2) := by decide +kernel
theorem dX12_init_229 : decode cX12_init 229 = .ok (.putfield 95, 3) := by decide +kernel
theorem dX12_init_232 : decode cX12_init 232 = .ok (.aload_n 0, 1) := by decide +kernel
theorem dX12_init_233 : decode cX12_init 233 = .ok (.iconst 4, 1) := by decide +kernel
theorem dX12_init_234 : decode cX12_init 234 = .ok (.newarray .int, 2) := by decide +kernel
theorem dX12_init_236 : decode cX12_init 236 = .ok (.putfield 98, 3) := by decide +kernel
theorem dX12_init_239 : decode cX12_init 239 = .ok (.aload_n 0, 1) := by decide +kernel
theorem dX12_init_240 : decode cX12_init 240 = .ok (.bipush 64, 2) := by decide +kernel
theorem dX12_init_242 : decode cX12_init 242 = .ok (.newarray .int, 2) := by decide +kernel
theorem dX12_init_244 : decode cX12_init 244 = .ok (.putfield 101, 3) := by decide +kernel
theorem dX12_init_247 : decode cX12_init 247 = .ok (.aload_n 0, 1) := by decide +kernel
theorem dX12_init_248 : decode cX12_init 248 = .ok (.sipush 256, 3) := by decide +kernel
theorem dX12_init_251 : decode cX12_init 251 = .ok (.newarray .int, 2) := by decide +kernel
theorem dX12_init_253 : decode cX12_init 253 = .ok (.putfield 104, 3) := by decide +kernel
theorem dX12_init_256 : decode cX12_init 256 = .ok (.aload_n 0, 1) := by decide +kernel
theorem dX12_init_257 : decode cX12_init 257 = .ok (.iconst 3, 1) := by decide +kernel
theorem dX12_init_258 : decode cX12_init 258 = .ok (.newarray .int, 2) := by decide +kernel
theorem dX12_init_260 : decode cX12_init 260 = .ok (.putfield 107, 3) := by decide +kernel
theorem dX12_init_263 : decode cX12_init 263 = .ok (.aload_n 0, 1) := by decide +kernel
theorem dX12_init_264 : decode cX12_init 264 = .ok (.sipush 600, 3) := by decide +kernel
theorem dX12_init_267 : decode cX12_init 267 = .ok (.newarray .int, 2) := by decide +kernel
theorem dX12_init_269 : decode cX12_init 269 = .ok (.putfield 110, 3) := by decide +kernel
theorem dX12_init_272 : decode cX12_init 272 = .ok (.aload_n 0, 1) := by decide +kernel
theorem dX12_init_273 : decode cX12_init 273 = .ok (.iconst 2, 1) := by decide +kernel
theorem dX12_init_274 : decode cX12_init 274 = .ok (.newarray .boolean, 2) := by decide +kernel
theorem dX12_init_276 : decode cX12_init 276 = .ok (.putfield 113, 3) := by decide +kernel
theorem dX12_init_279 : decode cX12_init 279 = .ok (.aload_n 0, 1) := by decide +kernel
theorem dX12_init_280 : decode cX12_init 280 = .ok (.bipush 15, 2) := by decide +kernel
theorem dX12_init_282 : decode cX12_init 282 = .ok (.putfield 116, 3) := by decide +kernel
theorem dX12_init_285 : decode cX12_init 285 = .ok (.aload_n 0, 1) := by decide +kernel
theorem dX12_init_286 : decode cX12_init 286 = .ok (.iconst 1, 1) := by decide +kernel
theorem dX12_init_287 : decode cX12_init 287 = .ok (.putfield 120, 3) := by decide +kernel
theorem dX12_init_290 : decode cX12_init 290 = .ok (.iconst 0, 1) := by decide +kernel
theorem dX12_init_291 : decode cX12_init 291 = .ok (.istore_n 1, 1) := by decide +kernel
theorem dX12_init_292 : decode cX12_init 292 = .ok (.iload_n 1, 1) := by decide +kernel
theorem dX12_init_293 : decode cX12_init 293 = .ok (.iconst 4, 1) := by decide +kernel
theorem dX12_init_294 : decode cX12_init 294 = .ok (.if_icmp .ge 16, 3) := by decide +kernel
theorem dX12_init_297 : decode cX12_init 297 = .ok (.aload_n 0, 1) := by decide +kernel
theorem dX12_init_298 : decode cX12_init 298 = .ok (.getfield 28, 3) := by decide +kernel
theorem dX12_init_301 : decode cX12_init 301 = .ok (.iload_n 1, 1) := by decide +kernel
theorem dX12_init_302 : decode cX12_init 302 = .ok (.iconst 1, 1) := by decide +kernel
theorem dX12_init_303 : decode cX12_init 303 = .ok (.iastore, 1) := by decide +kernel
theorem dX12_init_304 : decode cX12_init 304 = .ok (.iinc 1 1, 3) := by decide +kernel
theorem dX12_init_307 : decode cX12_init 307 = .ok (.goto (-15), 3) := by decide +kernel
theorem dX12_init_310 : decode cX12_init 310 = .ok (.return_, 1) := by decide +kernel
theorem dX12_in_0 : decode cX12_in 0 = .ok (.lload_n 0, 1) := by decide +kernel
theorem dX12_in_1 : decode cX12_in 1 = .ok (.lload_n 2, 1) := by decide +kernel
theorem dX12_in_2 : decode cX12_in 2 = .ok (.lcmp, 1) := by decide +kernel
theorem dX12_in_3 : decode cX12_in 3 = .ok (.ifCond .lt 14, 3) := by decide +kernel
theorem dX12_in_6 : decode cX12_in 6 = .ok (.lload_n 0, 1) := by decide +kernel
theorem dX12_in_7 : decode cX12_in 7 = .ok (.lload 4, 2) := by decide +kernel
theorem dX12_in_9 : decode cX12_in 9 = .ok (.lcmp, 1) := by decide +kernel
theorem dX12_in_10 : decode cX12_in 10 = .ok (.ifCond .gt 7, 3) := by decide +kernel
theorem dX12_in_13 : decode cX12_in 13 = .ok (.iconst 1, 1) := by decide +kernel
theorem dX12_in_14 : decode cX12_in 14 = .ok (.goto 4, 3) := by decide +kernel
theorem dX12_in_17 : decode cX12_in 17 = .ok (.iconst 0, 1) := by decide +kernel
theorem dX12_in_18 : decode cX12_in 18 = .ok (.ireturn, 1) := by decide +kernel
theorem dX12_ones_0 : decode cX12_ones 0 = .ok (.iconst 0, 1) := by decide +kernel
theorem dX12_ones_1 : decode cX12_ones 1 = .ok (.istore_n 1, 1) := by decide +kernel
theorem dX12_ones_2 : decode cX12_ones 2 = .ok (.iconst 0, 1) := by decide +kernel
theorem dX12_ones_3 : decode cX12_ones 3 = .ok (.istore_n 2, 1) := by decide +kernel
theorem dX12_ones_4 : decode cX12_ones 4 = .ok (.iload_n 2, 1) := by decide +kernel
theorem dX12_ones_5 : decode cX12_ones 5 = .ok (.bipush 16, 2) := by decide +kernel
theorem dX12_ones_7 : decode cX12_ones 7 = .ok (.if_icmp .ge 17, 3) := by decide +kernel
theorem dX12_ones_10 : decode cX12_ones 10 = .ok (.iload_n 1, 1) := by decide +kernel
theorem dX12_ones_11 : decode cX12_ones 11 = .ok (.iload_n 0, 1) := by decide +kernel
theorem dX12_ones_12 : decode cX12_ones 12 = .ok (.iload_n 2, 1) := by decide +kernel
theorem dX12_ones_13 : decode cX12_ones 13 = .ok (.ishr, 1) := by decide +kernel
theorem dX12_ones_14 : decode cX12_ones 14 = .ok (.iconst 1, 1) := by decide +kernel
theorem dX12_ones_15 : decode cX12_ones 15 = .ok (.iand, 1) := by decide +kernel
theorem dX12_ones_16 : decode cX12_ones 16 = .ok (.iadd, 1) := by decide +kernel
theorem dX12_ones_17 : decode cX12_ones 17 = .ok (.istore_n 1, 1) := by decide +kernel
theorem dX12_ones_18 : decode cX12_ones 18 = .ok (.iinc 2 1, 3) := by decide +kernel
theorem dX12_ones_21 : decode cX12_ones 21 = .ok (.goto (-17), 3) := by decide +kernel
theorem dX12_ones_24 : decode cX12_ones 24 = .ok (.iload_n 1, 1) := by decide +kernel
theorem dX12_ones_25 : decode cX12_ones 25 = .ok (.ireturn, 1) := by decide +kernel
theorem dX12_isRegister_0 : decode cX12_isRegister 0 = .ok (.iload_n 0, 1) := by decide +kernel
theorem dX12_isRegister_1 : decode cX12_isRegister 1 = .ok (.i2l, 1) := by decide +kernel
theorem dX12_isRegister_2 : decode cX12_isRegister 2 = .ok (.lconst 0, 1) := by decide +kernel
theorem dX12_isRegister_3 : decode cX12_isRegister 3 = .ok (.ldc2_w 123, 3) := by decide +kernel
theorem dX12_isRegister_6 : decode cX12_isRegister 6 = .ok (.invokestatic 125, 3) := by decide +kernel
theorem dX12_isRegister_9 : decode cX12_isRegister 9 = .ok (.ireturn, 1) := by decide +kernel
theorem dX12_say_0 : decode cX12_say 0 = .ok (.iload_n 1, 1) := by decide +kernel
theorem dX12_say_1 : decode cX12_say 1 = .ok (.i2l, 1) := by decide +kernel
theorem dX12_say_2 : decode cX12_say 2 = .ok (.ldc2_w 129, 3) := by decide +kernel
theorem dX12_say_5 : decode cX12_say 5 = .ok (.ldc2_w 131, 3) := by decide +kernel
theorem dX12_say_8 : decode cX12_say 8 = .ok (.invokestatic 125, 3) := by decide +kernel
theorem dX12_say_11 : decode cX12_say 11 = .ok (.ifCond .ne 6, 3) := by decide +kernel
theorem dX12_say_14 : decode cX12_say 14 = .ok (.bipush (-2), 2) := by decide +kernel
theorem dX12_say_16 : decode cX12_say 16 = .ok (.ireturn, 1) := by decide +kernel
theorem dX12_say_17 : decode cX12_say 17 = .ok (.aload_n 0, 1) := by decide +kernel
theorem dX12_say_18 : decode cX12_say 18 = .ok (.getfield 133, 3) := by decide +kernel
theorem dX12_say_21 : decode cX12_say 21 = .ok (.bipush 80, 2) := by decide +kernel
theorem dX12_say_23 : decode cX12_say 23 = .ok (.if_icmp .ne 6, 3) := by decide +kernel
theorem dX12_say_26 : decode cX12_say 26 = .ok (.bipush (-4), 2) := by decide +kernel
theorem dX12_say_28 : decode cX12_say 28 = .ok (.ireturn, 1) := by decide +kernel
theorem dX12_say_29 : decode cX12_say 29 = .ok (.aload_n 0, 1) := by decide +kernel
theorem dX12_say_30 : decode cX12_say 30 = .ok (.getfield 7, 3) := by decide +kernel
theorem dX12_say_33 : decode cX12_say 33 = .ok (.aload_n 0, 1) := by decide +kernel
theorem dX12_say_34 : decode cX12_say 34 = .ok (.getfield 133, 3) := by decide +kernel
theorem dX12_say_37 : decode cX12_say 37 = .ok (.iload_n 1, 1) := by decide +kernel
theorem dX12_say_38 : decode cX12_say 38 = .ok (.iastore, 1) := by decide +kernel
theorem dX12_say_39 : decode cX12_say 39 = .ok (.aload_n 0, 1) := by decide +kernel
theorem dX12_say_40 : decode cX12_say 40 = .ok (.dup, 1) := by decide +kernel
theorem dX12_say_41 : decode cX12_say 41 = .ok (.getfield 133, 3) := by decide +kernel
theorem dX12_say_44 : decode cX12_say 44 = .ok (.iconst 1, 1) := by decide +kernel
theorem dX12_say_45 : decode cX12_say 45 = .ok (.iadd, 1) := by decide +kernel
theorem dX12_say_46 : decode cX12_say 46 = .ok (.putfield 133, 3) := by decide +kernel
theorem dX12_say_49 : decode cX12_say 49 = .ok (.aload_n 0, 1) := by decide +kernel
theorem dX12_say_50 : decode cX12_say 50 = .ok (.getfield 133, 3) := by decide +kernel
theorem dX12_say_53 : decode cX12_say 53 = .ok (.ireturn, 1) := by decide +kernel
theorem dX12_wipe_0 : decode cX12_wipe 0 = .ok (.aload_n 0, 1) := by decide +kernel
theorem dX12_wipe_1 : decode cX12_wipe 1 = .ok (.getfield 133, 3) := by decide +kernel
theorem dX12_wipe_4 : decode cX12_wipe 4 = .ok (.istore_n 1, 1) := by decide +kernel
theorem dX12_wipe_5 : decode cX12_wipe 5 = .ok (.aload_n 0, 1) := by decide +kernel
theorem dX12_wipe_6 : decode cX12_wipe 6 = .ok (.iconst 0, 1) := by decide +kernel
theorem dX12_wipe_7 : decode cX12_wipe 7 = .ok (.putfield 133, 3) := by decide +kernel
theorem dX12_wipe_10 : decode cX12_wipe 10 = .ok (.iload_n 1, 1) := by decide +kernel
theorem dX12_wipe_11 : decode cX12_wipe 11 = .ok (.ireturn, 1) := by decide +kernel
theorem dX12_isOperand_0 : decode cX12_isOperand 0 = .ok (.iload_n 0, 1) := by decide +kernel
theorem dX12_isOperand_1 : decode cX12_isOperand 1 = .ok (.i2l, 1) := by decide +kernel
theorem dX12_isOperand_2 : decode cX12_isOperand 2 = .ok (.ldc2_w 136, 3) := by decide +kernel
theorem dX12_isOperand_5 : decode cX12_isOperand 5 = .ok (.ldc2_w 138, 3) := by decide +kernel
theorem dX12_isOperand_8 : decode cX12_isOperand 8 = .ok (.invokestatic 125, 3) := by decide +kernel
theorem dX12_isOperand_11 : decode cX12_isOperand 11 = .ok (.ifCond .ne 17, 3) := by decide +kernel
theorem dX12_isOperand_14 : decode cX12_isOperand 14 = .ok (.iload_n 0, 1) := by decide +kernel
theorem dX12_isOperand_15 : decode cX12_isOperand 15 = .ok (.i2l, 1) := by decide +kernel
theorem dX12_isOperand_16 : decode cX12_isOperand 16 = .ok (.ldc2_w 140, 3) := by decide +kernel
theorem dX12_isOperand_19 : decode cX12_isOperand 19 = .ok (.ldc2_w 142, 3) := by decide +kernel
theorem dX12_isOperand_22 : decode cX12_isOperand 22 = .ok (.invokestatic 125, 3) := by decide +kernel
theorem dX12_isOperand_25 : decode cX12_isOperand 25 = .ok (.ifCond .eq 7, 3) := by decide +kernel
theorem dX12_isOperand_28 : decode cX12_isOperand 28 = .ok (.iconst 1, 1) := by decide +kernel
theorem dX12_isOperand_29 : decode cX12_isOperand 29 = .ok (.goto 4, 3) := by decide +kernel
theorem dX12_isOperand_32 : decode cX12_isOperand 32 = .ok (.iconst 0, 1) := by decide +kernel
theorem dX12_isOperand_33 : decode cX12_isOperand 33 = .ok (.ireturn, 1) := by decide +kernel
theorem dX12_isAct_0 : decode cX12_isAct 0 = .ok (.iload_n 0, 1) := by decide +kernel
theorem dX12_isAct_1 : decode cX12_isAct 1 = .ok (.bipush 43, 2) := by decide +kernel
theorem dX12_isAct_3 : decode cX12_isAct 3 = .ok (.if_icmp .eq 21, 3) := by decide +kernel
theorem dX12_isAct_6 : decode cX12_isAct 6 = .ok (.iload_n 0, 1) := by decide +kernel
theorem dX12_isAct_7 : decode cX12_isAct 7 = .ok (.bipush 45, 2) := by decide +kernel
theorem dX12_isAct_9 : decode cX12_isAct 9 = .ok (.if_icmp .eq 15, 3) := by decide +kernel
theorem dX12_isAct_12 : decode cX12_isAct 12 = .ok (.iload_n 0, 1) := by decide +kernel
theorem dX12_isAct_13 : decode cX12_isAct 13 = .ok (.bipush 42, 2) := by decide +kernel
theorem dX12_isAct_15 : decode cX12_isAct 15 = .ok (.if_icmp .eq 9, 3) := by decide +kernel
theorem dX12_isAct_18 : decode cX12_isAct 18 = .ok (.iload_n 0, 1) := by decide +kernel
theorem dX12_isAct_19 : decode cX12_isAct 19 = .ok (.bipush 109, 2) := by decide +kernel
theorem dX12_isAct_21 : decode cX12_isAct 21 = .ok (.if_icmp .ne 7, 3) := by decide +kernel
theorem dX12_isAct_24 : decode cX12_isAct 24 = .ok (.iconst 1, 1) := by decide +kernel
theorem dX12_isAct_25 : decode cX12_isAct 25 = .ok (.goto 4, 3) := by decide +kernel
theorem dX12_isAct_28 : decode cX12_isAct 28 = .ok (.iconst 0, 1) := by decide +kernel
theorem dX12_isAct_29 : decode cX12_isAct 29 = .ok (.ireturn, 1) := by decide +kernel
theorem dX12_stepOf_0 : decode cX12_stepOf 0 = .ok (.iload_n 1, 1) := by decide +kernel
theorem dX12_stepOf_1 : decode cX12_stepOf 1 = .ok (.tableswitch 125 0 6 #[43, 63, 75, 99, 112, 125, 43], 43) := by decide +kernel
theorem dX12_stepOf_44 : decode cX12_stepOf 44 = .ok (.iload_n 2, 1) := by decide +kernel
theorem dX12_stepOf_45 : decode cX12_stepOf 45 = .ok (.i2l, 1) := by decide +kernel
theorem dX12_stepOf_46 : decode cX12_stepOf 46 = .ok (.ldc2_w 136, 3) := by decide +kernel
theorem dX12_stepOf_49 : decode cX12_stepOf 49 = .ok (.ldc2_w 138, 3) := by decide +kernel
theorem dX12_stepOf_52 : decode cX12_stepOf 52 = .ok (.invokestatic 125, 3) := by decide +kernel
theorem dX12_stepOf_55 : decode cX12_stepOf 55 = .ok (.ifCond .eq 7, 3) := by decide +kernel
theorem dX12_stepOf_58 : decode cX12_stepOf 58 = .ok (.iconst 1, 1) := by decide +kernel
theorem dX12_stepOf_59 : decode cX12_stepOf 59 = .ok (.goto 4, 3) := by decide +kernel
theorem dX12_stepOf_62 : decode cX12_stepOf 62 = .ok (.iconst (-1), 1) := by decide +kernel
theorem dX12_stepOf_63 : decode cX12_stepOf 63 = .ok (.ireturn, 1) := by decide +kernel
theorem dX12_stepOf_64 : decode cX12_stepOf 64 = .ok (.iload_n 2, 1) := by decide +kernel
