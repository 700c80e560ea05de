theorem dX0_init_0 : decode cX0_init 0 = .ok (.aload_n 0, 1) := by decide +kernel
theorem dX0_init_1 : decode cX0_init 1 = .ok (.invokespecial 3, 3) := by decide +kernel
theorem dX0_init_4 : decode cX0_init 4 = .ok (.aload_n 0, 1) := by decide +kernel
theorem dX0_init_5 : decode cX0_init 5 = .ok (.sipush 4096, 3) := by decide +kernel
theorem dX0_init_8 : decode cX0_init 8 = .ok (.newarray .int, 2) := by decide +kernel
theorem dX0_init_10 : decode cX0_init 10 = .ok (.putfield 9, 3) := by decide +kernel
theorem dX0_init_13 : decode cX0_init 13 = .ok (.aload_n 0, 1) := by decide +kernel
theorem dX0_init_14 : decode cX0_init 14 = .ok (.bipush 12, 2) := by decide +kernel
theorem dX0_init_16 : decode cX0_init 16 = .ok (.newarray .int, 2) := by decide +kernel
theorem dX0_init_18 : decode cX0_init 18 = .ok (.putfield 15, 3) := by decide +kernel
theorem dX0_init_21 : decode cX0_init 21 = .ok (.aload_n 0, 1) := by decide +kernel
theorem dX0_init_22 : decode cX0_init 22 = .ok (.bipush 12, 2) := by decide +kernel
theorem dX0_init_24 : decode cX0_init 24 = .ok (.newarray .int, 2) := by decide +kernel
theorem dX0_init_26 : decode cX0_init 26 = .ok (.putfield 18, 3) := by decide +kernel
theorem dX0_init_29 : decode cX0_init 29 = .ok (.aload_n 0, 1) := by decide +kernel
theorem dX0_init_30 : decode cX0_init 30 = .ok (.bipush 12, 2) := by decide +kernel
theorem dX0_init_32 : decode cX0_init 32 = .ok (.newarray .int, 2) := by decide +kernel
theorem dX0_init_34 : decode cX0_init 34 = .ok (.putfield 21, 3) := by decide +kernel
theorem dX0_init_37 : decode cX0_init 37 = .ok (.aload_n 0, 1) := by decide +kernel
theorem dX0_init_38 : decode cX0_init 38 = .ok (.bipush 12, 2) := by decide +kernel
theorem dX0_init_40 : decode cX0_init 40 = .ok (.newarray .int, 2) := by decide +kernel
theorem dX0_init_42 : decode cX0_init 42 = .ok (.putfield 24, 3) := by decide +kernel
theorem dX0_init_45 : decode cX0_init 45 = .ok (.aload_n 0, 1) := by decide +kernel
theorem dX0_init_46 : decode cX0_init 46 = .ok (.bipush 8, 2) := by decide +kernel
theorem dX0_init_48 : decode cX0_init 48 = .ok (.newarray .int, 2) := by decide +kernel
theorem dX0_init_50 : decode cX0_init 50 = .ok (.putfield 27, 3) := by decide +kernel
theorem dX0_init_53 : decode cX0_init 53 = .ok (.aload_n 0, 1) := by decide +kernel
theorem dX0_init_54 : decode cX0_init 54 = .ok (.bipush 8, 2) := by decide +kernel
theorem dX0_init_56 : decode cX0_init 56 = .ok (.newarray .int, 2) := by decide +kernel
theorem dX0_init_58 : decode cX0_init 58 = .ok (.putfield 30, 3) := by decide +kernel
theorem dX0_init_61 : decode cX0_init 61 = .ok (.return_, 1) := by decide +kernel
theorem dX0_countOrders_0 : decode cX0_countOrders 0 = .ok (.iconst 1, 1) := by decide +kernel
theorem dX0_countOrders_1 : decode cX0_countOrders 1 = .ok (.iload_n 2, 1) := by decide +kernel
theorem dX0_countOrders_2 : decode cX0_countOrders 2 = .ok (.ishl, 1) := by decide +kernel
theorem dX0_countOrders_3 : decode cX0_countOrders 3 = .ok (.iconst 1, 1) := by decide +kernel
theorem dX0_countOrders_4 : decode cX0_countOrders 4 = .ok (.isub, 1) := by decide +kernel
theorem dX0_countOrders_5 : decode cX0_countOrders 5 = .ok (.istore_n 3, 1) := by decide +kernel
theorem dX0_countOrders_6 : decode cX0_countOrders 6 = .ok (.aload_n 0, 1) := by decide +kernel
theorem dX0_countOrders_7 : decode cX0_countOrders 7 = .ok (.getfield 9, 3) := by decide +kernel
theorem dX0_countOrders_10 : decode cX0_countOrders 10 = .ok (.iconst 0, 1) := by decide +kernel
theorem dX0_countOrders_11 : decode cX0_countOrders 11 = .ok (.invokestatic 33, 3) := by decide +kernel
theorem dX0_countOrders_14 : decode cX0_countOrders 14 = .ok (.aload_n 0, 1) := by decide +kernel
theorem dX0_countOrders_15 : decode cX0_countOrders 15 = .ok (.getfield 9, 3) := by decide +kernel
theorem dX0_countOrders_18 : decode cX0_countOrders 18 = .ok (.iconst 0, 1) := by decide +kernel
theorem dX0_countOrders_19 : decode cX0_countOrders 19 = .ok (.iconst 1, 1) := by decide +kernel
theorem dX0_countOrders_20 : decode cX0_countOrders 20 = .ok (.iastore, 1) := by decide +kernel
theorem dX0_countOrders_21 : decode cX0_countOrders 21 = .ok (.iconst 0, 1) := by decide +kernel
theorem dX0_countOrders_22 : decode cX0_countOrders 22 = .ok (.istore 4, 2) := by decide +kernel
theorem dX0_countOrders_24 : decode cX0_countOrders 24 = .ok (.iload 4, 2) := by decide +kernel
theorem dX0_countOrders_26 : decode cX0_countOrders 26 = .ok (.iload_n 3, 1) := by decide +kernel
theorem dX0_countOrders_27 : decode cX0_countOrders 27 = .ok (.if_icmp .ge 92, 3) := by decide +kernel
theorem dX0_countOrders_30 : decode cX0_countOrders 30 = .ok (.iconst 0, 1) := by decide +kernel
theorem dX0_countOrders_31 : decode cX0_countOrders 31 = .ok (.istore 5, 2) := by decide +kernel
theorem dX0_countOrders_33 : decode cX0_countOrders 33 = .ok (.iload 5, 2) := by decide +kernel
theorem dX0_countOrders_35 : decode cX0_countOrders 35 = .ok (.iload_n 2, 1) := by decide +kernel
theorem dX0_countOrders_36 : decode cX0_countOrders 36 = .ok (.if_icmp .ge 77, 3) := by decide +kernel
theorem dX0_countOrders_39 : decode cX0_countOrders 39 = .ok (.aload_n 0, 1) := by decide +kernel
theorem dX0_countOrders_40 : decode cX0_countOrders 40 = .ok (.getfield 9, 3) := by decide +kernel
theorem dX0_countOrders_43 : decode cX0_countOrders 43 = .ok (.iload 4, 2) := by decide +kernel
theorem dX0_countOrders_45 : decode cX0_countOrders 45 = .ok (.iaload, 1) := by decide +kernel
theorem dX0_countOrders_46 : decode cX0_countOrders 46 = .ok (.ifCond .le 67, 3) := by decide +kernel
theorem dX0_countOrders_49 : decode cX0_countOrders 49 = .ok (.iload 4, 2) := by decide +kernel
theorem dX0_countOrders_51 : decode cX0_countOrders 51 = .ok (.iload 5, 2) := by decide +kernel
theorem dX0_countOrders_53 : decode cX0_countOrders 53 = .ok (.ishr, 1) := by decide +kernel
theorem dX0_countOrders_54 : decode cX0_countOrders 54 = .ok (.iconst 1, 1) := by decide +kernel
theorem dX0_countOrders_55 : decode cX0_countOrders 55 = .ok (.iand, 1) := by decide +kernel
theorem dX0_countOrders_56 : decode cX0_countOrders 56 = .ok (.ifCond .ne 21, 3) := by decide +kernel
theorem dX0_countOrders_59 : decode cX0_countOrders 59 = .ok (.aload_n 1, 1) := by decide +kernel
theorem dX0_countOrders_60 : decode cX0_countOrders 60 = .ok (.iload 5, 2) := by decide +kernel
theorem dX0_countOrders_62 : decode cX0_countOrders 62 = .ok (.invokevirtual 39, 3) := by decide +kernel
theorem dX0_countOrders_65 : decode cX0_countOrders 65 = .ok (.iload 4, 2) := by decide +kernel
theorem dX0_countOrders_67 : decode cX0_countOrders 67 = .ok (.iconst (-1), 1) := by decide +kernel
theorem dX0_countOrders_68 : decode cX0_countOrders 68 = .ok (.ixor, 1) := by decide +kernel
theorem dX0_countOrders_69 : decode cX0_countOrders 69 = .ok (.iand, 1) := by decide +kernel
theorem dX0_countOrders_70 : decode cX0_countOrders 70 = .ok (.ifCond .ne 7, 3) := by decide +kernel
theorem dX0_countOrders_73 : decode cX0_countOrders 73 = .ok (.iconst 1, 1) := by decide +kernel
theorem dX0_countOrders_74 : decode cX0_countOrders 74 = .ok (.goto 4, 3) := by decide +kernel
theorem dX0_countOrders_77 : decode cX0_countOrders 77 = .ok (.iconst 0, 1) := by decide +kernel
theorem dX0_countOrders_78 : decode cX0_countOrders 78 = .ok (.istore 6, 2) := by decide +kernel
theorem dX0_countOrders_80 : decode cX0_countOrders 80 = .ok (.iload 6, 2) := by decide +kernel
theorem dX0_countOrders_82 : decode cX0_countOrders 82 = .ok (.ifCond .eq 25, 3) := by decide +kernel
theorem dX0_countOrders_85 : decode cX0_countOrders 85 = .ok (.aload_n 0, 1) := by decide +kernel
theorem dX0_countOrders_86 : decode cX0_countOrders 86 = .ok (.getfield 9, 3) := by decide +kernel
theorem dX0_countOrders_89 : decode cX0_countOrders 89 = .ok (.iload 4, 2) := by decide +kernel
theorem dX0_countOrders_91 : decode cX0_countOrders 91 = .ok (.iconst 1, 1) := by decide +kernel
theorem dX0_countOrders_92 : decode cX0_countOrders 92 = .ok (.iload 5, 2) := by decide +kernel
theorem dX0_countOrders_94 : decode cX0_countOrders 94 = .ok (.ishl, 1) := by decide +kernel
theorem dX0_countOrders_95 : decode cX0_countOrders 95 = .ok (.ior, 1) := by decide +kernel
theorem dX0_countOrders_96 : decode cX0_countOrders 96 = .ok (.dup2, 1) := by decide +kernel
theorem dX0_countOrders_97 : decode cX0_countOrders 97 = .ok (.iaload, 1) := by decide +kernel
theorem dX0_countOrders_98 : decode cX0_countOrders 98 = .ok (.aload_n 0, 1) := by decide +kernel
theorem dX0_countOrders_99 : decode cX0_countOrders 99 = .ok (.getfield 9, 3) := by decide +kernel
theorem dX0_countOrders_102 : decode cX0_countOrders 102 = .ok (.iload 4, 2) := by decide +kernel
theorem dX0_countOrders_104 : decode cX0_countOrders 104 = .ok (.iaload, 1) := by decide +kernel
theorem dX0_countOrders_105 : decode cX0_countOrders 105 = .ok (.iadd, 1) := by decide +kernel
theorem dX0_countOrders_106 : decode cX0_countOrders 106 = .ok (.iastore, 1) := by decide +kernel
theorem dX0_countOrders_107 : decode cX0_countOrders 107 = .ok (.iinc 5 1, 3) := by decide +kernel
theorem dX0_countOrders_110 : decode cX0_countOrders 110 = .ok (.goto (-77), 3) := by decide +kernel
theorem dX0_countOrders_113 : decode cX0_countOrders 113 = .ok (.iinc 4 1, 3) := by decide +kernel
theorem dX0_countOrders_116 : decode cX0_countOrders 116 = .ok (.goto (-92), 3) := by decide +kernel
theorem dX0_countOrders_119 : decode cX0_countOrders 119 = .ok (.aload_n 0, 1) := by decide +kernel
theorem dX0_countOrders_120 : decode cX0_countOrders 120 = .ok (.getfield 9, 3) := by decide +kernel
theorem dX0_countOrders_123 : decode cX0_countOrders 123 = .ok (.iload_n 3, 1) := by decide +kernel
theorem dX0_countOrders_124 : decode cX0_countOrders 124 = .ok (.iaload, 1) := by decide +kernel
theorem dX0_countOrders_125 : decode cX0_countOrders 125 = .ok (.ireturn, 1) := by decide +kernel
theorem dX0_wind_0 : decode cX0_wind 0 = .ok (.aload_n 0, 1) := by decide +kernel
theorem dX0_wind_1 : decode cX0_wind 1 = .ok (.aload_n 1, 1) := by decide +kernel
theorem dX0_wind_2 : decode cX0_wind 2 = .ok (.getfield 45, 3) := by decide +kernel
theorem dX0_wind_5 : decode cX0_wind 5 = .ok (.putfield 51, 3) := by decide +kernel
theorem dX0_wind_8 : decode cX0_wind 8 = .ok (.aload_n 0, 1) := by decide +kernel
theorem dX0_wind_9 : decode cX0_wind 9 = .ok (.aload_n 3, 1) := by decide +kernel
theorem dX0_wind_10 : decode cX0_wind 10 = .ok (.iconst 0, 1) := by decide +kernel
theorem dX0_wind_11 : decode cX0_wind 11 = .ok (.iaload, 1) := by decide +kernel
theorem dX0_wind_12 : decode cX0_wind 12 = .ok (.putfield 52, 3) := by decide +kernel
theorem dX0_wind_15 : decode cX0_wind 15 = .ok (.iconst 0, 1) := by decide +kernel
theorem dX0_wind_16 : decode cX0_wind 16 = .ok (.istore 4, 2) := by decide +kernel
theorem dX0_wind_18 : decode cX0_wind 18 = .ok (.iload 4, 2) := by decide +kernel
theorem dX0_wind_20 : decode cX0_wind 20 = .ok (.aload_n 0, 1) := by decide +kernel
theorem dX0_wind_21 : decode cX0_wind 21 = .ok (.getfield 51, 3) := by decide +kernel
theorem dX0_wind_24 : decode cX0_wind 24 = .ok (.if_icmp .ge 55, 3) := by decide +kernel
theorem dX0_wind_27 : decode cX0_wind 27 = .ok (.aload_n 0, 1) := by decide +kernel
theorem dX0_wind_28 : decode cX0_wind 28 = .ok (.getfield 15, 3) := by decide +kernel
theorem dX0_wind_31 : decode cX0_wind 31 = .ok (.iload 4, 2) := by decide +kernel
theorem dX0_wind_33 : decode cX0_wind 33 = .ok (.aload_n 1, 1) := by decide +kernel
theorem dX0_wind_34 : decode cX0_wind 34 = .ok (.iload 4, 2) := by decide +kernel
theorem dX0_wind_36 : decode cX0_wind 36 = .ok (.iconst 1, 1) := by decide +kernel
theorem dX0_wind_37 : decode cX0_wind 37 = .ok (.invokevirtual 55, 3) := by decide +kernel
theorem dX0_wind_40 : decode cX0_wind 40 = .ok (.aload_n 3, 1) := by decide +kernel
theorem dX0_wind_41 : decode cX0_wind 41 = .ok (.invokestatic 59, 3) := by decide +kernel
theorem dX0_wind_44 : decode cX0_wind 44 = .ok (.iastore, 1) := by decide +kernel
theorem dX0_wind_45 : decode cX0_wind 45 = .ok (.aload_n 0, 1) := by decide +kernel
theorem dX0_wind_46 : decode cX0_wind 46 = .ok (.getfield 18, 3) := by decide +kernel
theorem dX0_wind_49 : decode cX0_wind 49 = .ok (.iload 4, 2) := by decide +kernel
theorem dX0_wind_51 : decode cX0_wind 51 = .ok (.aload_n 2, 1) := by decide +kernel
theorem dX0_wind_52 : decode cX0_wind 52 = .ok (.getfield 63, 3) := by decide +kernel
theorem dX0_wind_55 : decode cX0_wind 55 = .ok (.iload 4, 2) := by decide +kernel
theorem dX0_wind_57 : decode cX0_wind 57 = .ok (.iaload, 1) := by decide +kernel
theorem dX0_wind_58 : decode cX0_wind 58 = .ok (.iastore, 1) := by decide +kernel
theorem dX0_wind_59 : decode cX0_wind 59 = .ok (.aload_n 0, 1) := by decide +kernel
theorem dX0_wind_60 : decode cX0_wind 60 = .ok (.getfield 21, 3) := by decide +kernel
theorem dX0_wind_63 : decode cX0_wind 63 = .ok (.iload 4, 2) := by decide +kernel
theorem dX0_wind_65 : decode cX0_wind 65 = .ok (.aload_n 2, 1) := by decide +kernel
theorem dX0_wind_66 : decode cX0_wind 66 = .ok (.getfield 64, 3) := by decide +kernel
theorem dX0_wind_69 : decode cX0_wind 69 = .ok (.iload 4, 2) := by decide +kernel
theorem dX0_wind_71 : decode cX0_wind 71 = .ok (.iaload, 1) := by decide +kernel
theorem dX0_wind_72 : decode cX0_wind 72 = .ok (.iastore, 1) := by decide +kernel
theorem dX0_wind_73 : decode cX0_wind 73 = .ok (.iinc 4 1, 3) := by decide +kernel
theorem dX0_wind_76 : decode cX0_wind 76 = .ok (.goto (-58), 3) := by decide +kernel
theorem dX0_wind_79 : decode cX0_wind 79 = .ok (.return_, 1) := by decide +kernel
theorem dX0_delayOf_0 : decode cX0_delayOf 0 = .ok (.iconst 0, 1) := by decide +kernel
theorem dX0_delayOf_1 : decode cX0_delayOf 1 = .ok (.istore_n 2, 1) := by decide +kernel
theorem dX0_delayOf_2 : decode cX0_delayOf 2 = .ok (.iload_n 2, 1) := by decide +kernel
theorem dX0_delayOf_3 : decode cX0_delayOf 3 = .ok (.getstatic 65, 3) := by decide +kernel
theorem dX0_delayOf_6 : decode cX0_delayOf 6 = .ok (.arraylength, 1) := by decide +kernel
theorem dX0_delayOf_7 : decode cX0_delayOf 7 = .ok (.if_icmp .ge 24, 3) := by decide +kernel
theorem dX0_delayOf_10 : decode cX0_delayOf 10 = .ok (.getstatic 65, 3) := by decide +kernel
theorem dX0_delayOf_13 : decode cX0_delayOf 13 = .ok (.iload_n 2, 1) := by decide +kernel
theorem dX0_delayOf_14 : decode cX0_delayOf 14 = .ok (.iaload, 1) := by decide +kernel
theorem dX0_delayOf_15 : decode cX0_delayOf 15 = .ok (.iload_n 0, 1) := by decide +kernel
theorem dX0_delayOf_16 : decode cX0_delayOf 16 = .ok (.if_icmp .ne 9, 3) := by decide +kernel
theorem dX0_delayOf_19 : decode cX0_delayOf 19 = .ok (.aload_n 1, 1) := by decide +kernel
theorem dX0_delayOf_20 : decode cX0_delayOf 20 = .ok (.iload_n 2, 1) := by decide +kernel
theorem dX0_delayOf_21 : decode cX0_delayOf 21 = .ok (.iconst 1, 1) := by decide +kernel
theorem dX0_delayOf_22 : decode cX0_delayOf 22 = .ok (.iadd, 1) := by decide +kernel
theorem dX0_delayOf_23 : decode cX0_delayOf 23 = .ok (.iaload, 1) := by decide +kernel
theorem dX0_delayOf_24 : decode cX0_delayOf 24 = .ok (.ireturn, 1) := by decide +kernel
theorem dX0_delayOf_25 : decode cX0_delayOf 25 = .ok (.iinc 2 1, 3) := by decide +kernel
theorem dX0_delayOf_28 : decode cX0_delayOf 28 = .ok (.goto (-26), 3) := by decide +kernel
theorem dX0_delayOf_31 : decode cX0_delayOf 31 = .ok (.iconst 1, 1) := by decide +kernel
theorem dX0_delayOf_32 : decode cX0_delayOf 32 = .ok (.ireturn, 1) := by decide +kernel
theorem dX0_layAsWritten_0 : decode cX0_layAsWritten 0 = .ok (.iconst 0, 1) := by decide +kernel
theorem dX0_layAsWritten_1 : decode cX0_layAsWritten 1 = .ok (.istore_n 1, 1) := by decide +kernel
theorem dX0_layAsWritten_2 : decode cX0_layAsWritten 2 = .ok (.iconst 0, 1) := by decide +kernel
theorem dX0_layAsWritten_3 : decode cX0_layAsWritten 3 = .ok (.istore_n 2, 1) := by decide +kernel
theorem dX0_layAsWritten_4 : decode cX0_layAsWritten 4 = .ok (.iconst 0, 1) := by decide +kernel
theorem dX0_layAsWritten_5 : decode cX0_layAsWritten 5 = .ok (.istore_n 3, 1) := by decide +kernel
theorem dX0_layAsWritten_6 : decode cX0_layAsWritten 6 = .ok (.iconst 0, 1) := by decide +kernel
theorem dX0_layAsWritten_7 : decode cX0_layAsWritten 7 = .ok (.istore 4, 2) := by decide +kernel
theorem dX0_layAsWritten_9 : decode cX0_layAsWritten 9 = .ok (.iload 4, 2) := by decide +kernel
theorem dX0_layAsWritten_11 : decode cX0_layAsWritten 11 = .ok (.aload_n 0, 1) := by decide +kernel
theorem dX0_layAsWritten_12 : decode cX0_layAsWritten 12 = .ok (.getfield 51, 3) := by decide +kernel
theorem dX0_layAsWritten_15 : decode cX0_layAsWritten 15 = .ok (.if_icmp .ge 60, 3) := by decide +kernel
theorem dX0_layAsWritten_18 : decode cX0_layAsWritten 18 = .ok (.aload_n 0, 1) := by decide +kernel
theorem dX0_layAsWritten_19 : decode cX0_layAsWritten 19 = .ok (.iload 4, 2) := by decide +kernel
theorem dX0_layAsWritten_21 : decode cX0_layAsWritten 21 = .ok (.iload_n 1, 1) := by decide +kernel
theorem dX0_layAsWritten_22 : decode cX0_layAsWritten 22 = .ok (.iload_n 2, 1) := by decide +kernel
theorem dX0_layAsWritten_23 : decode cX0_layAsWritten 23 = .ok (.invokevirtual 68, 3) := by decide +kernel
theorem dX0_layAsWritten_26 : decode cX0_layAsWritten 26 = .ok (.istore 5, 2) := by decide +kernel
theorem dX0_layAsWritten_28 : decode cX0_layAsWritten 28 = .ok (.iload 5, 2) := by decide +kernel
theorem dX0_layAsWritten_30 : decode cX0_layAsWritten 30 = .ok (.iload_n 1, 1) := by decide +kernel
theorem dX0_layAsWritten_31 : decode cX0_layAsWritten 31 = .ok (.if_icmp .ne 9, 3) := by decide +kernel
theorem dX0_layAsWritten_34 : decode cX0_layAsWritten 34 = .ok (.iload_n 2, 1) := by decide +kernel
theorem dX0_layAsWritten_35 : decode cX0_layAsWritten 35 = .ok (.iconst 1, 1) := by decide +kernel
theorem dX0_layAsWritten_36 : decode cX0_layAsWritten 36 = .ok (.iadd, 1) := by decide +kernel
theorem dX0_layAsWritten_37 : decode cX0_layAsWritten 37 = .ok (.goto 4, 3) := by decide +kernel
theorem dX0_layAsWritten_40 : decode cX0_layAsWritten 40 = .ok (.iconst 1, 1) := by decide +kernel
theorem dX0_layAsWritten_41 : decode cX0_layAsWritten 41 = .ok (.istore_n 2, 1) := by decide +kernel
theorem dX0_layAsWritten_42 : decode cX0_layAsWritten 42 = .ok (.iload 5, 2) := by decide +kernel
theorem dX0_layAsWritten_44 : decode cX0_layAsWritten 44 = .ok (.istore_n 1, 1) := by decide +kernel
theorem dX0_layAsWritten_45 : decode cX0_layAsWritten 45 = .ok (.aload_n 0, 1) := by decide +kernel
theorem dX0_layAsWritten_46 : decode cX0_layAsWritten 46 = .ok (.getfield 24, 3) := by decide +kernel
theorem dX0_layAsWritten_49 : decode cX0_layAsWritten 49 = .ok (.iload 4, 2) := by decide +kernel
theorem dX0_layAsWritten_51 : decode cX0_layAsWritten 51 = .ok (.iload 5, 2) := by decide +kernel
theorem dX0_layAsWritten_53 : decode cX0_layAsWritten 53 = .ok (.iastore, 1) := by decide +kernel
theorem dX0_layAsWritten_54 : decode cX0_layAsWritten 54 = .ok (.iload_n 3, 1) := by decide +kernel
theorem dX0_layAsWritten_55 : decode cX0_layAsWritten 55 = .ok (.iload 5, 2) := by decide +kernel
theorem dX0_layAsWritten_57 : decode cX0_layAsWritten 57 = .ok (.aload_n 0, 1) := by decide +kernel
theorem dX0_layAsWritten_58 : decode cX0_layAsWritten 58 = .ok (.getfield 15, 3) := by decide +kernel
theorem dX0_layAsWritten_61 : decode cX0_layAsWritten 61 = .ok (.iload 4, 2) := by decide +kernel
theorem dX0_layAsWritten_63 : decode cX0_layAsWritten 63 = .ok (.iaload, 1) := by decide +kernel
theorem dX0_layAsWritten_64 : decode cX0_layAsWritten 64 = .ok (.iadd, 1) := by decide +kernel
theorem dX0_layAsWritten_65 : decode cX0_layAsWritten 65 = .ok (.invokestatic 72, 3) := by decide +kernel
theorem dX0_layAsWritten_68 : decode cX0_layAsWritten 68 = .ok (.istore_n 3, 1) := by decide +kernel
theorem dX0_layAsWritten_69 : decode cX0_layAsWritten 69 = .ok (.iinc 4 1, 3) := by decide +kernel
theorem dX0_layAsWritten_72 : decode cX0_layAsWritten 72 = .ok (.goto (-63), 3) := by decide +kernel
theorem dX0_layAsWritten_75 : decode cX0_layAsWritten 75 = .ok (.iload_n 3, 1) := by decide +kernel
theorem dX0_layAsWritten_76 : decode cX0_layAsWritten 76 = .ok (.ireturn, 1) := by decide +kernel
theorem dX0_firstTick_0 : decode cX0_firstTick 0 = .ok (.iload_n 3, 1) := by decide +kernel
theorem dX0_firstTick_1 : decode cX0_firstTick 1 = .ok (.aload_n 0, 1) := by decide +kernel
theorem dX0_firstTick_2 : decode cX0_firstTick 2 = .ok (.getfield 52, 3) := by decide +kernel
theorem dX0_firstTick_5 : decode cX0_firstTick 5 = .ok (.if_icmp .ge 7, 3) := by decide +kernel
theorem dX0_firstTick_8 : decode cX0_firstTick 8 = .ok (.iload_n 2, 1) := by decide +kernel
theorem dX0_firstTick_9 : decode cX0_firstTick 9 = .ok (.goto 6, 3) := by decide +kernel
theorem dX0_firstTick_12 : decode cX0_firstTick 12 = .ok (.iload_n 2, 1) := by decide +kernel
theorem dX0_firstTick_13 : decode cX0_firstTick 13 = .ok (.iconst 1, 1) := by decide +kernel
theorem dX0_firstTick_14 : decode cX0_firstTick 14 = .ok (.iadd, 1) := by decide +kernel
theorem dX0_firstTick_15 : decode cX0_firstTick 15 = .ok (.istore 4, 2) := by decide +kernel
theorem dX0_firstTick_17 : decode cX0_firstTick 17 = .ok (.iconst 0, 1) := by decide +kernel
theorem dX0_firstTick_18 : decode cX0_firstTick 18 = .ok (.istore 5, 2) := by decide +kernel
theorem dX0_firstTick_20 : decode cX0_firstTick 20 = .ok (.iload 5, 2) := by decide +kernel
theorem dX0_firstTick_22 : decode cX0_firstTick 22 = .ok (.iload_n 1, 1) := by decide +kernel
theorem dX0_firstTick_23 : decode cX0_firstTick 23 = .ok (.if_icmp .ge 77, 3) := by decide +kernel
theorem dX0_firstTick_26 : decode cX0_firstTick 26 = .ok (.aload_n 0, 1) := by decide +kernel
theorem dX0_firstTick_27 : decode cX0_firstTick 27 = .ok (.getfield 18, 3) := by decide +kernel
theorem dX0_firstTick_30 : decode cX0_firstTick 30 = .ok (.iload_n 1, 1) := by decide +kernel
theorem dX0_firstTick_31 : decode cX0_firstTick 31 = .ok (.iaload, 1) := by decide +kernel
theorem dX0_firstTick_32 : decode cX0_firstTick 32 = .ok (.iload 5, 2) := by decide +kernel
theorem dX0_firstTick_34 : decode cX0_firstTick 34 = .ok (.ishr, 1) := by decide +kernel
theorem dX0_firstTick_35 : decode cX0_firstTick 35 = .ok (.iconst 1, 1) := by decide +kernel
theorem dX0_firstTick_36 : decode cX0_firstTick 36 = .ok (.iand, 1) := by decide +kernel
theorem dX0_firstTick_37 : decode cX0_firstTick 37 = .ok (.iconst 1, 1) := by decide +kernel
theorem dX0_firstTick_38 : decode cX0_firstTick 38 = .ok (.if_icmp .ne 25, 3) := by decide +kernel
theorem dX0_firstTick_41 : decode cX0_firstTick 41 = .ok (.iload 4, 2) := by decide +kernel
theorem dX0_firstTick_43 : decode cX0_firstTick 43 = .ok (.aload_n 0, 1) := by decide +kernel
theorem dX0_firstTick_44 : decode cX0_firstTick 44 = .ok (.getfield 24, 3) := by decide +kernel
theorem dX0_firstTick_47 : decode cX0_firstTick 47 = .ok (.iload 5, 2) := by decide +kernel
theorem dX0_firstTick_49 : decode cX0_firstTick 49 = .ok (.iaload, 1) := by decide +kernel
theorem dX0_firstTick_50 : decode cX0_firstTick 50 = .ok (.aload_n 0, 1) := by decide +kernel
theorem dX0_firstTick_51 : decode cX0_firstTick 51 = .ok (.getfield 15, 3) := by decide +kernel
theorem dX0_firstTick_54 : decode cX0_firstTick 54 = .ok (.iload 5, 2) := by decide +kernel
theorem dX0_firstTick_56 : decode cX0_firstTick 56 = .ok (.iaload, 1) := by decide +kernel
theorem dX0_firstTick_57 : decode cX0_firstTick 57 = .ok (.iadd, 1) := by decide +kernel
theorem dX0_firstTick_58 : decode cX0_firstTick 58 = .ok (.invokestatic 72, 3) := by decide +kernel
theorem dX0_firstTick_61 : decode cX0_firstTick 61 = .ok (.istore 4, 2) := by decide +kernel
theorem dX0_firstTick_63 : decode cX0_firstTick 63 = .ok (.aload_n 0, 1) := by decide +kernel
theorem dX0_firstTick_64 : decode cX0_firstTick 64 = .ok (.getfield 21, 3) := by decide +kernel
theorem dX0_firstTick_67 : decode cX0_firstTick 67 = .ok (.iload_n 1, 1) := by decide +kernel
theorem dX0_firstTick_68 : decode cX0_firstTick 68 = .ok (.iaload, 1) := by decide +kernel
theorem dX0_firstTick_69 : decode cX0_firstTick 69 = .ok (.iload 5, 2) := by decide +kernel
theorem dX0_firstTick_71 : decode cX0_firstTick 71 = .ok (.ishr, 1) := by decide +kernel
theorem dX0_firstTick_72 : decode cX0_firstTick 72 = .ok (.iconst 1, 1) := by decide +kernel
theorem dX0_firstTick_73 : decode cX0_firstTick 73 = .ok (.iand, 1) := by decide +kernel
theorem dX0_firstTick_74 : decode cX0_firstTick 74 = .ok (.iconst 1, 1) := by decide +kernel
theorem dX0_firstTick_75 : decode cX0_firstTick 75 = .ok (.if_icmp .ne 19, 3) := by decide +kernel
theorem dX0_firstTick_78 : decode cX0_firstTick 78 = .ok (.iload 4, 2) := by decide +kernel
theorem dX0_firstTick_80 : decode cX0_firstTick 80 = .ok (.aload_n 0, 1) := by decide +kernel
theorem dX0_firstTick_81 : decode cX0_firstTick 81 = .ok (.getfield 24, 3) := by decide +kernel
theorem dX0_firstTick_84 : decode cX0_firstTick 84 = .ok (.iload 5, 2) := by decide +kernel
theorem dX0_firstTick_86 : decode cX0_firstTick 86 = .ok (.iaload, 1) := by decide +kernel
theorem dX0_firstTick_87 : decode cX0_firstTick 87 = .ok (.iconst 1, 1) := by decide +kernel
theorem dX0_firstTick_88 : decode cX0_firstTick 88 = .ok (.iadd, 1) := by decide +kernel
theorem dX0_firstTick_89 : decode cX0_firstTick 89 = .ok (.invokestatic 72, 3) := by decide +kernel
theorem dX0_firstTick_92 : decode cX0_firstTick 92 = .ok (.istore 4, 2) := by decide +kernel
theorem dX0_firstTick_94 : decode cX0_firstTick 94 = .ok (.iinc 5 1, 3) := by decide +kernel
theorem dX0_firstTick_97 : decode cX0_firstTick 97 = .ok (.goto (-77), 3) := by decide +kernel
theorem dX0_firstTick_100 : decode cX0_firstTick 100 = .ok (.iload 4, 2) := by decide +kernel
theorem dX0_firstTick_102 : decode cX0_firstTick 102 = .ok (.ireturn, 1) := by decide +kernel
theorem dX0_findQuickest_0 : decode cX0_findQuickest 0 = .ok (.aload_n 0, 1) := by decide +kernel
theorem dX0_findQuickest_1 : decode cX0_findQuickest 1 = .ok (.ldc 77, 2) := by decide +kernel
theorem dX0_findQuickest_3 : decode cX0_findQuickest 3 = .ok (.putfield 78, 3) := by decide +kernel
theorem dX0_findQuickest_6 : decode cX0_findQuickest 6 = .ok (.aload_n 0, 1) := by decide +kernel
theorem dX0_findQuickest_7 : decode cX0_findQuickest 7 = .ok (.getfield 51, 3) := by decide +kernel
theorem dX0_findQuickest_10 : decode cX0_findQuickest 10 = .ok (.bipush 8, 2) := by decide +kernel
theorem dX0_findQuickest_12 : decode cX0_findQuickest 12 = .ok (.if_icmp .gt 12, 3) := by decide +kernel
theorem dX0_findQuickest_15 : decode cX0_findQuickest 15 = .ok (.aload_n 0, 1) := by decide +kernel
theorem dX0_findQuickest_16 : decode cX0_findQuickest 16 = .ok (.iconst 0, 1) := by decide +kernel
theorem dX0_findQuickest_17 : decode cX0_findQuickest 17 = .ok (.iconst 0, 1) := by decide +kernel
theorem dX0_findQuickest_18 : decode cX0_findQuickest 18 = .ok (.iconst 0, 1) := by decide +kernel
theorem dX0_findQuickest_19 : decode cX0_findQuickest 19 = .ok (.iconst 0, 1) := by decide +kernel
theorem dX0_findQuickest_20 : decode cX0_findQuickest 20 = .ok (.iconst 0, 1) := by decide +kernel
theorem dX0_findQuickest_21 : decode cX0_findQuickest 21 = .ok (.invokevirtual 81, 3) := by decide +kernel
theorem dX0_findQuickest_24 : decode cX0_findQuickest 24 = .ok (.return_, 1) := by decide +kernel
theorem dX0_layOn_0 : decode cX0_layOn 0 = .ok (.iload 5, 2) := by decide +kernel
theorem dX0_layOn_2 : decode cX0_layOn 2 = .ok (.aload_n 0, 1) := by decide +kernel
theorem dX0_layOn_3 : decode cX0_layOn 3 = .ok (.getfield 78, 3) := by decide +kernel
theorem dX0_layOn_6 : decode cX0_layOn 6 = .ok (.if_icmp .lt 4, 3) := by decide +kernel
theorem dX0_layOn_9 : decode cX0_layOn 9 = .ok (.return_, 1) := by decide +kernel
theorem dX0_layOn_10 : decode cX0_layOn 10 = .ok (.iload_n 1, 1) := by decide +kernel
theorem dX0_layOn_11 : decode cX0_layOn 11 = .ok (.aload_n 0, 1) := by decide +kernel
theorem dX0_layOn_12 : decode cX0_layOn 12 = .ok (.getfield 51, 3) := by decide +kernel
theorem dX0_layOn_15 : decode cX0_layOn 15 = .ok (.if_icmp .ge 9, 3) := by decide +kernel
theorem dX0_layOn_18 : decode cX0_layOn 18 = .ok (.iload_n 1, 1) := by decide +kernel
theorem dX0_layOn_19 : decode cX0_layOn 19 = .ok (.bipush 8, 2) := by decide +kernel
theorem dX0_layOn_21 : decode cX0_layOn 21 = .ok (.if_icmp .lt 25, 3) := by decide +kernel
theorem dX0_layOn_24 : decode cX0_layOn 24 = .ok (.aload_n 0, 1) := by decide +kernel
theorem dX0_layOn_25 : decode cX0_layOn 25 = .ok (.iload 5, 2) := by decide +kernel
theorem dX0_layOn_27 : decode cX0_layOn 27 = .ok (.putfield 78, 3) := by decide +kernel
theorem dX0_layOn_30 : decode cX0_layOn 30 = .ok (.aload_n 0, 1) := by decide +kernel
theorem dX0_layOn_31 : decode cX0_layOn 31 = .ok (.getfield 27, 3) := by decide +kernel
theorem dX0_layOn_34 : decode cX0_layOn 34 = .ok (.iconst 0, 1) := by decide +kernel
theorem dX0_layOn_35 : decode cX0_layOn 35 = .ok (.aload_n 0, 1) := by decide +kernel
theorem dX0_layOn_36 : decode cX0_layOn 36 = .ok (.getfield 30, 3) := by decide +kernel
theorem dX0_layOn_39 : decode cX0_layOn 39 = .ok (.iconst 0, 1) := by decide +kernel
theorem dX0_layOn_40 : decode cX0_layOn 40 = .ok (.bipush 8, 2) := by decide +kernel
theorem dX0_layOn_42 : decode cX0_layOn 42 = .ok (.invokestatic 85, 3) := by decide +kernel
theorem dX0_layOn_45 : decode cX0_layOn 45 = .ok (.return_, 1) := by decide +kernel
theorem dX0_layOn_46 : decode cX0_layOn 46 = .ok (.iconst 0, 1) := by decide +kernel
theorem dX0_layOn_47 : decode cX0_layOn 47 = .ok (.istore 6, 2) := by decide +kernel
theorem dX0_layOn_49 : decode cX0_layOn 49 = .ok (.iload 6, 2) := by decide +kernel
theorem dX0_layOn_51 : decode cX0_layOn 51 = .ok (.aload_n 0, 1) := by decide +kernel
theorem dX0_layOn_52 : decode cX0_layOn 52 = .ok (.getfield 51, 3) := by decide +kernel
theorem dX0_layOn_55 : decode cX0_layOn 55 = .ok (.if_icmp .ge 124, 3) := by decide +kernel
theorem dX0_layOn_58 : decode cX0_layOn 58 = .ok (.iload_n 2, 1) := by decide +kernel
theorem dX0_layOn_59 : decode cX0_layOn 59 = .ok (.iload 6, 2) := by decide +kernel
theorem dX0_layOn_61 : decode cX0_layOn 61 = .ok (.ishr, 1) := by decide +kernel
theorem dX0_layOn_62 : decode cX0_layOn 62 = .ok (.iconst 1, 1) := by decide +kernel
theorem dX0_layOn_63 : decode cX0_layOn 63 = .ok (.iand, 1) := by decide +kernel
theorem dX0_layOn_64 : decode cX0_layOn 64 = .ok (.ifCond .ne 29, 3) := by decide +kernel
theorem dX0_layOn_67 : decode cX0_layOn 67 = .ok (.aload_n 0, 1) := by decide +kernel
theorem dX0_layOn_68 : decode cX0_layOn 68 = .ok (.getfield 18, 3) := by decide +kernel
theorem dX0_layOn_71 : decode cX0_layOn 71 = .ok (.iload 6, 2) := by decide +kernel
theorem dX0_layOn_73 : decode cX0_layOn 73 = .ok (.iaload, 1) := by decide +kernel
theorem dX0_layOn_74 : decode cX0_layOn 74 = .ok (.aload_n 0, 1) := by decide +kernel
theorem dX0_layOn_75 : decode cX0_layOn 75 = .ok (.getfield 21, 3) := by decide +kernel
theorem dX0_layOn_78 : decode cX0_layOn 78 = .ok (.iload 6, 2) := by decide +kernel
theorem dX0_layOn_80 : decode cX0_layOn 80 = .ok (.iaload, 1) := by decide +kernel
theorem dX0_layOn_81 : decode cX0_layOn 81 = .ok (.ior, 1) := by decide +kernel
theorem dX0_layOn_82 : decode cX0_layOn 82 = .ok (.iload_n 2, 1) := by decide +kernel
theorem dX0_layOn_83 : decode cX0_layOn 83 = .ok (.iconst (-1), 1) := by decide +kernel
theorem dX0_layOn_84 : decode cX0_layOn 84 = .ok (.ixor, 1) := by decide +kernel
theorem dX0_layOn_85 : decode cX0_layOn 85 = .ok (.iand, 1) := by decide +kernel
theorem dX0_layOn_86 : decode cX0_layOn 86 = .ok (.ifCond .ne 7, 3) := by decide +kernel
theorem dX0_layOn_89 : decode cX0_layOn 89 = .ok (.iconst 1, 1) := by decide +kernel
theorem dX0_layOn_90 : decode cX0_layOn 90 = .ok (.goto 4, 3) := by decide +kernel
theorem dX0_layOn_93 : decode cX0_layOn 93 = .ok (.iconst 0, 1) := by decide +kernel
theorem dX0_layOn_94 : decode cX0_layOn 94 = .ok (.istore 7, 2) := by decide +kernel
theorem dX0_layOn_96 : decode cX0_layOn 96 = .ok (.iload 7, 2) := by decide +kernel
theorem dX0_layOn_98 : decode cX0_layOn 98 = .ok (.ifCond .eq 75, 3) := by decide +kernel
theorem dX0_layOn_101 : decode cX0_layOn 101 = .ok (.aload_n 0, 1) := by decide +kernel
theorem dX0_layOn_102 : decode cX0_layOn 102 = .ok (.iload 6, 2) := by decide +kernel
theorem dX0_layOn_104 : decode cX0_layOn 104 = .ok (.iload_n 3, 1) := by decide +kernel
theorem dX0_layOn_105 : decode cX0_layOn 105 = .ok (.iload 4, 2) := by decide +kernel
theorem dX0_layOn_107 : decode cX0_layOn 107 = .ok (.invokevirtual 68, 3) := by decide +kernel
theorem dX0_layOn_110 : decode cX0_layOn 110 = .ok (.istore 8, 2) := by decide +kernel
theorem dX0_layOn_112 : decode cX0_layOn 112 = .ok (.aload_n 0, 1) := by decide +kernel
theorem dX0_layOn_113 : decode cX0_layOn 113 = .ok (.getfield 24, 3) := by decide +kernel
theorem dX0_layOn_116 : decode cX0_layOn 116 = .ok (.iload 6, 2) := by decide +kernel
theorem dX0_layOn_118 : decode cX0_layOn 118 = .ok (.iload 8, 2) := by decide +kernel
theorem dX0_layOn_120 : decode cX0_layOn 120 = .ok (.iastore, 1) := by decide +kernel
theorem dX0_layOn_121 : decode cX0_layOn 121 = .ok (.aload_n 0, 1) := by decide +kernel
theorem dX0_layOn_122 : decode cX0_layOn 122 = .ok (.getfield 27, 3) := by decide +kernel
theorem dX0_layOn_125 : decode cX0_layOn 125 = .ok (.iload_n 1, 1) := by decide +kernel
theorem dX0_layOn_126 : decode cX0_layOn 126 = .ok (.iload 6, 2) := by decide +kernel
theorem dX0_layOn_128 : decode cX0_layOn 128 = .ok (.iastore, 1) := by decide +kernel
theorem dX0_layOn_129 : decode cX0_layOn 129 = .ok (.aload_n 0, 1) := by decide +kernel
theorem dX0_layOn_130 : decode cX0_layOn 130 = .ok (.iload_n 1, 1) := by decide +kernel
theorem dX0_layOn_131 : decode cX0_layOn 131 = .ok (.iconst 1, 1) := by decide +kernel
theorem dX0_layOn_132 : decode cX0_layOn 132 = .ok (.iadd, 1) := by decide +kernel
theorem dX0_layOn_133 : decode cX0_layOn 133 = .ok (.iload_n 2, 1) := by decide +kernel
theorem dX0_layOn_134 : decode cX0_layOn 134 = .ok (.iconst 1, 1) := by decide +kernel
theorem dX0_layOn_135 : decode cX0_layOn 135 = .ok (.iload 6, 2) := by decide +kernel
theorem dX0_layOn_137 : decode cX0_layOn 137 = .ok (.ishl, 1) := by decide +kernel
theorem dX0_layOn_138 : decode cX0_layOn 138 = .ok (.ior, 1) := by decide +kernel
theorem dX0_layOn_139 : decode cX0_layOn 139 = .ok (.iload 8, 2) := by decide +kernel
theorem dX0_layOn_141 : decode cX0_layOn 141 = .ok (.iload 8, 2) := by decide +kernel
theorem dX0_layOn_143 : decode cX0_layOn 143 = .ok (.iload_n 3, 1) := by decide +kernel
theorem dX0_layOn_144 : decode cX0_layOn 144 = .ok (.if_icmp .ne 10, 3) := by decide +kernel
theorem dX0_layOn_147 : decode cX0_layOn 147 = .ok (.iload 4, 2) := by decide +kernel
theorem dX0_layOn_149 : decode cX0_layOn 149 = .ok (.iconst 1, 1) := by decide +kernel
theorem dX0_layOn_150 : decode cX0_layOn 150 = .ok (.iadd, 1) := by decide +kernel
theorem dX0_layOn_151 : decode cX0_layOn 151 = .ok (.goto 4, 3) := by decide +kernel
theorem dX0_layOn_154 : decode cX0_layOn 154 = .ok (.iconst 1, 1) := by decide +kernel
theorem dX0_layOn_155 : decode cX0_layOn 155 = .ok (.iload 5, 2) := by decide +kernel
theorem dX0_layOn_157 : decode cX0_layOn 157 = .ok (.iload 8, 2) := by decide +kernel
theorem dX0_layOn_159 : decode cX0_layOn 159 = .ok (.aload_n 0, 1) := by decide +kernel
theorem dX0_layOn_160 : decode cX0_layOn 160 = .ok (.getfield 15, 3) := by decide +kernel
theorem dX0_layOn_163 : decode cX0_layOn 163 = .ok (.iload 6, 2) := by decide +kernel
theorem dX0_layOn_165 : decode cX0_layOn 165 = .ok (.iaload, 1) := by decide +kernel
theorem dX0_layOn_166 : decode cX0_layOn 166 = .ok (.iadd, 1) := by decide +kernel
theorem dX0_layOn_167 : decode cX0_layOn 167 = .ok (.invokestatic 72, 3) := by decide +kernel
theorem dX0_layOn_170 : decode cX0_layOn 170 = .ok (.invokevirtual 81, 3) := by decide +kernel
theorem dX0_layOn_173 : decode cX0_layOn 173 = .ok (.iinc 6 1, 3) := by decide +kernel
theorem dX0_layOn_176 : decode cX0_layOn 176 = .ok (.goto (-127), 3) := by decide +kernel
theorem dX0_layOn_179 : decode cX0_layOn 179 = .ok (.return_, 1) := by decide +kernel
theorem dX1_init_0 : decode cX1_init 0 = .ok (.aload_n 0, 1) := by decide +kernel
theorem dX1_init_1 : decode cX1_init 1 = .ok (.invokespecial 3, 3) := by decide +kernel
theorem dX1_init_4 : decode cX1_init 4 = .ok (.aload_n 0, 1) := by decide +kernel
theorem dX1_init_5 : decode cX1_init 5 = .ok (.bipush 48, 2) := by decide +kernel
theorem dX1_init_7 : decode cX1_init 7 = .ok (.newarray .int, 2) := by decide +kernel
theorem dX1_init_9 : decode cX1_init 9 = .ok (.putfield 9, 3) := by decide +kernel
theorem dX1_init_12 : decode cX1_init 12 = .ok (.return_, 1) := by decide +kernel
theorem dX1_copyFrom_0 : decode cX1_copyFrom 0 = .ok (.aload_n 1, 1) := by decide +kernel
theorem dX1_copyFrom_1 : decode cX1_copyFrom 1 = .ok (.getfield 9, 3) := by decide +kernel
theorem dX1_copyFrom_4 : decode cX1_copyFrom 4 = .ok (.iconst 0, 1) := by decide +kernel
theorem dX1_copyFrom_5 : decode cX1_copyFrom 5 = .ok (.aload_n 0, 1) := by decide +kernel
theorem dX1_copyFrom_6 : decode cX1_copyFrom 6 = .ok (.getfield 9, 3) := by decide +kernel
theorem dX1_copyFrom_9 : decode cX1_copyFrom 9 = .ok (.iconst 0, 1) := by decide +kernel
theorem dX1_copyFrom_10 : decode cX1_copyFrom 10 = .ok (.aload_n 0, 1) := by decide +kernel
theorem dX1_copyFrom_11 : decode cX1_copyFrom 11 = .ok (.getfield 9, 3) := by decide +kernel
theorem dX1_copyFrom_14 : decode cX1_copyFrom 14 = .ok (.arraylength, 1) := by decide +kernel
theorem dX1_copyFrom_15 : decode cX1_copyFrom 15 = .ok (.invokestatic 15, 3) := by decide +kernel
theorem dX1_copyFrom_18 : decode cX1_copyFrom 18 = .ok (.aload_n 0, 1) := by decide +kernel
theorem dX1_copyFrom_19 : decode cX1_copyFrom 19 = .ok (.aload_n 1, 1) := by decide +kernel
theorem dX1_copyFrom_20 : decode cX1_copyFrom 20 = .ok (.getfield 21, 3) := by decide +kernel
theorem dX1_copyFrom_23 : decode cX1_copyFrom 23 = .ok (.putfield 21, 3) := by decide +kernel
theorem dX1_copyFrom_26 : decode cX1_copyFrom 26 = .ok (.return_, 1) := by decide +kernel
theorem dX1_part_0 : decode cX1_part 0 = .ok (.iload_n 1, 1) := by decide +kernel
theorem dX1_part_1 : decode cX1_part 1 = .ok (.ifCond .lt 20, 3) := by decide +kernel
theorem dX1_part_4 : decode cX1_part 4 = .ok (.iload_n 1, 1) := by decide +kernel
theorem dX1_part_5 : decode cX1_part 5 = .ok (.aload_n 0, 1) := by decide +kernel
theorem dX1_part_6 : decode cX1_part 6 = .ok (.getfield 21, 3) := by decide +kernel
theorem dX1_part_9 : decode cX1_part 9 = .ok (.if_icmp .ge 12, 3) := by decide +kernel
theorem dX1_part_12 : decode cX1_part 12 = .ok (.iload_n 2, 1) := by decide +kernel
theorem dX1_part_13 : decode cX1_part 13 = .ok (.ifCond .lt 8, 3) := by decide +kernel
theorem dX1_part_16 : decode cX1_part 16 = .ok (.iload_n 2, 1) := by decide +kernel
theorem dX1_part_17 : decode cX1_part 17 = .ok (.iconst 3, 1) := by decide +kernel
theorem dX1_part_18 : decode cX1_part 18 = .ok (.if_icmp .le 6, 3) := by decide +kernel
theorem dX1_part_21 : decode cX1_part 21 = .ok (.bipush (-6), 2) := by decide +kernel
theorem dX1_part_23 : decode cX1_part 23 = .ok (.ireturn, 1) := by decide +kernel
theorem dX1_part_24 : decode cX1_part 24 = .ok (.aload_n 0, 1) := by decide +kernel
theorem dX1_part_25 : decode cX1_part 25 = .ok (.getfield 9, 3) := by decide +kernel
theorem dX1_part_28 : decode cX1_part 28 = .ok (.iload_n 1, 1) := by decide +kernel
theorem dX1_part_29 : decode cX1_part 29 = .ok (.iconst 4, 1) := by decide +kernel
theorem dX1_part_30 : decode cX1_part 30 = .ok (.imul, 1) := by decide +kernel
theorem dX1_part_31 : decode cX1_part 31 = .ok (.iload_n 2, 1) := by decide +kernel
theorem dX1_part_32 : decode cX1_part 32 = .ok (.iadd, 1) := by decide +kernel
theorem dX1_part_33 : decode cX1_part 33 = .ok (.iaload, 1) := by decide +kernel
theorem dX1_part_34 : decode cX1_part 34 = .ok (.ireturn, 1) := by decide +kernel
theorem dX1_target_0 : decode cX1_target 0 = .ok (.aload_n 0, 1) := by decide +kernel
theorem dX1_target_1 : decode cX1_target 1 = .ok (.iload_n 1, 1) := by decide +kernel
theorem dX1_target_2 : decode cX1_target 2 = .ok (.iconst 0, 1) := by decide +kernel
theorem dX1_target_3 : decode cX1_target 3 = .ok (.invokevirtual 25, 3) := by decide +kernel
theorem dX1_target_6 : decode cX1_target 6 = .ok (.istore_n 2, 1) := by decide +kernel
theorem dX1_target_7 : decode cX1_target 7 = .ok (.iload_n 2, 1) := by decide +kernel
theorem dX1_target_8 : decode cX1_target 8 = .ok (.invokestatic 29, 3) := by decide +kernel
theorem dX1_target_11 : decode cX1_target 11 = .ok (.ifCond .eq 7, 3) := by decide +kernel
theorem dX1_target_14 : decode cX1_target 14 = .ok (.iconst 0, 1) := by decide +kernel
theorem dX1_target_15 : decode cX1_target 15 = .ok (.goto 4, 3) := by decide +kernel
theorem dX1_target_18 : decode cX1_target 18 = .ok (.iload_n 2, 1) := by decide +kernel
theorem dX1_target_19 : decode cX1_target 19 = .ok (.ireturn, 1) := by decide +kernel
theorem dX1_add_0 : decode cX1_add 0 = .ok (.aload_n 0, 1) := by decide +kernel
theorem dX1_add_1 : decode cX1_add 1 = .ok (.getfield 21, 3) := by decide +kernel
theorem dX1_add_4 : decode cX1_add 4 = .ok (.bipush 12, 2) := by decide +kernel
theorem dX1_add_6 : decode cX1_add 6 = .ok (.if_icmp .ge 39, 3) := by decide +kernel
theorem dX1_add_9 : decode cX1_add 9 = .ok (.aload_n 0, 1) := by decide +kernel
theorem dX1_add_10 : decode cX1_add 10 = .ok (.dup, 1) := by decide +kernel
theorem dX1_add_11 : decode cX1_add 11 = .ok (.getfield 21, 3) := by decide +kernel
theorem dX1_add_14 : decode cX1_add 14 = .ok (.iconst 1, 1) := by decide +kernel
theorem dX1_add_15 : decode cX1_add 15 = .ok (.iadd, 1) := by decide +kernel
theorem dX1_add_16 : decode cX1_add 16 = .ok (.putfield 21, 3) := by decide +kernel
theorem dX1_add_19 : decode cX1_add 19 = .ok (.aload_n 0, 1) := by decide +kernel
theorem dX1_add_20 : decode cX1_add 20 = .ok (.aload_n 0, 1) := by decide +kernel
theorem dX1_add_21 : decode cX1_add 21 = .ok (.getfield 21, 3) := by decide +kernel
theorem dX1_add_24 : decode cX1_add 24 = .ok (.iconst 1, 1) := by decide +kernel
theorem dX1_add_25 : decode cX1_add 25 = .ok (.isub, 1) := by decide +kernel
theorem dX1_add_26 : decode cX1_add 26 = .ok (.iload_n 1, 1) := by decide +kernel
theorem dX1_add_27 : decode cX1_add 27 = .ok (.iconst 0, 1) := by decide +kernel
theorem dX1_add_28 : decode cX1_add 28 = .ok (.invokevirtual 33, 3) := by decide +kernel
theorem dX1_add_31 : decode cX1_add 31 = .ok (.aload_n 0, 1) := by decide +kernel
theorem dX1_add_32 : decode cX1_add 32 = .ok (.aload_n 0, 1) := by decide +kernel
theorem dX1_add_33 : decode cX1_add 33 = .ok (.getfield 21, 3) := by decide +kernel
theorem dX1_add_36 : decode cX1_add 36 = .ok (.iconst 1, 1) := by decide +kernel
theorem dX1_add_37 : decode cX1_add 37 = .ok (.isub, 1) := by decide +kernel
theorem dX1_add_38 : decode cX1_add 38 = .ok (.iload_n 2, 1) := by decide +kernel
theorem dX1_add_39 : decode cX1_add 39 = .ok (.iload_n 3, 1) := by decide +kernel
theorem dX1_add_40 : decode cX1_add 40 = .ok (.iload 4, 2) := by decide +kernel
theorem dX1_add_42 : decode cX1_add 42 = .ok (.invokevirtual 37, 3) := by decide +kernel
theorem dX1_add_45 : decode cX1_add 45 = .ok (.return_, 1) := by decide +kernel
theorem dX1_addFrom_0 : decode cX1_addFrom 0 = .ok (.aload_n 0, 1) := by decide +kernel
theorem dX1_addFrom_1 : decode cX1_addFrom 1 = .ok (.aload_n 1, 1) := by decide +kernel
theorem dX1_addFrom_2 : decode cX1_addFrom 2 = .ok (.iload_n 2, 1) := by decide +kernel
theorem dX1_addFrom_3 : decode cX1_addFrom 3 = .ok (.invokevirtual 41, 3) := by decide +kernel
theorem dX1_addFrom_6 : decode cX1_addFrom 6 = .ok (.aload_n 1, 1) := by decide +kernel
theorem dX1_addFrom_7 : decode cX1_addFrom 7 = .ok (.iload_n 2, 1) := by decide +kernel
theorem dX1_addFrom_8 : decode cX1_addFrom 8 = .ok (.iconst 1, 1) := by decide +kernel
theorem dX1_addFrom_9 : decode cX1_addFrom 9 = .ok (.invokevirtual 25, 3) := by decide +kernel
theorem dX1_addFrom_12 : decode cX1_addFrom 12 = .ok (.aload_n 1, 1) := by decide +kernel
theorem dX1_addFrom_13 : decode cX1_addFrom 13 = .ok (.iload_n 2, 1) := by decide +kernel
theorem dX1_addFrom_14 : decode cX1_addFrom 14 = .ok (.iconst 2, 1) := by decide +kernel
theorem dX1_addFrom_15 : decode cX1_addFrom 15 = .ok (.invokevirtual 25, 3) := by decide +kernel
theorem dX1_addFrom_18 : decode cX1_addFrom 18 = .ok (.aload_n 1, 1) := by decide +kernel
theorem dX1_addFrom_19 : decode cX1_addFrom 19 = .ok (.iload_n 2, 1) := by decide +kernel
theorem dX1_addFrom_20 : decode cX1_addFrom 20 = .ok (.iconst 3, 1) := by decide +kernel
theorem dX1_addFrom_21 : decode cX1_addFrom 21 = .ok (.invokevirtual 25, 3) := by decide +kernel
theorem dX1_addFrom_24 : decode cX1_addFrom 24 = .ok (.invokevirtual 45, 3) := by decide +kernel
theorem dX1_addFrom_27 : decode cX1_addFrom 27 = .ok (.return_, 1) := by decide +kernel
theorem dX1_rewrite_0 : decode cX1_rewrite 0 = .ok (.aload_n 0, 1) := by decide +kernel
theorem dX1_rewrite_1 : decode cX1_rewrite 1 = .ok (.iload_n 1, 1) := by decide +kernel
theorem dX1_rewrite_2 : decode cX1_rewrite 2 = .ok (.iload_n 2, 1) := by decide +kernel
theorem dX1_rewrite_3 : decode cX1_rewrite 3 = .ok (.iconst 1, 1) := by decide +kernel
theorem dX1_rewrite_4 : decode cX1_rewrite 4 = .ok (.invokevirtual 33, 3) := by decide +kernel
theorem dX1_rewrite_7 : decode cX1_rewrite 7 = .ok (.aload_n 0, 1) := by decide +kernel
theorem dX1_rewrite_8 : decode cX1_rewrite 8 = .ok (.iload_n 1, 1) := by decide +kernel
theorem dX1_rewrite_9 : decode cX1_rewrite 9 = .ok (.iload_n 3, 1) := by decide +kernel
theorem dX1_rewrite_10 : decode cX1_rewrite 10 = .ok (.iconst 2, 1) := by decide +kernel
theorem dX1_rewrite_11 : decode cX1_rewrite 11 = .ok (.invokevirtual 33, 3) := by decide +kernel
theorem dX1_rewrite_14 : decode cX1_rewrite 14 = .ok (.aload_n 0, 1) := by decide +kernel
theorem dX1_rewrite_15 : decode cX1_rewrite 15 = .ok (.iload_n 1, 1) := by decide +kernel
theorem dX1_rewrite_16 : decode cX1_rewrite 16 = .ok (.iload 4, 2) := by decide +kernel
theorem dX1_rewrite_18 : decode cX1_rewrite 18 = .ok (.iconst 3, 1) := by decide +kernel
theorem dX1_rewrite_19 : decode cX1_rewrite 19 = .ok (.invokevirtual 33, 3) := by decide +kernel
theorem dX1_rewrite_22 : decode cX1_rewrite 22 = .ok (.return_, 1) := by decide +kernel
theorem dX1_change_0 : decode cX1_change 0 = .ok (.iload_n 1, 1) := by decide +kernel
theorem dX1_change_1 : decode cX1_change 1 = .ok (.ifCond .lt 31, 3) := by decide +kernel
theorem dX1_change_4 : decode cX1_change 4 = .ok (.iload_n 1, 1) := by decide +kernel
theorem dX1_change_5 : decode cX1_change 5 = .ok (.aload_n 0, 1) := by decide +kernel
theorem dX1_change_6 : decode cX1_change 6 = .ok (.getfield 21, 3) := by decide +kernel
theorem dX1_change_9 : decode cX1_change 9 = .ok (.if_icmp .ge 23, 3) := by decide +kernel
theorem dX1_change_12 : decode cX1_change 12 = .ok (.iload_n 3, 1) := by decide +kernel
theorem dX1_change_13 : decode cX1_change 13 = .ok (.ifCond .lt 19, 3) := by decide +kernel
theorem dX1_change_16 : decode cX1_change 16 = .ok (.iload_n 3, 1) := by decide +kernel
theorem dX1_change_17 : decode cX1_change 17 = .ok (.iconst 3, 1) := by decide +kernel
theorem dX1_change_18 : decode cX1_change 18 = .ok (.if_icmp .gt 14, 3) := by decide +kernel
theorem dX1_change_21 : decode cX1_change 21 = .ok (.aload_n 0, 1) := by decide +kernel
theorem dX1_change_22 : decode cX1_change 22 = .ok (.getfield 9, 3) := by decide +kernel
theorem dX1_change_25 : decode cX1_change 25 = .ok (.iload_n 1, 1) := by decide +kernel
theorem dX1_change_26 : decode cX1_change 26 = .ok (.iconst 4, 1) := by decide +kernel
theorem dX1_change_27 : decode cX1_change 27 = .ok (.imul, 1) := by decide +kernel
theorem dX1_change_28 : decode cX1_change 28 = .ok (.iload_n 3, 1) := by decide +kernel
theorem dX1_change_29 : decode cX1_change 29 = .ok (.iadd, 1) := by decide +kernel
theorem dX1_change_30 : decode cX1_change 30 = .ok (.iload_n 2, 1) := by decide +kernel
theorem dX1_change_31 : decode cX1_change 31 = .ok (.iastore, 1) := by decide +kernel
theorem dX1_change_32 : decode cX1_change 32 = .ok (.return_, 1) := by decide +kernel
theorem dX1_readBits_0 : decode cX1_readBits 0 = .ok (.aload_n 0, 1) := by decide +kernel
theorem dX1_readBits_1 : decode cX1_readBits 1 = .ok (.iload_n 1, 1) := by decide +kernel
theorem dX1_readBits_2 : decode cX1_readBits 2 = .ok (.iconst 2, 1) := by decide +kernel
theorem dX1_readBits_3 : decode cX1_readBits 3 = .ok (.invokevirtual 25, 3) := by decide +kernel
theorem dX1_readBits_6 : decode cX1_readBits 6 = .ok (.invokestatic 48, 3) := by decide +kernel
theorem dX1_readBits_9 : decode cX1_readBits 9 = .ok (.aload_n 0, 1) := by decide +kernel
theorem dX1_readBits_10 : decode cX1_readBits 10 = .ok (.iload_n 1, 1) := by decide +kernel
theorem dX1_readBits_11 : decode cX1_readBits 11 = .ok (.iconst 3, 1) := by decide +kernel
theorem dX1_readBits_12 : decode cX1_readBits 12 = .ok (.invokevirtual 25, 3) := by decide +kernel
theorem dX1_readBits_15 : decode cX1_readBits 15 = .ok (.invokestatic 48, 3) := by decide +kernel
theorem dX1_readBits_18 : decode cX1_readBits 18 = .ok (.ior, 1) := by decide +kernel
theorem dX1_readBits_19 : decode cX1_readBits 19 = .ok (.ireturn, 1) := by decide +kernel
theorem dX1_named_0 : decode cX1_named 0 = .ok (.iconst 0, 1) := by decide +kernel
theorem dX1_named_1 : decode cX1_named 1 = .ok (.istore_n 1, 1) := by decide +kernel
theorem dX1_named_2 : decode cX1_named 2 = .ok (.iconst 0, 1) := by decide +kernel
theorem dX1_named_3 : decode cX1_named 3 = .ok (.istore_n 2, 1) := by decide +kernel
theorem dX1_named_4 : decode cX1_named 4 = .ok (.iload_n 2, 1) := by decide +kernel
theorem dX1_named_5 : decode cX1_named 5 = .ok (.aload_n 0, 1) := by decide +kernel
theorem dX1_named_6 : decode cX1_named 6 = .ok (.getfield 21, 3) := by decide +kernel
theorem dX1_named_9 : decode cX1_named 9 = .ok (.if_icmp .ge 25, 3) := by decide +kernel
theorem dX1_named_12 : decode cX1_named 12 = .ok (.iload_n 1, 1) := by decide +kernel
theorem dX1_named_13 : decode cX1_named 13 = .ok (.aload_n 0, 1) := by decide +kernel
theorem dX1_named_14 : decode cX1_named 14 = .ok (.iload_n 2, 1) := by decide +kernel
theorem dX1_named_15 : decode cX1_named 15 = .ok (.invokevirtual 51, 3) := by decide +kernel
theorem dX1_named_18 : decode cX1_named 18 = .ok (.iconst 1, 1) := by decide +kernel
theorem dX1_named_19 : decode cX1_named 19 = .ok (.aload_n 0, 1) := by decide +kernel
theorem dX1_named_20 : decode cX1_named 20 = .ok (.iload_n 2, 1) := by decide +kernel
theorem dX1_named_21 : decode cX1_named 21 = .ok (.invokevirtual 41, 3) := by decide +kernel
theorem dX1_named_24 : decode cX1_named 24 = .ok (.ishl, 1) := by decide +kernel
theorem dX1_named_25 : decode cX1_named 25 = .ok (.ior, 1) := by decide +kernel
theorem dX1_named_26 : decode cX1_named 26 = .ok (.ior, 1) := by decide +kernel
theorem dX1_named_27 : decode cX1_named 27 = .ok (.istore_n 1, 1) := by decide +kernel
theorem dX1_named_28 : decode cX1_named 28 = .ok (.iinc 2 1, 3) := by decide +kernel
theorem dX1_named_31 : decode cX1_named 31 = .ok (.goto (-27), 3) := by decide +kernel
theorem dX1_named_34 : decode cX1_named 34 = .ok (.iload_n 1, 1) := by decide +kernel
theorem dX1_named_35 : decode cX1_named 35 = .ok (.ireturn, 1) := by decide +kernel
theorem dX1_bitOf_0 : decode cX1_bitOf 0 = .ok (.iload_n 0, 1) := by decide +kernel
theorem dX1_bitOf_1 : decode cX1_bitOf 1 = .ok (.invokestatic 29, 3) := by decide +kernel
theorem dX1_bitOf_4 : decode cX1_bitOf 4 = .ok (.ifCond .eq 7, 3) := by decide +kernel
theorem dX1_bitOf_7 : decode cX1_bitOf 7 = .ok (.iconst 0, 1) := by decide +kernel
theorem dX1_bitOf_8 : decode cX1_bitOf 8 = .ok (.goto 6, 3) := by decide +kernel
theorem dX1_bitOf_11 : decode cX1_bitOf 11 = .ok (.iconst 1, 1) := by decide +kernel
theorem dX1_bitOf_12 : decode cX1_bitOf 12 = .ok (.iload_n 0, 1) := by decide +kernel
theorem dX1_bitOf_13 : decode cX1_bitOf 13 = .ok (.ishl, 1) := by decide +kernel
theorem dX1_bitOf_14 : decode cX1_bitOf 14 = .ok (.ireturn, 1) := by decide +kernel
theorem dX2_init_0 : decode cX2_init 0 = .ok (.aload_n 0, 1) := by decide +kernel
theorem dX2_init_1 : decode cX2_init 1 = .ok (.invokespecial 3, 3) := by decide +kernel
theorem dX2_init_4 : decode cX2_init 4 = .ok (.aload_n 0, 1) := by decide +kernel
theorem dX2_init_5 : decode cX2_init 5 = .ok (.new 9, 3) := by decide +kernel
theorem dX2_init_8 : decode cX2_init 8 = .ok (.dup, 1) := by decide +kernel
theorem dX2_init_9 : decode cX2_init 9 = .ok (.invokespecial 11, 3) := by decide +kernel
theorem dX2_init_12 : decode cX2_init 12 = .ok (.putfield 12, 3) := by decide +kernel
theorem dX2_init_15 : decode cX2_init 15 = .ok (.aload_n 0, 1) := by decide +kernel
theorem dX2_init_16 : decode cX2_init 16 = .ok (.new 9, 3) := by decide +kernel
theorem dX2_init_19 : decode cX2_init 19 = .ok (.dup, 1) := by decide +kernel
theorem dX2_init_20 : decode cX2_init 20 = .ok (.invokespecial 11, 3) := by decide +kernel
theorem dX2_init_23 : decode cX2_init 23 = .ok (.putfield 18, 3) := by decide +kernel
theorem dX2_init_26 : decode cX2_init 26 = .ok (.aload_n 0, 1) := by decide +kernel
theorem dX2_init_27 : decode cX2_init 27 = .ok (.iconst 4, 1) := by decide +kernel
theorem dX2_init_28 : decode cX2_init 28 = .ok (.anewarray 21, 3) := by decide +kernel
theorem dX2_init_31 : decode cX2_init 31 = .ok (.putfield 23, 3) := by decide +kernel
theorem dX2_init_34 : decode cX2_init 34 = .ok (.aload_n 0, 1) := by decide +kernel
theorem dX2_init_35 : decode cX2_init 35 = .ok (.iconst 5, 1) := by decide +kernel
theorem dX2_init_36 : decode cX2_init 36 = .ok (.newarray .int, 2) := by decide +kernel
theorem dX2_init_38 : decode cX2_init 38 = .ok (.putfield 27, 3) := by decide +kernel
theorem dX2_init_41 : decode cX2_init 41 = .ok (.aload_n 0, 1) := by decide +kernel
theorem dX2_init_42 : decode cX2_init 42 = .ok (.bipush 15, 2) := by decide +kernel
theorem dX2_init_44 : decode cX2_init 44 = .ok (.putfield 31, 3) := by decide +kernel
theorem dX2_init_47 : decode cX2_init 47 = .ok (.iconst 0, 1) := by decide +kernel
theorem dX2_init_48 : decode cX2_init 48 = .ok (.istore_n 1, 1) := by decide +kernel
theorem dX2_init_49 : decode cX2_init 49 = .ok (.iload_n 1, 1) := by decide +kernel
theorem dX2_init_50 : decode cX2_init 50 = .ok (.iconst 4, 1) := by decide +kernel
theorem dX2_init_51 : decode cX2_init 51 = .ok (.if_icmp .ge 22, 3) := by decide +kernel
theorem dX2_init_54 : decode cX2_init 54 = .ok (.aload_n 0, 1) := by decide +kernel
theorem dX2_init_55 : decode cX2_init 55 = .ok (.getfield 23, 3) := by decide +kernel
theorem dX2_init_58 : decode cX2_init 58 = .ok (.iload_n 1, 1) := by decide +kernel
theorem dX2_init_59 : decode cX2_init 59 = .ok (.new 21, 3) := by decide +kernel
theorem dX2_init_62 : decode cX2_init 62 = .ok (.dup, 1) := by decide +kernel
theorem dX2_init_63 : decode cX2_init 63 = .ok (.invokespecial 35, 3) := by decide +kernel
theorem dX2_init_66 : decode cX2_init 66 = .ok (.aastore, 1) := by decide +kernel
theorem dX2_init_67 : decode cX2_init 67 = .ok (.iinc 1 1, 3) := by decide +kernel
theorem dX2_init_70 : decode cX2_init 70 = .ok (.goto (-21), 3) := by decide +kernel
theorem dX2_init_73 : decode cX2_init 73 = .ok (.aload_n 0, 1) := by decide +kernel
theorem dX2_init_74 : decode cX2_init 74 = .ok (.getfield 27, 3) := by decide +kernel
theorem dX2_init_77 : decode cX2_init 77 = .ok (.iconst 1, 1) := by decide +kernel
theorem dX2_init_78 : decode cX2_init 78 = .ok (.invokestatic 36, 3) := by decide +kernel
theorem dX2_init_81 : decode cX2_init 81 = .ok (.return_, 1) := by decide +kernel
theorem dX2_copyFrom_0 : decode cX2_copyFrom 0 = .ok (.aload_n 0, 1) := by decide +kernel
theorem dX2_copyFrom_1 : decode cX2_copyFrom 1 = .ok (.getfield 12, 3) := by decide +kernel
theorem dX2_copyFrom_4 : decode cX2_copyFrom 4 = .ok (.aload_n 1, 1) := by decide +kernel
theorem dX2_copyFrom_5 : decode cX2_copyFrom 5 = .ok (.getfield 12, 3) := by decide +kernel
theorem dX2_copyFrom_8 : decode cX2_copyFrom 8 = .ok (.invokevirtual 42, 3) := by decide +kernel
theorem dX2_copyFrom_11 : decode cX2_copyFrom 11 = .ok (.aload_n 0, 1) := by decide +kernel
theorem dX2_copyFrom_12 : decode cX2_copyFrom 12 = .ok (.getfield 18, 3) := by decide +kernel
theorem dX2_copyFrom_15 : decode cX2_copyFrom 15 = .ok (.aload_n 1, 1) := by decide +kernel
theorem dX2_copyFrom_16 : decode cX2_copyFrom 16 = .ok (.getfield 18, 3) := by decide +kernel
theorem dX2_copyFrom_19 : decode cX2_copyFrom 19 = .ok (.invokevirtual 42, 3) := by decide +kernel
theorem dX2_copyFrom_22 : decode cX2_copyFrom 22 = .ok (.iconst 0, 1) := by decide +kernel
theorem dX2_copyFrom_23 : decode cX2_copyFrom 23 = .ok (.istore_n 2, 1) := by decide +kernel
theorem dX2_copyFrom_24 : decode cX2_copyFrom 24 = .ok (.iload_n 2, 1) := by decide +kernel
theorem dX2_copyFrom_25 : decode cX2_copyFrom 25 = .ok (.iconst 4, 1) := by decide +kernel
theorem dX2_copyFrom_26 : decode cX2_copyFrom 26 = .ok (.if_icmp .ge 36, 3) := by decide +kernel
theorem dX2_copyFrom_29 : decode cX2_copyFrom 29 = .ok (.aload_n 0, 1) := by decide +kernel
theorem dX2_copyFrom_30 : decode cX2_copyFrom 30 = .ok (.getfield 23, 3) := by decide +kernel
theorem dX2_copyFrom_33 : decode cX2_copyFrom 33 = .ok (.iload_n 2, 1) := by decide +kernel
theorem dX2_copyFrom_34 : decode cX2_copyFrom 34 = .ok (.aaload, 1) := by decide +kernel
theorem dX2_copyFrom_35 : decode cX2_copyFrom 35 = .ok (.aload_n 1, 1) := by decide +kernel
theorem dX2_copyFrom_36 : decode cX2_copyFrom 36 = .ok (.getfield 23, 3) := by decide +kernel
theorem dX2_copyFrom_39 : decode cX2_copyFrom 39 = .ok (.iload_n 2, 1) := by decide +kernel
theorem dX2_copyFrom_40 : decode cX2_copyFrom 40 = .ok (.aaload, 1) := by decide +kernel
theorem dX2_copyFrom_41 : decode cX2_copyFrom 41 = .ok (.getfield 46, 3) := by decide +kernel
theorem dX2_copyFrom_44 : decode cX2_copyFrom 44 = .ok (.aload_n 1, 1) := by decide +kernel
theorem dX2_copyFrom_45 : decode cX2_copyFrom 45 = .ok (.getfield 23, 3) := by decide +kernel
theorem dX2_copyFrom_48 : decode cX2_copyFrom 48 = .ok (.iload_n 2, 1) := by decide +kernel
theorem dX2_copyFrom_49 : decode cX2_copyFrom 49 = .ok (.aaload, 1) := by decide +kernel
theorem dX2_copyFrom_50 : decode cX2_copyFrom 50 = .ok (.getfield 49, 3) := by decide +kernel
theorem dX2_copyFrom_53 : decode cX2_copyFrom 53 = .ok (.invokevirtual 52, 3) := by decide +kernel
theorem dX2_copyFrom_56 : decode cX2_copyFrom 56 = .ok (.iinc 2 1, 3) := by decide +kernel
theorem dX2_copyFrom_59 : decode cX2_copyFrom 59 = .ok (.goto (-35), 3) := by decide +kernel
theorem dX2_copyFrom_62 : decode cX2_copyFrom 62 = .ok (.aload_n 1, 1) := by decide +kernel
theorem dX2_copyFrom_63 : decode cX2_copyFrom 63 = .ok (.getfield 27, 3) := by decide +kernel
theorem dX2_copyFrom_66 : decode cX2_copyFrom 66 = .ok (.iconst 0, 1) := by decide +kernel
theorem dX2_copyFrom_67 : decode cX2_copyFrom 67 = .ok (.aload_n 0, 1) := by decide +kernel
theorem dX2_copyFrom_68 : decode cX2_copyFrom 68 = .ok (.getfield 27, 3) := by decide +kernel
theorem dX2_copyFrom_71 : decode cX2_copyFrom 71 = .ok (.iconst 0, 1) := by decide +kernel
theorem dX2_copyFrom_72 : decode cX2_copyFrom 72 = .ok (.iconst 5, 1) := by decide +kernel
theorem dX2_copyFrom_73 : decode cX2_copyFrom 73 = .ok (.invokestatic 56, 3) := by decide +kernel
theorem dX2_copyFrom_76 : decode cX2_copyFrom 76 = .ok (.aload_n 0, 1) := by decide +kernel
theorem dX2_copyFrom_77 : decode cX2_copyFrom 77 = .ok (.aload_n 1, 1) := by decide +kernel
theorem dX2_copyFrom_78 : decode cX2_copyFrom 78 = .ok (.getfield 62, 3) := by decide +kernel
theorem dX2_copyFrom_81 : decode cX2_copyFrom 81 = .ok (.putfield 62, 3) := by decide +kernel
theorem dX2_copyFrom_84 : decode cX2_copyFrom 84 = .ok (.aload_n 0, 1) := by decide +kernel
theorem dX2_copyFrom_85 : decode cX2_copyFrom 85 = .ok (.aload_n 1, 1) := by decide +kernel
theorem dX2_copyFrom_86 : decode cX2_copyFrom 86 = .ok (.getfield 31, 3) := by decide +kernel
theorem dX2_copyFrom_89 : decode cX2_copyFrom 89 = .ok (.putfield 31, 3) := by decide +kernel
theorem dX2_copyFrom_92 : decode cX2_copyFrom 92 = .ok (.return_, 1) := by decide +kernel
theorem dX3_init_0 : decode cX3_init 0 = .ok (.aload_n 0, 1) := by decide +kernel
theorem dX3_init_1 : decode cX3_init 1 = .ok (.invokespecial 3, 3) := by decide +kernel
theorem dX3_init_4 : decode cX3_init 4 = .ok (.aload_n 0, 1) := by decide +kernel
theorem dX3_init_5 : decode cX3_init 5 = .ok (.bipush 13, 2) := by decide +kernel
theorem dX3_init_7 : decode cX3_init 7 = .ok (.newarray .int, 2) := by decide +kernel
theorem dX3_init_9 : decode cX3_init 9 = .ok (.putfield 9, 3) := by decide +kernel
theorem dX3_init_12 : decode cX3_init 12 = .ok (.aload_n 0, 1) := by decide +kernel
theorem dX3_init_13 : decode cX3_init 13 = .ok (.bipush 52, 2) := by decide +kernel
theorem dX3_init_15 : decode cX3_init 15 = .ok (.newarray .int, 2) := by decide +kernel
theorem dX3_init_17 : decode cX3_init 17 = .ok (.putfield 15, 3) := by decide +kernel
theorem dX3_init_20 : decode cX3_init 20 = .ok (.aload_n 0, 1) := by decide +kernel
theorem dX3_init_21 : decode cX3_init 21 = .ok (.bipush 52, 2) := by decide +kernel
theorem dX3_init_23 : decode cX3_init 23 = .ok (.newarray .int, 2) := by decide +kernel
theorem dX3_init_25 : decode cX3_init 25 = .ok (.putfield 18, 3) := by decide +kernel
theorem dX3_init_28 : decode cX3_init 28 = .ok (.aload_n 0, 1) := by decide +kernel
theorem dX3_init_29 : decode cX3_init 29 = .ok (.bipush 12, 2) := by decide +kernel
theorem dX3_init_31 : decode cX3_init 31 = .ok (.newarray .int, 2) := by decide +kernel
theorem dX3_init_33 : decode cX3_init 33 = .ok (.putfield 21, 3) := by decide +kernel
theorem dX3_init_36 : decode cX3_init 36 = .ok (.aload_n 0, 1) := by decide +kernel
theorem dX3_init_37 : decode cX3_init 37 = .ok (.bipush 8, 2) := by decide +kernel
theorem dX3_init_39 : decode cX3_init 39 = .ok (.newarray .int, 2) := by decide +kernel
theorem dX3_init_41 : decode cX3_init 41 = .ok (.putfield 24, 3) := by decide +kernel
theorem dX3_init_44 : decode cX3_init 44 = .ok (.aload_n 0, 1) := by decide +kernel
theorem dX3_init_45 : decode cX3_init 45 = .ok (.bipush 40, 2) := by decide +kernel
theorem dX3_init_47 : decode cX3_init 47 = .ok (.newarray .int, 2) := by decide +kernel
theorem dX3_init_49 : decode cX3_init 49 = .ok (.putfield 27, 3) := by decide +kernel
theorem dX3_init_52 : decode cX3_init 52 = .ok (.aload_n 0, 1) := by decide +kernel
theorem dX3_init_53 : decode cX3_init 53 = .ok (.bipush 40, 2) := by decide +kernel
theorem dX3_init_55 : decode cX3_init 55 = .ok (.newarray .int, 2) := by decide +kernel
theorem dX3_init_57 : decode cX3_init 57 = .ok (.putfield 30, 3) := by decide +kernel
theorem dX3_init_60 : decode cX3_init 60 = .ok (.aload_n 0, 1) := by decide +kernel
theorem dX3_init_61 : decode cX3_init 61 = .ok (.bipush 40, 2) := by decide +kernel
theorem dX3_init_63 : decode cX3_init 63 = .ok (.newarray .int, 2) := by decide +kernel
theorem dX3_init_65 : decode cX3_init 65 = .ok (.putfield 33, 3) := by decide +kernel
theorem dX3_init_68 : decode cX3_init 68 = .ok (.return_, 1) := by decide +kernel
theorem dX3_followLive_0 : decode cX3_followLive 0 = .ok (.aload_n 0, 1) := by decide +kernel
theorem dX3_followLive_1 : decode cX3_followLive 1 = .ok (.getfield 9, 3) := by decide +kernel
theorem dX3_followLive_4 : decode cX3_followLive 4 = .ok (.aload_n 1, 1) := by decide +kernel
theorem dX3_followLive_5 : decode cX3_followLive 5 = .ok (.getfield 36, 3) := by decide +kernel
theorem dX3_followLive_8 : decode cX3_followLive 8 = .ok (.iload_n 2, 1) := by decide +kernel
theorem dX3_followLive_9 : decode cX3_followLive 9 = .ok (.iastore, 1) := by decide +kernel
theorem dX3_followLive_10 : decode cX3_followLive 10 = .ok (.aload_n 1, 1) := by decide +kernel
theorem dX3_followLive_11 : decode cX3_followLive 11 = .ok (.getfield 36, 3) := by decide +kernel
theorem dX3_followLive_14 : decode cX3_followLive 14 = .ok (.iconst 1, 1) := by decide +kernel
theorem dX3_followLive_15 : decode cX3_followLive 15 = .ok (.isub, 1) := by decide +kernel
theorem dX3_followLive_16 : decode cX3_followLive 16 = .ok (.istore_n 3, 1) := by decide +kernel
theorem dX3_followLive_17 : decode cX3_followLive 17 = .ok (.iload_n 3, 1) := by decide +kernel
theorem dX3_followLive_18 : decode cX3_followLive 18 = .ok (.ifCond .lt 39, 3) := by decide +kernel
theorem dX3_followLive_21 : decode cX3_followLive 21 = .ok (.aload_n 0, 1) := by decide +kernel
theorem dX3_followLive_22 : decode cX3_followLive 22 = .ok (.getfield 9, 3) := by decide +kernel
theorem dX3_followLive_25 : decode cX3_followLive 25 = .ok (.iload_n 3, 1) := by decide +kernel
theorem dX3_followLive_26 : decode cX3_followLive 26 = .ok (.aload_n 0, 1) := by decide +kernel
theorem dX3_followLive_27 : decode cX3_followLive 27 = .ok (.getfield 9, 3) := by decide +kernel
theorem dX3_followLive_30 : decode cX3_followLive 30 = .ok (.iload_n 3, 1) := by decide +kernel
theorem dX3_followLive_31 : decode cX3_followLive 31 = .ok (.iconst 1, 1) := by decide +kernel
theorem dX3_followLive_32 : decode cX3_followLive 32 = .ok (.iadd, 1) := by decide +kernel
theorem dX3_followLive_33 : decode cX3_followLive 33 = .ok (.iaload, 1) := by decide +kernel
theorem dX3_followLive_34 : decode cX3_followLive 34 = .ok (.iconst 1, 1) := by decide +kernel
theorem dX3_followLive_35 : decode cX3_followLive 35 = .ok (.aload_n 1, 1) := by decide +kernel
theorem dX3_followLive_36 : decode cX3_followLive 36 = .ok (.iload_n 3, 1) := by decide +kernel
theorem dX3_followLive_37 : decode cX3_followLive 37 = .ok (.invokevirtual 42, 3) := by decide +kernel
theorem dX3_followLive_40 : decode cX3_followLive 40 = .ok (.ishl, 1) := by decide +kernel
theorem dX3_followLive_41 : decode cX3_followLive 41 = .ok (.iconst (-1), 1) := by decide +kernel
theorem dX3_followLive_42 : decode cX3_followLive 42 = .ok (.ixor, 1) := by decide +kernel
theorem dX3_followLive_43 : decode cX3_followLive 43 = .ok (.iand, 1) := by decide +kernel
theorem dX3_followLive_44 : decode cX3_followLive 44 = .ok (.aload_n 1, 1) := by decide +kernel
theorem dX3_followLive_45 : decode cX3_followLive 45 = .ok (.iload_n 3, 1) := by decide +kernel
theorem dX3_followLive_46 : decode cX3_followLive 46 = .ok (.invokevirtual 46, 3) := by decide +kernel
theorem dX3_followLive_49 : decode cX3_followLive 49 = .ok (.ior, 1) := by decide +kernel
theorem dX3_followLive_50 : decode cX3_followLive 50 = .ok (.iastore, 1) := by decide +kernel
theorem dX3_followLive_51 : decode cX3_followLive 51 = .ok (.iinc 3 (-1), 3) := by decide +kernel
theorem dX3_followLive_54 : decode cX3_followLive 54 = .ok (.goto (-37), 3) := by decide +kernel
theorem dX3_followLive_57 : decode cX3_followLive 57 = .ok (.return_, 1) := by decide +kernel
theorem dX3_isDead_0 : decode cX3_isDead 0 = .ok (.aload_n 0, 1) := by decide +kernel
theorem dX3_isDead_1 : decode cX3_isDead 1 = .ok (.getfield 9, 3) := by decide +kernel
theorem dX3_isDead_4 : decode cX3_isDead 4 = .ok (.iload_n 2, 1) := by decide +kernel
theorem dX3_isDead_5 : decode cX3_isDead 5 = .ok (.iconst 1, 1) := by decide +kernel
theorem dX3_isDead_6 : decode cX3_isDead 6 = .ok (.iadd, 1) := by decide +kernel
theorem dX3_isDead_7 : decode cX3_isDead 7 = .ok (.iaload, 1) := by decide +kernel
theorem dX3_isDead_8 : decode cX3_isDead 8 = .ok (.aload_n 1, 1) := by decide +kernel
theorem dX3_isDead_9 : decode cX3_isDead 9 = .ok (.iload_n 2, 1) := by decide +kernel
theorem dX3_isDead_10 : decode cX3_isDead 10 = .ok (.invokevirtual 42, 3) := by decide +kernel
theorem dX3_isDead_13 : decode cX3_isDead 13 = .ok (.ishr, 1) := by decide +kernel
theorem dX3_isDead_14 : decode cX3_isDead 14 = .ok (.iconst 1, 1) := by decide +kernel
theorem dX3_isDead_15 : decode cX3_isDead 15 = .ok (.iand, 1) := by decide +kernel
theorem dX3_isDead_16 : decode cX3_isDead 16 = .ok (.ifCond .ne 7, 3) := by decide +kernel
theorem dX3_isDead_19 : decode cX3_isDead 19 = .ok (.iconst 1, 1) := by decide +kernel
theorem dX3_isDead_20 : decode cX3_isDead 20 = .ok (.goto 4, 3) := by decide +kernel
theorem dX3_isDead_23 : decode cX3_isDead 23 = .ok (.iconst 0, 1) := by decide +kernel
theorem dX3_isDead_24 : decode cX3_isDead 24 = .ok (.ireturn, 1) := by decide +kernel
theorem dX3_followKnown_0 : decode cX3_followKnown 0 = .ok (.iconst 0, 1) := by decide +kernel
theorem dX3_followKnown_1 : decode cX3_followKnown 1 = .ok (.istore_n 2, 1) := by decide +kernel
theorem dX3_followKnown_2 : decode cX3_followKnown 2 = .ok (.iload_n 2, 1) := by decide +kernel
theorem dX3_followKnown_3 : decode cX3_followKnown 3 = .ok (.iconst 4, 1) := by decide +kernel
theorem dX3_followKnown_4 : decode cX3_followKnown 4 = .ok (.if_icmp .ge 17, 3) := by decide +kernel
theorem dX3_followKnown_7 : decode cX3_followKnown 7 = .ok (.aload_n 0, 1) := by decide +kernel
theorem dX3_followKnown_8 : decode cX3_followKnown 8 = .ok (.getfield 15, 3) := by decide +kernel
theorem dX3_followKnown_11 : decode cX3_followKnown 11 = .ok (.iload_n 2, 1) := by decide +kernel
theorem dX3_followKnown_12 : decode cX3_followKnown 12 = .ok (.bipush (-6), 2) := by decide +kernel
theorem dX3_followKnown_14 : decode cX3_followKnown 14 = .ok (.iastore, 1) := by decide +kernel
theorem dX3_followKnown_15 : decode cX3_followKnown 15 = .ok (.iinc 2 1, 3) := by decide +kernel
theorem dX3_followKnown_18 : decode cX3_followKnown 18 = .ok (.goto (-16), 3) := by decide +kernel
theorem dX3_followKnown_21 : decode cX3_followKnown 21 = .ok (.iconst 0, 1) := by decide +kernel
theorem dX3_followKnown_22 : decode cX3_followKnown 22 = .ok (.istore_n 2, 1) := by decide +kernel
theorem dX3_followKnown_23 : decode cX3_followKnown 23 = .ok (.iload_n 2, 1) := by decide +kernel
theorem dX3_followKnown_24 : decode cX3_followKnown 24 = .ok (.aload_n 1, 1) := by decide +kernel
theorem dX3_followKnown_25 : decode cX3_followKnown 25 = .ok (.getfield 36, 3) := by decide +kernel
theorem dX3_followKnown_28 : decode cX3_followKnown 28 = .ok (.if_icmp .ge 49, 3) := by decide +kernel
theorem dX3_followKnown_31 : decode cX3_followKnown 31 = .ok (.iload_n 2, 1) := by decide +kernel
theorem dX3_followKnown_32 : decode cX3_followKnown 32 = .ok (.iconst 4, 1) := by decide +kernel
theorem dX3_followKnown_33 : decode cX3_followKnown 33 = .ok (.imul, 1) := by decide +kernel
theorem dX3_followKnown_34 : decode cX3_followKnown 34 = .ok (.istore_n 3, 1) := by decide +kernel
theorem dX3_followKnown_35 : decode cX3_followKnown 35 = .ok (.aload_n 0, 1) := by decide +kernel
theorem dX3_followKnown_36 : decode cX3_followKnown 36 = .ok (.getfield 15, 3) := by decide +kernel
theorem dX3_followKnown_39 : decode cX3_followKnown 39 = .ok (.iload_n 3, 1) := by decide +kernel
theorem dX3_followKnown_40 : decode cX3_followKnown 40 = .ok (.aload_n 0, 1) := by decide +kernel
theorem dX3_followKnown_41 : decode cX3_followKnown 41 = .ok (.getfield 15, 3) := by decide +kernel
theorem dX3_followKnown_44 : decode cX3_followKnown 44 = .ok (.iload_n 3, 1) := by decide +kernel
theorem dX3_followKnown_45 : decode cX3_followKnown 45 = .ok (.iconst 4, 1) := by decide +kernel
theorem dX3_followKnown_46 : decode cX3_followKnown 46 = .ok (.iadd, 1) := by decide +kernel
theorem dX3_followKnown_47 : decode cX3_followKnown 47 = .ok (.iconst 4, 1) := by decide +kernel
theorem dX3_followKnown_48 : decode cX3_followKnown 48 = .ok (.invokestatic 49, 3) := by decide +kernel
theorem dX3_followKnown_51 : decode cX3_followKnown 51 = .ok (.aload_n 0, 1) := by decide +kernel
theorem dX3_followKnown_52 : decode cX3_followKnown 52 = .ok (.getfield 15, 3) := by decide +kernel
theorem dX3_followKnown_55 : decode cX3_followKnown 55 = .ok (.iload_n 3, 1) := by decide +kernel
theorem dX3_followKnown_56 : decode cX3_followKnown 56 = .ok (.iconst 4, 1) := by decide +kernel
theorem dX3_followKnown_57 : decode cX3_followKnown 57 = .ok (.iadd, 1) := by decide +kernel
theorem dX3_followKnown_58 : decode cX3_followKnown 58 = .ok (.aload_n 1, 1) := by decide +kernel
theorem dX3_followKnown_59 : decode cX3_followKnown 59 = .ok (.iload_n 2, 1) := by decide +kernel
theorem dX3_followKnown_60 : decode cX3_followKnown 60 = .ok (.invokevirtual 42, 3) := by decide +kernel
theorem dX3_followKnown_63 : decode cX3_followKnown 63 = .ok (.iadd, 1) := by decide +kernel
theorem dX3_followKnown_64 : decode cX3_followKnown 64 = .ok (.aload_n 0, 1) := by decide +kernel
theorem dX3_followKnown_65 : decode cX3_followKnown 65 = .ok (.aload_n 1, 1) := by decide +kernel
theorem dX3_followKnown_66 : decode cX3_followKnown 66 = .ok (.iload_n 2, 1) := by decide +kernel
theorem dX3_followKnown_67 : decode cX3_followKnown 67 = .ok (.invokevirtual 55, 3) := by decide +kernel
theorem dX3_followKnown_70 : decode cX3_followKnown 70 = .ok (.iastore, 1) := by decide +kernel
theorem dX3_followKnown_71 : decode cX3_followKnown 71 = .ok (.iinc 2 1, 3) := by decide +kernel
theorem dX3_followKnown_74 : decode cX3_followKnown 74 = .ok (.goto (-51), 3) := by decide +kernel
theorem dX3_followKnown_77 : decode cX3_followKnown 77 = .ok (.return_, 1) := by decide +kernel
theorem dX3_knownMade_0 : decode cX3_knownMade 0 = .ok (.aload_n 1, 1) := by decide +kernel
theorem dX3_knownMade_1 : decode cX3_knownMade 1 = .ok (.iload_n 2, 1) := by decide +kernel
theorem dX3_knownMade_2 : decode cX3_knownMade 2 = .ok (.iconst 1, 1) := by decide +kernel
theorem dX3_knownMade_3 : decode cX3_knownMade 3 = .ok (.invokevirtual 59, 3) := by decide +kernel
theorem dX3_knownMade_6 : decode cX3_knownMade 6 = .ok (.istore_n 3, 1) := by decide +kernel
theorem dX3_knownMade_7 : decode cX3_knownMade 7 = .ok (.aload_n 0, 1) := by decide +kernel
theorem dX3_knownMade_8 : decode cX3_knownMade 8 = .ok (.iload_n 2, 1) := by decide +kernel
theorem dX3_knownMade_9 : decode cX3_knownMade 9 = .ok (.aload_n 1, 1) := by decide +kernel
theorem dX3_knownMade_10 : decode cX3_knownMade 10 = .ok (.iload_n 2, 1) := by decide +kernel
theorem dX3_knownMade_11 : decode cX3_knownMade 11 = .ok (.iconst 2, 1) := by decide +kernel
theorem dX3_knownMade_12 : decode cX3_knownMade 12 = .ok (.invokevirtual 59, 3) := by decide +kernel
theorem dX3_knownMade_15 : decode cX3_knownMade 15 = .ok (.invokevirtual 63, 3) := by decide +kernel
theorem dX3_knownMade_18 : decode cX3_knownMade 18 = .ok (.istore 4, 2) := by decide +kernel
theorem dX3_knownMade_20 : decode cX3_knownMade 20 = .ok (.iload_n 3, 1) := by decide +kernel
theorem dX3_knownMade_21 : decode cX3_knownMade 21 = .ok (.bipush (-6), 2) := by decide +kernel
theorem dX3_knownMade_23 : decode cX3_knownMade 23 = .ok (.if_icmp .ne 7, 3) := by decide +kernel
theorem dX3_knownMade_26 : decode cX3_knownMade 26 = .ok (.iconst 0, 1) := by decide +kernel
theorem dX3_knownMade_27 : decode cX3_knownMade 27 = .ok (.goto 14, 3) := by decide +kernel
theorem dX3_knownMade_30 : decode cX3_knownMade 30 = .ok (.aload_n 0, 1) := by decide +kernel
theorem dX3_knownMade_31 : decode cX3_knownMade 31 = .ok (.iload_n 2, 1) := by decide +kernel
theorem dX3_knownMade_32 : decode cX3_knownMade 32 = .ok (.aload_n 1, 1) := by decide +kernel
theorem dX3_knownMade_33 : decode cX3_knownMade 33 = .ok (.iload_n 2, 1) := by decide +kernel
theorem dX3_knownMade_34 : decode cX3_knownMade 34 = .ok (.iconst 3, 1) := by decide +kernel
theorem dX3_knownMade_35 : decode cX3_knownMade 35 = .ok (.invokevirtual 59, 3) := by decide +kernel
theorem dX3_knownMade_38 : decode cX3_knownMade 38 = .ok (.invokevirtual 63, 3) := by decide +kernel
theorem dX3_knownMade_41 : decode cX3_knownMade 41 = .ok (.istore 5, 2) := by decide +kernel
theorem dX3_knownMade_43 : decode cX3_knownMade 43 = .ok (.iload 4, 2) := by decide +kernel
theorem dX3_knownMade_45 : decode cX3_knownMade 45 = .ok (.bipush (-6), 2) := by decide +kernel
theorem dX3_knownMade_47 : decode cX3_knownMade 47 = .ok (.if_icmp .eq 10, 3) := by decide +kernel
theorem dX3_knownMade_50 : decode cX3_knownMade 50 = .ok (.iload 5, 2) := by decide +kernel
theorem dX3_knownMade_52 : decode cX3_knownMade 52 = .ok (.bipush (-6), 2) := by decide +kernel
theorem dX3_knownMade_54 : decode cX3_knownMade 54 = .ok (.if_icmp .ne 8, 3) := by decide +kernel
theorem dX3_knownMade_57 : decode cX3_knownMade 57 = .ok (.bipush (-6), 2) := by decide +kernel
theorem dX3_knownMade_59 : decode cX3_knownMade 59 = .ok (.goto 11, 3) := by decide +kernel
theorem dX3_knownMade_62 : decode cX3_knownMade 62 = .ok (.iload_n 3, 1) := by decide +kernel
theorem dX3_knownMade_63 : decode cX3_knownMade 63 = .ok (.iload 4, 2) := by decide +kernel
theorem dX3_knownMade_65 : decode cX3_knownMade 65 = .ok (.iload 5, 2) := by decide +kernel
theorem dX3_knownMade_67 : decode cX3_knownMade 67 = .ok (.invokestatic 66, 3) := by decide +kernel
theorem dX3_knownMade_70 : decode cX3_knownMade 70 = .ok (.ireturn, 1) := by decide +kernel
theorem dX3_knownOperand_0 : decode cX3_knownOperand 0 = .ok (.iload_n 2, 1) := by decide +kernel
theorem dX3_knownOperand_1 : decode cX3_knownOperand 1 = .ok (.invokestatic 70, 3) := by decide +kernel
theorem dX3_knownOperand_4 : decode cX3_knownOperand 4 = .ok (.ifCond .eq 8, 3) := by decide +kernel
theorem dX3_knownOperand_7 : decode cX3_knownOperand 7 = .ok (.iload_n 2, 1) := by decide +kernel
theorem dX3_knownOperand_8 : decode cX3_knownOperand 8 = .ok (.bipush 10, 2) := by decide +kernel
theorem dX3_knownOperand_10 : decode cX3_knownOperand 10 = .ok (.isub, 1) := by decide +kernel
theorem dX3_knownOperand_11 : decode cX3_knownOperand 11 = .ok (.ireturn, 1) := by decide +kernel
theorem dX3_knownOperand_12 : decode cX3_knownOperand 12 = .ok (.iload_n 2, 1) := by decide +kernel
theorem dX3_knownOperand_13 : decode cX3_knownOperand 13 = .ok (.invokestatic 74, 3) := by decide +kernel
theorem dX3_knownOperand_16 : decode cX3_knownOperand 16 = .ok (.ifCond .eq 8, 3) := by decide +kernel
theorem dX3_knownOperand_19 : decode cX3_knownOperand 19 = .ok (.bipush (-6), 2) := by decide +kernel
theorem dX3_knownOperand_21 : decode cX3_knownOperand 21 = .ok (.goto 13, 3) := by decide +kernel
theorem dX3_knownOperand_24 : decode cX3_knownOperand 24 = .ok (.aload_n 0, 1) := by decide +kernel
theorem dX3_knownOperand_25 : decode cX3_knownOperand 25 = .ok (.getfield 15, 3) := by decide +kernel
theorem dX3_knownOperand_28 : decode cX3_knownOperand 28 = .ok (.iload_n 1, 1) := by decide +kernel
theorem dX3_knownOperand_29 : decode cX3_knownOperand 29 = .ok (.iconst 4, 1) := by decide +kernel
theorem dX3_knownOperand_30 : decode cX3_knownOperand 30 = .ok (.imul, 1) := by decide +kernel
theorem dX3_knownOperand_31 : decode cX3_knownOperand 31 = .ok (.iload_n 2, 1) := by decide +kernel
theorem dX3_knownOperand_32 : decode cX3_knownOperand 32 = .ok (.iadd, 1) := by decide +kernel
theorem dX3_knownOperand_33 : decode cX3_knownOperand 33 = .ok (.iaload, 1) := by decide +kernel
theorem dX3_knownOperand_34 : decode cX3_knownOperand 34 = .ok (.ireturn, 1) := by decide +kernel
theorem dX3_followSorts_0 : decode cX3_followSorts 0 = .ok (.aload_n 0, 1) := by decide +kernel
theorem dX3_followSorts_1 : decode cX3_followSorts 1 = .ok (.iconst 4, 1) := by decide +kernel
theorem dX3_followSorts_2 : decode cX3_followSorts 2 = .ok (.putfield 77, 3) := by decide +kernel
theorem dX3_followSorts_5 : decode cX3_followSorts 5 = .ok (.aload_n 0, 1) := by decide +kernel
theorem dX3_followSorts_6 : decode cX3_followSorts 6 = .ok (.getfield 24, 3) := by decide +kernel
theorem dX3_followSorts_9 : decode cX3_followSorts 9 = .ok (.bipush (-6), 2) := by decide +kernel
theorem dX3_followSorts_11 : decode cX3_followSorts 11 = .ok (.invokestatic 80, 3) := by decide +kernel
theorem dX3_followSorts_14 : decode cX3_followSorts 14 = .ok (.aload_n 0, 1) := by decide +kernel
theorem dX3_followSorts_15 : decode cX3_followSorts 15 = .ok (.getfield 27, 3) := by decide +kernel
theorem dX3_followSorts_18 : decode cX3_followSorts 18 = .ok (.bipush (-6), 2) := by decide +kernel
theorem dX3_followSorts_20 : decode cX3_followSorts 20 = .ok (.invokestatic 80, 3) := by decide +kernel
theorem dX3_followSorts_23 : decode cX3_followSorts 23 = .ok (.iconst 0, 1) := by decide +kernel
theorem dX3_followSorts_24 : decode cX3_followSorts 24 = .ok (.istore_n 2, 1) := by decide +kernel
theorem dX3_followSorts_25 : decode cX3_followSorts 25 = .ok (.iload_n 2, 1) := by decide +kernel
theorem dX3_followSorts_26 : decode cX3_followSorts 26 = .ok (.iconst 4, 1) := by decide +kernel
theorem dX3_followSorts_27 : decode cX3_followSorts 27 = .ok (.if_icmp .ge 16, 3) := by decide +kernel
theorem dX3_followSorts_30 : decode cX3_followSorts 30 = .ok (.aload_n 0, 1) := by decide +kernel
theorem dX3_followSorts_31 : decode cX3_followSorts 31 = .ok (.getfield 18, 3) := by decide +kernel
theorem dX3_followSorts_34 : decode cX3_followSorts 34 = .ok (.iload_n 2, 1) := by decide +kernel
theorem dX3_followSorts_35 : decode cX3_followSorts 35 = .ok (.iload_n 2, 1) := by decide +kernel
theorem dX3_followSorts_36 : decode cX3_followSorts 36 = .ok (.iastore, 1) := by decide +kernel
theorem dX3_followSorts_37 : decode cX3_followSorts 37 = .ok (.iinc 2 1, 3) := by decide +kernel
theorem dX3_followSorts_40 : decode cX3_followSorts 40 = .ok (.goto (-15), 3) := by decide +kernel
theorem dX3_followSorts_43 : decode cX3_followSorts 43 = .ok (.iconst 0, 1) := by decide +kernel
theorem dX3_followSorts_44 : decode cX3_followSorts 44 = .ok (.istore_n 2, 1) := by decide +kernel
theorem dX3_followSorts_45 : decode cX3_followSorts 45 = .ok (.iload_n 2, 1) := by decide +kernel
theorem dX3_followSorts_46 : decode cX3_followSorts 46 = .ok (.aload_n 1, 1) := by decide +kernel
theorem dX3_followSorts_47 : decode cX3_followSorts 47 = .ok (.getfield 36, 3) := by decide +kernel
theorem dX3_followSorts_50 : decode cX3_followSorts 50 = .ok (.if_icmp .ge 61, 3) := by decide +kernel
theorem dX3_followSorts_53 : decode cX3_followSorts 53 = .ok (.iload_n 2, 1) := by decide +kernel
theorem dX3_followSorts_54 : decode cX3_followSorts 54 = .ok (.iconst 4, 1) := by decide +kernel
theorem dX3_followSorts_55 : decode cX3_followSorts 55 = .ok (.imul, 1) := by decide +kernel
theorem dX3_followSorts_56 : decode cX3_followSorts 56 = .ok (.istore_n 3, 1) := by decide +kernel
theorem dX3_followSorts_57 : decode cX3_followSorts 57 = .ok (.aload_n 0, 1) := by decide +kernel
theorem dX3_followSorts_58 : decode cX3_followSorts 58 = .ok (.getfield 21, 3) := by decide +kernel
theorem dX3_followSorts_61 : decode cX3_followSorts 61 = .ok (.iload_n 2, 1) := by decide +kernel
theorem dX3_followSorts_62 : decode cX3_followSorts 62 = .ok (.aload_n 0, 1) := by decide +kernel
theorem dX3_followSorts_63 : decode cX3_followSorts 63 = .ok (.aload_n 1, 1) := by decide +kernel
theorem dX3_followSorts_64 : decode cX3_followSorts 64 = .ok (.iload_n 2, 1) := by decide +kernel
theorem dX3_followSorts_65 : decode cX3_followSorts 65 = .ok (.invokevirtual 86, 3) := by decide +kernel
theorem dX3_followSorts_68 : decode cX3_followSorts 68 = .ok (.iastore, 1) := by decide +kernel
theorem dX3_followSorts_69 : decode cX3_followSorts 69 = .ok (.aload_n 0, 1) := by decide +kernel
theorem dX3_followSorts_70 : decode cX3_followSorts 70 = .ok (.getfield 18, 3) := by decide +kernel
theorem dX3_followSorts_73 : decode cX3_followSorts 73 = .ok (.iload_n 3, 1) := by decide +kernel
theorem dX3_followSorts_74 : decode cX3_followSorts 74 = .ok (.aload_n 0, 1) := by decide +kernel
theorem dX3_followSorts_75 : decode cX3_followSorts 75 = .ok (.getfield 18, 3) := by decide +kernel
theorem dX3_followSorts_78 : decode cX3_followSorts 78 = .ok (.iload_n 3, 1) := by decide +kernel
theorem dX3_followSorts_79 : decode cX3_followSorts 79 = .ok (.iconst 4, 1) := by decide +kernel
theorem dX3_followSorts_80 : decode cX3_followSorts 80 = .ok (.iadd, 1) := by decide +kernel
theorem dX3_followSorts_81 : decode cX3_followSorts 81 = .ok (.iconst 4, 1) := by decide +kernel
theorem dX3_followSorts_82 : decode cX3_followSorts 82 = .ok (.invokestatic 49, 3) := by decide +kernel
theorem dX3_followSorts_85 : decode cX3_followSorts 85 = .ok (.aload_n 0, 1) := by decide +kernel
theorem dX3_followSorts_86 : decode cX3_followSorts 86 = .ok (.getfield 18, 3) := by decide +kernel
theorem dX3_followSorts_89 : decode cX3_followSorts 89 = .ok (.iload_n 3, 1) := by decide +kernel
theorem dX3_followSorts_90 : decode cX3_followSorts 90 = .ok (.iconst 4, 1) := by decide +kernel
theorem dX3_followSorts_91 : decode cX3_followSorts 91 = .ok (.iadd, 1) := by decide +kernel
theorem dX3_followSorts_92 : decode cX3_followSorts 92 = .ok (.aload_n 1, 1) := by decide +kernel
theorem dX3_followSorts_93 : decode cX3_followSorts 93 = .ok (.iload_n 2, 1) := by decide +kernel
theorem dX3_followSorts_94 : decode cX3_followSorts 94 = .ok (.invokevirtual 42, 3) := by decide +kernel
theorem dX3_followSorts_97 : decode cX3_followSorts 97 = .ok (.iadd, 1) := by decide +kernel
theorem dX3_followSorts_98 : decode cX3_followSorts 98 = .ok (.aload_n 0, 1) := by decide +kernel
theorem dX3_followSorts_99 : decode cX3_followSorts 99 = .ok (.getfield 21, 3) := by decide +kernel
theorem dX3_followSorts_102 : decode cX3_followSorts 102 = .ok (.iload_n 2, 1) := by decide +kernel
theorem dX3_followSorts_103 : decode cX3_followSorts 103 = .ok (.iaload, 1) := by decide +kernel
theorem dX3_followSorts_104 : decode cX3_followSorts 104 = .ok (.iastore, 1) := by decide +kernel
theorem dX3_followSorts_105 : decode cX3_followSorts 105 = .ok (.iinc 2 1, 3) := by decide +kernel
theorem dX3_followSorts_108 : decode cX3_followSorts 108 = .ok (.goto (-63), 3) := by decide +kernel
theorem dX3_followSorts_111 : decode cX3_followSorts 111 = .ok (.return_, 1) := by decide +kernel
theorem dX3_sortMade_0 : decode cX3_sortMade 0 = .ok (.aload_n 1, 1) := by decide +kernel
theorem dX3_sortMade_1 : decode cX3_sortMade 1 = .ok (.iload_n 2, 1) := by decide +kernel
theorem dX3_sortMade_2 : decode cX3_sortMade 2 = .ok (.iconst 1, 1) := by decide +kernel
theorem dX3_sortMade_3 : decode cX3_sortMade 3 = .ok (.invokevirtual 59, 3) := by decide +kernel
theorem dX3_sortMade_6 : decode cX3_sortMade 6 = .ok (.istore_n 3, 1) := by decide +kernel
theorem dX3_sortMade_7 : decode cX3_sortMade 7 = .ok (.aload_n 0, 1) := by decide +kernel
theorem dX3_sortMade_8 : decode cX3_sortMade 8 = .ok (.iload_n 2, 1) := by decide +kernel
theorem dX3_sortMade_9 : decode cX3_sortMade 9 = .ok (.aload_n 1, 1) := by decide +kernel
theorem dX3_sortMade_10 : decode cX3_sortMade 10 = .ok (.iload_n 2, 1) := by decide +kernel
theorem dX3_sortMade_11 : decode cX3_sortMade 11 = .ok (.iconst 2, 1) := by decide +kernel
theorem dX3_sortMade_12 : decode cX3_sortMade 12 = .ok (.invokevirtual 59, 3) := by decide +kernel
theorem dX3_sortMade_15 : decode cX3_sortMade 15 = .ok (.invokevirtual 89, 3) := by decide +kernel
theorem dX3_sortMade_18 : decode cX3_sortMade 18 = .ok (.istore 4, 2) := by decide +kernel
theorem dX3_sortMade_20 : decode cX3_sortMade 20 = .ok (.iload_n 3, 1) := by decide +kernel
theorem dX3_sortMade_21 : decode cX3_sortMade 21 = .ok (.bipush (-6), 2) := by decide +kernel
theorem dX3_sortMade_23 : decode cX3_sortMade 23 = .ok (.if_icmp .ne 6, 3) := by decide +kernel
theorem dX3_sortMade_26 : decode cX3_sortMade 26 = .ok (.iload 4, 2) := by decide +kernel
theorem dX3_sortMade_28 : decode cX3_sortMade 28 = .ok (.ireturn, 1) := by decide +kernel
theorem dX3_sortMade_29 : decode cX3_sortMade 29 = .ok (.aload_n 0, 1) := by decide +kernel
theorem dX3_sortMade_30 : decode cX3_sortMade 30 = .ok (.iload_n 2, 1) := by decide +kernel
theorem dX3_sortMade_31 : decode cX3_sortMade 31 = .ok (.aload_n 1, 1) := by decide +kernel
theorem dX3_sortMade_32 : decode cX3_sortMade 32 = .ok (.iload_n 2, 1) := by decide +kernel
theorem dX3_sortMade_33 : decode cX3_sortMade 33 = .ok (.iconst 3, 1) := by decide +kernel
theorem dX3_sortMade_34 : decode cX3_sortMade 34 = .ok (.invokevirtual 59, 3) := by decide +kernel
theorem dX3_sortMade_37 : decode cX3_sortMade 37 = .ok (.invokevirtual 89, 3) := by decide +kernel
theorem dX3_sortMade_40 : decode cX3_sortMade 40 = .ok (.istore 5, 2) := by decide +kernel
theorem dX3_sortMade_42 : decode cX3_sortMade 42 = .ok (.iload_n 3, 1) := by decide +kernel
theorem dX3_sortMade_43 : decode cX3_sortMade 43 = .ok (.bipush 45, 2) := by decide +kernel
theorem dX3_sortMade_45 : decode cX3_sortMade 45 = .ok (.if_icmp .eq 14, 3) := by decide +kernel
theorem dX3_sortMade_48 : decode cX3_sortMade 48 = .ok (.iload 5, 2) := by decide +kernel
theorem dX3_sortMade_50 : decode cX3_sortMade 50 = .ok (.iload 4, 2) := by decide +kernel
theorem dX3_sortMade_52 : decode cX3_sortMade 52 = .ok (.if_icmp .ge 7, 3) := by decide +kernel
theorem dX3_sortMade_55 : decode cX3_sortMade 55 = .ok (.iconst 1, 1) := by decide +kernel
theorem dX3_sortMade_56 : decode cX3_sortMade 56 = .ok (.goto 4, 3) := by decide +kernel
theorem dX3_sortMade_59 : decode cX3_sortMade 59 = .ok (.iconst 0, 1) := by decide +kernel
theorem dX3_sortMade_60 : decode cX3_sortMade 60 = .ok (.istore 6, 2) := by decide +kernel
theorem dX3_sortMade_62 : decode cX3_sortMade 62 = .ok (.aload_n 0, 1) := by decide +kernel
theorem dX3_sortMade_63 : decode cX3_sortMade 63 = .ok (.iload_n 3, 1) := by decide +kernel
theorem dX3_sortMade_64 : decode cX3_sortMade 64 = .ok (.iload 6, 2) := by decide +kernel
theorem dX3_sortMade_66 : decode cX3_sortMade 66 = .ok (.ifCond .eq 8, 3) := by decide +kernel
theorem dX3_sortMade_69 : decode cX3_sortMade 69 = .ok (.iload 5, 2) := by decide +kernel
theorem dX3_sortMade_71 : decode cX3_sortMade 71 = .ok (.goto 5, 3) := by decide +kernel
theorem dX3_sortMade_74 : decode cX3_sortMade 74 = .ok (.iload 4, 2) := by decide +kernel
theorem dX3_sortMade_76 : decode cX3_sortMade 76 = .ok (.iload 6, 2) := by decide +kernel
theorem dX3_sortMade_78 : decode cX3_sortMade 78 = .ok (.ifCond .eq 8, 3) := by decide +kernel
theorem dX3_sortMade_81 : decode cX3_sortMade 81 = .ok (.iload 4, 2) := by decide +kernel
theorem dX3_sortMade_83 : decode cX3_sortMade 83 = .ok (.goto 5, 3) := by decide +kernel
theorem dX3_sortMade_86 : decode cX3_sortMade 86 = .ok (.iload 5, 2) := by decide +kernel
theorem dX3_sortMade_88 : decode cX3_sortMade 88 = .ok (.invokevirtual 92, 3) := by decide +kernel
theorem dX3_sortMade_91 : decode cX3_sortMade 91 = .ok (.ireturn, 1) := by decide +kernel
theorem dX3_sortOperand_0 : decode cX3_sortOperand 0 = .ok (.iload_n 2, 1) := by decide +kernel
theorem dX3_sortOperand_1 : decode cX3_sortOperand 1 = .ok (.invokestatic 70, 3) := by decide +kernel
theorem dX3_sortOperand_4 : decode cX3_sortOperand 4 = .ok (.ifCond .ne 26, 3) := by decide +kernel
theorem dX3_sortOperand_7 : decode cX3_sortOperand 7 = .ok (.iload_n 2, 1) := by decide +kernel
theorem dX3_sortOperand_8 : decode cX3_sortOperand 8 = .ok (.invokestatic 74, 3) := by decide +kernel
theorem dX3_sortOperand_11 : decode cX3_sortOperand 11 = .ok (.ifCond .eq 8, 3) := by decide +kernel
theorem dX3_sortOperand_14 : decode cX3_sortOperand 14 = .ok (.bipush (-6), 2) := by decide +kernel
theorem dX3_sortOperand_16 : decode cX3_sortOperand 16 = .ok (.goto 13, 3) := by decide +kernel
theorem dX3_sortOperand_19 : decode cX3_sortOperand 19 = .ok (.aload_n 0, 1) := by decide +kernel
theorem dX3_sortOperand_20 : decode cX3_sortOperand 20 = .ok (.getfield 18, 3) := by decide +kernel
theorem dX3_sortOperand_23 : decode cX3_sortOperand 23 = .ok (.iload_n 1, 1) := by decide +kernel
theorem dX3_sortOperand_24 : decode cX3_sortOperand 24 = .ok (.iconst 4, 1) := by decide +kernel
theorem dX3_sortOperand_25 : decode cX3_sortOperand 25 = .ok (.imul, 1) := by decide +kernel
theorem dX3_sortOperand_26 : decode cX3_sortOperand 26 = .ok (.iload_n 2, 1) := by decide +kernel
theorem dX3_sortOperand_27 : decode cX3_sortOperand 27 = .ok (.iadd, 1) := by decide +kernel
theorem dX3_sortOperand_28 : decode cX3_sortOperand 28 = .ok (.iaload, 1) := by decide +kernel
theorem dX3_sortOperand_29 : decode cX3_sortOperand 29 = .ok (.ireturn, 1) := by decide +kernel
theorem dX3_sortOperand_30 : decode cX3_sortOperand 30 = .ok (.iload_n 2, 1) := by decide +kernel
theorem dX3_sortOperand_31 : decode cX3_sortOperand 31 = .ok (.bipush 10, 2) := by decide +kernel
theorem dX3_sortOperand_33 : decode cX3_sortOperand 33 = .ok (.isub, 1) := by decide +kernel
theorem dX3_sortOperand_34 : decode cX3_sortOperand 34 = .ok (.istore_n 3, 1) := by decide +kernel
theorem dX3_sortOperand_35 : decode cX3_sortOperand 35 = .ok (.aload_n 0, 1) := by decide +kernel
theorem dX3_sortOperand_36 : decode cX3_sortOperand 36 = .ok (.getfield 24, 3) := by decide +kernel
theorem dX3_sortOperand_39 : decode cX3_sortOperand 39 = .ok (.iload_n 3, 1) := by decide +kernel
theorem dX3_sortOperand_40 : decode cX3_sortOperand 40 = .ok (.iaload, 1) := by decide +kernel
theorem dX3_sortOperand_41 : decode cX3_sortOperand 41 = .ok (.bipush (-6), 2) := by decide +kernel
theorem dX3_sortOperand_43 : decode cX3_sortOperand 43 = .ok (.if_icmp .ne 23, 3) := by decide +kernel
theorem dX3_sortOperand_46 : decode cX3_sortOperand 46 = .ok (.aload_n 0, 1) := by decide +kernel
theorem dX3_sortOperand_47 : decode cX3_sortOperand 47 = .ok (.getfield 24, 3) := by decide +kernel
theorem dX3_sortOperand_50 : decode cX3_sortOperand 50 = .ok (.iload_n 3, 1) := by decide +kernel
theorem dX3_sortOperand_51 : decode cX3_sortOperand 51 = .ok (.aload_n 0, 1) := by decide +kernel
theorem dX3_sortOperand_52 : decode cX3_sortOperand 52 = .ok (.getfield 77, 3) := by decide +kernel
theorem dX3_sortOperand_55 : decode cX3_sortOperand 55 = .ok (.iastore, 1) := by decide +kernel
theorem dX3_sortOperand_56 : decode cX3_sortOperand 56 = .ok (.aload_n 0, 1) := by decide +kernel
theorem dX3_sortOperand_57 : decode cX3_sortOperand 57 = .ok (.dup, 1) := by decide +kernel
theorem dX3_sortOperand_58 : decode cX3_sortOperand 58 = .ok (.getfield 77, 3) := by decide +kernel
theorem dX3_sortOperand_61 : decode cX3_sortOperand 61 = .ok (.iconst 1, 1) := by decide +kernel
theorem dX3_sortOperand_62 : decode cX3_sortOperand 62 = .ok (.iadd, 1) := by decide +kernel
theorem dX3_sortOperand_63 : decode cX3_sortOperand 63 = .ok (.putfield 77, 3) := by decide +kernel
theorem dX3_sortOperand_66 : decode cX3_sortOperand 66 = .ok (.aload_n 0, 1) := by decide +kernel
theorem dX3_sortOperand_67 : decode cX3_sortOperand 67 = .ok (.getfield 24, 3) := by decide +kernel
theorem dX3_sortOperand_70 : decode cX3_sortOperand 70 = .ok (.iload_n 3, 1) := by decide +kernel
theorem dX3_sortOperand_71 : decode cX3_sortOperand 71 = .ok (.iaload, 1) := by decide +kernel
theorem dX3_sortOperand_72 : decode cX3_sortOperand 72 = .ok (.ireturn, 1) := by decide +kernel
theorem dX3_sortOfAct_0 : decode cX3_sortOfAct 0 = .ok (.iconst 4, 1) := by decide +kernel
theorem dX3_sortOfAct_1 : decode cX3_sortOfAct 1 = .ok (.istore 4, 2) := by decide +kernel
theorem dX3_sortOfAct_3 : decode cX3_sortOfAct 3 = .ok (.iload 4, 2) := by decide +kernel
theorem dX3_sortOfAct_5 : decode cX3_sortOfAct 5 = .ok (.aload_n 0, 1) := by decide +kernel
theorem dX3_sortOfAct_6 : decode cX3_sortOfAct 6 = .ok (.getfield 77, 3) := by decide +kernel
theorem dX3_sortOfAct_9 : decode cX3_sortOfAct 9 = .ok (.if_icmp .ge 45, 3) := by decide +kernel
theorem dX3_sortOfAct_12 : decode cX3_sortOfAct 12 = .ok (.aload_n 0, 1) := by decide +kernel
theorem dX3_sortOfAct_13 : decode cX3_sortOfAct 13 = .ok (.getfield 27, 3) := by decide +kernel
theorem dX3_sortOfAct_16 : decode cX3_sortOfAct 16 = .ok (.iload 4, 2) := by decide +kernel
theorem dX3_sortOfAct_18 : decode cX3_sortOfAct 18 = .ok (.iaload, 1) := by decide +kernel
theorem dX3_sortOfAct_19 : decode cX3_sortOfAct 19 = .ok (.iload_n 1, 1) := by decide +kernel
theorem dX3_sortOfAct_20 : decode cX3_sortOfAct 20 = .ok (.if_icmp .ne 28, 3) := by decide +kernel
theorem dX3_sortOfAct_23 : decode cX3_sortOfAct 23 = .ok (.aload_n 0, 1) := by decide +kernel
theorem dX3_sortOfAct_24 : decode cX3_sortOfAct 24 = .ok (.getfield 30, 3) := by decide +kernel
theorem dX3_sortOfAct_27 : decode cX3_sortOfAct 27 = .ok (.iload 4, 2) := by decide +kernel
theorem dX3_sortOfAct_29 : decode cX3_sortOfAct 29 = .ok (.iaload, 1) := by decide +kernel
theorem dX3_sortOfAct_30 : decode cX3_sortOfAct 30 = .ok (.iload_n 2, 1) := by decide +kernel
theorem dX3_sortOfAct_31 : decode cX3_sortOfAct 31 = .ok (.if_icmp .ne 17, 3) := by decide +kernel
theorem dX3_sortOfAct_34 : decode cX3_sortOfAct 34 = .ok (.aload_n 0, 1) := by decide +kernel
theorem dX3_sortOfAct_35 : decode cX3_sortOfAct 35 = .ok (.getfield 33, 3) := by decide +kernel
theorem dX3_sortOfAct_38 : decode cX3_sortOfAct 38 = .ok (.iload 4, 2) := by decide +kernel
theorem dX3_sortOfAct_40 : decode cX3_sortOfAct 40 = .ok (.iaload, 1) := by decide +kernel
theorem dX3_sortOfAct_41 : decode cX3_sortOfAct 41 = .ok (.iload_n 3, 1) := by decide +kernel
theorem dX3_sortOfAct_42 : decode cX3_sortOfAct 42 = .ok (.if_icmp .ne 6, 3) := by decide +kernel
theorem dX3_sortOfAct_45 : decode cX3_sortOfAct 45 = .ok (.iload 4, 2) := by decide +kernel
theorem dX3_sortOfAct_47 : decode cX3_sortOfAct 47 = .ok (.ireturn, 1) := by decide +kernel
theorem dX3_sortOfAct_48 : decode cX3_sortOfAct 48 = .ok (.iinc 4 1, 3) := by decide +kernel
theorem dX3_sortOfAct_51 : decode cX3_sortOfAct 51 = .ok (.goto (-48), 3) := by decide +kernel
theorem dX3_sortOfAct_54 : decode cX3_sortOfAct 54 = .ok (.aload_n 0, 1) := by decide +kernel
theorem dX3_sortOfAct_55 : decode cX3_sortOfAct 55 = .ok (.getfield 27, 3) := by decide +kernel
theorem dX3_sortOfAct_58 : decode cX3_sortOfAct 58 = .ok (.aload_n 0, 1) := by decide +kernel
theorem dX3_sortOfAct_59 : decode cX3_sortOfAct 59 = .ok (.getfield 77, 3) := by decide +kernel
theorem dX3_sortOfAct_62 : decode cX3_sortOfAct 62 = .ok (.iload_n 1, 1) := by decide +kernel
theorem dX3_sortOfAct_63 : decode cX3_sortOfAct 63 = .ok (.iastore, 1) := by decide +kernel
theorem dX3_sortOfAct_64 : decode cX3_sortOfAct 64 = .ok (.aload_n 0, 1) := by decide +kernel
theorem dX3_sortOfAct_65 : decode cX3_sortOfAct 65 = .ok (.getfield 30, 3) := by decide +kernel
theorem dX3_sortOfAct_68 : decode cX3_sortOfAct 68 = .ok (.aload_n 0, 1) := by decide +kernel
theorem dX3_sortOfAct_69 : decode cX3_sortOfAct 69 = .ok (.getfield 77, 3) := by decide +kernel
theorem dX3_sortOfAct_72 : decode cX3_sortOfAct 72 = .ok (.iload_n 2, 1) := by decide +kernel
theorem dX3_sortOfAct_73 : decode cX3_sortOfAct 73 = .ok (.iastore, 1) := by decide +kernel
theorem dX3_sortOfAct_74 : decode cX3_sortOfAct 74 = .ok (.aload_n 0, 1) := by decide +kernel
theorem dX3_sortOfAct_75 : decode cX3_sortOfAct 75 = .ok (.getfield 33, 3) := by decide +kernel
theorem dX3_sortOfAct_78 : decode cX3_sortOfAct 78 = .ok (.aload_n 0, 1) := by decide +kernel
theorem dX3_sortOfAct_79 : decode cX3_sortOfAct 79 = .ok (.getfield 77, 3) := by decide +kernel
theorem dX3_sortOfAct_82 : decode cX3_sortOfAct 82 = .ok (.iload_n 3, 1) := by decide +kernel
theorem dX3_sortOfAct_83 : decode cX3_sortOfAct 83 = .ok (.iastore, 1) := by decide +kernel
theorem dX3_sortOfAct_84 : decode cX3_sortOfAct 84 = .ok (.aload_n 0, 1) := by decide +kernel
theorem dX3_sortOfAct_85 : decode cX3_sortOfAct 85 = .ok (.dup, 1) := by decide +kernel
theorem dX3_sortOfAct_86 : decode cX3_sortOfAct 86 = .ok (.getfield 77, 3) := by decide +kernel
theorem dX3_sortOfAct_89 : decode cX3_sortOfAct 89 = .ok (.iconst 1, 1) := by decide +kernel
theorem dX3_sortOfAct_90 : decode cX3_sortOfAct 90 = .ok (.iadd, 1) := by decide +kernel
theorem dX3_sortOfAct_91 : decode cX3_sortOfAct 91 = .ok (.putfield 77, 3) := by decide +kernel
theorem dX3_sortOfAct_94 : decode cX3_sortOfAct 94 = .ok (.aload_n 0, 1) := by decide +kernel
theorem dX3_sortOfAct_95 : decode cX3_sortOfAct 95 = .ok (.getfield 77, 3) := by decide +kernel
theorem dX3_sortOfAct_98 : decode cX3_sortOfAct 98 = .ok (.iconst 1, 1) := by decide +kernel
theorem dX3_sortOfAct_99 : decode cX3_sortOfAct 99 = .ok (.isub, 1) := by decide +kernel
theorem dX3_sortOfAct_100 : decode cX3_sortOfAct 100 = .ok (.ireturn, 1) := by decide +kernel
theorem dX3_holderOfMade_0 : decode cX3_holderOfMade 0 = .ok (.iconst 0, 1) := by decide +kernel
theorem dX3_holderOfMade_1 : decode cX3_holderOfMade 1 = .ok (.istore_n 2, 1) := by decide +kernel
theorem dX3_holderOfMade_2 : decode cX3_holderOfMade 2 = .ok (.iload_n 2, 1) := by decide +kernel
theorem dX3_holderOfMade_3 : decode cX3_holderOfMade 3 = .ok (.iconst 4, 1) := by decide +kernel
theorem dX3_holderOfMade_4 : decode cX3_holderOfMade 4 = .ok (.if_icmp .ge 30, 3) := by decide +kernel
theorem dX3_holderOfMade_7 : decode cX3_holderOfMade 7 = .ok (.aload_n 0, 1) := by decide +kernel
theorem dX3_holderOfMade_8 : decode cX3_holderOfMade 8 = .ok (.getfield 18, 3) := by decide +kernel
theorem dX3_holderOfMade_11 : decode cX3_holderOfMade 11 = .ok (.iload_n 1, 1) := by decide +kernel
theorem dX3_holderOfMade_12 : decode cX3_holderOfMade 12 = .ok (.iconst 4, 1) := by decide +kernel
theorem dX3_holderOfMade_13 : decode cX3_holderOfMade 13 = .ok (.imul, 1) := by decide +kernel
theorem dX3_holderOfMade_14 : decode cX3_holderOfMade 14 = .ok (.iload_n 2, 1) := by decide +kernel
theorem dX3_holderOfMade_15 : decode cX3_holderOfMade 15 = .ok (.iadd, 1) := by decide +kernel
theorem dX3_holderOfMade_16 : decode cX3_holderOfMade 16 = .ok (.iaload, 1) := by decide +kernel
theorem dX3_holderOfMade_17 : decode cX3_holderOfMade 17 = .ok (.aload_n 0, 1) := by decide +kernel
theorem dX3_holderOfMade_18 : decode cX3_holderOfMade 18 = .ok (.getfield 21, 3) := by decide +kernel
theorem dX3_holderOfMade_21 : decode cX3_holderOfMade 21 = .ok (.iload_n 1, 1) := by decide +kernel
theorem dX3_holderOfMade_22 : decode cX3_holderOfMade 22 = .ok (.iaload, 1) := by decide +kernel
theorem dX3_holderOfMade_23 : decode cX3_holderOfMade 23 = .ok (.if_icmp .ne 5, 3) := by decide +kernel
theorem dX3_holderOfMade_26 : decode cX3_holderOfMade 26 = .ok (.iload_n 2, 1) := by decide +kernel
theorem dX3_holderOfMade_27 : decode cX3_holderOfMade 27 = .ok (.ireturn, 1) := by decide +kernel
theorem dX3_holderOfMade_28 : decode cX3_holderOfMade 28 = .ok (.iinc 2 1, 3) := by decide +kernel
theorem dX3_holderOfMade_31 : decode cX3_holderOfMade 31 = .ok (.goto (-29), 3) := by decide +kernel
theorem dX3_holderOfMade_34 : decode cX3_holderOfMade 34 = .ok (.bipush (-6), 2) := by decide +kernel
theorem dX3_holderOfMade_36 : decode cX3_holderOfMade 36 = .ok (.ireturn, 1) := by decide +kernel
theorem dX4_init_0 : decode cX4_init 0 = .ok (.aload_n 0, 1) := by decide +kernel
theorem dX4_init_1 : decode cX4_init 1 = .ok (.invokespecial 3, 3) := by decide +kernel
theorem dX4_init_4 : decode cX4_init 4 = .ok (.aload_n 0, 1) := by decide +kernel
theorem dX4_init_5 : decode cX4_init 5 = .ok (.bipush 12, 2) := by decide +kernel
theorem dX4_init_7 : decode cX4_init 7 = .ok (.newarray .int, 2) := by decide +kernel
theorem dX4_init_9 : decode cX4_init 9 = .ok (.putfield 9, 3) := by decide +kernel
theorem dX4_init_12 : decode cX4_init 12 = .ok (.aload_n 0, 1) := by decide +kernel
theorem dX4_init_13 : decode cX4_init 13 = .ok (.bipush 13, 2) := by decide +kernel
theorem dX4_init_15 : decode cX4_init 15 = .ok (.newarray .int, 2) := by decide +kernel
theorem dX4_init_17 : decode cX4_init 17 = .ok (.putfield 15, 3) := by decide +kernel
theorem dX4_init_20 : decode cX4_init 20 = .ok (.aload_n 0, 1) := by decide +kernel
theorem dX4_init_21 : decode cX4_init 21 = .ok (.bipush 13, 2) := by decide +kernel
theorem dX4_init_23 : decode cX4_init 23 = .ok (.newarray .int, 2) := by decide +kernel
theorem dX4_init_25 : decode cX4_init 25 = .ok (.putfield 18, 3) := by decide +kernel
theorem dX4_init_28 : decode cX4_init 28 = .ok (.aload_n 0, 1) := by decide +kernel
theorem dX4_init_29 : decode cX4_init 29 = .ok (.bipush 16, 2) := by decide +kernel
theorem dX4_init_31 : decode cX4_init 31 = .ok (.newarray .int, 2) := by decide +kernel
theorem dX4_init_33 : decode cX4_init 33 = .ok (.putfield 21, 3) := by decide +kernel
theorem dX4_init_36 : decode cX4_init 36 = .ok (.aload_n 0, 1) := by decide +kernel
theorem dX4_init_37 : decode cX4_init 37 = .ok (.bipush 16, 2) := by decide +kernel
theorem dX4_init_39 : decode cX4_init 39 = .ok (.newarray .int, 2) := by decide +kernel
theorem dX4_init_41 : decode cX4_init 41 = .ok (.putfield 24, 3) := by decide +kernel
theorem dX4_init_44 : decode cX4_init 44 = .ok (.aload_n 0, 1) := by decide +kernel
theorem dX4_init_45 : decode cX4_init 45 = .ok (.bipush 12, 2) := by decide +kernel
theorem dX4_init_47 : decode cX4_init 47 = .ok (.newarray .int, 2) := by decide +kernel
theorem dX4_init_49 : decode cX4_init 49 = .ok (.putfield 27, 3) := by decide +kernel
theorem dX4_init_52 : decode cX4_init 52 = .ok (.aload_n 0, 1) := by decide +kernel
theorem dX4_init_53 : decode cX4_init 53 = .ok (.sipush 256, 3) := by decide +kernel
theorem dX4_init_56 : decode cX4_init 56 = .ok (.newarray .int, 2) := by decide +kernel
theorem dX4_init_58 : decode cX4_init 58 = .ok (.putfield 30, 3) := by decide +kernel
theorem dX4_init_61 : decode cX4_init 61 = .ok (.aload_n 0, 1) := by decide +kernel
theorem dX4_init_62 : decode cX4_init 62 = .ok (.sipush 256, 3) := by decide +kernel
theorem dX4_init_65 : decode cX4_init 65 = .ok (.newarray .int, 2) := by decide +kernel
theorem dX4_init_67 : decode cX4_init 67 = .ok (.putfield 33, 3) := by decide +kernel
theorem dX4_init_70 : decode cX4_init 70 = .ok (.aload_n 0, 1) := by decide +kernel
theorem dX4_init_71 : decode cX4_init 71 = .ok (.bipush 8, 2) := by decide +kernel
theorem dX4_init_73 : decode cX4_init 73 = .ok (.newarray .int, 2) := by decide +kernel
theorem dX4_init_75 : decode cX4_init 75 = .ok (.putfield 36, 3) := by decide +kernel
theorem dX4_init_78 : decode cX4_init 78 = .ok (.aload_n 0, 1) := by decide +kernel
theorem dX4_init_79 : decode cX4_init 79 = .ok (.bipush 16, 2) := by decide +kernel
theorem dX4_init_81 : decode cX4_init 81 = .ok (.newarray .int, 2) := by decide +kernel
theorem dX4_init_83 : decode cX4_init 83 = .ok (.putfield 39, 3) := by decide +kernel
theorem dX4_init_86 : decode cX4_init 86 = .ok (.aload_n 0, 1) := by decide +kernel
theorem dX4_init_87 : decode cX4_init 87 = .ok (.bipush 16, 2) := by decide +kernel
theorem dX4_init_89 : decode cX4_init 89 = .ok (.newarray .int, 2) := by decide +kernel
theorem dX4_init_91 : decode cX4_init 91 = .ok (.putfield 42, 3) := by decide +kernel
theorem dX4_init_94 : decode cX4_init 94 = .ok (.return_, 1) := by decide +kernel
theorem dX4_take_0 : decode cX4_take 0 = .ok (.aload_n 0, 1) := by decide +kernel
theorem dX4_take_1 : decode cX4_take 1 = .ok (.aload_n 1, 1) := by decide +kernel
theorem dX4_take_2 : decode cX4_take 2 = .ok (.getfield 45, 3) := by decide +kernel
theorem dX4_take_5 : decode cX4_take 5 = .ok (.putfield 51, 3) := by decide +kernel
theorem dX4_take_8 : decode cX4_take 8 = .ok (.iconst 0, 1) := by decide +kernel
theorem dX4_take_9 : decode cX4_take 9 = .ok (.istore 4, 2) := by decide +kernel
theorem dX4_take_11 : decode cX4_take 11 = .ok (.iload 4, 2) := by decide +kernel
theorem dX4_take_13 : decode cX4_take 13 = .ok (.bipush 16, 2) := by decide +kernel
theorem dX4_take_15 : decode cX4_take 15 = .ok (.if_icmp .ge 48, 3) := by decide +kernel
theorem dX4_take_18 : decode cX4_take 18 = .ok (.aload_n 0, 1) := by decide +kernel
theorem dX4_take_19 : decode cX4_take 19 = .ok (.getfield 24, 3) := by decide +kernel
theorem dX4_take_22 : decode cX4_take 22 = .ok (.iload 4, 2) := by decide +kernel
theorem dX4_take_24 : decode cX4_take 24 = .ok (.aload_n 2, 1) := by decide +kernel
theorem dX4_take_25 : decode cX4_take 25 = .ok (.getfield 52, 3) := by decide +kernel
theorem dX4_take_28 : decode cX4_take 28 = .ok (.iload 4, 2) := by decide +kernel
theorem dX4_take_30 : decode cX4_take 30 = .ok (.iaload, 1) := by decide +kernel
theorem dX4_take_31 : decode cX4_take 31 = .ok (.iastore, 1) := by decide +kernel
theorem dX4_take_32 : decode cX4_take 32 = .ok (.aload_n 0, 1) := by decide +kernel
theorem dX4_take_33 : decode cX4_take 33 = .ok (.getfield 21, 3) := by decide +kernel
theorem dX4_take_36 : decode cX4_take 36 = .ok (.iload 4, 2) := by decide +kernel
theorem dX4_take_38 : decode cX4_take 38 = .ok (.ldc 55, 2) := by decide +kernel
theorem dX4_take_40 : decode cX4_take 40 = .ok (.aload_n 2, 1) := by decide +kernel
theorem dX4_take_41 : decode cX4_take 41 = .ok (.getfield 56, 3) := by decide +kernel
theorem dX4_take_44 : decode cX4_take 44 = .ok (.iload 4, 2) := by decide +kernel
theorem dX4_take_46 : decode cX4_take 46 = .ok (.iaload, 1) := by decide +kernel
theorem dX4_take_47 : decode cX4_take 47 = .ok (.ldc 59, 2) := by decide +kernel
theorem dX4_take_49 : decode cX4_take 49 = .ok (.imul, 1) := by decide +kernel
theorem dX4_take_50 : decode cX4_take 50 = .ok (.iadd, 1) := by decide +kernel
theorem dX4_take_51 : decode cX4_take 51 = .ok (.iconst 1, 1) := by decide +kernel
theorem dX4_take_52 : decode cX4_take 52 = .ok (.iload 4, 2) := by decide +kernel
theorem dX4_take_54 : decode cX4_take 54 = .ok (.ishl, 1) := by decide +kernel
theorem dX4_take_55 : decode cX4_take 55 = .ok (.iadd, 1) := by decide +kernel
theorem dX4_take_56 : decode cX4_take 56 = .ok (.iastore, 1) := by decide +kernel
theorem dX4_take_57 : decode cX4_take 57 = .ok (.iinc 4 1, 3) := by decide +kernel
theorem dX4_take_60 : decode cX4_take 60 = .ok (.goto (-49), 3) := by decide +kernel
theorem dX4_take_63 : decode cX4_take 63 = .ok (.iconst 0, 1) := by decide +kernel
theorem dX4_take_64 : decode cX4_take 64 = .ok (.istore 4, 2) := by decide +kernel
theorem dX4_take_66 : decode cX4_take 66 = .ok (.iload 4, 2) := by decide +kernel
theorem dX4_take_68 : decode cX4_take 68 = .ok (.aload_n 0, 1) := by decide +kernel
theorem dX4_take_69 : decode cX4_take 69 = .ok (.getfield 51, 3) := by decide +kernel
theorem dX4_take_72 : decode cX4_take 72 = .ok (.if_icmp .ge 36, 3) := by decide +kernel
theorem dX4_take_75 : decode cX4_take 75 = .ok (.aload_n 0, 1) := by decide +kernel
theorem dX4_take_76 : decode cX4_take 76 = .ok (.getfield 9, 3) := by decide +kernel
theorem dX4_take_79 : decode cX4_take 79 = .ok (.iload 4, 2) := by decide +kernel
theorem dX4_take_81 : decode cX4_take 81 = .ok (.aload_n 1, 1) := by decide +kernel
theorem dX4_take_82 : decode cX4_take 82 = .ok (.iload 4, 2) := by decide +kernel
theorem dX4_take_84 : decode cX4_take 84 = .ok (.invokevirtual 60, 3) := by decide +kernel
theorem dX4_take_87 : decode cX4_take 87 = .ok (.iastore, 1) := by decide +kernel
theorem dX4_take_88 : decode cX4_take 88 = .ok (.aload_n 0, 1) := by decide +kernel
theorem dX4_take_89 : decode cX4_take 89 = .ok (.getfield 27, 3) := by decide +kernel
theorem dX4_take_92 : decode cX4_take 92 = .ok (.iload 4, 2) := by decide +kernel
theorem dX4_take_94 : decode cX4_take 94 = .ok (.aload_n 2, 1) := by decide +kernel
theorem dX4_take_95 : decode cX4_take 95 = .ok (.getfield 64, 3) := by decide +kernel
theorem dX4_take_98 : decode cX4_take 98 = .ok (.iload 4, 2) := by decide +kernel
theorem dX4_take_100 : decode cX4_take 100 = .ok (.iaload, 1) := by decide +kernel
theorem dX4_take_101 : decode cX4_take 101 = .ok (.iastore, 1) := by decide +kernel
theorem dX4_take_102 : decode cX4_take 102 = .ok (.iinc 4 1, 3) := by decide +kernel
theorem dX4_take_105 : decode cX4_take 105 = .ok (.goto (-39), 3) := by decide +kernel
theorem dX4_take_108 : decode cX4_take 108 = .ok (.iconst 0, 1) := by decide +kernel
theorem dX4_take_109 : decode cX4_take 109 = .ok (.istore 4, 2) := by decide +kernel
theorem dX4_take_111 : decode cX4_take 111 = .ok (.iload 4, 2) := by decide +kernel
theorem dX4_take_113 : decode cX4_take 113 = .ok (.aload_n 0, 1) := by decide +kernel
theorem dX4_take_114 : decode cX4_take 114 = .ok (.getfield 51, 3) := by decide +kernel
theorem dX4_take_117 : decode cX4_take 117 = .ok (.if_icmp .gt 64, 3) := by decide +kernel
theorem dX4_take_120 : decode cX4_take 120 = .ok (.aload_n 0, 1) := by decide +kernel
theorem dX4_take_121 : decode cX4_take 121 = .ok (.getfield 18, 3) := by decide +kernel
theorem dX4_take_124 : decode cX4_take 124 = .ok (.iload 4, 2) := by decide +kernel
theorem dX4_take_126 : decode cX4_take 126 = .ok (.aload_n 3, 1) := by decide +kernel
theorem dX4_take_127 : decode cX4_take 127 = .ok (.getfield 65, 3) := by decide +kernel
theorem dX4_take_130 : decode cX4_take 130 = .ok (.iload 4, 2) := by decide +kernel
theorem dX4_take_132 : decode cX4_take 132 = .ok (.iaload, 1) := by decide +kernel
theorem dX4_take_133 : decode cX4_take 133 = .ok (.iload 4, 2) := by decide +kernel
theorem dX4_take_135 : decode cX4_take 135 = .ok (.ifCond .ne 7, 3) := by decide +kernel
theorem dX4_take_138 : decode cX4_take 138 = .ok (.iconst 0, 1) := by decide +kernel
theorem dX4_take_139 : decode cX4_take 139 = .ok (.goto 14, 3) := by decide +kernel
theorem dX4_take_142 : decode cX4_take 142 = .ok (.iconst 1, 1) := by decide +kernel
theorem dX4_take_143 : decode cX4_take 143 = .ok (.aload_n 0, 1) := by decide +kernel
theorem dX4_take_144 : decode cX4_take 144 = .ok (.getfield 9, 3) := by decide +kernel
theorem dX4_take_147 : decode cX4_take 147 = .ok (.iload 4, 2) := by decide +kernel
theorem dX4_take_149 : decode cX4_take 149 = .ok (.iconst 1, 1) := by decide +kernel
theorem dX4_take_150 : decode cX4_take 150 = .ok (.isub, 1) := by decide +kernel
theorem dX4_take_151 : decode cX4_take 151 = .ok (.iaload, 1) := by decide +kernel
theorem dX4_take_152 : decode cX4_take 152 = .ok (.ishl, 1) := by decide +kernel
theorem dX4_take_153 : decode cX4_take 153 = .ok (.ior, 1) := by decide +kernel
theorem dX4_take_154 : decode cX4_take 154 = .ok (.iastore, 1) := by decide +kernel
theorem dX4_take_155 : decode cX4_take 155 = .ok (.aload_n 0, 1) := by decide +kernel
theorem dX4_take_156 : decode cX4_take 156 = .ok (.getfield 15, 3) := by decide +kernel
theorem dX4_take_159 : decode cX4_take 159 = .ok (.iload 4, 2) := by decide +kernel
theorem dX4_take_161 : decode cX4_take 161 = .ok (.aload_n 0, 1) := by decide +kernel
theorem dX4_take_162 : decode cX4_take 162 = .ok (.getfield 18, 3) := by decide +kernel
theorem dX4_take_165 : decode cX4_take 165 = .ok (.iload 4, 2) := by decide +kernel
theorem dX4_take_167 : decode cX4_take 167 = .ok (.iaload, 1) := by decide +kernel
theorem dX4_take_168 : decode cX4_take 168 = .ok (.iload 4, 2) := by decide +kernel
theorem dX4_take_170 : decode cX4_take 170 = .ok (.aload_n 2, 1) := by decide +kernel
theorem dX4_take_171 : decode cX4_take 171 = .ok (.invokestatic 70, 3) := by decide +kernel
theorem dX4_take_174 : decode cX4_take 174 = .ok (.iastore, 1) := by decide +kernel
theorem dX4_take_175 : decode cX4_take 175 = .ok (.iinc 4 1, 3) := by decide +kernel
theorem dX4_take_178 : decode cX4_take 178 = .ok (.goto (-67), 3) := by decide +kernel
theorem dX4_take_181 : decode cX4_take 181 = .ok (.aload_n 0, 1) := by decide +kernel
theorem dX4_take_182 : decode cX4_take 182 = .ok (.aload_n 3, 1) := by decide +kernel
theorem dX4_take_183 : decode cX4_take 183 = .ok (.getfield 65, 3) := by decide +kernel
theorem dX4_take_186 : decode cX4_take 186 = .ok (.aload_n 0, 1) := by decide +kernel
theorem dX4_take_187 : decode cX4_take 187 = .ok (.getfield 51, 3) := by decide +kernel
theorem dX4_take_190 : decode cX4_take 190 = .ok (.iaload, 1) := by decide +kernel
theorem dX4_take_191 : decode cX4_take 191 = .ok (.aload_n 0, 1) := by decide +kernel
theorem dX4_take_192 : decode cX4_take 192 = .ok (.getfield 51, 3) := by decide +kernel
theorem dX4_take_195 : decode cX4_take 195 = .ok (.aload_n 2, 1) := by decide +kernel
theorem dX4_take_196 : decode cX4_take 196 = .ok (.invokestatic 70, 3) := by decide +kernel
theorem dX4_take_199 : decode cX4_take 199 = .ok (.putfield 74, 3) := by decide +kernel
theorem dX4_take_202 : decode cX4_take 202 = .ok (.return_, 1) := by decide +kernel
theorem dX4_valuesIn_0 : decode cX4_valuesIn 0 = .ok (.iconst 0, 1) := by decide +kernel
theorem dX4_valuesIn_1 : decode cX4_valuesIn 1 = .ok (.istore_n 3, 1) := by decide +kernel
theorem dX4_valuesIn_2 : decode cX4_valuesIn 2 = .ok (.iconst 0, 1) := by decide +kernel
theorem dX4_valuesIn_3 : decode cX4_valuesIn 3 = .ok (.istore 4, 2) := by decide +kernel
theorem dX4_valuesIn_5 : decode cX4_valuesIn 5 = .ok (.iload 4, 2) := by decide +kernel
theorem dX4_valuesIn_7 : decode cX4_valuesIn 7 = .ok (.iconst 4, 1) := by decide +kernel
theorem dX4_valuesIn_8 : decode cX4_valuesIn 8 = .ok (.if_icmp .ge 35, 3) := by decide +kernel
theorem dX4_valuesIn_11 : decode cX4_valuesIn 11 = .ok (.iload_n 0, 1) := by decide +kernel
theorem dX4_valuesIn_12 : decode cX4_valuesIn 12 = .ok (.iload 4, 2) := by decide +kernel
theorem dX4_valuesIn_14 : decode cX4_valuesIn 14 = .ok (.ishr, 1) := by decide +kernel
theorem dX4_valuesIn_15 : decode cX4_valuesIn 15 = .ok (.iconst 1, 1) := by decide +kernel
theorem dX4_valuesIn_16 : decode cX4_valuesIn 16 = .ok (.iand, 1) := by decide +kernel
theorem dX4_valuesIn_17 : decode cX4_valuesIn 17 = .ok (.iconst 1, 1) := by decide +kernel
theorem dX4_valuesIn_18 : decode cX4_valuesIn 18 = .ok (.if_icmp .ne 19, 3) := by decide +kernel
theorem dX4_valuesIn_21 : decode cX4_valuesIn 21 = .ok (.iload_n 3, 1) := by decide +kernel
theorem dX4_valuesIn_22 : decode cX4_valuesIn 22 = .ok (.iconst 1, 1) := by decide +kernel
theorem dX4_valuesIn_23 : decode cX4_valuesIn 23 = .ok (.aload_n 2, 1) := by decide +kernel
theorem dX4_valuesIn_24 : decode cX4_valuesIn 24 = .ok (.getfield 77, 3) := by decide +kernel
theorem dX4_valuesIn_27 : decode cX4_valuesIn 27 = .ok (.iload_n 1, 1) := by decide +kernel
theorem dX4_valuesIn_28 : decode cX4_valuesIn 28 = .ok (.iconst 4, 1) := by decide +kernel
theorem dX4_valuesIn_29 : decode cX4_valuesIn 29 = .ok (.imul, 1) := by decide +kernel
theorem dX4_valuesIn_30 : decode cX4_valuesIn 30 = .ok (.iload 4, 2) := by decide +kernel
theorem dX4_valuesIn_32 : decode cX4_valuesIn 32 = .ok (.iadd, 1) := by decide +kernel
theorem dX4_valuesIn_33 : decode cX4_valuesIn 33 = .ok (.iaload, 1) := by decide +kernel
theorem dX4_valuesIn_34 : decode cX4_valuesIn 34 = .ok (.ishl, 1) := by decide +kernel
theorem dX4_valuesIn_35 : decode cX4_valuesIn 35 = .ok (.ior, 1) := by decide +kernel
theorem dX4_valuesIn_36 : decode cX4_valuesIn 36 = .ok (.istore_n 3, 1) := by decide +kernel
theorem dX4_valuesIn_37 : decode cX4_valuesIn 37 = .ok (.iinc 4 1, 3) := by decide +kernel
theorem dX4_valuesIn_40 : decode cX4_valuesIn 40 = .ok (.goto (-35), 3) := by decide +kernel
theorem dX4_valuesIn_43 : decode cX4_valuesIn 43 = .ok (.iload_n 3, 1) := by decide +kernel
theorem dX4_valuesIn_44 : decode cX4_valuesIn 44 = .ok (.ireturn, 1) := by decide +kernel
theorem dX4_heldAt_0 : decode cX4_heldAt 0 = .ok (.iload_n 1, 1) := by decide +kernel
theorem dX4_heldAt_1 : decode cX4_heldAt 1 = .ok (.ifCond .lt 11, 3) := by decide +kernel
theorem dX4_heldAt_4 : decode cX4_heldAt 4 = .ok (.iload_n 1, 1) := by decide +kernel
theorem dX4_heldAt_5 : decode cX4_heldAt 5 = .ok (.aload_n 0, 1) := by decide +kernel
theorem dX4_heldAt_6 : decode cX4_heldAt 6 = .ok (.getfield 51, 3) := by decide +kernel
theorem dX4_heldAt_9 : decode cX4_heldAt 9 = .ok (.if_icmp .le 7, 3) := by decide +kernel
theorem dX4_heldAt_12 : decode cX4_heldAt 12 = .ok (.iconst 0, 1) := by decide +kernel
theorem dX4_heldAt_13 : decode cX4_heldAt 13 = .ok (.goto 9, 3) := by decide +kernel
theorem dX4_heldAt_16 : decode cX4_heldAt 16 = .ok (.aload_n 0, 1) := by decide +kernel
theorem dX4_heldAt_17 : decode cX4_heldAt 17 = .ok (.getfield 15, 3) := by decide +kernel
theorem dX4_heldAt_20 : decode cX4_heldAt 20 = .ok (.iload_n 1, 1) := by decide +kernel
theorem dX4_heldAt_21 : decode cX4_heldAt 21 = .ok (.iaload, 1) := by decide +kernel
theorem dX4_heldAt_22 : decode cX4_heldAt 22 = .ok (.ireturn, 1) := by decide +kernel
theorem dX4_widest_0 : decode cX4_widest 0 = .ok (.iconst 0, 1) := by decide +kernel
theorem dX4_widest_1 : decode cX4_widest 1 = .ok (.istore_n 1, 1) := by decide +kernel
theorem dX4_widest_2 : decode cX4_widest 2 = .ok (.iconst 0, 1) := by decide +kernel
theorem dX4_widest_3 : decode cX4_widest 3 = .ok (.istore_n 2, 1) := by decide +kernel
theorem dX4_widest_4 : decode cX4_widest 4 = .ok (.iload_n 2, 1) := by decide +kernel
theorem dX4_widest_5 : decode cX4_widest 5 = .ok (.aload_n 0, 1) := by decide +kernel
theorem dX4_widest_6 : decode cX4_widest 6 = .ok (.getfield 51, 3) := by decide +kernel
theorem dX4_widest_9 : decode cX4_widest 9 = .ok (.if_icmp .gt 23, 3) := by decide +kernel
theorem dX4_widest_12 : decode cX4_widest 12 = .ok (.iload_n 1, 1) := by decide +kernel
theorem dX4_widest_13 : decode cX4_widest 13 = .ok (.aload_n 0, 1) := by decide +kernel
theorem dX4_widest_14 : decode cX4_widest 14 = .ok (.getfield 15, 3) := by decide +kernel
theorem dX4_widest_17 : decode cX4_widest 17 = .ok (.iload_n 2, 1) := by decide +kernel
theorem dX4_widest_18 : decode cX4_widest 18 = .ok (.iaload, 1) := by decide +kernel
theorem dX4_widest_19 : decode cX4_widest 19 = .ok (.invokestatic 80, 3) := by decide +kernel
theorem dX4_widest_22 : decode cX4_widest 22 = .ok (.invokestatic 85, 3) := by decide +kernel
theorem dX4_widest_25 : decode cX4_widest 25 = .ok (.istore_n 1, 1) := by decide +kernel
theorem dX4_widest_26 : decode cX4_widest 26 = .ok (.iinc 2 1, 3) := by decide +kernel
theorem dX4_widest_29 : decode cX4_widest 29 = .ok (.goto (-25), 3) := by decide +kernel
theorem dX4_widest_32 : decode cX4_widest 32 = .ok (.iload_n 1, 1) := by decide +kernel
theorem dX4_widest_33 : decode cX4_widest 33 = .ok (.ireturn, 1) := by decide +kernel
theorem dX4_findFewest_0 : decode cX4_findFewest 0 = .ok (.aload_n 0, 1) := by decide +kernel
theorem dX4_findFewest_1 : decode cX4_findFewest 1 = .ok (.getfield 51, 3) := by decide +kernel
theorem dX4_findFewest_4 : decode cX4_findFewest 4 = .ok (.bipush 8, 2) := by decide +kernel
theorem dX4_findFewest_6 : decode cX4_findFewest 6 = .ok (.if_icmp .le 4, 3) := by decide +kernel
theorem dX4_findFewest_9 : decode cX4_findFewest 9 = .ok (.return_, 1) := by decide +kernel
theorem dX4_findFewest_10 : decode cX4_findFewest 10 = .ok (.iconst 1, 1) := by decide +kernel
theorem dX4_findFewest_11 : decode cX4_findFewest 11 = .ok (.aload_n 0, 1) := by decide +kernel
theorem dX4_findFewest_12 : decode cX4_findFewest 12 = .ok (.getfield 51, 3) := by decide +kernel
theorem dX4_findFewest_15 : decode cX4_findFewest 15 = .ok (.ishl, 1) := by decide +kernel
theorem dX4_findFewest_16 : decode cX4_findFewest 16 = .ok (.iconst 1, 1) := by decide +kernel
theorem dX4_findFewest_17 : decode cX4_findFewest 17 = .ok (.isub, 1) := by decide +kernel
theorem dX4_findFewest_18 : decode cX4_findFewest 18 = .ok (.istore_n 1, 1) := by decide +kernel
theorem dX4_findFewest_19 : decode cX4_findFewest 19 = .ok (.aload_n 0, 1) := by decide +kernel
theorem dX4_findFewest_20 : decode cX4_findFewest 20 = .ok (.getfield 33, 3) := by decide +kernel
theorem dX4_findFewest_23 : decode cX4_findFewest 23 = .ok (.iload_n 1, 1) := by decide +kernel
theorem dX4_findFewest_24 : decode cX4_findFewest 24 = .ok (.iconst 0, 1) := by decide +kernel
theorem dX4_findFewest_25 : decode cX4_findFewest 25 = .ok (.iastore, 1) := by decide +kernel
theorem dX4_findFewest_26 : decode cX4_findFewest 26 = .ok (.aload_n 0, 1) := by decide +kernel
theorem dX4_findFewest_27 : decode cX4_findFewest 27 = .ok (.getfield 30, 3) := by decide +kernel
theorem dX4_findFewest_30 : decode cX4_findFewest 30 = .ok (.iload_n 1, 1) := by decide +kernel
theorem dX4_findFewest_31 : decode cX4_findFewest 31 = .ok (.aload_n 0, 1) := by decide +kernel
theorem dX4_findFewest_32 : decode cX4_findFewest 32 = .ok (.iload_n 1, 1) := by decide +kernel
theorem dX4_findFewest_33 : decode cX4_findFewest 33 = .ok (.invokevirtual 91, 3) := by decide +kernel
theorem dX4_findFewest_36 : decode cX4_findFewest 36 = .ok (.iastore, 1) := by decide +kernel
theorem dX4_findFewest_37 : decode cX4_findFewest 37 = .ok (.iload_n 1, 1) := by decide +kernel
theorem dX4_findFewest_38 : decode cX4_findFewest 38 = .ok (.iconst 1, 1) := by decide +kernel
theorem dX4_findFewest_39 : decode cX4_findFewest 39 = .ok (.isub, 1) := by decide +kernel
theorem dX4_findFewest_40 : decode cX4_findFewest 40 = .ok (.istore_n 2, 1) := by decide +kernel
theorem dX4_findFewest_41 : decode cX4_findFewest 41 = .ok (.iload_n 2, 1) := by decide +kernel
theorem dX4_findFewest_42 : decode cX4_findFewest 42 = .ok (.ifCond .lt 65, 3) := by decide +kernel
theorem dX4_findFewest_45 : decode cX4_findFewest 45 = .ok (.aload_n 0, 1) := by decide +kernel
theorem dX4_findFewest_46 : decode cX4_findFewest 46 = .ok (.getfield 30, 3) := by decide +kernel
theorem dX4_findFewest_49 : decode cX4_findFewest 49 = .ok (.iload_n 2, 1) := by decide +kernel
theorem dX4_findFewest_50 : decode cX4_findFewest 50 = .ok (.aload_n 0, 1) := by decide +kernel
theorem dX4_findFewest_51 : decode cX4_findFewest 51 = .ok (.iload_n 2, 1) := by decide +kernel
theorem dX4_findFewest_52 : decode cX4_findFewest 52 = .ok (.invokevirtual 91, 3) := by decide +kernel
theorem dX4_findFewest_55 : decode cX4_findFewest 55 = .ok (.iastore, 1) := by decide +kernel
theorem dX4_findFewest_56 : decode cX4_findFewest 56 = .ok (.aload_n 0, 1) := by decide +kernel
theorem dX4_findFewest_57 : decode cX4_findFewest 57 = .ok (.getfield 33, 3) := by decide +kernel
theorem dX4_findFewest_60 : decode cX4_findFewest 60 = .ok (.iload_n 2, 1) := by decide +kernel
theorem dX4_findFewest_61 : decode cX4_findFewest 61 = .ok (.ldc 94, 2) := by decide +kernel
theorem dX4_findFewest_63 : decode cX4_findFewest 63 = .ok (.iastore, 1) := by decide +kernel
theorem dX4_findFewest_64 : decode cX4_findFewest 64 = .ok (.iconst 0, 1) := by decide +kernel
theorem dX4_findFewest_65 : decode cX4_findFewest 65 = .ok (.istore_n 3, 1) := by decide +kernel
theorem dX4_findFewest_66 : decode cX4_findFewest 66 = .ok (.iload_n 3, 1) := by decide +kernel
theorem dX4_findFewest_67 : decode cX4_findFewest 67 = .ok (.aload_n 0, 1) := by decide +kernel
theorem dX4_findFewest_68 : decode cX4_findFewest 68 = .ok (.getfield 51, 3) := by decide +kernel
theorem dX4_findFewest_71 : decode cX4_findFewest 71 = .ok (.if_icmp .ge 30, 3) := by decide +kernel
theorem dX4_findFewest_74 : decode cX4_findFewest 74 = .ok (.aload_n 0, 1) := by decide +kernel
theorem dX4_findFewest_75 : decode cX4_findFewest 75 = .ok (.getfield 33, 3) := by decide +kernel
theorem dX4_findFewest_78 : decode cX4_findFewest 78 = .ok (.iload_n 2, 1) := by decide +kernel
theorem dX4_findFewest_79 : decode cX4_findFewest 79 = .ok (.aload_n 0, 1) := by decide +kernel
theorem dX4_findFewest_80 : decode cX4_findFewest 80 = .ok (.getfield 33, 3) := by decide +kernel
theorem dX4_findFewest_83 : decode cX4_findFewest 83 = .ok (.iload_n 2, 1) := by decide +kernel
theorem dX4_findFewest_84 : decode cX4_findFewest 84 = .ok (.iaload, 1) := by decide +kernel
theorem dX4_findFewest_85 : decode cX4_findFewest 85 = .ok (.aload_n 0, 1) := by decide +kernel
theorem dX4_findFewest_86 : decode cX4_findFewest 86 = .ok (.iload_n 2, 1) := by decide +kernel
theorem dX4_findFewest_87 : decode cX4_findFewest 87 = .ok (.iload_n 3, 1) := by decide +kernel
theorem dX4_findFewest_88 : decode cX4_findFewest 88 = .ok (.invokevirtual 95, 3) := by decide +kernel
theorem dX4_findFewest_91 : decode cX4_findFewest 91 = .ok (.invokestatic 98, 3) := by decide +kernel
theorem dX4_findFewest_94 : decode cX4_findFewest 94 = .ok (.iastore, 1) := by decide +kernel
theorem dX4_findFewest_95 : decode cX4_findFewest 95 = .ok (.iinc 3 1, 3) := by decide +kernel
theorem dX4_findFewest_98 : decode cX4_findFewest 98 = .ok (.goto (-32), 3) := by decide +kernel
theorem dX4_findFewest_101 : decode cX4_findFewest 101 = .ok (.iinc 2 (-1), 3) := by decide +kernel
theorem dX4_findFewest_104 : decode cX4_findFewest 104 = .ok (.goto (-63), 3) := by decide +kernel
theorem dX4_findFewest_107 : decode cX4_findFewest 107 = .ok (.aload_n 0, 1) := by decide +kernel
theorem dX4_findFewest_108 : decode cX4_findFewest 108 = .ok (.aload_n 0, 1) := by decide +kernel
theorem dX4_findFewest_109 : decode cX4_findFewest 109 = .ok (.getfield 30, 3) := by decide +kernel
theorem dX4_findFewest_112 : decode cX4_findFewest 112 = .ok (.iconst 0, 1) := by decide +kernel
theorem dX4_findFewest_113 : decode cX4_findFewest 113 = .ok (.iaload, 1) := by decide +kernel
theorem dX4_findFewest_114 : decode cX4_findFewest 114 = .ok (.aload_n 0, 1) := by decide +kernel
theorem dX4_findFewest_115 : decode cX4_findFewest 115 = .ok (.getfield 33, 3) := by decide +kernel
theorem dX4_findFewest_118 : decode cX4_findFewest 118 = .ok (.iconst 0, 1) := by decide +kernel
theorem dX4_findFewest_119 : decode cX4_findFewest 119 = .ok (.iaload, 1) := by decide +kernel
theorem dX4_findFewest_120 : decode cX4_findFewest 120 = .ok (.invokestatic 85, 3) := by decide +kernel
theorem dX4_findFewest_123 : decode cX4_findFewest 123 = .ok (.putfield 101, 3) := by decide +kernel
theorem dX4_findFewest_126 : decode cX4_findFewest 126 = .ok (.aload_n 0, 1) := by decide +kernel
theorem dX4_findFewest_127 : decode cX4_findFewest 127 = .ok (.invokevirtual 104, 3) := by decide +kernel
theorem dX4_findFewest_130 : decode cX4_findFewest 130 = .ok (.return_, 1) := by decide +kernel
theorem dX4_heldBehind_0 : decode cX4_heldBehind 0 = .ok (.iconst 0, 1) := by decide +kernel
theorem dX4_heldBehind_1 : decode cX4_heldBehind 1 = .ok (.istore_n 2, 1) := by decide +kernel
theorem dX4_heldBehind_2 : decode cX4_heldBehind 2 = .ok (.iconst 0, 1) := by decide +kernel
theorem dX4_heldBehind_3 : decode cX4_heldBehind 3 = .ok (.istore_n 3, 1) := by decide +kernel
theorem dX4_heldBehind_4 : decode cX4_heldBehind 4 = .ok (.iload_n 3, 1) := by decide +kernel
theorem dX4_heldBehind_5 : decode cX4_heldBehind 5 = .ok (.iconst 4, 1) := by decide +kernel
theorem dX4_heldBehind_6 : decode cX4_heldBehind 6 = .ok (.aload_n 0, 1) := by decide +kernel
theorem dX4_heldBehind_7 : decode cX4_heldBehind 7 = .ok (.getfield 51, 3) := by decide +kernel
theorem dX4_heldBehind_10 : decode cX4_heldBehind 10 = .ok (.iadd, 1) := by decide +kernel
theorem dX4_heldBehind_11 : decode cX4_heldBehind 11 = .ok (.if_icmp .ge 77, 3) := by decide +kernel
theorem dX4_heldBehind_14 : decode cX4_heldBehind 14 = .ok (.iload_n 3, 1) := by decide +kernel
theorem dX4_heldBehind_15 : decode cX4_heldBehind 15 = .ok (.iconst 4, 1) := by decide +kernel
theorem dX4_heldBehind_16 : decode cX4_heldBehind 16 = .ok (.if_icmp .lt 14, 3) := by decide +kernel
theorem dX4_heldBehind_19 : decode cX4_heldBehind 19 = .ok (.iload_n 1, 1) := by decide +kernel
theorem dX4_heldBehind_20 : decode cX4_heldBehind 20 = .ok (.iload_n 3, 1) := by decide +kernel
theorem dX4_heldBehind_21 : decode cX4_heldBehind 21 = .ok (.iconst 4, 1) := by decide +kernel
theorem dX4_heldBehind_22 : decode cX4_heldBehind 22 = .ok (.isub, 1) := by decide +kernel
theorem dX4_heldBehind_23 : decode cX4_heldBehind 23 = .ok (.ishr, 1) := by decide +kernel
theorem dX4_heldBehind_24 : decode cX4_heldBehind 24 = .ok (.iconst 1, 1) := by decide +kernel
theorem dX4_heldBehind_25 : decode cX4_heldBehind 25 = .ok (.iand, 1) := by decide +kernel
theorem dX4_heldBehind_26 : decode cX4_heldBehind 26 = .ok (.iconst 1, 1) := by decide +kernel
theorem dX4_heldBehind_27 : decode cX4_heldBehind 27 = .ok (.if_icmp .ne 7, 3) := by decide +kernel
theorem dX4_heldBehind_30 : decode cX4_heldBehind 30 = .ok (.iconst 1, 1) := by decide +kernel
theorem dX4_heldBehind_31 : decode cX4_heldBehind 31 = .ok (.goto 4, 3) := by decide +kernel
theorem dX4_heldBehind_34 : decode cX4_heldBehind 34 = .ok (.iconst 0, 1) := by decide +kernel
theorem dX4_heldBehind_35 : decode cX4_heldBehind 35 = .ok (.istore 4, 2) := by decide +kernel
theorem dX4_heldBehind_37 : decode cX4_heldBehind 37 = .ok (.aload_n 0, 1) := by decide +kernel
theorem dX4_heldBehind_38 : decode cX4_heldBehind 38 = .ok (.getfield 74, 3) := by decide +kernel
theorem dX4_heldBehind_41 : decode cX4_heldBehind 41 = .ok (.iload_n 3, 1) := by decide +kernel
theorem dX4_heldBehind_42 : decode cX4_heldBehind 42 = .ok (.ishr, 1) := by decide +kernel
theorem dX4_heldBehind_43 : decode cX4_heldBehind 43 = .ok (.iconst 1, 1) := by decide +kernel
theorem dX4_heldBehind_44 : decode cX4_heldBehind 44 = .ok (.iand, 1) := by decide +kernel
theorem dX4_heldBehind_45 : decode cX4_heldBehind 45 = .ok (.iconst 1, 1) := by decide +kernel
theorem dX4_heldBehind_46 : decode cX4_heldBehind 46 = .ok (.if_icmp .eq 16, 3) := by decide +kernel
theorem dX4_heldBehind_49 : decode cX4_heldBehind 49 = .ok (.aload_n 0, 1) := by decide +kernel
theorem dX4_heldBehind_50 : decode cX4_heldBehind 50 = .ok (.getfield 24, 3) := by decide +kernel
theorem dX4_heldBehind_53 : decode cX4_heldBehind 53 = .ok (.iload_n 3, 1) := by decide +kernel
theorem dX4_heldBehind_54 : decode cX4_heldBehind 54 = .ok (.iaload, 1) := by decide +kernel
theorem dX4_heldBehind_55 : decode cX4_heldBehind 55 = .ok (.iload_n 1, 1) := by decide +kernel
theorem dX4_heldBehind_56 : decode cX4_heldBehind 56 = .ok (.iconst (-1), 1) := by decide +kernel
theorem dX4_heldBehind_57 : decode cX4_heldBehind 57 = .ok (.ixor, 1) := by decide +kernel
theorem dX4_heldBehind_58 : decode cX4_heldBehind 58 = .ok (.iand, 1) := by decide +kernel
theorem dX4_heldBehind_59 : decode cX4_heldBehind 59 = .ok (.ifCond .eq 7, 3) := by decide +kernel
theorem dX4_heldBehind_62 : decode cX4_heldBehind 62 = .ok (.iconst 1, 1) := by decide +kernel
theorem dX4_heldBehind_63 : decode cX4_heldBehind 63 = .ok (.goto 4, 3) := by decide +kernel
theorem dX4_heldBehind_66 : decode cX4_heldBehind 66 = .ok (.iconst 0, 1) := by decide +kernel
theorem dX4_heldBehind_67 : decode cX4_heldBehind 67 = .ok (.istore 5, 2) := by decide +kernel
theorem dX4_heldBehind_69 : decode cX4_heldBehind 69 = .ok (.iload 4, 2) := by decide +kernel
theorem dX4_heldBehind_71 : decode cX4_heldBehind 71 = .ok (.ifCond .eq 11, 3) := by decide +kernel
theorem dX4_heldBehind_74 : decode cX4_heldBehind 74 = .ok (.iload 5, 2) := by decide +kernel
theorem dX4_heldBehind_76 : decode cX4_heldBehind 76 = .ok (.ifCond .eq 6, 3) := by decide +kernel
theorem dX4_heldBehind_79 : decode cX4_heldBehind 79 = .ok (.iinc 2 1, 3) := by decide +kernel
theorem dX4_heldBehind_82 : decode cX4_heldBehind 82 = .ok (.iinc 3 1, 3) := by decide +kernel
theorem dX4_heldBehind_85 : decode cX4_heldBehind 85 = .ok (.goto (-81), 3) := by decide +kernel
theorem dX4_heldBehind_88 : decode cX4_heldBehind 88 = .ok (.iload_n 2, 1) := by decide +kernel
theorem dX4_heldBehind_89 : decode cX4_heldBehind 89 = .ok (.ireturn, 1) := by decide +kernel
theorem dX4_widthBy_0 : decode cX4_widthBy 0 = .ok (.iload_n 1, 1) := by decide +kernel
theorem dX4_widthBy_1 : decode cX4_widthBy 1 = .ok (.iload_n 2, 1) := by decide +kernel
theorem dX4_widthBy_2 : decode cX4_widthBy 2 = .ok (.ishr, 1) := by decide +kernel
theorem dX4_widthBy_3 : decode cX4_widthBy 3 = .ok (.iconst 1, 1) := by decide +kernel
theorem dX4_widthBy_4 : decode cX4_widthBy 4 = .ok (.iand, 1) := by decide +kernel
theorem dX4_widthBy_5 : decode cX4_widthBy 5 = .ok (.iconst 1, 1) := by decide +kernel
theorem dX4_widthBy_6 : decode cX4_widthBy 6 = .ok (.if_icmp .eq 16, 3) := by decide +kernel
theorem dX4_widthBy_9 : decode cX4_widthBy 9 = .ok (.aload_n 0, 1) := by decide +kernel
theorem dX4_widthBy_10 : decode cX4_widthBy 10 = .ok (.getfield 27, 3) := by decide +kernel
theorem dX4_widthBy_13 : decode cX4_widthBy 13 = .ok (.iload_n 2, 1) := by decide +kernel
theorem dX4_widthBy_14 : decode cX4_widthBy 14 = .ok (.iaload, 1) := by decide +kernel
theorem dX4_widthBy_15 : decode cX4_widthBy 15 = .ok (.iload_n 1, 1) := by decide +kernel
theorem dX4_widthBy_16 : decode cX4_widthBy 16 = .ok (.iconst (-1), 1) := by decide +kernel
theorem dX4_widthBy_17 : decode cX4_widthBy 17 = .ok (.ixor, 1) := by decide +kernel
theorem dX4_widthBy_18 : decode cX4_widthBy 18 = .ok (.iand, 1) := by decide +kernel
theorem dX4_widthBy_19 : decode cX4_widthBy 19 = .ok (.ifCond .eq 6, 3) := by decide +kernel
theorem dX4_widthBy_22 : decode cX4_widthBy 22 = .ok (.ldc 94, 2) := by decide +kernel
theorem dX4_widthBy_24 : decode cX4_widthBy 24 = .ok (.ireturn, 1) := by decide +kernel
theorem dX4_widthBy_25 : decode cX4_widthBy 25 = .ok (.iconst 4, 1) := by decide +kernel
theorem dX4_widthBy_26 : decode cX4_widthBy 26 = .ok (.iload_n 2, 1) := by decide +kernel
theorem dX4_widthBy_27 : decode cX4_widthBy 27 = .ok (.iadd, 1) := by decide +kernel
theorem dX4_widthBy_28 : decode cX4_widthBy 28 = .ok (.istore_n 3, 1) := by decide +kernel
theorem dX4_widthBy_29 : decode cX4_widthBy 29 = .ok (.aload_n 0, 1) := by decide +kernel
theorem dX4_widthBy_30 : decode cX4_widthBy 30 = .ok (.getfield 24, 3) := by decide +kernel
theorem dX4_widthBy_33 : decode cX4_widthBy 33 = .ok (.iload_n 3, 1) := by decide +kernel
theorem dX4_widthBy_34 : decode cX4_widthBy 34 = .ok (.iaload, 1) := by decide +kernel
theorem dX4_widthBy_35 : decode cX4_widthBy 35 = .ok (.ifCond .ne 18, 3) := by decide +kernel
theorem dX4_widthBy_38 : decode cX4_widthBy 38 = .ok (.aload_n 0, 1) := by decide +kernel
theorem dX4_widthBy_39 : decode cX4_widthBy 39 = .ok (.getfield 74, 3) := by decide +kernel
theorem dX4_widthBy_42 : decode cX4_widthBy 42 = .ok (.iload_n 3, 1) := by decide +kernel
theorem dX4_widthBy_43 : decode cX4_widthBy 43 = .ok (.ishr, 1) := by decide +kernel
theorem dX4_widthBy_44 : decode cX4_widthBy 44 = .ok (.iconst 1, 1) := by decide +kernel
theorem dX4_widthBy_45 : decode cX4_widthBy 45 = .ok (.iand, 1) := by decide +kernel
theorem dX4_widthBy_46 : decode cX4_widthBy 46 = .ok (.ifCond .ne 7, 3) := by decide +kernel
theorem dX4_widthBy_49 : decode cX4_widthBy 49 = .ok (.iconst 1, 1) := by decide +kernel
theorem dX4_widthBy_50 : decode cX4_widthBy 50 = .ok (.goto 4, 3) := by decide +kernel
theorem dX4_widthBy_53 : decode cX4_widthBy 53 = .ok (.iconst 0, 1) := by decide +kernel
theorem dX4_widthBy_54 : decode cX4_widthBy 54 = .ok (.istore 4, 2) := by decide +kernel
theorem dX4_widthBy_56 : decode cX4_widthBy 56 = .ok (.iload_n 1, 1) := by decide +kernel
theorem dX4_widthBy_57 : decode cX4_widthBy 57 = .ok (.iconst 1, 1) := by decide +kernel
theorem dX4_widthBy_58 : decode cX4_widthBy 58 = .ok (.iload_n 2, 1) := by decide +kernel
theorem dX4_widthBy_59 : decode cX4_widthBy 59 = .ok (.ishl, 1) := by decide +kernel
theorem dX4_widthBy_60 : decode cX4_widthBy 60 = .ok (.ior, 1) := by decide +kernel
theorem dX4_widthBy_61 : decode cX4_widthBy 61 = .ok (.istore 5, 2) := by decide +kernel
theorem dX4_widthBy_63 : decode cX4_widthBy 63 = .ok (.aload_n 0, 1) := by decide +kernel
theorem dX4_widthBy_64 : decode cX4_widthBy 64 = .ok (.getfield 30, 3) := by decide +kernel
theorem dX4_widthBy_67 : decode cX4_widthBy 67 = .ok (.iload 5, 2) := by decide +kernel
theorem dX4_widthBy_69 : decode cX4_widthBy 69 = .ok (.iaload, 1) := by decide +kernel
theorem dX4_widthBy_70 : decode cX4_widthBy 70 = .ok (.iload 4, 2) := by decide +kernel
theorem dX4_widthBy_72 : decode cX4_widthBy 72 = .ok (.ifCond .eq 7, 3) := by decide +kernel
theorem dX4_widthBy_75 : decode cX4_widthBy 75 = .ok (.iconst 1, 1) := by decide +kernel
theorem dX4_widthBy_76 : decode cX4_widthBy 76 = .ok (.goto 4, 3) := by decide +kernel
theorem dX4_widthBy_79 : decode cX4_widthBy 79 = .ok (.iconst 0, 1) := by decide +kernel
theorem dX4_widthBy_80 : decode cX4_widthBy 80 = .ok (.iadd, 1) := by decide +kernel
theorem dX4_widthBy_81 : decode cX4_widthBy 81 = .ok (.aload_n 0, 1) := by decide +kernel
theorem dX4_widthBy_82 : decode cX4_widthBy 82 = .ok (.getfield 33, 3) := by decide +kernel
theorem dX4_widthBy_85 : decode cX4_widthBy 85 = .ok (.iload 5, 2) := by decide +kernel
theorem dX4_widthBy_87 : decode cX4_widthBy 87 = .ok (.iaload, 1) := by decide +kernel
theorem dX4_widthBy_88 : decode cX4_widthBy 88 = .ok (.invokestatic 85, 3) := by decide +kernel
theorem dX4_widthBy_91 : decode cX4_widthBy 91 = .ok (.ireturn, 1) := by decide +kernel
theorem dX4_tellFirstOrder_0 : decode cX4_tellFirstOrder 0 = .ok (.iconst 0, 1) := by decide +kernel
theorem dX4_tellFirstOrder_1 : decode cX4_tellFirstOrder 1 = .ok (.istore_n 1, 1) := by decide +kernel
theorem dX4_tellFirstOrder_2 : decode cX4_tellFirstOrder 2 = .ok (.iconst 0, 1) := by decide +kernel
theorem dX4_tellFirstOrder_3 : decode cX4_tellFirstOrder 3 = .ok (.istore_n 2, 1) := by decide +kernel
theorem dX4_tellFirstOrder_4 : decode cX4_tellFirstOrder 4 = .ok (.iload_n 2, 1) := by decide +kernel
theorem dX4_tellFirstOrder_5 : decode cX4_tellFirstOrder 5 = .ok (.aload_n 0, 1) := by decide +kernel
theorem dX4_tellFirstOrder_6 : decode cX4_tellFirstOrder 6 = .ok (.getfield 51, 3) := by decide +kernel
theorem dX4_tellFirstOrder_9 : decode cX4_tellFirstOrder 9 = .ok (.if_icmp .ge 59, 3) := by decide +kernel
theorem dX4_tellFirstOrder_12 : decode cX4_tellFirstOrder 12 = .ok (.iload_n 2, 1) := by decide +kernel
theorem dX4_tellFirstOrder_13 : decode cX4_tellFirstOrder 13 = .ok (.bipush 8, 2) := by decide +kernel
theorem dX4_tellFirstOrder_15 : decode cX4_tellFirstOrder 15 = .ok (.if_icmp .ge 53, 3) := by decide +kernel
theorem dX4_tellFirstOrder_18 : decode cX4_tellFirstOrder 18 = .ok (.iconst 0, 1) := by decide +kernel
theorem dX4_tellFirstOrder_19 : decode cX4_tellFirstOrder 19 = .ok (.istore_n 3, 1) := by decide +kernel
theorem dX4_tellFirstOrder_20 : decode cX4_tellFirstOrder 20 = .ok (.iload_n 3, 1) := by decide +kernel
theorem dX4_tellFirstOrder_21 : decode cX4_tellFirstOrder 21 = .ok (.aload_n 0, 1) := by decide +kernel
theorem dX4_tellFirstOrder_22 : decode cX4_tellFirstOrder 22 = .ok (.getfield 51, 3) := by decide +kernel
theorem dX4_tellFirstOrder_25 : decode cX4_tellFirstOrder 25 = .ok (.iconst 1, 1) := by decide +kernel
theorem dX4_tellFirstOrder_26 : decode cX4_tellFirstOrder 26 = .ok (.isub, 1) := by decide +kernel
theorem dX4_tellFirstOrder_27 : decode cX4_tellFirstOrder 27 = .ok (.if_icmp .ge 22, 3) := by decide +kernel
theorem dX4_tellFirstOrder_30 : decode cX4_tellFirstOrder 30 = .ok (.aload_n 0, 1) := by decide +kernel
theorem dX4_tellFirstOrder_31 : decode cX4_tellFirstOrder 31 = .ok (.iload_n 1, 1) := by decide +kernel
theorem dX4_tellFirstOrder_32 : decode cX4_tellFirstOrder 32 = .ok (.iload_n 3, 1) := by decide +kernel
theorem dX4_tellFirstOrder_33 : decode cX4_tellFirstOrder 33 = .ok (.invokevirtual 95, 3) := by decide +kernel
theorem dX4_tellFirstOrder_36 : decode cX4_tellFirstOrder 36 = .ok (.aload_n 0, 1) := by decide +kernel
theorem dX4_tellFirstOrder_37 : decode cX4_tellFirstOrder 37 = .ok (.getfield 101, 3) := by decide +kernel
theorem dX4_tellFirstOrder_40 : decode cX4_tellFirstOrder 40 = .ok (.if_icmp .le 9, 3) := by decide +kernel
theorem dX4_tellFirstOrder_43 : decode cX4_tellFirstOrder 43 = .ok (.iinc 3 1, 3) := by decide +kernel
theorem dX4_tellFirstOrder_46 : decode cX4_tellFirstOrder 46 = .ok (.goto (-26), 3) := by decide +kernel
theorem dX4_tellFirstOrder_49 : decode cX4_tellFirstOrder 49 = .ok (.aload_n 0, 1) := by decide +kernel
theorem dX4_tellFirstOrder_50 : decode cX4_tellFirstOrder 50 = .ok (.getfield 36, 3) := by decide +kernel
theorem dX4_tellFirstOrder_53 : decode cX4_tellFirstOrder 53 = .ok (.iload_n 2, 1) := by decide +kernel
theorem dX4_tellFirstOrder_54 : decode cX4_tellFirstOrder 54 = .ok (.iload_n 3, 1) := by decide +kernel
theorem dX4_tellFirstOrder_55 : decode cX4_tellFirstOrder 55 = .ok (.iastore, 1) := by decide +kernel
theorem dX4_tellFirstOrder_56 : decode cX4_tellFirstOrder 56 = .ok (.iload_n 1, 1) := by decide +kernel
theorem dX4_tellFirstOrder_57 : decode cX4_tellFirstOrder 57 = .ok (.iconst 1, 1) := by decide +kernel
theorem dX4_tellFirstOrder_58 : decode cX4_tellFirstOrder 58 = .ok (.iload_n 3, 1) := by decide +kernel
theorem dX4_tellFirstOrder_59 : decode cX4_tellFirstOrder 59 = .ok (.ishl, 1) := by decide +kernel
theorem dX4_tellFirstOrder_60 : decode cX4_tellFirstOrder 60 = .ok (.ior, 1) := by decide +kernel
theorem dX4_tellFirstOrder_61 : decode cX4_tellFirstOrder 61 = .ok (.istore_n 1, 1) := by decide +kernel
theorem dX4_tellFirstOrder_62 : decode cX4_tellFirstOrder 62 = .ok (.iinc 2 1, 3) := by decide +kernel
theorem dX4_tellFirstOrder_65 : decode cX4_tellFirstOrder 65 = .ok (.goto (-61), 3) := by decide +kernel
theorem dX4_tellFirstOrder_68 : decode cX4_tellFirstOrder 68 = .ok (.return_, 1) := by decide +kernel
theorem dX4_putBy_0 : decode cX4_putBy 0 = .ok (.iconst 0, 1) := by decide +kernel
theorem dX4_putBy_1 : decode cX4_putBy 1 = .ok (.istore_n 2, 1) := by decide +kernel
theorem dX4_putBy_2 : decode cX4_putBy 2 = .ok (.iload_n 2, 1) := by decide +kernel
theorem dX4_putBy_3 : decode cX4_putBy 3 = .ok (.bipush 16, 2) := by decide +kernel
theorem dX4_putBy_5 : decode cX4_putBy 5 = .ok (.if_icmp .ge 65, 3) := by decide +kernel
theorem dX4_putBy_8 : decode cX4_putBy 8 = .ok (.iload_n 2, 1) := by decide +kernel
theorem dX4_putBy_9 : decode cX4_putBy 9 = .ok (.aload_n 0, 1) := by decide +kernel
theorem dX4_putBy_10 : decode cX4_putBy 10 = .ok (.getfield 18, 3) := by decide +kernel
theorem dX4_putBy_13 : decode cX4_putBy 13 = .ok (.iconst 0, 1) := by decide +kernel
theorem dX4_putBy_14 : decode cX4_putBy 14 = .ok (.iaload, 1) := by decide +kernel
theorem dX4_putBy_15 : decode cX4_putBy 15 = .ok (.iconst (-1), 1) := by decide +kernel
theorem dX4_putBy_16 : decode cX4_putBy 16 = .ok (.ixor, 1) := by decide +kernel
theorem dX4_putBy_17 : decode cX4_putBy 17 = .ok (.iand, 1) := by decide +kernel
theorem dX4_putBy_18 : decode cX4_putBy 18 = .ok (.ifCond .ne 15, 3) := by decide +kernel
theorem dX4_putBy_21 : decode cX4_putBy 21 = .ok (.iload_n 2, 1) := by decide +kernel
theorem dX4_putBy_22 : decode cX4_putBy 22 = .ok (.invokestatic 80, 3) := by decide +kernel
theorem dX4_putBy_25 : decode cX4_putBy 25 = .ok (.iload_n 1, 1) := by decide +kernel
theorem dX4_putBy_26 : decode cX4_putBy 26 = .ok (.if_icmp .gt 7, 3) := by decide +kernel
theorem dX4_putBy_29 : decode cX4_putBy 29 = .ok (.iconst 1, 1) := by decide +kernel
theorem dX4_putBy_30 : decode cX4_putBy 30 = .ok (.goto 4, 3) := by decide +kernel
theorem dX4_putBy_33 : decode cX4_putBy 33 = .ok (.iconst 0, 1) := by decide +kernel
theorem dX4_putBy_34 : decode cX4_putBy 34 = .ok (.istore_n 3, 1) := by decide +kernel
theorem dX4_putBy_35 : decode cX4_putBy 35 = .ok (.aload_n 0, 1) := by decide +kernel
theorem dX4_putBy_36 : decode cX4_putBy 36 = .ok (.getfield 39, 3) := by decide +kernel
theorem dX4_putBy_39 : decode cX4_putBy 39 = .ok (.iload_n 2, 1) := by decide +kernel
theorem dX4_putBy_40 : decode cX4_putBy 40 = .ok (.iload_n 3, 1) := by decide +kernel
theorem dX4_putBy_41 : decode cX4_putBy 41 = .ok (.ifCond .eq 20, 3) := by decide +kernel
theorem dX4_putBy_44 : decode cX4_putBy 44 = .ok (.aload_n 0, 1) := by decide +kernel
theorem dX4_putBy_45 : decode cX4_putBy 45 = .ok (.aload_n 0, 1) := by decide +kernel
theorem dX4_putBy_46 : decode cX4_putBy 46 = .ok (.getfield 18, 3) := by decide +kernel
theorem dX4_putBy_49 : decode cX4_putBy 49 = .ok (.iconst 0, 1) := by decide +kernel
theorem dX4_putBy_50 : decode cX4_putBy 50 = .ok (.iaload, 1) := by decide +kernel
theorem dX4_putBy_51 : decode cX4_putBy 51 = .ok (.iload_n 2, 1) := by decide +kernel
theorem dX4_putBy_52 : decode cX4_putBy 52 = .ok (.iconst (-1), 1) := by decide +kernel
theorem dX4_putBy_53 : decode cX4_putBy 53 = .ok (.ixor, 1) := by decide +kernel
theorem dX4_putBy_54 : decode cX4_putBy 54 = .ok (.iand, 1) := by decide +kernel
theorem dX4_putBy_55 : decode cX4_putBy 55 = .ok (.invokevirtual 107, 3) := by decide +kernel
theorem dX4_putBy_58 : decode cX4_putBy 58 = .ok (.goto 5, 3) := by decide +kernel
theorem dX4_putBy_61 : decode cX4_putBy 61 = .ok (.ldc 94, 2) := by decide +kernel
theorem dX4_putBy_63 : decode cX4_putBy 63 = .ok (.iastore, 1) := by decide +kernel
theorem dX4_putBy_64 : decode cX4_putBy 64 = .ok (.iinc 2 1, 3) := by decide +kernel
theorem dX4_putBy_67 : decode cX4_putBy 67 = .ok (.goto (-65), 3) := by decide +kernel
theorem dX4_putBy_70 : decode cX4_putBy 70 = .ok (.iconst 0, 1) := by decide +kernel
theorem dX4_putBy_71 : decode cX4_putBy 71 = .ok (.istore_n 2, 1) := by decide +kernel
theorem dX4_putBy_72 : decode cX4_putBy 72 = .ok (.iload_n 2, 1) := by decide +kernel
theorem dX4_putBy_73 : decode cX4_putBy 73 = .ok (.aload_n 0, 1) := by decide +kernel
theorem dX4_putBy_74 : decode cX4_putBy 74 = .ok (.getfield 51, 3) := by decide +kernel
theorem dX4_putBy_77 : decode cX4_putBy 77 = .ok (.if_icmp .ge 15, 3) := by decide +kernel
theorem dX4_putBy_80 : decode cX4_putBy 80 = .ok (.aload_n 0, 1) := by decide +kernel
theorem dX4_putBy_81 : decode cX4_putBy 81 = .ok (.iload_n 2, 1) := by decide +kernel
theorem dX4_putBy_82 : decode cX4_putBy 82 = .ok (.iload_n 1, 1) := by decide +kernel
theorem dX4_putBy_83 : decode cX4_putBy 83 = .ok (.invokevirtual 110, 3) := by decide +kernel
theorem dX4_putBy_86 : decode cX4_putBy 86 = .ok (.iinc 2 1, 3) := by decide +kernel
theorem dX4_putBy_89 : decode cX4_putBy 89 = .ok (.goto (-17), 3) := by decide +kernel
theorem dX4_putBy_92 : decode cX4_putBy 92 = .ok (.ldc 94, 2) := by decide +kernel
theorem dX4_putBy_94 : decode cX4_putBy 94 = .ok (.istore_n 2, 1) := by decide +kernel
theorem dX4_putBy_95 : decode cX4_putBy 95 = .ok (.iconst 0, 1) := by decide +kernel
theorem dX4_putBy_96 : decode cX4_putBy 96 = .ok (.istore_n 3, 1) := by decide +kernel
theorem dX4_putBy_97 : decode cX4_putBy 97 = .ok (.iload_n 3, 1) := by decide +kernel
theorem dX4_putBy_98 : decode cX4_putBy 98 = .ok (.bipush 16, 2) := by decide +kernel
theorem dX4_putBy_100 : decode cX4_putBy 100 = .ok (.if_icmp .ge 20, 3) := by decide +kernel
theorem dX4_putBy_103 : decode cX4_putBy 103 = .ok (.iload_n 2, 1) := by decide +kernel
theorem dX4_putBy_104 : decode cX4_putBy 104 = .ok (.aload_n 0, 1) := by decide +kernel
theorem dX4_putBy_105 : decode cX4_putBy 105 = .ok (.getfield 39, 3) := by decide +kernel
theorem dX4_putBy_108 : decode cX4_putBy 108 = .ok (.iload_n 3, 1) := by decide +kernel
theorem dX4_putBy_109 : decode cX4_putBy 109 = .ok (.iaload, 1) := by decide +kernel
theorem dX4_putBy_110 : decode cX4_putBy 110 = .ok (.invokestatic 98, 3) := by decide +kernel
theorem dX4_putBy_113 : decode cX4_putBy 113 = .ok (.istore_n 2, 1) := by decide +kernel
theorem dX4_putBy_114 : decode cX4_putBy 114 = .ok (.iinc 3 1, 3) := by decide +kernel
theorem dX4_putBy_117 : decode cX4_putBy 117 = .ok (.goto (-20), 3) := by decide +kernel
theorem dX4_putBy_120 : decode cX4_putBy 120 = .ok (.iload_n 2, 1) := by decide +kernel
theorem dX4_putBy_121 : decode cX4_putBy 121 = .ok (.ldc 114, 2) := by decide +kernel
theorem dX4_putBy_123 : decode cX4_putBy 123 = .ok (.iand, 1) := by decide +kernel
theorem dX4_putBy_124 : decode cX4_putBy 124 = .ok (.ireturn, 1) := by decide +kernel
theorem dX4_costOf_0 : decode cX4_costOf 0 = .ok (.iconst 0, 1) := by decide +kernel
theorem dX4_costOf_1 : decode cX4_costOf 1 = .ok (.istore_n 2, 1) := by decide +kernel
theorem dX4_costOf_2 : decode cX4_costOf 2 = .ok (.iconst 0, 1) := by decide +kernel
theorem dX4_costOf_3 : decode cX4_costOf 3 = .ok (.istore_n 3, 1) := by decide +kernel
theorem dX4_costOf_4 : decode cX4_costOf 4 = .ok (.iload_n 3, 1) := by decide +kernel
theorem dX4_costOf_5 : decode cX4_costOf 5 = .ok (.iconst 4, 1) := by decide +kernel
theorem dX4_costOf_6 : decode cX4_costOf 6 = .ok (.if_icmp .ge 27, 3) := by decide +kernel
theorem dX4_costOf_9 : decode cX4_costOf 9 = .ok (.iload_n 1, 1) := by decide +kernel
theorem dX4_costOf_10 : decode cX4_costOf 10 = .ok (.iload_n 3, 1) := by decide +kernel
theorem dX4_costOf_11 : decode cX4_costOf 11 = .ok (.ishr, 1) := by decide +kernel
theorem dX4_costOf_12 : decode cX4_costOf 12 = .ok (.iconst 1, 1) := by decide +kernel
theorem dX4_costOf_13 : decode cX4_costOf 13 = .ok (.iand, 1) := by decide +kernel
theorem dX4_costOf_14 : decode cX4_costOf 14 = .ok (.iconst 1, 1) := by decide +kernel
theorem dX4_costOf_15 : decode cX4_costOf 15 = .ok (.if_icmp .ne 12, 3) := by decide +kernel
theorem dX4_costOf_18 : decode cX4_costOf 18 = .ok (.iload_n 2, 1) := by decide +kernel
theorem dX4_costOf_19 : decode cX4_costOf 19 = .ok (.aload_n 0, 1) := by decide +kernel
theorem dX4_costOf_20 : decode cX4_costOf 20 = .ok (.getfield 21, 3) := by decide +kernel
theorem dX4_costOf_23 : decode cX4_costOf 23 = .ok (.iload_n 3, 1) := by decide +kernel
theorem dX4_costOf_24 : decode cX4_costOf 24 = .ok (.iaload, 1) := by decide +kernel
theorem dX4_costOf_25 : decode cX4_costOf 25 = .ok (.iadd, 1) := by decide +kernel
theorem dX4_costOf_26 : decode cX4_costOf 26 = .ok (.istore_n 2, 1) := by decide +kernel
theorem dX4_costOf_27 : decode cX4_costOf 27 = .ok (.iinc 3 1, 3) := by decide +kernel
theorem dX4_costOf_30 : decode cX4_costOf 30 = .ok (.goto (-26), 3) := by decide +kernel
theorem dX4_costOf_33 : decode cX4_costOf 33 = .ok (.iload_n 2, 1) := by decide +kernel
theorem dX4_costOf_34 : decode cX4_costOf 34 = .ok (.ireturn, 1) := by decide +kernel
theorem dX4_passStep_0 : decode cX4_passStep 0 = .ok (.iconst 1, 1) := by decide +kernel
theorem dX4_passStep_1 : decode cX4_passStep 1 = .ok (.aload_n 0, 1) := by decide +kernel
theorem dX4_passStep_2 : decode cX4_passStep 2 = .ok (.getfield 9, 3) := by decide +kernel
theorem dX4_passStep_5 : decode cX4_passStep 5 = .ok (.iload_n 1, 1) := by decide +kernel
theorem dX4_passStep_6 : decode cX4_passStep 6 = .ok (.iaload, 1) := by decide +kernel
theorem dX4_passStep_7 : decode cX4_passStep 7 = .ok (.ishl, 1) := by decide +kernel
theorem dX4_passStep_8 : decode cX4_passStep 8 = .ok (.istore_n 3, 1) := by decide +kernel
theorem dX4_passStep_9 : decode cX4_passStep 9 = .ok (.aload_n 0, 1) := by decide +kernel
theorem dX4_passStep_10 : decode cX4_passStep 10 = .ok (.getfield 42, 3) := by decide +kernel
theorem dX4_passStep_13 : decode cX4_passStep 13 = .ok (.ldc 94, 2) := by decide +kernel
theorem dX4_passStep_15 : decode cX4_passStep 15 = .ok (.invokestatic 115, 3) := by decide +kernel
theorem dX4_passStep_18 : decode cX4_passStep 18 = .ok (.iconst 0, 1) := by decide +kernel
theorem dX4_passStep_19 : decode cX4_passStep 19 = .ok (.istore 4, 2) := by decide +kernel
theorem dX4_passStep_21 : decode cX4_passStep 21 = .ok (.iload 4, 2) := by decide +kernel
theorem dX4_passStep_23 : decode cX4_passStep 23 = .ok (.bipush 16, 2) := by decide +kernel
theorem dX4_passStep_25 : decode cX4_passStep 25 = .ok (.if_icmp .ge 108, 3) := by decide +kernel
theorem dX4_passStep_28 : decode cX4_passStep 28 = .ok (.aload_n 0, 1) := by decide +kernel
theorem dX4_passStep_29 : decode cX4_passStep 29 = .ok (.getfield 39, 3) := by decide +kernel
theorem dX4_passStep_32 : decode cX4_passStep 32 = .ok (.iload 4, 2) := by decide +kernel
theorem dX4_passStep_34 : decode cX4_passStep 34 = .ok (.iaload, 1) := by decide +kernel
theorem dX4_passStep_35 : decode cX4_passStep 35 = .ok (.ldc 94, 2) := by decide +kernel
theorem dX4_passStep_37 : decode cX4_passStep 37 = .ok (.if_icmp .ge 90, 3) := by decide +kernel
theorem dX4_passStep_40 : decode cX4_passStep 40 = .ok (.iload 4, 2) := by decide +kernel
theorem dX4_passStep_42 : decode cX4_passStep 42 = .ok (.aload_n 0, 1) := by decide +kernel
theorem dX4_passStep_43 : decode cX4_passStep 43 = .ok (.getfield 18, 3) := by decide +kernel
theorem dX4_passStep_46 : decode cX4_passStep 46 = .ok (.iload_n 1, 1) := by decide +kernel
theorem dX4_passStep_47 : decode cX4_passStep 47 = .ok (.iconst 1, 1) := by decide +kernel
theorem dX4_passStep_48 : decode cX4_passStep 48 = .ok (.iadd, 1) := by decide +kernel
theorem dX4_passStep_49 : decode cX4_passStep 49 = .ok (.iaload, 1) := by decide +kernel
theorem dX4_passStep_50 : decode cX4_passStep 50 = .ok (.iand, 1) := by decide +kernel
theorem dX4_passStep_51 : decode cX4_passStep 51 = .ok (.iload_n 3, 1) := by decide +kernel
theorem dX4_passStep_52 : decode cX4_passStep 52 = .ok (.iconst (-1), 1) := by decide +kernel
theorem dX4_passStep_53 : decode cX4_passStep 53 = .ok (.ixor, 1) := by decide +kernel
theorem dX4_passStep_54 : decode cX4_passStep 54 = .ok (.iand, 1) := by decide +kernel
theorem dX4_passStep_55 : decode cX4_passStep 55 = .ok (.istore 5, 2) := by decide +kernel
theorem dX4_passStep_57 : decode cX4_passStep 57 = .ok (.aload_n 0, 1) := by decide +kernel
theorem dX4_passStep_58 : decode cX4_passStep 58 = .ok (.getfield 42, 3) := by decide +kernel
theorem dX4_passStep_61 : decode cX4_passStep 61 = .ok (.iload 5, 2) := by decide +kernel
theorem dX4_passStep_63 : decode cX4_passStep 63 = .ok (.aload_n 0, 1) := by decide +kernel
theorem dX4_passStep_64 : decode cX4_passStep 64 = .ok (.getfield 42, 3) := by decide +kernel
theorem dX4_passStep_67 : decode cX4_passStep 67 = .ok (.iload 5, 2) := by decide +kernel
theorem dX4_passStep_69 : decode cX4_passStep 69 = .ok (.iaload, 1) := by decide +kernel
theorem dX4_passStep_70 : decode cX4_passStep 70 = .ok (.aload_n 0, 1) := by decide +kernel
theorem dX4_passStep_71 : decode cX4_passStep 71 = .ok (.getfield 39, 3) := by decide +kernel
theorem dX4_passStep_74 : decode cX4_passStep 74 = .ok (.iload 4, 2) := by decide +kernel
theorem dX4_passStep_76 : decode cX4_passStep 76 = .ok (.iaload, 1) := by decide +kernel
theorem dX4_passStep_77 : decode cX4_passStep 77 = .ok (.aload_n 0, 1) := by decide +kernel
theorem dX4_passStep_78 : decode cX4_passStep 78 = .ok (.getfield 21, 3) := by decide +kernel
theorem dX4_passStep_81 : decode cX4_passStep 81 = .ok (.iconst 4, 1) := by decide +kernel
theorem dX4_passStep_82 : decode cX4_passStep 82 = .ok (.iload_n 1, 1) := by decide +kernel
theorem dX4_passStep_83 : decode cX4_passStep 83 = .ok (.iadd, 1) := by decide +kernel
theorem dX4_passStep_84 : decode cX4_passStep 84 = .ok (.iaload, 1) := by decide +kernel
theorem dX4_passStep_85 : decode cX4_passStep 85 = .ok (.iadd, 1) := by decide +kernel
theorem dX4_passStep_86 : decode cX4_passStep 86 = .ok (.invokestatic 98, 3) := by decide +kernel
theorem dX4_passStep_89 : decode cX4_passStep 89 = .ok (.iastore, 1) := by decide +kernel
theorem dX4_passStep_90 : decode cX4_passStep 90 = .ok (.iload 5, 2) := by decide +kernel
theorem dX4_passStep_92 : decode cX4_passStep 92 = .ok (.invokestatic 80, 3) := by decide +kernel
theorem dX4_passStep_95 : decode cX4_passStep 95 = .ok (.iload_n 2, 1) := by decide +kernel
theorem dX4_passStep_96 : decode cX4_passStep 96 = .ok (.if_icmp .ge 31, 3) := by decide +kernel
theorem dX4_passStep_99 : decode cX4_passStep 99 = .ok (.aload_n 0, 1) := by decide +kernel
theorem dX4_passStep_100 : decode cX4_passStep 100 = .ok (.getfield 42, 3) := by decide +kernel
theorem dX4_passStep_103 : decode cX4_passStep 103 = .ok (.iload 5, 2) := by decide +kernel
theorem dX4_passStep_105 : decode cX4_passStep 105 = .ok (.iload_n 3, 1) := by decide +kernel
theorem dX4_passStep_106 : decode cX4_passStep 106 = .ok (.ior, 1) := by decide +kernel
theorem dX4_passStep_107 : decode cX4_passStep 107 = .ok (.aload_n 0, 1) := by decide +kernel
theorem dX4_passStep_108 : decode cX4_passStep 108 = .ok (.getfield 42, 3) := by decide +kernel
theorem dX4_passStep_111 : decode cX4_passStep 111 = .ok (.iload 5, 2) := by decide +kernel
theorem dX4_passStep_113 : decode cX4_passStep 113 = .ok (.iload_n 3, 1) := by decide +kernel
theorem dX4_passStep_114 : decode cX4_passStep 114 = .ok (.ior, 1) := by decide +kernel
theorem dX4_passStep_115 : decode cX4_passStep 115 = .ok (.iaload, 1) := by decide +kernel
theorem dX4_passStep_116 : decode cX4_passStep 116 = .ok (.aload_n 0, 1) := by decide +kernel
theorem dX4_passStep_117 : decode cX4_passStep 117 = .ok (.getfield 39, 3) := by decide +kernel
theorem dX4_passStep_120 : decode cX4_passStep 120 = .ok (.iload 4, 2) := by decide +kernel
theorem dX4_passStep_122 : decode cX4_passStep 122 = .ok (.iaload, 1) := by decide +kernel
theorem dX4_passStep_123 : decode cX4_passStep 123 = .ok (.invokestatic 98, 3) := by decide +kernel
theorem dX4_passStep_126 : decode cX4_passStep 126 = .ok (.iastore, 1) := by decide +kernel
theorem dX4_passStep_127 : decode cX4_passStep 127 = .ok (.iinc 4 1, 3) := by decide +kernel
theorem dX4_passStep_130 : decode cX4_passStep 130 = .ok (.goto (-109), 3) := by decide +kernel
theorem dX4_passStep_133 : decode cX4_passStep 133 = .ok (.aload_n 0, 1) := by decide +kernel
theorem dX4_passStep_134 : decode cX4_passStep 134 = .ok (.getfield 39, 3) := by decide +kernel
theorem dX4_passStep_137 : decode cX4_passStep 137 = .ok (.astore 4, 2) := by decide +kernel
theorem dX4_passStep_139 : decode cX4_passStep 139 = .ok (.aload_n 0, 1) := by decide +kernel
theorem dX4_passStep_140 : decode cX4_passStep 140 = .ok (.aload_n 0, 1) := by decide +kernel
theorem dX4_passStep_141 : decode cX4_passStep 141 = .ok (.getfield 42, 3) := by decide +kernel
theorem dX4_passStep_144 : decode cX4_passStep 144 = .ok (.putfield 39, 3) := by decide +kernel
theorem dX4_passStep_147 : decode cX4_passStep 147 = .ok (.aload_n 0, 1) := by decide +kernel
theorem dX4_passStep_148 : decode cX4_passStep 148 = .ok (.aload 4, 2) := by decide +kernel
theorem dX4_passStep_150 : decode cX4_passStep 150 = .ok (.putfield 42, 3) := by decide +kernel
theorem dX4_passStep_153 : decode cX4_passStep 153 = .ok (.return_, 1) := by decide +kernel
theorem dX5_init_0 : decode cX5_init 0 = .ok (.aload_n 0, 1) := by decide +kernel
theorem dX5_init_1 : decode cX5_init 1 = .ok (.invokespecial 3, 3) := by decide +kernel
theorem dX5_init_4 : decode cX5_init 4 = .ok (.aload_n 0, 1) := by decide +kernel
theorem dX5_init_5 : decode cX5_init 5 = .ok (.bipush 52, 2) := by decide +kernel
theorem dX5_init_7 : decode cX5_init 7 = .ok (.newarray .int, 2) := by decide +kernel
theorem dX5_init_9 : decode cX5_init 9 = .ok (.putfield 9, 3) := by decide +kernel
theorem dX5_init_12 : decode cX5_init 12 = .ok (.aload_n 0, 1) := by decide +kernel
theorem dX5_init_13 : decode cX5_init 13 = .ok (.bipush 24, 2) := by decide +kernel
theorem dX5_init_15 : decode cX5_init 15 = .ok (.newarray .int, 2) := by decide +kernel
theorem dX5_init_17 : decode cX5_init 17 = .ok (.putfield 15, 3) := by decide +kernel
theorem dX5_init_20 : decode cX5_init 20 = .ok (.aload_n 0, 1) := by decide +kernel
theorem dX5_init_21 : decode cX5_init 21 = .ok (.bipush 12, 2) := by decide +kernel
theorem dX5_init_23 : decode cX5_init 23 = .ok (.newarray .int, 2) := by decide +kernel
theorem dX5_init_25 : decode cX5_init 25 = .ok (.putfield 18, 3) := by decide +kernel
theorem dX5_init_28 : decode cX5_init 28 = .ok (.aload_n 0, 1) := by decide +kernel
theorem dX5_init_29 : decode cX5_init 29 = .ok (.bipush 12, 2) := by decide +kernel
theorem dX5_init_31 : decode cX5_init 31 = .ok (.newarray .int, 2) := by decide +kernel
theorem dX5_init_33 : decode cX5_init 33 = .ok (.putfield 21, 3) := by decide +kernel
theorem dX5_init_36 : decode cX5_init 36 = .ok (.aload_n 0, 1) := by decide +kernel
theorem dX5_init_37 : decode cX5_init 37 = .ok (.bipush 16, 2) := by decide +kernel
theorem dX5_init_39 : decode cX5_init 39 = .ok (.newarray .int, 2) := by decide +kernel
theorem dX5_init_41 : decode cX5_init 41 = .ok (.putfield 24, 3) := by decide +kernel
theorem dX5_init_44 : decode cX5_init 44 = .ok (.aload_n 0, 1) := by decide +kernel
theorem dX5_init_45 : decode cX5_init 45 = .ok (.bipush 16, 2) := by decide +kernel
theorem dX5_init_47 : decode cX5_init 47 = .ok (.newarray .int, 2) := by decide +kernel
theorem dX5_init_49 : decode cX5_init 49 = .ok (.putfield 27, 3) := by decide +kernel
theorem dX5_init_52 : decode cX5_init 52 = .ok (.return_, 1) := by decide +kernel
theorem dX5_follow_0 : decode cX5_follow 0 = .ok (.aload_n 0, 1) := by decide +kernel
theorem dX5_follow_1 : decode cX5_follow 1 = .ok (.getfield 24, 3) := by decide +kernel
theorem dX5_follow_4 : decode cX5_follow 4 = .ok (.iconst 0, 1) := by decide +kernel
theorem dX5_follow_5 : decode cX5_follow 5 = .ok (.invokestatic 30, 3) := by decide +kernel
theorem dX5_follow_8 : decode cX5_follow 8 = .ok (.aload_n 0, 1) := by decide +kernel
theorem dX5_follow_9 : decode cX5_follow 9 = .ok (.getfield 27, 3) := by decide +kernel
theorem dX5_follow_12 : decode cX5_follow 12 = .ok (.iconst 0, 1) := by decide +kernel
theorem dX5_follow_13 : decode cX5_follow 13 = .ok (.invokestatic 30, 3) := by decide +kernel
theorem dX5_follow_16 : decode cX5_follow 16 = .ok (.iconst 0, 1) := by decide +kernel
theorem dX5_follow_17 : decode cX5_follow 17 = .ok (.istore_n 2, 1) := by decide +kernel
theorem dX5_follow_18 : decode cX5_follow 18 = .ok (.iload_n 2, 1) := by decide +kernel
theorem dX5_follow_19 : decode cX5_follow 19 = .ok (.iconst 4, 1) := by decide +kernel
theorem dX5_follow_20 : decode cX5_follow 20 = .ok (.if_icmp .ge 16, 3) := by decide +kernel
theorem dX5_follow_23 : decode cX5_follow 23 = .ok (.aload_n 0, 1) := by decide +kernel
theorem dX5_follow_24 : decode cX5_follow 24 = .ok (.getfield 9, 3) := by decide +kernel
theorem dX5_follow_27 : decode cX5_follow 27 = .ok (.iload_n 2, 1) := by decide +kernel
theorem dX5_follow_28 : decode cX5_follow 28 = .ok (.iload_n 2, 1) := by decide +kernel
theorem dX5_follow_29 : decode cX5_follow 29 = .ok (.iastore, 1) := by decide +kernel
theorem dX5_follow_30 : decode cX5_follow 30 = .ok (.iinc 2 1, 3) := by decide +kernel
theorem dX5_follow_33 : decode cX5_follow 33 = .ok (.goto (-15), 3) := by decide +kernel
theorem dX5_follow_36 : decode cX5_follow 36 = .ok (.iconst 0, 1) := by decide +kernel
theorem dX5_follow_37 : decode cX5_follow 37 = .ok (.istore_n 2, 1) := by decide +kernel
theorem dX5_follow_38 : decode cX5_follow 38 = .ok (.iload_n 2, 1) := by decide +kernel
theorem dX5_follow_39 : decode cX5_follow 39 = .ok (.aload_n 1, 1) := by decide +kernel
theorem dX5_follow_40 : decode cX5_follow 40 = .ok (.getfield 36, 3) := by decide +kernel
theorem dX5_follow_43 : decode cX5_follow 43 = .ok (.if_icmp .ge 88, 3) := by decide +kernel
theorem dX5_follow_46 : decode cX5_follow 46 = .ok (.aload_n 0, 1) := by decide +kernel
theorem dX5_follow_47 : decode cX5_follow 47 = .ok (.getfield 18, 3) := by decide +kernel
theorem dX5_follow_50 : decode cX5_follow 50 = .ok (.iload_n 2, 1) := by decide +kernel
theorem dX5_follow_51 : decode cX5_follow 51 = .ok (.iconst 0, 1) := by decide +kernel
theorem dX5_follow_52 : decode cX5_follow 52 = .ok (.iastore, 1) := by decide +kernel
theorem dX5_follow_53 : decode cX5_follow 53 = .ok (.aload_n 0, 1) := by decide +kernel
theorem dX5_follow_54 : decode cX5_follow 54 = .ok (.iload_n 2, 1) := by decide +kernel
theorem dX5_follow_55 : decode cX5_follow 55 = .ok (.iconst 0, 1) := by decide +kernel
theorem dX5_follow_56 : decode cX5_follow 56 = .ok (.aload_n 1, 1) := by decide +kernel
theorem dX5_follow_57 : decode cX5_follow 57 = .ok (.iload_n 2, 1) := by decide +kernel
theorem dX5_follow_58 : decode cX5_follow 58 = .ok (.iconst 2, 1) := by decide +kernel
theorem dX5_follow_59 : decode cX5_follow 59 = .ok (.invokevirtual 42, 3) := by decide +kernel
theorem dX5_follow_62 : decode cX5_follow 62 = .ok (.invokevirtual 46, 3) := by decide +kernel
theorem dX5_follow_65 : decode cX5_follow 65 = .ok (.aload_n 0, 1) := by decide +kernel
theorem dX5_follow_66 : decode cX5_follow 66 = .ok (.iload_n 2, 1) := by decide +kernel
theorem dX5_follow_67 : decode cX5_follow 67 = .ok (.iconst 1, 1) := by decide +kernel
theorem dX5_follow_68 : decode cX5_follow 68 = .ok (.aload_n 1, 1) := by decide +kernel
theorem dX5_follow_69 : decode cX5_follow 69 = .ok (.iload_n 2, 1) := by decide +kernel
theorem dX5_follow_70 : decode cX5_follow 70 = .ok (.iconst 3, 1) := by decide +kernel
theorem dX5_follow_71 : decode cX5_follow 71 = .ok (.invokevirtual 42, 3) := by decide +kernel
theorem dX5_follow_74 : decode cX5_follow 74 = .ok (.invokevirtual 46, 3) := by decide +kernel
theorem dX5_follow_77 : decode cX5_follow 77 = .ok (.aload_n 0, 1) := by decide +kernel
theorem dX5_follow_78 : decode cX5_follow 78 = .ok (.getfield 21, 3) := by decide +kernel
theorem dX5_follow_81 : decode cX5_follow 81 = .ok (.iload_n 2, 1) := by decide +kernel
theorem dX5_follow_82 : decode cX5_follow 82 = .ok (.aload_n 1, 1) := by decide +kernel
theorem dX5_follow_83 : decode cX5_follow 83 = .ok (.iload_n 2, 1) := by decide +kernel
theorem dX5_follow_84 : decode cX5_follow 84 = .ok (.invokestatic 50, 3) := by decide +kernel
theorem dX5_follow_87 : decode cX5_follow 87 = .ok (.iastore, 1) := by decide +kernel
theorem dX5_follow_88 : decode cX5_follow 88 = .ok (.iload_n 2, 1) := by decide +kernel
theorem dX5_follow_89 : decode cX5_follow 89 = .ok (.iconst 4, 1) := by decide +kernel
theorem dX5_follow_90 : decode cX5_follow 90 = .ok (.imul, 1) := by decide +kernel
theorem dX5_follow_91 : decode cX5_follow 91 = .ok (.istore_n 3, 1) := by decide +kernel
theorem dX5_follow_92 : decode cX5_follow 92 = .ok (.aload_n 0, 1) := by decide +kernel
theorem dX5_follow_93 : decode cX5_follow 93 = .ok (.getfield 9, 3) := by decide +kernel
theorem dX5_follow_96 : decode cX5_follow 96 = .ok (.iload_n 3, 1) := by decide +kernel
theorem dX5_follow_97 : decode cX5_follow 97 = .ok (.aload_n 0, 1) := by decide +kernel
theorem dX5_follow_98 : decode cX5_follow 98 = .ok (.getfield 9, 3) := by decide +kernel
theorem dX5_follow_101 : decode cX5_follow 101 = .ok (.iload_n 3, 1) := by decide +kernel
theorem dX5_follow_102 : decode cX5_follow 102 = .ok (.iconst 4, 1) := by decide +kernel
theorem dX5_follow_103 : decode cX5_follow 103 = .ok (.iadd, 1) := by decide +kernel
theorem dX5_follow_104 : decode cX5_follow 104 = .ok (.iconst 4, 1) := by decide +kernel
theorem dX5_follow_105 : decode cX5_follow 105 = .ok (.invokestatic 54, 3) := by decide +kernel
theorem dX5_follow_108 : decode cX5_follow 108 = .ok (.aload_n 0, 1) := by decide +kernel
theorem dX5_follow_109 : decode cX5_follow 109 = .ok (.getfield 9, 3) := by decide +kernel
theorem dX5_follow_112 : decode cX5_follow 112 = .ok (.iload_n 3, 1) := by decide +kernel
theorem dX5_follow_113 : decode cX5_follow 113 = .ok (.iconst 4, 1) := by decide +kernel
theorem dX5_follow_114 : decode cX5_follow 114 = .ok (.iadd, 1) := by decide +kernel
theorem dX5_follow_115 : decode cX5_follow 115 = .ok (.aload_n 1, 1) := by decide +kernel
theorem dX5_follow_116 : decode cX5_follow 116 = .ok (.iload_n 2, 1) := by decide +kernel
theorem dX5_follow_117 : decode cX5_follow 117 = .ok (.invokevirtual 60, 3) := by decide +kernel
theorem dX5_follow_120 : decode cX5_follow 120 = .ok (.iadd, 1) := by decide +kernel
theorem dX5_follow_121 : decode cX5_follow 121 = .ok (.iconst 4, 1) := by decide +kernel
theorem dX5_follow_122 : decode cX5_follow 122 = .ok (.iload_n 2, 1) := by decide +kernel
theorem dX5_follow_123 : decode cX5_follow 123 = .ok (.iadd, 1) := by decide +kernel
theorem dX5_follow_124 : decode cX5_follow 124 = .ok (.iastore, 1) := by decide +kernel
theorem dX5_follow_125 : decode cX5_follow 125 = .ok (.iinc 2 1, 3) := by decide +kernel
theorem dX5_follow_128 : decode cX5_follow 128 = .ok (.goto (-90), 3) := by decide +kernel
theorem dX5_follow_131 : decode cX5_follow 131 = .ok (.return_, 1) := by decide +kernel
theorem dX5_noteReading_0 : decode cX5_noteReading 0 = .ok (.aload_n 0, 1) := by decide +kernel
theorem dX5_noteReading_1 : decode cX5_noteReading 1 = .ok (.getfield 15, 3) := by decide +kernel
theorem dX5_noteReading_4 : decode cX5_noteReading 4 = .ok (.iconst 2, 1) := by decide +kernel
theorem dX5_noteReading_5 : decode cX5_noteReading 5 = .ok (.iload_n 1, 1) := by decide +kernel
theorem dX5_noteReading_6 : decode cX5_noteReading 6 = .ok (.imul, 1) := by decide +kernel
theorem dX5_noteReading_7 : decode cX5_noteReading 7 = .ok (.iload_n 2, 1) := by decide +kernel
theorem dX5_noteReading_8 : decode cX5_noteReading 8 = .ok (.iadd, 1) := by decide +kernel
theorem dX5_noteReading_9 : decode cX5_noteReading 9 = .ok (.bipush (-6), 2) := by decide +kernel
theorem dX5_noteReading_11 : decode cX5_noteReading 11 = .ok (.iastore, 1) := by decide +kernel
theorem dX5_noteReading_12 : decode cX5_noteReading 12 = .ok (.iload_n 3, 1) := by decide +kernel
theorem dX5_noteReading_13 : decode cX5_noteReading 13 = .ok (.invokestatic 64, 3) := by decide +kernel
theorem dX5_noteReading_16 : decode cX5_noteReading 16 = .ok (.ifCond .eq 4, 3) := by decide +kernel
theorem dX5_noteReading_19 : decode cX5_noteReading 19 = .ok (.return_, 1) := by decide +kernel
theorem dX5_noteReading_20 : decode cX5_noteReading 20 = .ok (.aload_n 0, 1) := by decide +kernel
theorem dX5_noteReading_21 : decode cX5_noteReading 21 = .ok (.getfield 9, 3) := by decide +kernel
theorem dX5_noteReading_24 : decode cX5_noteReading 24 = .ok (.iload_n 1, 1) := by decide +kernel
theorem dX5_noteReading_25 : decode cX5_noteReading 25 = .ok (.iconst 4, 1) := by decide +kernel
theorem dX5_noteReading_26 : decode cX5_noteReading 26 = .ok (.imul, 1) := by decide +kernel
theorem dX5_noteReading_27 : decode cX5_noteReading 27 = .ok (.iload_n 3, 1) := by decide +kernel
theorem dX5_noteReading_28 : decode cX5_noteReading 28 = .ok (.iadd, 1) := by decide +kernel
theorem dX5_noteReading_29 : decode cX5_noteReading 29 = .ok (.iaload, 1) := by decide +kernel
theorem dX5_noteReading_30 : decode cX5_noteReading 30 = .ok (.istore 4, 2) := by decide +kernel
theorem dX5_noteReading_32 : decode cX5_noteReading 32 = .ok (.aload_n 0, 1) := by decide +kernel
theorem dX5_noteReading_33 : decode cX5_noteReading 33 = .ok (.getfield 15, 3) := by decide +kernel
theorem dX5_noteReading_36 : decode cX5_noteReading 36 = .ok (.iconst 2, 1) := by decide +kernel
theorem dX5_noteReading_37 : decode cX5_noteReading 37 = .ok (.iload_n 1, 1) := by decide +kernel
theorem dX5_noteReading_38 : decode cX5_noteReading 38 = .ok (.imul, 1) := by decide +kernel
theorem dX5_noteReading_39 : decode cX5_noteReading 39 = .ok (.iload_n 2, 1) := by decide +kernel
theorem dX5_noteReading_40 : decode cX5_noteReading 40 = .ok (.iadd, 1) := by decide +kernel
theorem dX5_noteReading_41 : decode cX5_noteReading 41 = .ok (.iload 4, 2) := by decide +kernel
theorem dX5_noteReading_43 : decode cX5_noteReading 43 = .ok (.iastore, 1) := by decide +kernel
theorem dX5_noteReading_44 : decode cX5_noteReading 44 = .ok (.aload_n 0, 1) := by decide +kernel
theorem dX5_noteReading_45 : decode cX5_noteReading 45 = .ok (.getfield 24, 3) := by decide +kernel
theorem dX5_noteReading_48 : decode cX5_noteReading 48 = .ok (.iload 4, 2) := by decide +kernel
theorem dX5_noteReading_50 : decode cX5_noteReading 50 = .ok (.dup2, 1) := by decide +kernel
theorem dX5_noteReading_51 : decode cX5_noteReading 51 = .ok (.iaload, 1) := by decide +kernel
theorem dX5_noteReading_52 : decode cX5_noteReading 52 = .ok (.iconst 1, 1) := by decide +kernel
theorem dX5_noteReading_53 : decode cX5_noteReading 53 = .ok (.iload_n 1, 1) := by decide +kernel
theorem dX5_noteReading_54 : decode cX5_noteReading 54 = .ok (.ishl, 1) := by decide +kernel
theorem dX5_noteReading_55 : decode cX5_noteReading 55 = .ok (.ior, 1) := by decide +kernel
theorem dX5_noteReading_56 : decode cX5_noteReading 56 = .ok (.iastore, 1) := by decide +kernel
theorem dX5_noteReading_57 : decode cX5_noteReading 57 = .ok (.aload_n 0, 1) := by decide +kernel
theorem dX5_noteReading_58 : decode cX5_noteReading 58 = .ok (.getfield 27, 3) := by decide +kernel
theorem dX5_noteReading_61 : decode cX5_noteReading 61 = .ok (.iload 4, 2) := by decide +kernel
theorem dX5_noteReading_63 : decode cX5_noteReading 63 = .ok (.dup2, 1) := by decide +kernel
theorem dX5_noteReading_64 : decode cX5_noteReading 64 = .ok (.iaload, 1) := by decide +kernel
theorem dX5_noteReading_65 : decode cX5_noteReading 65 = .ok (.iconst 1, 1) := by decide +kernel
theorem dX5_noteReading_66 : decode cX5_noteReading 66 = .ok (.iadd, 1) := by decide +kernel
theorem dX5_noteReading_67 : decode cX5_noteReading 67 = .ok (.iastore, 1) := by decide +kernel
theorem dX5_noteReading_68 : decode cX5_noteReading 68 = .ok (.iload 4, 2) := by decide +kernel
theorem dX5_noteReading_70 : decode cX5_noteReading 70 = .ok (.iconst 4, 1) := by decide +kernel
theorem dX5_noteReading_71 : decode cX5_noteReading 71 = .ok (.if_icmp .lt 18, 3) := by decide +kernel
theorem dX5_noteReading_74 : decode cX5_noteReading 74 = .ok (.aload_n 0, 1) := by decide +kernel
theorem dX5_noteReading_75 : decode cX5_noteReading 75 = .ok (.getfield 18, 3) := by decide +kernel
theorem dX5_noteReading_78 : decode cX5_noteReading 78 = .ok (.iload_n 1, 1) := by decide +kernel
theorem dX5_noteReading_79 : decode cX5_noteReading 79 = .ok (.dup2, 1) := by decide +kernel
theorem dX5_noteReading_80 : decode cX5_noteReading 80 = .ok (.iaload, 1) := by decide +kernel
theorem dX5_noteReading_81 : decode cX5_noteReading 81 = .ok (.iconst 1, 1) := by decide +kernel
theorem dX5_noteReading_82 : decode cX5_noteReading 82 = .ok (.iload 4, 2) := by decide +kernel
theorem dX5_noteReading_84 : decode cX5_noteReading 84 = .ok (.iconst 4, 1) := by decide +kernel
theorem dX5_noteReading_85 : decode cX5_noteReading 85 = .ok (.isub, 1) := by decide +kernel
theorem dX5_noteReading_86 : decode cX5_noteReading 86 = .ok (.ishl, 1) := by decide +kernel
theorem dX5_noteReading_87 : decode cX5_noteReading 87 = .ok (.ior, 1) := by decide +kernel
theorem dX5_noteReading_88 : decode cX5_noteReading 88 = .ok (.iastore, 1) := by decide +kernel
theorem dX5_noteReading_89 : decode cX5_noteReading 89 = .ok (.return_, 1) := by decide +kernel
theorem dX5_usersAhead_0 : decode cX5_usersAhead 0 = .ok (.aload_n 0, 1) := by decide +kernel
theorem dX5_usersAhead_1 : decode cX5_usersAhead 1 = .ok (.iload_n 1, 1) := by decide +kernel
theorem dX5_usersAhead_2 : decode cX5_usersAhead 2 = .ok (.invokevirtual 60, 3) := by decide +kernel
theorem dX5_usersAhead_5 : decode cX5_usersAhead 5 = .ok (.istore_n 2, 1) := by decide +kernel
theorem dX5_usersAhead_6 : decode cX5_usersAhead 6 = .ok (.iconst 0, 1) := by decide +kernel
theorem dX5_usersAhead_7 : decode cX5_usersAhead 7 = .ok (.istore_n 3, 1) := by decide +kernel
theorem dX5_usersAhead_8 : decode cX5_usersAhead 8 = .ok (.iconst 0, 1) := by decide +kernel
theorem dX5_usersAhead_9 : decode cX5_usersAhead 9 = .ok (.istore 4, 2) := by decide +kernel
theorem dX5_usersAhead_11 : decode cX5_usersAhead 11 = .ok (.iload 4, 2) := by decide +kernel
theorem dX5_usersAhead_13 : decode cX5_usersAhead 13 = .ok (.iload_n 1, 1) := by decide +kernel
theorem dX5_usersAhead_14 : decode cX5_usersAhead 14 = .ok (.if_icmp .ge 40, 3) := by decide +kernel
theorem dX5_usersAhead_17 : decode cX5_usersAhead 17 = .ok (.aload_n 0, 1) := by decide +kernel
theorem dX5_usersAhead_18 : decode cX5_usersAhead 18 = .ok (.iload 4, 2) := by decide +kernel
theorem dX5_usersAhead_20 : decode cX5_usersAhead 20 = .ok (.invokevirtual 60, 3) := by decide +kernel
theorem dX5_usersAhead_23 : decode cX5_usersAhead 23 = .ok (.iload_n 2, 1) := by decide +kernel
theorem dX5_usersAhead_24 : decode cX5_usersAhead 24 = .ok (.if_icmp .eq 17, 3) := by decide +kernel
theorem dX5_usersAhead_27 : decode cX5_usersAhead 27 = .ok (.aload_n 0, 1) := by decide +kernel
theorem dX5_usersAhead_28 : decode cX5_usersAhead 28 = .ok (.iload 4, 2) := by decide +kernel
theorem dX5_usersAhead_30 : decode cX5_usersAhead 30 = .ok (.invokevirtual 68, 3) := by decide +kernel
theorem dX5_usersAhead_33 : decode cX5_usersAhead 33 = .ok (.iload_n 2, 1) := by decide +kernel
theorem dX5_usersAhead_34 : decode cX5_usersAhead 34 = .ok (.ishr, 1) := by decide +kernel
theorem dX5_usersAhead_35 : decode cX5_usersAhead 35 = .ok (.iconst 1, 1) := by decide +kernel
theorem dX5_usersAhead_36 : decode cX5_usersAhead 36 = .ok (.iand, 1) := by decide +kernel
theorem dX5_usersAhead_37 : decode cX5_usersAhead 37 = .ok (.iconst 1, 1) := by decide +kernel
theorem dX5_usersAhead_38 : decode cX5_usersAhead 38 = .ok (.if_icmp .ne 10, 3) := by decide +kernel
theorem dX5_usersAhead_41 : decode cX5_usersAhead 41 = .ok (.iload_n 3, 1) := by decide +kernel
theorem dX5_usersAhead_42 : decode cX5_usersAhead 42 = .ok (.iconst 1, 1) := by decide +kernel
theorem dX5_usersAhead_43 : decode cX5_usersAhead 43 = .ok (.iload 4, 2) := by decide +kernel
theorem dX5_usersAhead_45 : decode cX5_usersAhead 45 = .ok (.ishl, 1) := by decide +kernel
theorem dX5_usersAhead_46 : decode cX5_usersAhead 46 = .ok (.ior, 1) := by decide +kernel
theorem dX5_usersAhead_47 : decode cX5_usersAhead 47 = .ok (.istore_n 3, 1) := by decide +kernel
theorem dX5_usersAhead_48 : decode cX5_usersAhead 48 = .ok (.iinc 4 1, 3) := by decide +kernel
theorem dX5_usersAhead_51 : decode cX5_usersAhead 51 = .ok (.goto (-40), 3) := by decide +kernel
theorem dX5_usersAhead_54 : decode cX5_usersAhead 54 = .ok (.iload_n 3, 1) := by decide +kernel
theorem dX5_usersAhead_55 : decode cX5_usersAhead 55 = .ok (.ireturn, 1) := by decide +kernel
theorem dX5_mustFollow_0 : decode cX5_mustFollow 0 = .ok (.aload_n 0, 1) := by decide +kernel
theorem dX5_mustFollow_1 : decode cX5_mustFollow 1 = .ok (.getfield 18, 3) := by decide +kernel
theorem dX5_mustFollow_4 : decode cX5_mustFollow 4 = .ok (.iload_n 1, 1) := by decide +kernel
theorem dX5_mustFollow_5 : decode cX5_mustFollow 5 = .ok (.iaload, 1) := by decide +kernel
theorem dX5_mustFollow_6 : decode cX5_mustFollow 6 = .ok (.aload_n 0, 1) := by decide +kernel
theorem dX5_mustFollow_7 : decode cX5_mustFollow 7 = .ok (.getfield 21, 3) := by decide +kernel
theorem dX5_mustFollow_10 : decode cX5_mustFollow 10 = .ok (.iload_n 1, 1) := by decide +kernel
theorem dX5_mustFollow_11 : decode cX5_mustFollow 11 = .ok (.iaload, 1) := by decide +kernel
theorem dX5_mustFollow_12 : decode cX5_mustFollow 12 = .ok (.ior, 1) := by decide +kernel
theorem dX5_mustFollow_13 : decode cX5_mustFollow 13 = .ok (.ireturn, 1) := by decide +kernel
theorem dX6_init_0 : decode cX6_init 0 = .ok (.aload_n 0, 1) := by decide +kernel
theorem dX6_init_1 : decode cX6_init 1 = .ok (.invokespecial 3, 3) := by decide +kernel
theorem dX6_init_4 : decode cX6_init 4 = .ok (.aload_n 0, 1) := by decide +kernel
theorem dX6_init_5 : decode cX6_init 5 = .ok (.new 9, 3) := by decide +kernel
theorem dX6_init_8 : decode cX6_init 8 = .ok (.dup, 1) := by decide +kernel
theorem dX6_init_9 : decode cX6_init 9 = .ok (.invokespecial 11, 3) := by decide +kernel
theorem dX6_init_12 : decode cX6_init 12 = .ok (.putfield 12, 3) := by decide +kernel
theorem dX6_init_15 : decode cX6_init 15 = .ok (.return_, 1) := by decide +kernel
theorem dX6_mendOnce_0 : decode cX6_mendOnce 0 = .ok (.iload_n 1, 1) := by decide +kernel
theorem dX6_mendOnce_1 : decode cX6_mendOnce 1 = .ok (.tableswitch 45 1 3 #[27, 33, 39], 27) := by decide +kernel
theorem dX6_mendOnce_28 : decode cX6_mendOnce 28 = .ok (.aload_n 0, 1) := by decide +kernel
theorem dX6_mendOnce_29 : decode cX6_mendOnce 29 = .ok (.aload_n 2, 1) := by decide +kernel
theorem dX6_mendOnce_30 : decode cX6_mendOnce 30 = .ok (.invokevirtual 18, 3) := by decide +kernel
theorem dX6_mendOnce_33 : decode cX6_mendOnce 33 = .ok (.ireturn, 1) := by decide +kernel
theorem dX6_mendOnce_34 : decode cX6_mendOnce 34 = .ok (.aload_n 0, 1) := by decide +kernel
theorem dX6_mendOnce_35 : decode cX6_mendOnce 35 = .ok (.aload_n 2, 1) := by decide +kernel
theorem dX6_mendOnce_36 : decode cX6_mendOnce 36 = .ok (.invokevirtual 22, 3) := by decide +kernel
theorem dX6_mendOnce_39 : decode cX6_mendOnce 39 = .ok (.ireturn, 1) := by decide +kernel
theorem dX6_mendOnce_40 : decode cX6_mendOnce 40 = .ok (.aload_n 0, 1) := by decide +kernel
theorem dX6_mendOnce_41 : decode cX6_mendOnce 41 = .ok (.aload_n 2, 1) := by decide +kernel
theorem dX6_mendOnce_42 : decode cX6_mendOnce 42 = .ok (.invokevirtual 25, 3) := by decide +kernel
theorem dX6_mendOnce_45 : decode cX6_mendOnce 45 = .ok (.ireturn, 1) := by decide +kernel
theorem dX6_mendOnce_46 : decode cX6_mendOnce 46 = .ok (.aload_n 0, 1) := by decide +kernel
theorem dX6_mendOnce_47 : decode cX6_mendOnce 47 = .ok (.aload_n 2, 1) := by decide +kernel
theorem dX6_mendOnce_48 : decode cX6_mendOnce 48 = .ok (.iload_n 3, 1) := by decide +kernel
theorem dX6_mendOnce_49 : decode cX6_mendOnce 49 = .ok (.invokevirtual 28, 3) := by decide +kernel
theorem dX6_mendOnce_52 : decode cX6_mendOnce 52 = .ok (.ireturn, 1) := by decide +kernel
theorem dX6_mendAll_0 : decode cX6_mendAll 0 = .ok (.iconst 1, 1) := by decide +kernel
theorem dX6_mendAll_1 : decode cX6_mendAll 1 = .ok (.istore_n 3, 1) := by decide +kernel
theorem dX6_mendAll_2 : decode cX6_mendAll 2 = .ok (.iconst 0, 1) := by decide +kernel
theorem dX6_mendAll_3 : decode cX6_mendAll 3 = .ok (.istore 4, 2) := by decide +kernel
theorem dX6_mendAll_5 : decode cX6_mendAll 5 = .ok (.iload 4, 2) := by decide +kernel
theorem dX6_mendAll_7 : decode cX6_mendAll 7 = .ok (.sipush 1000, 3) := by decide +kernel
theorem dX6_mendAll_10 : decode cX6_mendAll 10 = .ok (.if_icmp .ge 41, 3) := by decide +kernel
theorem dX6_mendAll_13 : decode cX6_mendAll 13 = .ok (.iload_n 3, 1) := by decide +kernel
theorem dX6_mendAll_14 : decode cX6_mendAll 14 = .ok (.ifCond .le 37, 3) := by decide +kernel
theorem dX6_mendAll_17 : decode cX6_mendAll 17 = .ok (.iconst 0, 1) := by decide +kernel
theorem dX6_mendAll_18 : decode cX6_mendAll 18 = .ok (.istore_n 3, 1) := by decide +kernel
theorem dX6_mendAll_19 : decode cX6_mendAll 19 = .ok (.iconst 1, 1) := by decide +kernel
theorem dX6_mendAll_20 : decode cX6_mendAll 20 = .ok (.istore 5, 2) := by decide +kernel
theorem dX6_mendAll_22 : decode cX6_mendAll 22 = .ok (.iload 5, 2) := by decide +kernel
theorem dX6_mendAll_24 : decode cX6_mendAll 24 = .ok (.iconst 4, 1) := by decide +kernel
theorem dX6_mendAll_25 : decode cX6_mendAll 25 = .ok (.if_icmp .gt 20, 3) := by decide +kernel
theorem dX6_mendAll_28 : decode cX6_mendAll 28 = .ok (.iload_n 3, 1) := by decide +kernel
theorem dX6_mendAll_29 : decode cX6_mendAll 29 = .ok (.aload_n 0, 1) := by decide +kernel
theorem dX6_mendAll_30 : decode cX6_mendAll 30 = .ok (.iload 5, 2) := by decide +kernel
theorem dX6_mendAll_32 : decode cX6_mendAll 32 = .ok (.aload_n 1, 1) := by decide +kernel
theorem dX6_mendAll_33 : decode cX6_mendAll 33 = .ok (.iload_n 2, 1) := by decide +kernel
theorem dX6_mendAll_34 : decode cX6_mendAll 34 = .ok (.invokevirtual 32, 3) := by decide +kernel
theorem dX6_mendAll_37 : decode cX6_mendAll 37 = .ok (.iadd, 1) := by decide +kernel
theorem dX6_mendAll_38 : decode cX6_mendAll 38 = .ok (.istore_n 3, 1) := by decide +kernel
theorem dX6_mendAll_39 : decode cX6_mendAll 39 = .ok (.iinc 5 1, 3) := by decide +kernel
theorem dX6_mendAll_42 : decode cX6_mendAll 42 = .ok (.goto (-20), 3) := by decide +kernel
theorem dX6_mendAll_45 : decode cX6_mendAll 45 = .ok (.iinc 4 1, 3) := by decide +kernel
theorem dX6_mendAll_48 : decode cX6_mendAll 48 = .ok (.goto (-43), 3) := by decide +kernel
theorem dX6_mendAll_51 : decode cX6_mendAll 51 = .ok (.return_, 1) := by decide +kernel
theorem dX6_writeKnown_0 : decode cX6_writeKnown 0 = .ok (.aload_n 0, 1) := by decide +kernel
theorem dX6_writeKnown_1 : decode cX6_writeKnown 1 = .ok (.getfield 12, 3) := by decide +kernel
theorem dX6_writeKnown_4 : decode cX6_writeKnown 4 = .ok (.aload_n 1, 1) := by decide +kernel
theorem dX6_writeKnown_5 : decode cX6_writeKnown 5 = .ok (.invokevirtual 36, 3) := by decide +kernel
theorem dX6_writeKnown_8 : decode cX6_writeKnown 8 = .ok (.iconst 0, 1) := by decide +kernel
theorem dX6_writeKnown_9 : decode cX6_writeKnown 9 = .ok (.istore_n 2, 1) := by decide +kernel
theorem dX6_writeKnown_10 : decode cX6_writeKnown 10 = .ok (.iconst 0, 1) := by decide +kernel
theorem dX6_writeKnown_11 : decode cX6_writeKnown 11 = .ok (.istore_n 3, 1) := by decide +kernel
theorem dX6_writeKnown_12 : decode cX6_writeKnown 12 = .ok (.iload_n 3, 1) := by decide +kernel
theorem dX6_writeKnown_13 : decode cX6_writeKnown 13 = .ok (.aload_n 1, 1) := by decide +kernel
theorem dX6_writeKnown_14 : decode cX6_writeKnown 14 = .ok (.getfield 40, 3) := by decide +kernel
theorem dX6_writeKnown_17 : decode cX6_writeKnown 17 = .ok (.if_icmp .ge 40, 3) := by decide +kernel
theorem dX6_writeKnown_20 : decode cX6_writeKnown 20 = .ok (.aload_n 0, 1) := by decide +kernel
theorem dX6_writeKnown_21 : decode cX6_writeKnown 21 = .ok (.aload_n 1, 1) := by decide +kernel
theorem dX6_writeKnown_22 : decode cX6_writeKnown 22 = .ok (.iload_n 3, 1) := by decide +kernel
theorem dX6_writeKnown_23 : decode cX6_writeKnown 23 = .ok (.iconst 2, 1) := by decide +kernel
theorem dX6_writeKnown_24 : decode cX6_writeKnown 24 = .ok (.invokevirtual 46, 3) := by decide +kernel
theorem dX6_writeKnown_27 : decode cX6_writeKnown 27 = .ok (.istore 4, 2) := by decide +kernel
theorem dX6_writeKnown_29 : decode cX6_writeKnown 29 = .ok (.aload_n 0, 1) := by decide +kernel
theorem dX6_writeKnown_30 : decode cX6_writeKnown 30 = .ok (.aload_n 1, 1) := by decide +kernel
theorem dX6_writeKnown_31 : decode cX6_writeKnown 31 = .ok (.iload_n 3, 1) := by decide +kernel
theorem dX6_writeKnown_32 : decode cX6_writeKnown 32 = .ok (.iconst 3, 1) := by decide +kernel
theorem dX6_writeKnown_33 : decode cX6_writeKnown 33 = .ok (.invokevirtual 46, 3) := by decide +kernel
theorem dX6_writeKnown_36 : decode cX6_writeKnown 36 = .ok (.istore 5, 2) := by decide +kernel
theorem dX6_writeKnown_38 : decode cX6_writeKnown 38 = .ok (.iload 4, 2) := by decide +kernel
theorem dX6_writeKnown_40 : decode cX6_writeKnown 40 = .ok (.ifCond .ne 8, 3) := by decide +kernel
theorem dX6_writeKnown_43 : decode cX6_writeKnown 43 = .ok (.iload 5, 2) := by decide +kernel
theorem dX6_writeKnown_45 : decode cX6_writeKnown 45 = .ok (.ifCond .eq 6, 3) := by decide +kernel
theorem dX6_writeKnown_48 : decode cX6_writeKnown 48 = .ok (.iinc 2 1, 3) := by decide +kernel
theorem dX6_writeKnown_51 : decode cX6_writeKnown 51 = .ok (.iinc 3 1, 3) := by decide +kernel
theorem dX6_writeKnown_54 : decode cX6_writeKnown 54 = .ok (.goto (-42), 3) := by decide +kernel
theorem dX6_writeKnown_57 : decode cX6_writeKnown 57 = .ok (.iload_n 2, 1) := by decide +kernel
theorem dX6_writeKnown_58 : decode cX6_writeKnown 58 = .ok (.ireturn, 1) := by decide +kernel
theorem dX6_writeKnownOperand_0 : decode cX6_writeKnownOperand 0 = .ok (.aload_n 1, 1) := by decide +kernel
theorem dX6_writeKnownOperand_1 : decode cX6_writeKnownOperand 1 = .ok (.iload_n 2, 1) := by decide +kernel
theorem dX6_writeKnownOperand_2 : decode cX6_writeKnownOperand 2 = .ok (.iload_n 3, 1) := by decide +kernel
theorem dX6_writeKnownOperand_3 : decode cX6_writeKnownOperand 3 = .ok (.invokevirtual 50, 3) := by decide +kernel
theorem dX6_writeKnownOperand_6 : decode cX6_writeKnownOperand 6 = .ok (.istore 4, 2) := by decide +kernel
theorem dX6_writeKnownOperand_8 : decode cX6_writeKnownOperand 8 = .ok (.iload 4, 2) := by decide +kernel
theorem dX6_writeKnownOperand_10 : decode cX6_writeKnownOperand 10 = .ok (.invokestatic 54, 3) := by decide +kernel
theorem dX6_writeKnownOperand_13 : decode cX6_writeKnownOperand 13 = .ok (.ifCond .eq 5, 3) := by decide +kernel
theorem dX6_writeKnownOperand_16 : decode cX6_writeKnownOperand 16 = .ok (.iconst 0, 1) := by decide +kernel
theorem dX6_writeKnownOperand_17 : decode cX6_writeKnownOperand 17 = .ok (.ireturn, 1) := by decide +kernel
theorem dX6_writeKnownOperand_18 : decode cX6_writeKnownOperand 18 = .ok (.aload_n 0, 1) := by decide +kernel
theorem dX6_writeKnownOperand_19 : decode cX6_writeKnownOperand 19 = .ok (.getfield 12, 3) := by decide +kernel
theorem dX6_writeKnownOperand_22 : decode cX6_writeKnownOperand 22 = .ok (.iload_n 2, 1) := by decide +kernel
theorem dX6_writeKnownOperand_23 : decode cX6_writeKnownOperand 23 = .ok (.iload 4, 2) := by decide +kernel
theorem dX6_writeKnownOperand_25 : decode cX6_writeKnownOperand 25 = .ok (.invokevirtual 58, 3) := by decide +kernel
theorem dX6_writeKnownOperand_28 : decode cX6_writeKnownOperand 28 = .ok (.istore 5, 2) := by decide +kernel
theorem dX6_writeKnownOperand_30 : decode cX6_writeKnownOperand 30 = .ok (.iload 5, 2) := by decide +kernel
theorem dX6_writeKnownOperand_32 : decode cX6_writeKnownOperand 32 = .ok (.bipush (-6), 2) := by decide +kernel
theorem dX6_writeKnownOperand_34 : decode cX6_writeKnownOperand 34 = .ok (.if_icmp .ne 5, 3) := by decide +kernel
theorem dX6_writeKnownOperand_37 : decode cX6_writeKnownOperand 37 = .ok (.iconst 0, 1) := by decide +kernel
theorem dX6_writeKnownOperand_38 : decode cX6_writeKnownOperand 38 = .ok (.ireturn, 1) := by decide +kernel
theorem dX6_writeKnownOperand_39 : decode cX6_writeKnownOperand 39 = .ok (.aload_n 1, 1) := by decide +kernel
theorem dX6_writeKnownOperand_40 : decode cX6_writeKnownOperand 40 = .ok (.iload_n 2, 1) := by decide +kernel
theorem dX6_writeKnownOperand_41 : decode cX6_writeKnownOperand 41 = .ok (.iload 5, 2) := by decide +kernel
theorem dX6_writeKnownOperand_43 : decode cX6_writeKnownOperand 43 = .ok (.bipush 10, 2) := by decide +kernel
theorem dX6_writeKnownOperand_45 : decode cX6_writeKnownOperand 45 = .ok (.iadd, 1) := by decide +kernel
theorem dX6_writeKnownOperand_46 : decode cX6_writeKnownOperand 46 = .ok (.iload_n 3, 1) := by decide +kernel
theorem dX6_writeKnownOperand_47 : decode cX6_writeKnownOperand 47 = .ok (.invokevirtual 61, 3) := by decide +kernel
theorem dX6_writeKnownOperand_50 : decode cX6_writeKnownOperand 50 = .ok (.iconst 1, 1) := by decide +kernel
theorem dX6_writeKnownOperand_51 : decode cX6_writeKnownOperand 51 = .ok (.ireturn, 1) := by decide +kernel
theorem dX6_workOutDigits_0 : decode cX6_workOutDigits 0 = .ok (.iconst 0, 1) := by decide +kernel
theorem dX6_workOutDigits_1 : decode cX6_workOutDigits 1 = .ok (.istore_n 2, 1) := by decide +kernel
theorem dX6_workOutDigits_2 : decode cX6_workOutDigits 2 = .ok (.iconst 0, 1) := by decide +kernel
theorem dX6_workOutDigits_3 : decode cX6_workOutDigits 3 = .ok (.istore_n 3, 1) := by decide +kernel
theorem dX6_workOutDigits_4 : decode cX6_workOutDigits 4 = .ok (.iload_n 3, 1) := by decide +kernel
theorem dX6_workOutDigits_5 : decode cX6_workOutDigits 5 = .ok (.aload_n 1, 1) := by decide +kernel
theorem dX6_workOutDigits_6 : decode cX6_workOutDigits 6 = .ok (.getfield 40, 3) := by decide +kernel
theorem dX6_workOutDigits_9 : decode cX6_workOutDigits 9 = .ok (.if_icmp .ge 87, 3) := by decide +kernel
theorem dX6_workOutDigits_12 : decode cX6_workOutDigits 12 = .ok (.aload_n 1, 1) := by decide +kernel
theorem dX6_workOutDigits_13 : decode cX6_workOutDigits 13 = .ok (.iload_n 3, 1) := by decide +kernel
theorem dX6_workOutDigits_14 : decode cX6_workOutDigits 14 = .ok (.iconst 1, 1) := by decide +kernel
theorem dX6_workOutDigits_15 : decode cX6_workOutDigits 15 = .ok (.invokevirtual 50, 3) := by decide +kernel
theorem dX6_workOutDigits_18 : decode cX6_workOutDigits 18 = .ok (.istore 4, 2) := by decide +kernel
theorem dX6_workOutDigits_20 : decode cX6_workOutDigits 20 = .ok (.aload_n 1, 1) := by decide +kernel
theorem dX6_workOutDigits_21 : decode cX6_workOutDigits 21 = .ok (.iload_n 3, 1) := by decide +kernel
theorem dX6_workOutDigits_22 : decode cX6_workOutDigits 22 = .ok (.iconst 2, 1) := by decide +kernel
theorem dX6_workOutDigits_23 : decode cX6_workOutDigits 23 = .ok (.invokevirtual 50, 3) := by decide +kernel
theorem dX6_workOutDigits_26 : decode cX6_workOutDigits 26 = .ok (.istore 5, 2) := by decide +kernel
theorem dX6_workOutDigits_28 : decode cX6_workOutDigits 28 = .ok (.aload_n 1, 1) := by decide +kernel
theorem dX6_workOutDigits_29 : decode cX6_workOutDigits 29 = .ok (.iload_n 3, 1) := by decide +kernel
theorem dX6_workOutDigits_30 : decode cX6_workOutDigits 30 = .ok (.iconst 3, 1) := by decide +kernel
theorem dX6_workOutDigits_31 : decode cX6_workOutDigits 31 = .ok (.invokevirtual 50, 3) := by decide +kernel
theorem dX6_workOutDigits_34 : decode cX6_workOutDigits 34 = .ok (.istore 6, 2) := by decide +kernel
theorem dX6_workOutDigits_36 : decode cX6_workOutDigits 36 = .ok (.iload 4, 2) := by decide +kernel
theorem dX6_workOutDigits_38 : decode cX6_workOutDigits 38 = .ok (.invokestatic 65, 3) := by decide +kernel
theorem dX6_workOutDigits_41 : decode cX6_workOutDigits 41 = .ok (.ifCond .eq 49, 3) := by decide +kernel
theorem dX6_workOutDigits_44 : decode cX6_workOutDigits 44 = .ok (.iload 5, 2) := by decide +kernel
theorem dX6_workOutDigits_46 : decode cX6_workOutDigits 46 = .ok (.invokestatic 68, 3) := by decide +kernel
theorem dX6_workOutDigits_49 : decode cX6_workOutDigits 49 = .ok (.ifCond .eq 41, 3) := by decide +kernel
theorem dX6_workOutDigits_52 : decode cX6_workOutDigits 52 = .ok (.iload 6, 2) := by decide +kernel
theorem dX6_workOutDigits_54 : decode cX6_workOutDigits 54 = .ok (.invokestatic 68, 3) := by decide +kernel
theorem dX6_workOutDigits_57 : decode cX6_workOutDigits 57 = .ok (.ifCond .eq 33, 3) := by decide +kernel
theorem dX6_workOutDigits_60 : decode cX6_workOutDigits 60 = .ok (.aload_n 1, 1) := by decide +kernel
theorem dX6_workOutDigits_61 : decode cX6_workOutDigits 61 = .ok (.iload_n 3, 1) := by decide +kernel
theorem dX6_workOutDigits_62 : decode cX6_workOutDigits 62 = .ok (.bipush (-6), 2) := by decide +kernel
theorem dX6_workOutDigits_64 : decode cX6_workOutDigits 64 = .ok (.iload 4, 2) := by decide +kernel
theorem dX6_workOutDigits_66 : decode cX6_workOutDigits 66 = .ok (.iload 5, 2) := by decide +kernel
theorem dX6_workOutDigits_68 : decode cX6_workOutDigits 68 = .ok (.bipush 10, 2) := by decide +kernel
theorem dX6_workOutDigits_70 : decode cX6_workOutDigits 70 = .ok (.isub, 1) := by decide +kernel
theorem dX6_workOutDigits_71 : decode cX6_workOutDigits 71 = .ok (.iload 6, 2) := by decide +kernel
theorem dX6_workOutDigits_73 : decode cX6_workOutDigits 73 = .ok (.bipush 10, 2) := by decide +kernel
theorem dX6_workOutDigits_75 : decode cX6_workOutDigits 75 = .ok (.isub, 1) := by decide +kernel
theorem dX6_workOutDigits_76 : decode cX6_workOutDigits 76 = .ok (.invokestatic 71, 3) := by decide +kernel
theorem dX6_workOutDigits_79 : decode cX6_workOutDigits 79 = .ok (.bipush 10, 2) := by decide +kernel
theorem dX6_workOutDigits_81 : decode cX6_workOutDigits 81 = .ok (.iadd, 1) := by decide +kernel
theorem dX6_workOutDigits_82 : decode cX6_workOutDigits 82 = .ok (.bipush (-6), 2) := by decide +kernel
theorem dX6_workOutDigits_84 : decode cX6_workOutDigits 84 = .ok (.invokevirtual 75, 3) := by decide +kernel
theorem dX6_workOutDigits_87 : decode cX6_workOutDigits 87 = .ok (.iinc 2 1, 3) := by decide +kernel
theorem dX6_workOutDigits_90 : decode cX6_workOutDigits 90 = .ok (.iinc 3 1, 3) := by decide +kernel
theorem dX6_workOutDigits_93 : decode cX6_workOutDigits 93 = .ok (.goto (-89), 3) := by decide +kernel
theorem dX6_workOutDigits_96 : decode cX6_workOutDigits 96 = .ok (.iload_n 2, 1) := by decide +kernel
theorem dX6_workOutDigits_97 : decode cX6_workOutDigits 97 = .ok (.ireturn, 1) := by decide +kernel
theorem dX6_copyNeedless_0 : decode cX6_copyNeedless 0 = .ok (.aload_n 0, 1) := by decide +kernel
theorem dX6_copyNeedless_1 : decode cX6_copyNeedless 1 = .ok (.getfield 12, 3) := by decide +kernel
theorem dX6_copyNeedless_4 : decode cX6_copyNeedless 4 = .ok (.aload_n 1, 1) := by decide +kernel
theorem dX6_copyNeedless_5 : decode cX6_copyNeedless 5 = .ok (.invokevirtual 79, 3) := by decide +kernel
theorem dX6_copyNeedless_8 : decode cX6_copyNeedless 8 = .ok (.iconst 0, 1) := by decide +kernel
theorem dX6_copyNeedless_9 : decode cX6_copyNeedless 9 = .ok (.istore_n 2, 1) := by decide +kernel
theorem dX6_copyNeedless_10 : decode cX6_copyNeedless 10 = .ok (.iconst 0, 1) := by decide +kernel
theorem dX6_copyNeedless_11 : decode cX6_copyNeedless 11 = .ok (.istore_n 3, 1) := by decide +kernel
theorem dX6_copyNeedless_12 : decode cX6_copyNeedless 12 = .ok (.iload_n 3, 1) := by decide +kernel
theorem dX6_copyNeedless_13 : decode cX6_copyNeedless 13 = .ok (.aload_n 1, 1) := by decide +kernel
theorem dX6_copyNeedless_14 : decode cX6_copyNeedless 14 = .ok (.getfield 40, 3) := by decide +kernel
theorem dX6_copyNeedless_17 : decode cX6_copyNeedless 17 = .ok (.if_icmp .ge 52, 3) := by decide +kernel
theorem dX6_copyNeedless_20 : decode cX6_copyNeedless 20 = .ok (.aload_n 0, 1) := by decide +kernel
theorem dX6_copyNeedless_21 : decode cX6_copyNeedless 21 = .ok (.getfield 12, 3) := by decide +kernel
theorem dX6_copyNeedless_24 : decode cX6_copyNeedless 24 = .ok (.iload_n 3, 1) := by decide +kernel
theorem dX6_copyNeedless_25 : decode cX6_copyNeedless 25 = .ok (.invokevirtual 82, 3) := by decide +kernel
theorem dX6_copyNeedless_28 : decode cX6_copyNeedless 28 = .ok (.istore 4, 2) := by decide +kernel
theorem dX6_copyNeedless_30 : decode cX6_copyNeedless 30 = .ok (.iload 4, 2) := by decide +kernel
theorem dX6_copyNeedless_32 : decode cX6_copyNeedless 32 = .ok (.bipush (-6), 2) := by decide +kernel
theorem dX6_copyNeedless_34 : decode cX6_copyNeedless 34 = .ok (.if_icmp .eq 29, 3) := by decide +kernel
theorem dX6_copyNeedless_37 : decode cX6_copyNeedless 37 = .ok (.aload_n 1, 1) := by decide +kernel
theorem dX6_copyNeedless_38 : decode cX6_copyNeedless 38 = .ok (.iload_n 3, 1) := by decide +kernel
theorem dX6_copyNeedless_39 : decode cX6_copyNeedless 39 = .ok (.iconst 1, 1) := by decide +kernel
theorem dX6_copyNeedless_40 : decode cX6_copyNeedless 40 = .ok (.invokevirtual 50, 3) := by decide +kernel
theorem dX6_copyNeedless_43 : decode cX6_copyNeedless 43 = .ok (.invokestatic 65, 3) := by decide +kernel
theorem dX6_copyNeedless_46 : decode cX6_copyNeedless 46 = .ok (.ifCond .eq 17, 3) := by decide +kernel
theorem dX6_copyNeedless_49 : decode cX6_copyNeedless 49 = .ok (.aload_n 1, 1) := by decide +kernel
theorem dX6_copyNeedless_50 : decode cX6_copyNeedless 50 = .ok (.iload_n 3, 1) := by decide +kernel
theorem dX6_copyNeedless_51 : decode cX6_copyNeedless 51 = .ok (.bipush (-6), 2) := by decide +kernel
theorem dX6_copyNeedless_53 : decode cX6_copyNeedless 53 = .ok (.iload 4, 2) := by decide +kernel
theorem dX6_copyNeedless_55 : decode cX6_copyNeedless 55 = .ok (.bipush (-6), 2) := by decide +kernel
theorem dX6_copyNeedless_57 : decode cX6_copyNeedless 57 = .ok (.invokevirtual 75, 3) := by decide +kernel
theorem dX6_copyNeedless_60 : decode cX6_copyNeedless 60 = .ok (.iinc 2 1, 3) := by decide +kernel
theorem dX6_copyNeedless_63 : decode cX6_copyNeedless 63 = .ok (.iinc 3 1, 3) := by decide +kernel
theorem dX6_copyNeedless_66 : decode cX6_copyNeedless 66 = .ok (.goto (-54), 3) := by decide +kernel
theorem dX6_copyNeedless_69 : decode cX6_copyNeedless 69 = .ok (.iload_n 2, 1) := by decide +kernel
theorem dX6_copyNeedless_70 : decode cX6_copyNeedless 70 = .ok (.ireturn, 1) := by decide +kernel
theorem dX6_dropUseless_0 : decode cX6_dropUseless 0 = .ok (.aload_n 0, 1) := by decide +kernel
theorem dX6_dropUseless_1 : decode cX6_dropUseless 1 = .ok (.getfield 12, 3) := by decide +kernel
theorem dX6_dropUseless_4 : decode cX6_dropUseless 4 = .ok (.aload_n 1, 1) := by decide +kernel
theorem dX6_dropUseless_5 : decode cX6_dropUseless 5 = .ok (.iload_n 2, 1) := by decide +kernel
theorem dX6_dropUseless_6 : decode cX6_dropUseless 6 = .ok (.invokevirtual 86, 3) := by decide +kernel
theorem dX6_dropUseless_9 : decode cX6_dropUseless 9 = .ok (.aload_n 1, 1) := by decide +kernel
theorem dX6_dropUseless_10 : decode cX6_dropUseless 10 = .ok (.getfield 40, 3) := by decide +kernel
theorem dX6_dropUseless_13 : decode cX6_dropUseless 13 = .ok (.istore_n 3, 1) := by decide +kernel
theorem dX6_dropUseless_14 : decode cX6_dropUseless 14 = .ok (.iconst 0, 1) := by decide +kernel
theorem dX6_dropUseless_15 : decode cX6_dropUseless 15 = .ok (.istore 4, 2) := by decide +kernel
theorem dX6_dropUseless_17 : decode cX6_dropUseless 17 = .ok (.iconst 0, 1) := by decide +kernel
theorem dX6_dropUseless_18 : decode cX6_dropUseless 18 = .ok (.istore 5, 2) := by decide +kernel
theorem dX6_dropUseless_20 : decode cX6_dropUseless 20 = .ok (.iload 5, 2) := by decide +kernel
theorem dX6_dropUseless_22 : decode cX6_dropUseless 22 = .ok (.iload_n 3, 1) := by decide +kernel
theorem dX6_dropUseless_23 : decode cX6_dropUseless 23 = .ok (.if_icmp .ge 71, 3) := by decide +kernel
theorem dX6_dropUseless_26 : decode cX6_dropUseless 26 = .ok (.aload_n 1, 1) := by decide +kernel
theorem dX6_dropUseless_27 : decode cX6_dropUseless 27 = .ok (.iload 5, 2) := by decide +kernel
theorem dX6_dropUseless_29 : decode cX6_dropUseless 29 = .ok (.iconst 1, 1) := by decide +kernel
theorem dX6_dropUseless_30 : decode cX6_dropUseless 30 = .ok (.invokevirtual 50, 3) := by decide +kernel
theorem dX6_dropUseless_33 : decode cX6_dropUseless 33 = .ok (.bipush (-6), 2) := by decide +kernel
theorem dX6_dropUseless_35 : decode cX6_dropUseless 35 = .ok (.if_icmp .ne 23, 3) := by decide +kernel
theorem dX6_dropUseless_38 : decode cX6_dropUseless 38 = .ok (.aload_n 1, 1) := by decide +kernel
theorem dX6_dropUseless_39 : decode cX6_dropUseless 39 = .ok (.iload 5, 2) := by decide +kernel
theorem dX6_dropUseless_41 : decode cX6_dropUseless 41 = .ok (.iconst 2, 1) := by decide +kernel
theorem dX6_dropUseless_42 : decode cX6_dropUseless 42 = .ok (.invokevirtual 50, 3) := by decide +kernel
theorem dX6_dropUseless_45 : decode cX6_dropUseless 45 = .ok (.aload_n 1, 1) := by decide +kernel
theorem dX6_dropUseless_46 : decode cX6_dropUseless 46 = .ok (.iload 5, 2) := by decide +kernel
theorem dX6_dropUseless_48 : decode cX6_dropUseless 48 = .ok (.invokevirtual 90, 3) := by decide +kernel
theorem dX6_dropUseless_51 : decode cX6_dropUseless 51 = .ok (.if_icmp .ne 7, 3) := by decide +kernel
theorem dX6_dropUseless_54 : decode cX6_dropUseless 54 = .ok (.iconst 1, 1) := by decide +kernel
theorem dX6_dropUseless_55 : decode cX6_dropUseless 55 = .ok (.goto 4, 3) := by decide +kernel
theorem dX6_dropUseless_58 : decode cX6_dropUseless 58 = .ok (.iconst 0, 1) := by decide +kernel
theorem dX6_dropUseless_59 : decode cX6_dropUseless 59 = .ok (.istore 6, 2) := by decide +kernel
theorem dX6_dropUseless_61 : decode cX6_dropUseless 61 = .ok (.iload 6, 2) := by decide +kernel
theorem dX6_dropUseless_63 : decode cX6_dropUseless 63 = .ok (.ifCond .ne 16, 3) := by decide +kernel
theorem dX6_dropUseless_66 : decode cX6_dropUseless 66 = .ok (.aload_n 0, 1) := by decide +kernel
theorem dX6_dropUseless_67 : decode cX6_dropUseless 67 = .ok (.getfield 12, 3) := by decide +kernel
theorem dX6_dropUseless_70 : decode cX6_dropUseless 70 = .ok (.aload_n 1, 1) := by decide +kernel
theorem dX6_dropUseless_71 : decode cX6_dropUseless 71 = .ok (.iload 5, 2) := by decide +kernel
theorem dX6_dropUseless_73 : decode cX6_dropUseless 73 = .ok (.invokevirtual 93, 3) := by decide +kernel
theorem dX6_dropUseless_76 : decode cX6_dropUseless 76 = .ok (.ifCond .eq 12, 3) := by decide +kernel
theorem dX6_dropUseless_79 : decode cX6_dropUseless 79 = .ok (.iload 4, 2) := by decide +kernel
theorem dX6_dropUseless_81 : decode cX6_dropUseless 81 = .ok (.iconst 1, 1) := by decide +kernel
theorem dX6_dropUseless_82 : decode cX6_dropUseless 82 = .ok (.iload 5, 2) := by decide +kernel
theorem dX6_dropUseless_84 : decode cX6_dropUseless 84 = .ok (.ishl, 1) := by decide +kernel
theorem dX6_dropUseless_85 : decode cX6_dropUseless 85 = .ok (.ior, 1) := by decide +kernel
theorem dX6_dropUseless_86 : decode cX6_dropUseless 86 = .ok (.istore 4, 2) := by decide +kernel
theorem dX6_dropUseless_88 : decode cX6_dropUseless 88 = .ok (.iinc 5 1, 3) := by decide +kernel
theorem dX6_dropUseless_91 : decode cX6_dropUseless 91 = .ok (.goto (-71), 3) := by decide +kernel
theorem dX6_dropUseless_94 : decode cX6_dropUseless 94 = .ok (.iconst 0, 1) := by decide +kernel
theorem dX6_dropUseless_95 : decode cX6_dropUseless 95 = .ok (.istore 5, 2) := by decide +kernel
theorem dX6_dropUseless_97 : decode cX6_dropUseless 97 = .ok (.iconst 0, 1) := by decide +kernel
theorem dX6_dropUseless_98 : decode cX6_dropUseless 98 = .ok (.istore 6, 2) := by decide +kernel
theorem dX6_dropUseless_100 : decode cX6_dropUseless 100 = .ok (.iload 6, 2) := by decide +kernel
theorem dX6_dropUseless_102 : decode cX6_dropUseless 102 = .ok (.iload_n 3, 1) := by decide +kernel
theorem dX6_dropUseless_103 : decode cX6_dropUseless 103 = .ok (.if_icmp .ge 62, 3) := by decide +kernel
theorem dX6_dropUseless_106 : decode cX6_dropUseless 106 = .ok (.iload 4, 2) := by decide +kernel
theorem dX6_dropUseless_108 : decode cX6_dropUseless 108 = .ok (.iload 6, 2) := by decide +kernel
theorem dX6_dropUseless_110 : decode cX6_dropUseless 110 = .ok (.ishr, 1) := by decide +kernel
theorem dX6_dropUseless_111 : decode cX6_dropUseless 111 = .ok (.iconst 1, 1) := by decide +kernel
theorem dX6_dropUseless_112 : decode cX6_dropUseless 112 = .ok (.iand, 1) := by decide +kernel
theorem dX6_dropUseless_113 : decode cX6_dropUseless 113 = .ok (.ifCond .ne 46, 3) := by decide +kernel
theorem dX6_dropUseless_116 : decode cX6_dropUseless 116 = .ok (.aload_n 1, 1) := by decide +kernel
theorem dX6_dropUseless_117 : decode cX6_dropUseless 117 = .ok (.iload 5, 2) := by decide +kernel
theorem dX6_dropUseless_119 : decode cX6_dropUseless 119 = .ok (.aload_n 1, 1) := by decide +kernel
theorem dX6_dropUseless_120 : decode cX6_dropUseless 120 = .ok (.iload 6, 2) := by decide +kernel
theorem dX6_dropUseless_122 : decode cX6_dropUseless 122 = .ok (.invokevirtual 90, 3) := by decide +kernel
theorem dX6_dropUseless_125 : decode cX6_dropUseless 125 = .ok (.iconst 0, 1) := by decide +kernel
theorem dX6_dropUseless_126 : decode cX6_dropUseless 126 = .ok (.invokevirtual 61, 3) := by decide +kernel
theorem dX6_dropUseless_129 : decode cX6_dropUseless 129 = .ok (.aload_n 1, 1) := by decide +kernel
theorem dX6_dropUseless_130 : decode cX6_dropUseless 130 = .ok (.iload 5, 2) := by decide +kernel
theorem dX6_dropUseless_132 : decode cX6_dropUseless 132 = .ok (.aload_n 1, 1) := by decide +kernel
theorem dX6_dropUseless_133 : decode cX6_dropUseless 133 = .ok (.iload 6, 2) := by decide +kernel
theorem dX6_dropUseless_135 : decode cX6_dropUseless 135 = .ok (.iconst 1, 1) := by decide +kernel
theorem dX6_dropUseless_136 : decode cX6_dropUseless 136 = .ok (.invokevirtual 50, 3) := by decide +kernel
theorem dX6_dropUseless_139 : decode cX6_dropUseless 139 = .ok (.aload_n 1, 1) := by decide +kernel
theorem dX6_dropUseless_140 : decode cX6_dropUseless 140 = .ok (.iload 6, 2) := by decide +kernel
theorem dX6_dropUseless_142 : decode cX6_dropUseless 142 = .ok (.iconst 2, 1) := by decide +kernel
theorem dX6_dropUseless_143 : decode cX6_dropUseless 143 = .ok (.invokevirtual 50, 3) := by decide +kernel
theorem dX6_dropUseless_146 : decode cX6_dropUseless 146 = .ok (.aload_n 1, 1) := by decide +kernel
theorem dX6_dropUseless_147 : decode cX6_dropUseless 147 = .ok (.iload 6, 2) := by decide +kernel
theorem dX6_dropUseless_149 : decode cX6_dropUseless 149 = .ok (.iconst 3, 1) := by decide +kernel
theorem dX6_dropUseless_150 : decode cX6_dropUseless 150 = .ok (.invokevirtual 50, 3) := by decide +kernel
theorem dX6_dropUseless_153 : decode cX6_dropUseless 153 = .ok (.invokevirtual 75, 3) := by decide +kernel
theorem dX6_dropUseless_156 : decode cX6_dropUseless 156 = .ok (.iinc 5 1, 3) := by decide +kernel
theorem dX6_dropUseless_159 : decode cX6_dropUseless 159 = .ok (.iinc 6 1, 3) := by decide +kernel
theorem dX6_dropUseless_162 : decode cX6_dropUseless 162 = .ok (.goto (-62), 3) := by decide +kernel
theorem dX6_dropUseless_165 : decode cX6_dropUseless 165 = .ok (.aload_n 1, 1) := by decide +kernel
theorem dX6_dropUseless_166 : decode cX6_dropUseless 166 = .ok (.iload 5, 2) := by decide +kernel
theorem dX6_dropUseless_168 : decode cX6_dropUseless 168 = .ok (.putfield 40, 3) := by decide +kernel
theorem dX6_dropUseless_171 : decode cX6_dropUseless 171 = .ok (.iload_n 3, 1) := by decide +kernel
theorem dX6_dropUseless_172 : decode cX6_dropUseless 172 = .ok (.iload 5, 2) := by decide +kernel
theorem dX6_dropUseless_174 : decode cX6_dropUseless 174 = .ok (.isub, 1) := by decide +kernel
theorem dX6_dropUseless_175 : decode cX6_dropUseless 175 = .ok (.ireturn, 1) := by decide +kernel
theorem dX7_init_0 : decode cX7_init 0 = .ok (.aload_n 0, 1) := by decide +kernel
theorem dX7_init_1 : decode cX7_init 1 = .ok (.invokespecial 3, 3) := by decide +kernel
theorem dX7_init_4 : decode cX7_init 4 = .ok (.aload_n 0, 1) := by decide +kernel
theorem dX7_init_5 : decode cX7_init 5 = .ok (.bipush 80, 2) := by decide +kernel
theorem dX7_init_7 : decode cX7_init 7 = .ok (.newarray .int, 2) := by decide +kernel
theorem dX7_init_9 : decode cX7_init 9 = .ok (.putfield 9, 3) := by decide +kernel
theorem dX7_init_12 : decode cX7_init 12 = .ok (.aload_n 0, 1) := by decide +kernel
theorem dX7_init_13 : decode cX7_init 13 = .ok (.new 15, 3) := by decide +kernel
theorem dX7_init_16 : decode cX7_init 16 = .ok (.dup, 1) := by decide +kernel
theorem dX7_init_17 : decode cX7_init 17 = .ok (.invokespecial 17, 3) := by decide +kernel
theorem dX7_init_20 : decode cX7_init 20 = .ok (.putfield 18, 3) := by decide +kernel
theorem dX7_init_23 : decode cX7_init 23 = .ok (.aload_n 0, 1) := by decide +kernel
theorem dX7_init_24 : decode cX7_init 24 = .ok (.new 15, 3) := by decide +kernel
theorem dX7_init_27 : decode cX7_init 27 = .ok (.dup, 1) := by decide +kernel
theorem dX7_init_28 : decode cX7_init 28 = .ok (.invokespecial 17, 3) := by decide +kernel
theorem dX7_init_31 : decode cX7_init 31 = .ok (.putfield 22, 3) := by decide +kernel
theorem dX7_init_34 : decode cX7_init 34 = .ok (.return_, 1) := by decide +kernel
theorem dX7_write_0 : decode cX7_write 0 = .ok (.aload_n 0, 1) := by decide +kernel
theorem dX7_write_1 : decode cX7_write 1 = .ok (.getfield 25, 3) := by decide +kernel
theorem dX7_write_4 : decode cX7_write 4 = .ok (.bipush 80, 2) := by decide +kernel
theorem dX7_write_6 : decode cX7_write 6 = .ok (.if_icmp .lt 6, 3) := by decide +kernel
theorem dX7_write_9 : decode cX7_write 9 = .ok (.bipush (-4), 2) := by decide +kernel
theorem dX7_write_11 : decode cX7_write 11 = .ok (.ireturn, 1) := by decide +kernel
theorem dX7_write_12 : decode cX7_write 12 = .ok (.aload_n 0, 1) := by decide +kernel
theorem dX7_write_13 : decode cX7_write 13 = .ok (.getfield 9, 3) := by decide +kernel
theorem dX7_write_16 : decode cX7_write 16 = .ok (.aload_n 0, 1) := by decide +kernel
theorem dX7_write_17 : decode cX7_write 17 = .ok (.getfield 25, 3) := by decide +kernel
theorem dX7_write_20 : decode cX7_write 20 = .ok (.iload_n 1, 1) := by decide +kernel
theorem dX7_write_21 : decode cX7_write 21 = .ok (.iastore, 1) := by decide +kernel
theorem dX7_write_22 : decode cX7_write 22 = .ok (.aload_n 0, 1) := by decide +kernel
theorem dX7_write_23 : decode cX7_write 23 = .ok (.dup, 1) := by decide +kernel
theorem dX7_write_24 : decode cX7_write 24 = .ok (.getfield 25, 3) := by decide +kernel
theorem dX7_write_27 : decode cX7_write 27 = .ok (.iconst 1, 1) := by decide +kernel
theorem dX7_write_28 : decode cX7_write 28 = .ok (.iadd, 1) := by decide +kernel
theorem dX7_write_29 : decode cX7_write 29 = .ok (.putfield 25, 3) := by decide +kernel
theorem dX7_write_32 : decode cX7_write 32 = .ok (.aload_n 0, 1) := by decide +kernel
theorem dX7_write_33 : decode cX7_write 33 = .ok (.getfield 25, 3) := by decide +kernel
theorem dX7_write_36 : decode cX7_write 36 = .ok (.ireturn, 1) := by decide +kernel
theorem dX7_empty_0 : decode cX7_empty 0 = .ok (.aload_n 0, 1) := by decide +kernel
theorem dX7_empty_1 : decode cX7_empty 1 = .ok (.getfield 25, 3) := by decide +kernel
theorem dX7_empty_4 : decode cX7_empty 4 = .ok (.istore_n 1, 1) := by decide +kernel
theorem dX7_empty_5 : decode cX7_empty 5 = .ok (.aload_n 0, 1) := by decide +kernel
theorem dX7_empty_6 : decode cX7_empty 6 = .ok (.iconst 0, 1) := by decide +kernel
theorem dX7_empty_7 : decode cX7_empty 7 = .ok (.putfield 25, 3) := by decide +kernel
theorem dX7_empty_10 : decode cX7_empty 10 = .ok (.iload_n 1, 1) := by decide +kernel
theorem dX7_empty_11 : decode cX7_empty 11 = .ok (.ireturn, 1) := by decide +kernel
theorem dX7_parse_0 : decode cX7_parse 0 = .ok (.aload_n 0, 1) := by decide +kernel
theorem dX7_parse_1 : decode cX7_parse 1 = .ok (.getfield 18, 3) := by decide +kernel
theorem dX7_parse_4 : decode cX7_parse 4 = .ok (.iconst 0, 1) := by decide +kernel
theorem dX7_parse_5 : decode cX7_parse 5 = .ok (.putfield 29, 3) := by decide +kernel
theorem dX7_parse_8 : decode cX7_parse 8 = .ok (.aload_n 0, 1) := by decide +kernel
theorem dX7_parse_9 : decode cX7_parse 9 = .ok (.getfield 22, 3) := by decide +kernel
theorem dX7_parse_12 : decode cX7_parse 12 = .ok (.iconst 0, 1) := by decide +kernel
theorem dX7_parse_13 : decode cX7_parse 13 = .ok (.putfield 29, 3) := by decide +kernel
theorem dX7_parse_16 : decode cX7_parse 16 = .ok (.aload_n 0, 1) := by decide +kernel
theorem dX7_parse_17 : decode cX7_parse 17 = .ok (.iload_n 1, 1) := by decide +kernel
theorem dX7_parse_18 : decode cX7_parse 18 = .ok (.putfield 30, 3) := by decide +kernel
theorem dX7_parse_21 : decode cX7_parse 21 = .ok (.aload_n 0, 1) := by decide +kernel
theorem dX7_parse_22 : decode cX7_parse 22 = .ok (.iconst 0, 1) := by decide +kernel
theorem dX7_parse_23 : decode cX7_parse 23 = .ok (.putfield 34, 3) := by decide +kernel
theorem dX7_parse_26 : decode cX7_parse 26 = .ok (.aload_n 0, 1) := by decide +kernel
theorem dX7_parse_27 : decode cX7_parse 27 = .ok (.iconst 0, 1) := by decide +kernel
theorem dX7_parse_28 : decode cX7_parse 28 = .ok (.putfield 37, 3) := by decide +kernel
theorem dX7_parse_31 : decode cX7_parse 31 = .ok (.iconst 0, 1) := by decide +kernel
theorem dX7_parse_32 : decode cX7_parse 32 = .ok (.istore_n 2, 1) := by decide +kernel
theorem dX7_parse_33 : decode cX7_parse 33 = .ok (.iload_n 2, 1) := by decide +kernel
theorem dX7_parse_34 : decode cX7_parse 34 = .ok (.aload_n 0, 1) := by decide +kernel
theorem dX7_parse_35 : decode cX7_parse 35 = .ok (.getfield 25, 3) := by decide +kernel
theorem dX7_parse_38 : decode cX7_parse 38 = .ok (.if_icmp .ge 24, 3) := by decide +kernel
theorem dX7_parse_41 : decode cX7_parse 41 = .ok (.aload_n 0, 1) := by decide +kernel
theorem dX7_parse_42 : decode cX7_parse 42 = .ok (.aload_n 0, 1) := by decide +kernel
theorem dX7_parse_43 : decode cX7_parse 43 = .ok (.getfield 9, 3) := by decide +kernel
theorem dX7_parse_46 : decode cX7_parse 46 = .ok (.iload_n 2, 1) := by decide +kernel
theorem dX7_parse_47 : decode cX7_parse 47 = .ok (.iaload, 1) := by decide +kernel
theorem dX7_parse_48 : decode cX7_parse 48 = .ok (.invokevirtual 40, 3) := by decide +kernel
theorem dX7_parse_51 : decode cX7_parse 51 = .ok (.ifCond .ne 5, 3) := by decide +kernel
theorem dX7_parse_54 : decode cX7_parse 54 = .ok (.iload_n 2, 1) := by decide +kernel
theorem dX7_parse_55 : decode cX7_parse 55 = .ok (.ireturn, 1) := by decide +kernel
theorem dX7_parse_56 : decode cX7_parse 56 = .ok (.iinc 2 1, 3) := by decide +kernel
theorem dX7_parse_59 : decode cX7_parse 59 = .ok (.goto (-26), 3) := by decide +kernel
theorem dX7_parse_62 : decode cX7_parse 62 = .ok (.aload_n 0, 1) := by decide +kernel
theorem dX7_parse_63 : decode cX7_parse 63 = .ok (.getfield 37, 3) := by decide +kernel
theorem dX7_parse_66 : decode cX7_parse 66 = .ok (.iconst 1, 1) := by decide +kernel
theorem dX7_parse_67 : decode cX7_parse 67 = .ok (.if_icmp .eq 23, 3) := by decide +kernel
theorem dX7_parse_70 : decode cX7_parse 70 = .ok (.aload_n 0, 1) := by decide +kernel
theorem dX7_parse_71 : decode cX7_parse 71 = .ok (.getfield 37, 3) := by decide +kernel
theorem dX7_parse_74 : decode cX7_parse 74 = .ok (.bipush 6, 2) := by decide +kernel
theorem dX7_parse_76 : decode cX7_parse 76 = .ok (.if_icmp .ne 18, 3) := by decide +kernel
theorem dX7_parse_79 : decode cX7_parse 79 = .ok (.aload_n 0, 1) := by decide +kernel
theorem dX7_parse_80 : decode cX7_parse 80 = .ok (.getfield 34, 3) := by decide +kernel
theorem dX7_parse_83 : decode cX7_parse 83 = .ok (.aload_n 0, 1) := by decide +kernel
theorem dX7_parse_84 : decode cX7_parse 84 = .ok (.getfield 30, 3) := by decide +kernel
theorem dX7_parse_87 : decode cX7_parse 87 = .ok (.if_icmp .ne 7, 3) := by decide +kernel
theorem dX7_parse_90 : decode cX7_parse 90 = .ok (.iconst 1, 1) := by decide +kernel
theorem dX7_parse_91 : decode cX7_parse 91 = .ok (.goto 4, 3) := by decide +kernel
theorem dX7_parse_94 : decode cX7_parse 94 = .ok (.iconst 0, 1) := by decide +kernel
theorem dX7_parse_95 : decode cX7_parse 95 = .ok (.istore_n 2, 1) := by decide +kernel
theorem dX7_parse_96 : decode cX7_parse 96 = .ok (.iload_n 2, 1) := by decide +kernel
theorem dX7_parse_97 : decode cX7_parse 97 = .ok (.ifCond .eq 8, 3) := by decide +kernel
theorem dX7_parse_100 : decode cX7_parse 100 = .ok (.bipush (-6), 2) := by decide +kernel
theorem dX7_parse_102 : decode cX7_parse 102 = .ok (.goto 7, 3) := by decide +kernel
theorem dX7_parse_105 : decode cX7_parse 105 = .ok (.aload_n 0, 1) := by decide +kernel
theorem dX7_parse_106 : decode cX7_parse 106 = .ok (.getfield 25, 3) := by decide +kernel
theorem dX7_parse_109 : decode cX7_parse 109 = .ok (.ireturn, 1) := by decide +kernel
theorem dX7_takes_0 : decode cX7_takes 0 = .ok (.aload_n 0, 1) := by decide +kernel
theorem dX7_takes_1 : decode cX7_takes 1 = .ok (.getfield 37, 3) := by decide +kernel
theorem dX7_takes_4 : decode cX7_takes 4 = .ok (.tableswitch 137 0 5 #[40, 40, 69, 86, 92, 120], 40) := by decide +kernel
theorem dX7_takes_44 : decode cX7_takes 44 = .ok (.aload_n 0, 1) := by decide +kernel
theorem dX7_takes_45 : decode cX7_takes 45 = .ok (.iload_n 1, 1) := by decide +kernel
theorem dX7_takes_46 : decode cX7_takes 46 = .ok (.invokestatic 44, 3) := by decide +kernel
theorem dX7_takes_49 : decode cX7_takes 49 = .ok (.putfield 48, 3) := by decide +kernel
theorem dX7_takes_52 : decode cX7_takes 52 = .ok (.aload_n 0, 1) := by decide +kernel
theorem dX7_takes_53 : decode cX7_takes 53 = .ok (.iconst 2, 1) := by decide +kernel
theorem dX7_takes_54 : decode cX7_takes 54 = .ok (.putfield 37, 3) := by decide +kernel
theorem dX7_takes_57 : decode cX7_takes 57 = .ok (.aload_n 0, 1) := by decide +kernel
theorem dX7_takes_58 : decode cX7_takes 58 = .ok (.getfield 48, 3) := by decide +kernel
theorem dX7_takes_61 : decode cX7_takes 61 = .ok (.invokestatic 51, 3) := by decide +kernel
theorem dX7_takes_64 : decode cX7_takes 64 = .ok (.ifCond .ne 7, 3) := by decide +kernel
theorem dX7_takes_67 : decode cX7_takes 67 = .ok (.iconst 1, 1) := by decide +kernel
theorem dX7_takes_68 : decode cX7_takes 68 = .ok (.goto 4, 3) := by decide +kernel
theorem dX7_takes_71 : decode cX7_takes 71 = .ok (.iconst 0, 1) := by decide +kernel
theorem dX7_takes_72 : decode cX7_takes 72 = .ok (.ireturn, 1) := by decide +kernel
theorem dX7_takes_73 : decode cX7_takes 73 = .ok (.aload_n 0, 1) := by decide +kernel
theorem dX7_takes_74 : decode cX7_takes 74 = .ok (.iconst 3, 1) := by decide +kernel
theorem dX7_takes_75 : decode cX7_takes 75 = .ok (.putfield 37, 3) := by decide +kernel
theorem dX7_takes_78 : decode cX7_takes 78 = .ok (.iload_n 1, 1) := by decide +kernel
theorem dX7_takes_79 : decode cX7_takes 79 = .ok (.bipush 61, 2) := by decide +kernel
theorem dX7_takes_81 : decode cX7_takes 81 = .ok (.if_icmp .ne 7, 3) := by decide +kernel
theorem dX7_takes_84 : decode cX7_takes 84 = .ok (.iconst 1, 1) := by decide +kernel
theorem dX7_takes_85 : decode cX7_takes 85 = .ok (.goto 4, 3) := by decide +kernel
theorem dX7_takes_88 : decode cX7_takes 88 = .ok (.iconst 0, 1) := by decide +kernel
theorem dX7_takes_89 : decode cX7_takes 89 = .ok (.ireturn, 1) := by decide +kernel
theorem dX7_takes_90 : decode cX7_takes 90 = .ok (.aload_n 0, 1) := by decide +kernel
theorem dX7_takes_91 : decode cX7_takes 91 = .ok (.iload_n 1, 1) := by decide +kernel
theorem dX7_takes_92 : decode cX7_takes 92 = .ok (.invokevirtual 54, 3) := by decide +kernel
theorem dX7_takes_95 : decode cX7_takes 95 = .ok (.ireturn, 1) := by decide +kernel
theorem dX7_takes_96 : decode cX7_takes 96 = .ok (.aload_n 0, 1) := by decide +kernel
theorem dX7_takes_97 : decode cX7_takes 97 = .ok (.iload_n 1, 1) := by decide +kernel
theorem dX7_takes_98 : decode cX7_takes 98 = .ok (.invokestatic 44, 3) := by decide +kernel
theorem dX7_takes_101 : decode cX7_takes 101 = .ok (.putfield 57, 3) := by decide +kernel
theorem dX7_takes_104 : decode cX7_takes 104 = .ok (.aload_n 0, 1) := by decide +kernel
theorem dX7_takes_105 : decode cX7_takes 105 = .ok (.iconst 5, 1) := by decide +kernel
theorem dX7_takes_106 : decode cX7_takes 106 = .ok (.putfield 37, 3) := by decide +kernel
theorem dX7_takes_109 : decode cX7_takes 109 = .ok (.aload_n 0, 1) := by decide +kernel
theorem dX7_takes_110 : decode cX7_takes 110 = .ok (.getfield 57, 3) := by decide +kernel
theorem dX7_takes_113 : decode cX7_takes 113 = .ok (.bipush (-6), 2) := by decide +kernel
theorem dX7_takes_115 : decode cX7_takes 115 = .ok (.if_icmp .eq 7, 3) := by decide +kernel
theorem dX7_takes_118 : decode cX7_takes 118 = .ok (.iconst 1, 1) := by decide +kernel
theorem dX7_takes_119 : decode cX7_takes 119 = .ok (.goto 4, 3) := by decide +kernel
theorem dX7_takes_122 : decode cX7_takes 122 = .ok (.iconst 0, 1) := by decide +kernel
theorem dX7_takes_123 : decode cX7_takes 123 = .ok (.ireturn, 1) := by decide +kernel
theorem dX7_takes_124 : decode cX7_takes 124 = .ok (.aload_n 0, 1) := by decide +kernel
theorem dX7_takes_125 : decode cX7_takes 125 = .ok (.aload_n 0, 1) := by decide +kernel
theorem dX7_takes_126 : decode cX7_takes 126 = .ok (.getfield 60, 3) := by decide +kernel
theorem dX7_takes_129 : decode cX7_takes 129 = .ok (.aload_n 0, 1) := by decide +kernel
theorem dX7_takes_130 : decode cX7_takes 130 = .ok (.getfield 57, 3) := by decide +kernel
theorem dX7_takes_133 : decode cX7_takes 133 = .ok (.iload_n 1, 1) := by decide +kernel
theorem dX7_takes_134 : decode cX7_takes 134 = .ok (.invokestatic 44, 3) := by decide +kernel
theorem dX7_takes_137 : decode cX7_takes 137 = .ok (.invokevirtual 63, 3) := by decide +kernel
theorem dX7_takes_140 : decode cX7_takes 140 = .ok (.ireturn, 1) := by decide +kernel
theorem dX7_takes_141 : decode cX7_takes 141 = .ok (.aload_n 0, 1) := by decide +kernel
theorem dX7_takes_142 : decode cX7_takes 142 = .ok (.iload_n 1, 1) := by decide +kernel
theorem dX7_takes_143 : decode cX7_takes 143 = .ok (.invokevirtual 67, 3) := by decide +kernel
theorem dX7_takes_146 : decode cX7_takes 146 = .ok (.ireturn, 1) := by decide +kernel
theorem dX7_takesMaking_0 : decode cX7_takesMaking 0 = .ok (.iload_n 1, 1) := by decide +kernel
theorem dX7_takesMaking_1 : decode cX7_takesMaking 1 = .ok (.invokestatic 70, 3) := by decide +kernel
theorem dX7_takesMaking_4 : decode cX7_takesMaking 4 = .ok (.ifCond .eq 15, 3) := by decide +kernel
theorem dX7_takesMaking_7 : decode cX7_takesMaking 7 = .ok (.aload_n 0, 1) := by decide +kernel
theorem dX7_takesMaking_8 : decode cX7_takesMaking 8 = .ok (.iload_n 1, 1) := by decide +kernel
theorem dX7_takesMaking_9 : decode cX7_takesMaking 9 = .ok (.putfield 60, 3) := by decide +kernel
theorem dX7_takesMaking_12 : decode cX7_takesMaking 12 = .ok (.aload_n 0, 1) := by decide +kernel
theorem dX7_takesMaking_13 : decode cX7_takesMaking 13 = .ok (.iconst 4, 1) := by decide +kernel
theorem dX7_takesMaking_14 : decode cX7_takesMaking 14 = .ok (.putfield 37, 3) := by decide +kernel
theorem dX7_takesMaking_17 : decode cX7_takesMaking 17 = .ok (.iconst 1, 1) := by decide +kernel
theorem dX7_takesMaking_18 : decode cX7_takesMaking 18 = .ok (.ireturn, 1) := by decide +kernel
theorem dX7_takesMaking_19 : decode cX7_takesMaking 19 = .ok (.aload_n 0, 1) := by decide +kernel
theorem dX7_takesMaking_20 : decode cX7_takesMaking 20 = .ok (.bipush (-6), 2) := by decide +kernel
theorem dX7_takesMaking_22 : decode cX7_takesMaking 22 = .ok (.iload_n 1, 1) := by decide +kernel
theorem dX7_takesMaking_23 : decode cX7_takesMaking 23 = .ok (.invokestatic 44, 3) := by decide +kernel
theorem dX7_takesMaking_26 : decode cX7_takesMaking 26 = .ok (.bipush (-6), 2) := by decide +kernel
theorem dX7_takesMaking_28 : decode cX7_takesMaking 28 = .ok (.invokevirtual 63, 3) := by decide +kernel
theorem dX7_takesMaking_31 : decode cX7_takesMaking 31 = .ok (.ireturn, 1) := by decide +kernel
theorem dX7_endsStep_0 : decode cX7_endsStep 0 = .ok (.iload_n 2, 1) := by decide +kernel
theorem dX7_endsStep_1 : decode cX7_endsStep 1 = .ok (.bipush (-6), 2) := by decide +kernel
theorem dX7_endsStep_3 : decode cX7_endsStep 3 = .ok (.if_icmp .eq 15, 3) := by decide +kernel
theorem dX7_endsStep_6 : decode cX7_endsStep 6 = .ok (.iload_n 1, 1) := by decide +kernel
theorem dX7_endsStep_7 : decode cX7_endsStep 7 = .ok (.bipush (-6), 2) := by decide +kernel
theorem dX7_endsStep_9 : decode cX7_endsStep 9 = .ok (.if_icmp .eq 11, 3) := by decide +kernel
theorem dX7_endsStep_12 : decode cX7_endsStep 12 = .ok (.iload_n 3, 1) := by decide +kernel
theorem dX7_endsStep_13 : decode cX7_endsStep 13 = .ok (.bipush (-6), 2) := by decide +kernel
theorem dX7_endsStep_15 : decode cX7_endsStep 15 = .ok (.if_icmp .ne 5, 3) := by decide +kernel
theorem dX7_endsStep_18 : decode cX7_endsStep 18 = .ok (.iconst 0, 1) := by decide +kernel
theorem dX7_endsStep_19 : decode cX7_endsStep 19 = .ok (.ireturn, 1) := by decide +kernel
theorem dX7_endsStep_20 : decode cX7_endsStep 20 = .ok (.aload_n 0, 1) := by decide +kernel
theorem dX7_endsStep_21 : decode cX7_endsStep 21 = .ok (.getfield 34, 3) := by decide +kernel
theorem dX7_endsStep_24 : decode cX7_endsStep 24 = .ok (.ifCond .eq 10, 3) := by decide +kernel
theorem dX7_endsStep_27 : decode cX7_endsStep 27 = .ok (.aload_n 0, 1) := by decide +kernel
theorem dX7_endsStep_28 : decode cX7_endsStep 28 = .ok (.getfield 22, 3) := by decide +kernel
theorem dX7_endsStep_31 : decode cX7_endsStep 31 = .ok (.goto 7, 3) := by decide +kernel
theorem dX7_endsStep_34 : decode cX7_endsStep 34 = .ok (.aload_n 0, 1) := by decide +kernel
theorem dX7_endsStep_35 : decode cX7_endsStep 35 = .ok (.getfield 18, 3) := by decide +kernel
theorem dX7_endsStep_38 : decode cX7_endsStep 38 = .ok (.astore 4, 2) := by decide +kernel
theorem dX7_endsStep_40 : decode cX7_endsStep 40 = .ok (.aload 4, 2) := by decide +kernel
theorem dX7_endsStep_42 : decode cX7_endsStep 42 = .ok (.aload_n 0, 1) := by decide +kernel
theorem dX7_endsStep_43 : decode cX7_endsStep 43 = .ok (.getfield 48, 3) := by decide +kernel
theorem dX7_endsStep_46 : decode cX7_endsStep 46 = .ok (.iload_n 1, 1) := by decide +kernel
theorem dX7_endsStep_47 : decode cX7_endsStep 47 = .ok (.iload_n 2, 1) := by decide +kernel
theorem dX7_endsStep_48 : decode cX7_endsStep 48 = .ok (.iload_n 3, 1) := by decide +kernel
theorem dX7_endsStep_49 : decode cX7_endsStep 49 = .ok (.invokevirtual 73, 3) := by decide +kernel
theorem dX7_endsStep_52 : decode cX7_endsStep 52 = .ok (.aload_n 0, 1) := by decide +kernel
theorem dX7_endsStep_53 : decode cX7_endsStep 53 = .ok (.bipush 6, 2) := by decide +kernel
theorem dX7_endsStep_55 : decode cX7_endsStep 55 = .ok (.putfield 37, 3) := by decide +kernel
theorem dX7_endsStep_58 : decode cX7_endsStep 58 = .ok (.iconst 1, 1) := by decide +kernel
theorem dX7_endsStep_59 : decode cX7_endsStep 59 = .ok (.ireturn, 1) := by decide +kernel
theorem dX7_takesMore_0 : decode cX7_takesMore 0 = .ok (.aload_n 0, 1) := by decide +kernel
theorem dX7_takesMore_1 : decode cX7_takesMore 1 = .ok (.getfield 30, 3) := by decide +kernel
theorem dX7_takesMore_4 : decode cX7_takesMore 4 = .ok (.ifCond .eq 7, 3) := by decide +kernel
theorem dX7_takesMore_7 : decode cX7_takesMore 7 = .ok (.iconst 3, 1) := by decide +kernel
theorem dX7_takesMore_8 : decode cX7_takesMore 8 = .ok (.goto 5, 3) := by decide +kernel
theorem dX7_takesMore_11 : decode cX7_takesMore 11 = .ok (.bipush 12, 2) := by decide +kernel
theorem dX7_takesMore_13 : decode cX7_takesMore 13 = .ok (.istore_n 2, 1) := by decide +kernel
theorem dX7_takesMore_14 : decode cX7_takesMore 14 = .ok (.aload_n 0, 1) := by decide +kernel
theorem dX7_takesMore_15 : decode cX7_takesMore 15 = .ok (.getfield 34, 3) := by decide +kernel
theorem dX7_takesMore_18 : decode cX7_takesMore 18 = .ok (.ifCond .eq 10, 3) := by decide +kernel
theorem dX7_takesMore_21 : decode cX7_takesMore 21 = .ok (.aload_n 0, 1) := by decide +kernel
theorem dX7_takesMore_22 : decode cX7_takesMore 22 = .ok (.getfield 22, 3) := by decide +kernel
theorem dX7_takesMore_25 : decode cX7_takesMore 25 = .ok (.goto 7, 3) := by decide +kernel
theorem dX7_takesMore_28 : decode cX7_takesMore 28 = .ok (.aload_n 0, 1) := by decide +kernel
theorem dX7_takesMore_29 : decode cX7_takesMore 29 = .ok (.getfield 18, 3) := by decide +kernel
theorem dX7_takesMore_32 : decode cX7_takesMore 32 = .ok (.astore_n 3, 1) := by decide +kernel
theorem dX7_takesMore_33 : decode cX7_takesMore 33 = .ok (.iload_n 1, 1) := by decide +kernel
theorem dX7_takesMore_34 : decode cX7_takesMore 34 = .ok (.bipush 59, 2) := by decide +kernel
theorem dX7_takesMore_36 : decode cX7_takesMore 36 = .ok (.if_icmp .ne 18, 3) := by decide +kernel
theorem dX7_takesMore_39 : decode cX7_takesMore 39 = .ok (.aload_n 3, 1) := by decide +kernel
theorem dX7_takesMore_40 : decode cX7_takesMore 40 = .ok (.getfield 29, 3) := by decide +kernel
theorem dX7_takesMore_43 : decode cX7_takesMore 43 = .ok (.iload_n 2, 1) := by decide +kernel
theorem dX7_takesMore_44 : decode cX7_takesMore 44 = .ok (.if_icmp .ge 10, 3) := by decide +kernel
theorem dX7_takesMore_47 : decode cX7_takesMore 47 = .ok (.aload_n 0, 1) := by decide +kernel
theorem dX7_takesMore_48 : decode cX7_takesMore 48 = .ok (.iconst 0, 1) := by decide +kernel
theorem dX7_takesMore_49 : decode cX7_takesMore 49 = .ok (.putfield 37, 3) := by decide +kernel
theorem dX7_takesMore_52 : decode cX7_takesMore 52 = .ok (.iconst 1, 1) := by decide +kernel
theorem dX7_takesMore_53 : decode cX7_takesMore 53 = .ok (.ireturn, 1) := by decide +kernel
theorem dX7_takesMore_54 : decode cX7_takesMore 54 = .ok (.iload_n 1, 1) := by decide +kernel
theorem dX7_takesMore_55 : decode cX7_takesMore 55 = .ok (.bipush 62, 2) := by decide +kernel
theorem dX7_takesMore_57 : decode cX7_takesMore 57 = .ok (.if_icmp .ne 29, 3) := by decide +kernel
theorem dX7_takesMore_60 : decode cX7_takesMore 60 = .ok (.aload_n 0, 1) := by decide +kernel
theorem dX7_takesMore_61 : decode cX7_takesMore 61 = .ok (.getfield 30, 3) := by decide +kernel
theorem dX7_takesMore_64 : decode cX7_takesMore 64 = .ok (.ifCond .eq 22, 3) := by decide +kernel
theorem dX7_takesMore_67 : decode cX7_takesMore 67 = .ok (.aload_n 0, 1) := by decide +kernel
theorem dX7_takesMore_68 : decode cX7_takesMore 68 = .ok (.getfield 34, 3) := by decide +kernel
theorem dX7_takesMore_71 : decode cX7_takesMore 71 = .ok (.ifCond .ne 15, 3) := by decide +kernel
theorem dX7_takesMore_74 : decode cX7_takesMore 74 = .ok (.aload_n 0, 1) := by decide +kernel
theorem dX7_takesMore_75 : decode cX7_takesMore 75 = .ok (.iconst 1, 1) := by decide +kernel
theorem dX7_takesMore_76 : decode cX7_takesMore 76 = .ok (.putfield 34, 3) := by decide +kernel
theorem dX7_takesMore_79 : decode cX7_takesMore 79 = .ok (.aload_n 0, 1) := by decide +kernel
theorem dX7_takesMore_80 : decode cX7_takesMore 80 = .ok (.iconst 1, 1) := by decide +kernel
theorem dX7_takesMore_81 : decode cX7_takesMore 81 = .ok (.putfield 37, 3) := by decide +kernel
theorem dX7_takesMore_84 : decode cX7_takesMore 84 = .ok (.iconst 1, 1) := by decide +kernel
theorem dX7_takesMore_85 : decode cX7_takesMore 85 = .ok (.ireturn, 1) := by decide +kernel
theorem dX7_takesMore_86 : decode cX7_takesMore 86 = .ok (.iconst 0, 1) := by decide +kernel
theorem dX7_takesMore_87 : decode cX7_takesMore 87 = .ok (.ireturn, 1) := by decide +kernel
theorem dX7_operandOf_0 : decode cX7_operandOf 0 = .ok (.iload_n 0, 1) := by decide +kernel
theorem dX7_operandOf_1 : decode cX7_operandOf 1 = .ok (.bipush 97, 2) := by decide +kernel
theorem dX7_operandOf_3 : decode cX7_operandOf 3 = .ok (.if_icmp .lt 14, 3) := by decide +kernel
theorem dX7_operandOf_6 : decode cX7_operandOf 6 = .ok (.iload_n 0, 1) := by decide +kernel
theorem dX7_operandOf_7 : decode cX7_operandOf 7 = .ok (.bipush 100, 2) := by decide +kernel
theorem dX7_operandOf_9 : decode cX7_operandOf 9 = .ok (.if_icmp .gt 8, 3) := by decide +kernel
theorem dX7_operandOf_12 : decode cX7_operandOf 12 = .ok (.iload_n 0, 1) := by decide +kernel
theorem dX7_operandOf_13 : decode cX7_operandOf 13 = .ok (.bipush 97, 2) := by decide +kernel
theorem dX7_operandOf_15 : decode cX7_operandOf 15 = .ok (.isub, 1) := by decide +kernel
theorem dX7_operandOf_16 : decode cX7_operandOf 16 = .ok (.ireturn, 1) := by decide +kernel
theorem dX7_operandOf_17 : decode cX7_operandOf 17 = .ok (.iload_n 0, 1) := by decide +kernel
theorem dX7_operandOf_18 : decode cX7_operandOf 18 = .ok (.bipush 48, 2) := by decide +kernel
theorem dX7_operandOf_20 : decode cX7_operandOf 20 = .ok (.if_icmp .lt 17, 3) := by decide +kernel
theorem dX7_operandOf_23 : decode cX7_operandOf 23 = .ok (.iload_n 0, 1) := by decide +kernel
theorem dX7_operandOf_24 : decode cX7_operandOf 24 = .ok (.bipush 55, 2) := by decide +kernel
theorem dX7_operandOf_26 : decode cX7_operandOf 26 = .ok (.if_icmp .gt 11, 3) := by decide +kernel
theorem dX7_operandOf_29 : decode cX7_operandOf 29 = .ok (.iload_n 0, 1) := by decide +kernel
theorem dX7_operandOf_30 : decode cX7_operandOf 30 = .ok (.bipush 48, 2) := by decide +kernel
theorem dX7_operandOf_32 : decode cX7_operandOf 32 = .ok (.isub, 1) := by decide +kernel
theorem dX7_operandOf_33 : decode cX7_operandOf 33 = .ok (.bipush 10, 2) := by decide +kernel
theorem dX7_operandOf_35 : decode cX7_operandOf 35 = .ok (.iadd, 1) := by decide +kernel
theorem dX7_operandOf_36 : decode cX7_operandOf 36 = .ok (.ireturn, 1) := by decide +kernel
theorem dX7_operandOf_37 : decode cX7_operandOf 37 = .ok (.bipush (-6), 2) := by decide +kernel
theorem dX7_operandOf_39 : decode cX7_operandOf 39 = .ok (.ireturn, 1) := by decide +kernel
theorem dX8_init_0 : decode cX8_init 0 = .ok (.aload_n 0, 1) := by decide +kernel
theorem dX8_init_1 : decode cX8_init 1 = .ok (.invokespecial 3, 3) := by decide +kernel
theorem dX8_init_4 : decode cX8_init 4 = .ok (.aload_n 0, 1) := by decide +kernel
theorem dX8_init_5 : decode cX8_init 5 = .ok (.bipush 12, 2) := by decide +kernel
theorem dX8_init_7 : decode cX8_init 7 = .ok (.newarray .long, 2) := by decide +kernel
theorem dX8_init_9 : decode cX8_init 9 = .ok (.putfield 11, 3) := by decide +kernel
theorem dX8_init_12 : decode cX8_init 12 = .ok (.return_, 1) := by decide +kernel
theorem dX8_beginBlock_0 : decode cX8_beginBlock 0 = .ok (.iconst 0, 1) := by decide +kernel
theorem dX8_beginBlock_1 : decode cX8_beginBlock 1 = .ok (.istore_n 2, 1) := by decide +kernel
theorem dX8_beginBlock_2 : decode cX8_beginBlock 2 = .ok (.iload_n 2, 1) := by decide +kernel
theorem dX8_beginBlock_3 : decode cX8_beginBlock 3 = .ok (.iconst 3, 1) := by decide +kernel
theorem dX8_beginBlock_4 : decode cX8_beginBlock 4 = .ok (.if_icmp .ge 67, 3) := by decide +kernel
theorem dX8_beginBlock_7 : decode cX8_beginBlock 7 = .ok (.aload_n 0, 1) := by decide +kernel
theorem dX8_beginBlock_8 : decode cX8_beginBlock 8 = .ok (.getfield 11, 3) := by decide +kernel
theorem dX8_beginBlock_11 : decode cX8_beginBlock 11 = .ok (.iload_n 2, 1) := by decide +kernel
theorem dX8_beginBlock_12 : decode cX8_beginBlock 12 = .ok (.iload_n 1, 1) := by decide +kernel
theorem dX8_beginBlock_13 : decode cX8_beginBlock 13 = .ok (.iconst 3, 1) := by decide +kernel
theorem dX8_beginBlock_14 : decode cX8_beginBlock 14 = .ok (.iload_n 2, 1) := by decide +kernel
theorem dX8_beginBlock_15 : decode cX8_beginBlock 15 = .ok (.iadd, 1) := by decide +kernel
theorem dX8_beginBlock_16 : decode cX8_beginBlock 16 = .ok (.ishr, 1) := by decide +kernel
theorem dX8_beginBlock_17 : decode cX8_beginBlock 17 = .ok (.iconst 1, 1) := by decide +kernel
theorem dX8_beginBlock_18 : decode cX8_beginBlock 18 = .ok (.iand, 1) := by decide +kernel
theorem dX8_beginBlock_19 : decode cX8_beginBlock 19 = .ok (.i2l, 1) := by decide +kernel
theorem dX8_beginBlock_20 : decode cX8_beginBlock 20 = .ok (.lneg, 1) := by decide +kernel
theorem dX8_beginBlock_21 : decode cX8_beginBlock 21 = .ok (.lastore, 1) := by decide +kernel
theorem dX8_beginBlock_22 : decode cX8_beginBlock 22 = .ok (.aload_n 0, 1) := by decide +kernel
theorem dX8_beginBlock_23 : decode cX8_beginBlock 23 = .ok (.getfield 11, 3) := by decide +kernel
theorem dX8_beginBlock_26 : decode cX8_beginBlock 26 = .ok (.iconst 3, 1) := by decide +kernel
theorem dX8_beginBlock_27 : decode cX8_beginBlock 27 = .ok (.iload_n 2, 1) := by decide +kernel
theorem dX8_beginBlock_28 : decode cX8_beginBlock 28 = .ok (.iadd, 1) := by decide +kernel
theorem dX8_beginBlock_29 : decode cX8_beginBlock 29 = .ok (.iload_n 1, 1) := by decide +kernel
theorem dX8_beginBlock_30 : decode cX8_beginBlock 30 = .ok (.iload_n 2, 1) := by decide +kernel
theorem dX8_beginBlock_31 : decode cX8_beginBlock 31 = .ok (.ishr, 1) := by decide +kernel
theorem dX8_beginBlock_32 : decode cX8_beginBlock 32 = .ok (.iconst 1, 1) := by decide +kernel
theorem dX8_beginBlock_33 : decode cX8_beginBlock 33 = .ok (.iand, 1) := by decide +kernel
