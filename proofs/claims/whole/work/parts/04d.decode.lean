theorem dX12_spill_130 : decode cX12_spill 130 = .ok (.ifCond .lt 21, 3) := by decide +kernel
theorem dX12_spill_133 : decode cX12_spill 133 = .ok (.iload 4, 2) := by decide +kernel
theorem dX12_spill_135 : decode cX12_spill 135 = .ok (.invokestatic 340, 3) := by decide +kernel
theorem dX12_spill_138 : decode cX12_spill 138 = .ok (.iload_n 2, 1) := by decide +kernel
theorem dX12_spill_139 : decode cX12_spill 139 = .ok (.invokestatic 340, 3) := by decide +kernel
theorem dX12_spill_142 : decode cX12_spill 142 = .ok (.if_icmp .lt 9, 3) := by decide +kernel
theorem dX12_spill_145 : decode cX12_spill 145 = .ok (.iload 6, 2) := by decide +kernel
theorem dX12_spill_147 : decode cX12_spill 147 = .ok (.iload_n 3, 1) := by decide +kernel
theorem dX12_spill_148 : decode cX12_spill 148 = .ok (.if_icmp .ge 9, 3) := by decide +kernel
theorem dX12_spill_151 : decode cX12_spill 151 = .ok (.iload 4, 2) := by decide +kernel
theorem dX12_spill_153 : decode cX12_spill 153 = .ok (.istore_n 2, 1) := by decide +kernel
theorem dX12_spill_154 : decode cX12_spill 154 = .ok (.iload 6, 2) := by decide +kernel
theorem dX12_spill_156 : decode cX12_spill 156 = .ok (.istore_n 3, 1) := by decide +kernel
theorem dX12_spill_157 : decode cX12_spill 157 = .ok (.iinc 4 1, 3) := by decide +kernel
theorem dX12_spill_160 : decode cX12_spill 160 = .ok (.goto (-129), 3) := by decide +kernel
theorem dX12_spill_163 : decode cX12_spill 163 = .ok (.iload_n 2, 1) := by decide +kernel
theorem dX12_spill_164 : decode cX12_spill 164 = .ok (.ireturn, 1) := by decide +kernel
theorem dX12_at_0 : decode cX12_at 0 = .ok (.bipush 24, 2) := by decide +kernel
theorem dX12_at_2 : decode cX12_at 2 = .ok (.iload_n 0, 1) := by decide +kernel
theorem dX12_at_3 : decode cX12_at 3 = .ok (.imul, 1) := by decide +kernel
theorem dX12_at_4 : decode cX12_at 4 = .ok (.bipush 12, 2) := by decide +kernel
theorem dX12_at_6 : decode cX12_at 6 = .ok (.iload_n 1, 1) := by decide +kernel
theorem dX12_at_7 : decode cX12_at 7 = .ok (.imul, 1) := by decide +kernel
theorem dX12_at_8 : decode cX12_at 8 = .ok (.iadd, 1) := by decide +kernel
theorem dX12_at_9 : decode cX12_at 9 = .ok (.iconst 4, 1) := by decide +kernel
theorem dX12_at_10 : decode cX12_at 10 = .ok (.iload_n 2, 1) := by decide +kernel
theorem dX12_at_11 : decode cX12_at 11 = .ok (.imul, 1) := by decide +kernel
theorem dX12_at_12 : decode cX12_at 12 = .ok (.iadd, 1) := by decide +kernel
theorem dX12_at_13 : decode cX12_at 13 = .ok (.iload_n 3, 1) := by decide +kernel
theorem dX12_at_14 : decode cX12_at 14 = .ok (.iadd, 1) := by decide +kernel
theorem dX12_at_15 : decode cX12_at 15 = .ok (.ireturn, 1) := by decide +kernel
theorem dX12_putPart_0 : decode cX12_putPart 0 = .ok (.iconst 0, 1) := by decide +kernel
theorem dX12_putPart_1 : decode cX12_putPart 1 = .ok (.istore_n 3, 1) := by decide +kernel
theorem dX12_putPart_2 : decode cX12_putPart 2 = .ok (.iload_n 3, 1) := by decide +kernel
theorem dX12_putPart_3 : decode cX12_putPart 3 = .ok (.iload_n 2, 1) := by decide +kernel
theorem dX12_putPart_4 : decode cX12_putPart 4 = .ok (.if_icmp .ge 51, 3) := by decide +kernel
theorem dX12_putPart_7 : decode cX12_putPart 7 = .ok (.iconst 0, 1) := by decide +kernel
theorem dX12_putPart_8 : decode cX12_putPart 8 = .ok (.istore 4, 2) := by decide +kernel
theorem dX12_putPart_10 : decode cX12_putPart 10 = .ok (.iload 4, 2) := by decide +kernel
theorem dX12_putPart_12 : decode cX12_putPart 12 = .ok (.iconst 4, 1) := by decide +kernel
theorem dX12_putPart_13 : decode cX12_putPart 13 = .ok (.if_icmp .ge 36, 3) := by decide +kernel
theorem dX12_putPart_16 : decode cX12_putPart 16 = .ok (.aload_n 0, 1) := by decide +kernel
theorem dX12_putPart_17 : decode cX12_putPart 17 = .ok (.getfield 89, 3) := by decide +kernel
theorem dX12_putPart_20 : decode cX12_putPart 20 = .ok (.aload_n 0, 1) := by decide +kernel
theorem dX12_putPart_21 : decode cX12_putPart 21 = .ok (.getfield 348, 3) := by decide +kernel
theorem dX12_putPart_24 : decode cX12_putPart 24 = .ok (.iload_n 1, 1) := by decide +kernel
theorem dX12_putPart_25 : decode cX12_putPart 25 = .ok (.iload_n 3, 1) := by decide +kernel
theorem dX12_putPart_26 : decode cX12_putPart 26 = .ok (.iload 4, 2) := by decide +kernel
theorem dX12_putPart_28 : decode cX12_putPart 28 = .ok (.invokestatic 351, 3) := by decide +kernel
theorem dX12_putPart_31 : decode cX12_putPart 31 = .ok (.aload_n 0, 1) := by decide +kernel
theorem dX12_putPart_32 : decode cX12_putPart 32 = .ok (.getfield 31, 3) := by decide +kernel
theorem dX12_putPart_35 : decode cX12_putPart 35 = .ok (.iconst 4, 1) := by decide +kernel
theorem dX12_putPart_36 : decode cX12_putPart 36 = .ok (.iload_n 3, 1) := by decide +kernel
theorem dX12_putPart_37 : decode cX12_putPart 37 = .ok (.imul, 1) := by decide +kernel
theorem dX12_putPart_38 : decode cX12_putPart 38 = .ok (.iload 4, 2) := by decide +kernel
theorem dX12_putPart_40 : decode cX12_putPart 40 = .ok (.iadd, 1) := by decide +kernel
theorem dX12_putPart_41 : decode cX12_putPart 41 = .ok (.iaload, 1) := by decide +kernel
theorem dX12_putPart_42 : decode cX12_putPart 42 = .ok (.iastore, 1) := by decide +kernel
theorem dX12_putPart_43 : decode cX12_putPart 43 = .ok (.iinc 4 1, 3) := by decide +kernel
theorem dX12_putPart_46 : decode cX12_putPart 46 = .ok (.goto (-36), 3) := by decide +kernel
theorem dX12_putPart_49 : decode cX12_putPart 49 = .ok (.iinc 3 1, 3) := by decide +kernel
theorem dX12_putPart_52 : decode cX12_putPart 52 = .ok (.goto (-50), 3) := by decide +kernel
theorem dX12_putPart_55 : decode cX12_putPart 55 = .ok (.return_, 1) := by decide +kernel
theorem dX12_rule_0 : decode cX12_rule 0 = .ok (.aload_n 0, 1) := by decide +kernel
theorem dX12_rule_1 : decode cX12_rule 1 = .ok (.iconst 1, 1) := by decide +kernel
theorem dX12_rule_2 : decode cX12_rule 2 = .ok (.invokevirtual 169, 3) := by decide +kernel
theorem dX12_rule_5 : decode cX12_rule 5 = .ok (.ifCond .lt 6, 3) := by decide +kernel
theorem dX12_rule_8 : decode cX12_rule 8 = .ok (.bipush (-5), 2) := by decide +kernel
theorem dX12_rule_10 : decode cX12_rule 10 = .ok (.ireturn, 1) := by decide +kernel
theorem dX12_rule_11 : decode cX12_rule 11 = .ok (.aload_n 0, 1) := by decide +kernel
theorem dX12_rule_12 : decode cX12_rule 12 = .ok (.getfield 348, 3) := by decide +kernel
theorem dX12_rule_15 : decode cX12_rule 15 = .ok (.iconst 4, 1) := by decide +kernel
theorem dX12_rule_16 : decode cX12_rule 16 = .ok (.if_icmp .ne 6, 3) := by decide +kernel
theorem dX12_rule_19 : decode cX12_rule 19 = .ok (.bipush (-4), 2) := by decide +kernel
theorem dX12_rule_21 : decode cX12_rule 21 = .ok (.ireturn, 1) := by decide +kernel
theorem dX12_rule_22 : decode cX12_rule 22 = .ok (.iconst 0, 1) := by decide +kernel
theorem dX12_rule_23 : decode cX12_rule 23 = .ok (.istore_n 1, 1) := by decide +kernel
theorem dX12_rule_24 : decode cX12_rule 24 = .ok (.aload_n 0, 1) := by decide +kernel
theorem dX12_rule_25 : decode cX12_rule 25 = .ok (.getfield 7, 3) := by decide +kernel
theorem dX12_rule_28 : decode cX12_rule 28 = .ok (.iload_n 1, 1) := by decide +kernel
theorem dX12_rule_29 : decode cX12_rule 29 = .ok (.iaload, 1) := by decide +kernel
theorem dX12_rule_30 : decode cX12_rule 30 = .ok (.bipush 62, 2) := by decide +kernel
theorem dX12_rule_32 : decode cX12_rule 32 = .ok (.if_icmp .eq 9, 3) := by decide +kernel
theorem dX12_rule_35 : decode cX12_rule 35 = .ok (.iinc 1 1, 3) := by decide +kernel
theorem dX12_rule_38 : decode cX12_rule 38 = .ok (.goto (-14), 3) := by decide +kernel
theorem dX12_rule_41 : decode cX12_rule 41 = .ok (.aload_n 0, 1) := by decide +kernel
theorem dX12_rule_42 : decode cX12_rule 42 = .ok (.getfield 92, 3) := by decide +kernel
theorem dX12_rule_45 : decode cX12_rule 45 = .ok (.aload_n 0, 1) := by decide +kernel
theorem dX12_rule_46 : decode cX12_rule 46 = .ok (.getfield 348, 3) := by decide +kernel
theorem dX12_rule_49 : decode cX12_rule 49 = .ok (.aload_n 0, 1) := by decide +kernel
theorem dX12_rule_50 : decode cX12_rule 50 = .ok (.iconst 0, 1) := by decide +kernel
theorem dX12_rule_51 : decode cX12_rule 51 = .ok (.iload_n 1, 1) := by decide +kernel
theorem dX12_rule_52 : decode cX12_rule 52 = .ok (.invokevirtual 177, 3) := by decide +kernel
theorem dX12_rule_55 : decode cX12_rule 55 = .ok (.iastore, 1) := by decide +kernel
theorem dX12_rule_56 : decode cX12_rule 56 = .ok (.aload_n 0, 1) := by decide +kernel
theorem dX12_rule_57 : decode cX12_rule 57 = .ok (.iconst 0, 1) := by decide +kernel
theorem dX12_rule_58 : decode cX12_rule 58 = .ok (.aload_n 0, 1) := by decide +kernel
theorem dX12_rule_59 : decode cX12_rule 59 = .ok (.getfield 92, 3) := by decide +kernel
theorem dX12_rule_62 : decode cX12_rule 62 = .ok (.aload_n 0, 1) := by decide +kernel
theorem dX12_rule_63 : decode cX12_rule 63 = .ok (.getfield 348, 3) := by decide +kernel
theorem dX12_rule_66 : decode cX12_rule 66 = .ok (.iaload, 1) := by decide +kernel
theorem dX12_rule_67 : decode cX12_rule 67 = .ok (.invokevirtual 355, 3) := by decide +kernel
theorem dX12_rule_70 : decode cX12_rule 70 = .ok (.aload_n 0, 1) := by decide +kernel
theorem dX12_rule_71 : decode cX12_rule 71 = .ok (.getfield 95, 3) := by decide +kernel
theorem dX12_rule_74 : decode cX12_rule 74 = .ok (.aload_n 0, 1) := by decide +kernel
theorem dX12_rule_75 : decode cX12_rule 75 = .ok (.getfield 348, 3) := by decide +kernel
theorem dX12_rule_78 : decode cX12_rule 78 = .ok (.aload_n 0, 1) := by decide +kernel
theorem dX12_rule_79 : decode cX12_rule 79 = .ok (.iload_n 1, 1) := by decide +kernel
theorem dX12_rule_80 : decode cX12_rule 80 = .ok (.iconst 1, 1) := by decide +kernel
theorem dX12_rule_81 : decode cX12_rule 81 = .ok (.iadd, 1) := by decide +kernel
theorem dX12_rule_82 : decode cX12_rule 82 = .ok (.aload_n 0, 1) := by decide +kernel
theorem dX12_rule_83 : decode cX12_rule 83 = .ok (.getfield 133, 3) := by decide +kernel
theorem dX12_rule_86 : decode cX12_rule 86 = .ok (.invokevirtual 177, 3) := by decide +kernel
theorem dX12_rule_89 : decode cX12_rule 89 = .ok (.iastore, 1) := by decide +kernel
theorem dX12_rule_90 : decode cX12_rule 90 = .ok (.aload_n 0, 1) := by decide +kernel
theorem dX12_rule_91 : decode cX12_rule 91 = .ok (.iconst 1, 1) := by decide +kernel
theorem dX12_rule_92 : decode cX12_rule 92 = .ok (.aload_n 0, 1) := by decide +kernel
theorem dX12_rule_93 : decode cX12_rule 93 = .ok (.getfield 95, 3) := by decide +kernel
theorem dX12_rule_96 : decode cX12_rule 96 = .ok (.aload_n 0, 1) := by decide +kernel
theorem dX12_rule_97 : decode cX12_rule 97 = .ok (.getfield 348, 3) := by decide +kernel
theorem dX12_rule_100 : decode cX12_rule 100 = .ok (.iaload, 1) := by decide +kernel
theorem dX12_rule_101 : decode cX12_rule 101 = .ok (.invokevirtual 355, 3) := by decide +kernel
theorem dX12_rule_104 : decode cX12_rule 104 = .ok (.aload_n 0, 1) := by decide +kernel
theorem dX12_rule_105 : decode cX12_rule 105 = .ok (.iconst 0, 1) := by decide +kernel
theorem dX12_rule_106 : decode cX12_rule 106 = .ok (.putfield 133, 3) := by decide +kernel
theorem dX12_rule_109 : decode cX12_rule 109 = .ok (.aload_n 0, 1) := by decide +kernel
theorem dX12_rule_110 : decode cX12_rule 110 = .ok (.dup, 1) := by decide +kernel
theorem dX12_rule_111 : decode cX12_rule 111 = .ok (.getfield 348, 3) := by decide +kernel
theorem dX12_rule_114 : decode cX12_rule 114 = .ok (.iconst 1, 1) := by decide +kernel
theorem dX12_rule_115 : decode cX12_rule 115 = .ok (.iadd, 1) := by decide +kernel
theorem dX12_rule_116 : decode cX12_rule 116 = .ok (.putfield 348, 3) := by decide +kernel
theorem dX12_rule_119 : decode cX12_rule 119 = .ok (.aload_n 0, 1) := by decide +kernel
theorem dX12_rule_120 : decode cX12_rule 120 = .ok (.getfield 348, 3) := by decide +kernel
theorem dX12_rule_123 : decode cX12_rule 123 = .ok (.iconst 1, 1) := by decide +kernel
theorem dX12_rule_124 : decode cX12_rule 124 = .ok (.isub, 1) := by decide +kernel
theorem dX12_rule_125 : decode cX12_rule 125 = .ok (.ireturn, 1) := by decide +kernel
theorem dX12_free_0 : decode cX12_free 0 = .ok (.aload_n 0, 1) := by decide +kernel
theorem dX12_free_1 : decode cX12_free 1 = .ok (.getfield 348, 3) := by decide +kernel
theorem dX12_free_4 : decode cX12_free 4 = .ok (.istore_n 1, 1) := by decide +kernel
theorem dX12_free_5 : decode cX12_free 5 = .ok (.aload_n 0, 1) := by decide +kernel
theorem dX12_free_6 : decode cX12_free 6 = .ok (.iconst 0, 1) := by decide +kernel
theorem dX12_free_7 : decode cX12_free 7 = .ok (.putfield 348, 3) := by decide +kernel
theorem dX12_free_10 : decode cX12_free 10 = .ok (.iload_n 1, 1) := by decide +kernel
theorem dX12_free_11 : decode cX12_free 11 = .ok (.ireturn, 1) := by decide +kernel
theorem dX12_isRule_0 : decode cX12_isRule 0 = .ok (.iload_n 1, 1) := by decide +kernel
theorem dX12_isRule_1 : decode cX12_isRule 1 = .ok (.i2l, 1) := by decide +kernel
theorem dX12_isRule_2 : decode cX12_isRule 2 = .ok (.lconst 0, 1) := by decide +kernel
theorem dX12_isRule_3 : decode cX12_isRule 3 = .ok (.aload_n 0, 1) := by decide +kernel
theorem dX12_isRule_4 : decode cX12_isRule 4 = .ok (.getfield 348, 3) := by decide +kernel
theorem dX12_isRule_7 : decode cX12_isRule 7 = .ok (.iconst 1, 1) := by decide +kernel
theorem dX12_isRule_8 : decode cX12_isRule 8 = .ok (.isub, 1) := by decide +kernel
theorem dX12_isRule_9 : decode cX12_isRule 9 = .ok (.i2l, 1) := by decide +kernel
theorem dX12_isRule_10 : decode cX12_isRule 10 = .ok (.invokestatic 125, 3) := by decide +kernel
theorem dX12_isRule_13 : decode cX12_isRule 13 = .ok (.ireturn, 1) := by decide +kernel
theorem dX12_runPart_0 : decode cX12_runPart 0 = .ok (.iload_n 3, 1) := by decide +kernel
theorem dX12_runPart_1 : decode cX12_runPart 1 = .ok (.istore 4, 2) := by decide +kernel
theorem dX12_runPart_3 : decode cX12_runPart 3 = .ok (.iload_n 2, 1) := by decide +kernel
theorem dX12_runPart_4 : decode cX12_runPart 4 = .ok (.ifCond .ne 12, 3) := by decide +kernel
theorem dX12_runPart_7 : decode cX12_runPart 7 = .ok (.aload_n 0, 1) := by decide +kernel
theorem dX12_runPart_8 : decode cX12_runPart 8 = .ok (.getfield 92, 3) := by decide +kernel
theorem dX12_runPart_11 : decode cX12_runPart 11 = .ok (.iload_n 1, 1) := by decide +kernel
theorem dX12_runPart_12 : decode cX12_runPart 12 = .ok (.iaload, 1) := by decide +kernel
theorem dX12_runPart_13 : decode cX12_runPart 13 = .ok (.goto 9, 3) := by decide +kernel
theorem dX12_runPart_16 : decode cX12_runPart 16 = .ok (.aload_n 0, 1) := by decide +kernel
theorem dX12_runPart_17 : decode cX12_runPart 17 = .ok (.getfield 95, 3) := by decide +kernel
theorem dX12_runPart_20 : decode cX12_runPart 20 = .ok (.iload_n 1, 1) := by decide +kernel
theorem dX12_runPart_21 : decode cX12_runPart 21 = .ok (.iaload, 1) := by decide +kernel
theorem dX12_runPart_22 : decode cX12_runPart 22 = .ok (.istore 5, 2) := by decide +kernel
theorem dX12_runPart_24 : decode cX12_runPart 24 = .ok (.iconst 0, 1) := by decide +kernel
theorem dX12_runPart_25 : decode cX12_runPart 25 = .ok (.istore 6, 2) := by decide +kernel
theorem dX12_runPart_27 : decode cX12_runPart 27 = .ok (.iload 6, 2) := by decide +kernel
theorem dX12_runPart_29 : decode cX12_runPart 29 = .ok (.iload 5, 2) := by decide +kernel
theorem dX12_runPart_31 : decode cX12_runPart 31 = .ok (.if_icmp .ge 68, 3) := by decide +kernel
theorem dX12_runPart_34 : decode cX12_runPart 34 = .ok (.iload 4, 2) := by decide +kernel
theorem dX12_runPart_36 : decode cX12_runPart 36 = .ok (.aload_n 0, 1) := by decide +kernel
theorem dX12_runPart_37 : decode cX12_runPart 37 = .ok (.getfield 89, 3) := by decide +kernel
theorem dX12_runPart_40 : decode cX12_runPart 40 = .ok (.iload_n 1, 1) := by decide +kernel
theorem dX12_runPart_41 : decode cX12_runPart 41 = .ok (.iload_n 2, 1) := by decide +kernel
theorem dX12_runPart_42 : decode cX12_runPart 42 = .ok (.iload 6, 2) := by decide +kernel
theorem dX12_runPart_44 : decode cX12_runPart 44 = .ok (.iconst 0, 1) := by decide +kernel
theorem dX12_runPart_45 : decode cX12_runPart 45 = .ok (.invokestatic 351, 3) := by decide +kernel
theorem dX12_runPart_48 : decode cX12_runPart 48 = .ok (.iaload, 1) := by decide +kernel
theorem dX12_runPart_49 : decode cX12_runPart 49 = .ok (.aload_n 0, 1) := by decide +kernel
theorem dX12_runPart_50 : decode cX12_runPart 50 = .ok (.getfield 89, 3) := by decide +kernel
theorem dX12_runPart_53 : decode cX12_runPart 53 = .ok (.iload_n 1, 1) := by decide +kernel
theorem dX12_runPart_54 : decode cX12_runPart 54 = .ok (.iload_n 2, 1) := by decide +kernel
theorem dX12_runPart_55 : decode cX12_runPart 55 = .ok (.iload 6, 2) := by decide +kernel
theorem dX12_runPart_57 : decode cX12_runPart 57 = .ok (.iconst 1, 1) := by decide +kernel
theorem dX12_runPart_58 : decode cX12_runPart 58 = .ok (.invokestatic 351, 3) := by decide +kernel
theorem dX12_runPart_61 : decode cX12_runPart 61 = .ok (.iaload, 1) := by decide +kernel
theorem dX12_runPart_62 : decode cX12_runPart 62 = .ok (.aload_n 0, 1) := by decide +kernel
theorem dX12_runPart_63 : decode cX12_runPart 63 = .ok (.getfield 89, 3) := by decide +kernel
theorem dX12_runPart_66 : decode cX12_runPart 66 = .ok (.iload_n 1, 1) := by decide +kernel
theorem dX12_runPart_67 : decode cX12_runPart 67 = .ok (.iload_n 2, 1) := by decide +kernel
theorem dX12_runPart_68 : decode cX12_runPart 68 = .ok (.iload 6, 2) := by decide +kernel
theorem dX12_runPart_70 : decode cX12_runPart 70 = .ok (.iconst 2, 1) := by decide +kernel
theorem dX12_runPart_71 : decode cX12_runPart 71 = .ok (.invokestatic 351, 3) := by decide +kernel
theorem dX12_runPart_74 : decode cX12_runPart 74 = .ok (.iaload, 1) := by decide +kernel
theorem dX12_runPart_75 : decode cX12_runPart 75 = .ok (.aload_n 0, 1) := by decide +kernel
theorem dX12_runPart_76 : decode cX12_runPart 76 = .ok (.getfield 89, 3) := by decide +kernel
theorem dX12_runPart_79 : decode cX12_runPart 79 = .ok (.iload_n 1, 1) := by decide +kernel
theorem dX12_runPart_80 : decode cX12_runPart 80 = .ok (.iload_n 2, 1) := by decide +kernel
theorem dX12_runPart_81 : decode cX12_runPart 81 = .ok (.iload 6, 2) := by decide +kernel
theorem dX12_runPart_83 : decode cX12_runPart 83 = .ok (.iconst 3, 1) := by decide +kernel
theorem dX12_runPart_84 : decode cX12_runPart 84 = .ok (.invokestatic 351, 3) := by decide +kernel
theorem dX12_runPart_87 : decode cX12_runPart 87 = .ok (.iaload, 1) := by decide +kernel
theorem dX12_runPart_88 : decode cX12_runPart 88 = .ok (.invokestatic 199, 3) := by decide +kernel
theorem dX12_runPart_91 : decode cX12_runPart 91 = .ok (.istore 4, 2) := by decide +kernel
theorem dX12_runPart_93 : decode cX12_runPart 93 = .ok (.iinc 6 1, 3) := by decide +kernel
theorem dX12_runPart_96 : decode cX12_runPart 96 = .ok (.goto (-69), 3) := by decide +kernel
theorem dX12_runPart_99 : decode cX12_runPart 99 = .ok (.iload 4, 2) := by decide +kernel
theorem dX12_runPart_101 : decode cX12_runPart 101 = .ok (.ireturn, 1) := by decide +kernel
theorem dX12_holds_0 : decode cX12_holds 0 = .ok (.aload_n 0, 1) := by decide +kernel
theorem dX12_holds_1 : decode cX12_holds 1 = .ok (.iload_n 1, 1) := by decide +kernel
theorem dX12_holds_2 : decode cX12_holds 2 = .ok (.invokevirtual 359, 3) := by decide +kernel
theorem dX12_holds_5 : decode cX12_holds 5 = .ok (.ifCond .ne 5, 3) := by decide +kernel
theorem dX12_holds_8 : decode cX12_holds 8 = .ok (.iconst (-1), 1) := by decide +kernel
theorem dX12_holds_9 : decode cX12_holds 9 = .ok (.ireturn, 1) := by decide +kernel
theorem dX12_holds_10 : decode cX12_holds 10 = .ok (.iconst 0, 1) := by decide +kernel
theorem dX12_holds_11 : decode cX12_holds 11 = .ok (.istore_n 2, 1) := by decide +kernel
theorem dX12_holds_12 : decode cX12_holds 12 = .ok (.iload_n 2, 1) := by decide +kernel
theorem dX12_holds_13 : decode cX12_holds 13 = .ok (.sipush 4096, 3) := by decide +kernel
theorem dX12_holds_16 : decode cX12_holds 16 = .ok (.if_icmp .ge 28, 3) := by decide +kernel
theorem dX12_holds_19 : decode cX12_holds 19 = .ok (.aload_n 0, 1) := by decide +kernel
theorem dX12_holds_20 : decode cX12_holds 20 = .ok (.iload_n 1, 1) := by decide +kernel
theorem dX12_holds_21 : decode cX12_holds 21 = .ok (.iconst 0, 1) := by decide +kernel
theorem dX12_holds_22 : decode cX12_holds 22 = .ok (.iload_n 2, 1) := by decide +kernel
theorem dX12_holds_23 : decode cX12_holds 23 = .ok (.invokevirtual 362, 3) := by decide +kernel
theorem dX12_holds_26 : decode cX12_holds 26 = .ok (.aload_n 0, 1) := by decide +kernel
theorem dX12_holds_27 : decode cX12_holds 27 = .ok (.iload_n 1, 1) := by decide +kernel
theorem dX12_holds_28 : decode cX12_holds 28 = .ok (.iconst 1, 1) := by decide +kernel
theorem dX12_holds_29 : decode cX12_holds 29 = .ok (.iload_n 2, 1) := by decide +kernel
theorem dX12_holds_30 : decode cX12_holds 30 = .ok (.invokevirtual 362, 3) := by decide +kernel
theorem dX12_holds_33 : decode cX12_holds 33 = .ok (.if_icmp .eq 5, 3) := by decide +kernel
theorem dX12_holds_36 : decode cX12_holds 36 = .ok (.iconst 0, 1) := by decide +kernel
theorem dX12_holds_37 : decode cX12_holds 37 = .ok (.ireturn, 1) := by decide +kernel
theorem dX12_holds_38 : decode cX12_holds 38 = .ok (.iinc 2 1, 3) := by decide +kernel
theorem dX12_holds_41 : decode cX12_holds 41 = .ok (.goto (-29), 3) := by decide +kernel
theorem dX12_holds_44 : decode cX12_holds 44 = .ok (.iconst 1, 1) := by decide +kernel
theorem dX12_holds_45 : decode cX12_holds 45 = .ok (.ireturn, 1) := by decide +kernel
theorem dX12_isCalled_0 : decode cX12_isCalled 0 = .ok (.iconst 0, 1) := by decide +kernel
theorem dX12_isCalled_1 : decode cX12_isCalled 1 = .ok (.istore_n 2, 1) := by decide +kernel
theorem dX12_isCalled_2 : decode cX12_isCalled 2 = .ok (.iconst 0, 1) := by decide +kernel
theorem dX12_isCalled_3 : decode cX12_isCalled 3 = .ok (.istore_n 3, 1) := by decide +kernel
theorem dX12_isCalled_4 : decode cX12_isCalled 4 = .ok (.iload_n 3, 1) := by decide +kernel
theorem dX12_isCalled_5 : decode cX12_isCalled 5 = .ok (.iconst 4, 1) := by decide +kernel
theorem dX12_isCalled_6 : decode cX12_isCalled 6 = .ok (.if_icmp .ge 29, 3) := by decide +kernel
theorem dX12_isCalled_9 : decode cX12_isCalled 9 = .ok (.iload_n 2, 1) := by decide +kernel
theorem dX12_isCalled_10 : decode cX12_isCalled 10 = .ok (.ifCond .ne 13, 3) := by decide +kernel
theorem dX12_isCalled_13 : decode cX12_isCalled 13 = .ok (.aload_n 0, 1) := by decide +kernel
theorem dX12_isCalled_14 : decode cX12_isCalled 14 = .ok (.getfield 98, 3) := by decide +kernel
theorem dX12_isCalled_17 : decode cX12_isCalled 17 = .ok (.iload_n 3, 1) := by decide +kernel
theorem dX12_isCalled_18 : decode cX12_isCalled 18 = .ok (.iaload, 1) := by decide +kernel
theorem dX12_isCalled_19 : decode cX12_isCalled 19 = .ok (.iload_n 1, 1) := by decide +kernel
theorem dX12_isCalled_20 : decode cX12_isCalled 20 = .ok (.if_icmp .ne 7, 3) := by decide +kernel
theorem dX12_isCalled_23 : decode cX12_isCalled 23 = .ok (.iconst 1, 1) := by decide +kernel
theorem dX12_isCalled_24 : decode cX12_isCalled 24 = .ok (.goto 4, 3) := by decide +kernel
theorem dX12_isCalled_27 : decode cX12_isCalled 27 = .ok (.iconst 0, 1) := by decide +kernel
theorem dX12_isCalled_28 : decode cX12_isCalled 28 = .ok (.istore_n 2, 1) := by decide +kernel
theorem dX12_isCalled_29 : decode cX12_isCalled 29 = .ok (.iinc 3 1, 3) := by decide +kernel
theorem dX12_isCalled_32 : decode cX12_isCalled 32 = .ok (.goto (-28), 3) := by decide +kernel
theorem dX12_isCalled_35 : decode cX12_isCalled 35 = .ok (.iload_n 2, 1) := by decide +kernel
theorem dX12_isCalled_36 : decode cX12_isCalled 36 = .ok (.ireturn, 1) := by decide +kernel
theorem dX12_isNamed_0 : decode cX12_isNamed 0 = .ok (.iload_n 1, 1) := by decide +kernel
theorem dX12_isNamed_1 : decode cX12_isNamed 1 = .ok (.invokestatic 218, 3) := by decide +kernel
theorem dX12_isNamed_4 : decode cX12_isNamed 4 = .ok (.ifCond .eq 10, 3) := by decide +kernel
theorem dX12_isNamed_7 : decode cX12_isNamed 7 = .ok (.iload_n 2, 1) := by decide +kernel
theorem dX12_isNamed_8 : decode cX12_isNamed 8 = .ok (.invokestatic 218, 3) := by decide +kernel
theorem dX12_isNamed_11 : decode cX12_isNamed 11 = .ok (.ifCond .ne 14, 3) := by decide +kernel
theorem dX12_isNamed_14 : decode cX12_isNamed 14 = .ok (.iload_n 1, 1) := by decide +kernel
theorem dX12_isNamed_15 : decode cX12_isNamed 15 = .ok (.iload_n 2, 1) := by decide +kernel
theorem dX12_isNamed_16 : decode cX12_isNamed 16 = .ok (.if_icmp .ne 7, 3) := by decide +kernel
theorem dX12_isNamed_19 : decode cX12_isNamed 19 = .ok (.iconst 1, 1) := by decide +kernel
theorem dX12_isNamed_20 : decode cX12_isNamed 20 = .ok (.goto 4, 3) := by decide +kernel
theorem dX12_isNamed_23 : decode cX12_isNamed 23 = .ok (.iconst 0, 1) := by decide +kernel
theorem dX12_isNamed_24 : decode cX12_isNamed 24 = .ok (.ireturn, 1) := by decide +kernel
theorem dX12_isNamed_25 : decode cX12_isNamed 25 = .ok (.aload_n 0, 1) := by decide +kernel
theorem dX12_isNamed_26 : decode cX12_isNamed 26 = .ok (.getfield 98, 3) := by decide +kernel
theorem dX12_isNamed_29 : decode cX12_isNamed 29 = .ok (.iload_n 1, 1) := by decide +kernel
theorem dX12_isNamed_30 : decode cX12_isNamed 30 = .ok (.iaload, 1) := by decide +kernel
theorem dX12_isNamed_31 : decode cX12_isNamed 31 = .ok (.ifCond .ge 18, 3) := by decide +kernel
theorem dX12_isNamed_34 : decode cX12_isNamed 34 = .ok (.aload_n 0, 1) := by decide +kernel
theorem dX12_isNamed_35 : decode cX12_isNamed 35 = .ok (.iload_n 2, 1) := by decide +kernel
theorem dX12_isNamed_36 : decode cX12_isNamed 36 = .ok (.invokevirtual 365, 3) := by decide +kernel
theorem dX12_isNamed_39 : decode cX12_isNamed 39 = .ok (.ifCond .ne 10, 3) := by decide +kernel
theorem dX12_isNamed_42 : decode cX12_isNamed 42 = .ok (.aload_n 0, 1) := by decide +kernel
theorem dX12_isNamed_43 : decode cX12_isNamed 43 = .ok (.getfield 98, 3) := by decide +kernel
theorem dX12_isNamed_46 : decode cX12_isNamed 46 = .ok (.iload_n 1, 1) := by decide +kernel
theorem dX12_isNamed_47 : decode cX12_isNamed 47 = .ok (.iload_n 2, 1) := by decide +kernel
theorem dX12_isNamed_48 : decode cX12_isNamed 48 = .ok (.iastore, 1) := by decide +kernel
theorem dX12_isNamed_49 : decode cX12_isNamed 49 = .ok (.aload_n 0, 1) := by decide +kernel
theorem dX12_isNamed_50 : decode cX12_isNamed 50 = .ok (.getfield 98, 3) := by decide +kernel
theorem dX12_isNamed_53 : decode cX12_isNamed 53 = .ok (.iload_n 1, 1) := by decide +kernel
theorem dX12_isNamed_54 : decode cX12_isNamed 54 = .ok (.iaload, 1) := by decide +kernel
theorem dX12_isNamed_55 : decode cX12_isNamed 55 = .ok (.iload_n 2, 1) := by decide +kernel
theorem dX12_isNamed_56 : decode cX12_isNamed 56 = .ok (.if_icmp .ne 7, 3) := by decide +kernel
theorem dX12_isNamed_59 : decode cX12_isNamed 59 = .ok (.iconst 1, 1) := by decide +kernel
theorem dX12_isNamed_60 : decode cX12_isNamed 60 = .ok (.goto 4, 3) := by decide +kernel
theorem dX12_isNamed_63 : decode cX12_isNamed 63 = .ok (.iconst 0, 1) := by decide +kernel
theorem dX12_isNamed_64 : decode cX12_isNamed 64 = .ok (.ireturn, 1) := by decide +kernel
theorem dX12_isAt_0 : decode cX12_isAt 0 = .ok (.iconst 0, 1) := by decide +kernel
theorem dX12_isAt_1 : decode cX12_isAt 1 = .ok (.istore_n 3, 1) := by decide +kernel
theorem dX12_isAt_2 : decode cX12_isAt 2 = .ok (.iload_n 3, 1) := by decide +kernel
theorem dX12_isAt_3 : decode cX12_isAt 3 = .ok (.iconst 4, 1) := by decide +kernel
theorem dX12_isAt_4 : decode cX12_isAt 4 = .ok (.if_icmp .ge 17, 3) := by decide +kernel
theorem dX12_isAt_7 : decode cX12_isAt 7 = .ok (.aload_n 0, 1) := by decide +kernel
theorem dX12_isAt_8 : decode cX12_isAt 8 = .ok (.getfield 98, 3) := by decide +kernel
theorem dX12_isAt_11 : decode cX12_isAt 11 = .ok (.iload_n 3, 1) := by decide +kernel
theorem dX12_isAt_12 : decode cX12_isAt 12 = .ok (.bipush (-6), 2) := by decide +kernel
theorem dX12_isAt_14 : decode cX12_isAt 14 = .ok (.iastore, 1) := by decide +kernel
theorem dX12_isAt_15 : decode cX12_isAt 15 = .ok (.iinc 3 1, 3) := by decide +kernel
theorem dX12_isAt_18 : decode cX12_isAt 18 = .ok (.goto (-16), 3) := by decide +kernel
theorem dX12_isAt_21 : decode cX12_isAt 21 = .ok (.iload_n 2, 1) := by decide +kernel
theorem dX12_isAt_22 : decode cX12_isAt 22 = .ok (.aload_n 0, 1) := by decide +kernel
theorem dX12_isAt_23 : decode cX12_isAt 23 = .ok (.getfield 92, 3) := by decide +kernel
theorem dX12_isAt_26 : decode cX12_isAt 26 = .ok (.iload_n 1, 1) := by decide +kernel
theorem dX12_isAt_27 : decode cX12_isAt 27 = .ok (.iaload, 1) := by decide +kernel
theorem dX12_isAt_28 : decode cX12_isAt 28 = .ok (.iadd, 1) := by decide +kernel
theorem dX12_isAt_29 : decode cX12_isAt 29 = .ok (.aload_n 0, 1) := by decide +kernel
theorem dX12_isAt_30 : decode cX12_isAt 30 = .ok (.getfield 181, 3) := by decide +kernel
theorem dX12_isAt_33 : decode cX12_isAt 33 = .ok (.if_icmp .gt 7, 3) := by decide +kernel
theorem dX12_isAt_36 : decode cX12_isAt 36 = .ok (.iconst 1, 1) := by decide +kernel
theorem dX12_isAt_37 : decode cX12_isAt 37 = .ok (.goto 4, 3) := by decide +kernel
theorem dX12_isAt_40 : decode cX12_isAt 40 = .ok (.iconst 0, 1) := by decide +kernel
theorem dX12_isAt_41 : decode cX12_isAt 41 = .ok (.istore_n 3, 1) := by decide +kernel
theorem dX12_isAt_42 : decode cX12_isAt 42 = .ok (.iconst 0, 1) := by decide +kernel
theorem dX12_isAt_43 : decode cX12_isAt 43 = .ok (.istore 4, 2) := by decide +kernel
theorem dX12_isAt_45 : decode cX12_isAt 45 = .ok (.iload 4, 2) := by decide +kernel
theorem dX12_isAt_47 : decode cX12_isAt 47 = .ok (.aload_n 0, 1) := by decide +kernel
theorem dX12_isAt_48 : decode cX12_isAt 48 = .ok (.getfield 92, 3) := by decide +kernel
theorem dX12_isAt_51 : decode cX12_isAt 51 = .ok (.iload_n 1, 1) := by decide +kernel
theorem dX12_isAt_52 : decode cX12_isAt 52 = .ok (.iaload, 1) := by decide +kernel
theorem dX12_isAt_53 : decode cX12_isAt 53 = .ok (.if_icmp .ge 131, 3) := by decide +kernel
theorem dX12_isAt_56 : decode cX12_isAt 56 = .ok (.iload_n 3, 1) := by decide +kernel
theorem dX12_isAt_57 : decode cX12_isAt 57 = .ok (.ifCond .eq 127, 3) := by decide +kernel
theorem dX12_isAt_60 : decode cX12_isAt 60 = .ok (.aload_n 0, 1) := by decide +kernel
theorem dX12_isAt_61 : decode cX12_isAt 61 = .ok (.getfield 89, 3) := by decide +kernel
theorem dX12_isAt_64 : decode cX12_isAt 64 = .ok (.iload_n 1, 1) := by decide +kernel
theorem dX12_isAt_65 : decode cX12_isAt 65 = .ok (.iconst 0, 1) := by decide +kernel
theorem dX12_isAt_66 : decode cX12_isAt 66 = .ok (.iload 4, 2) := by decide +kernel
theorem dX12_isAt_68 : decode cX12_isAt 68 = .ok (.iconst 1, 1) := by decide +kernel
theorem dX12_isAt_69 : decode cX12_isAt 69 = .ok (.invokestatic 351, 3) := by decide +kernel
theorem dX12_isAt_72 : decode cX12_isAt 72 = .ok (.iaload, 1) := by decide +kernel
theorem dX12_isAt_73 : decode cX12_isAt 73 = .ok (.aload_n 0, 1) := by decide +kernel
theorem dX12_isAt_74 : decode cX12_isAt 74 = .ok (.getfield 16, 3) := by decide +kernel
theorem dX12_isAt_77 : decode cX12_isAt 77 = .ok (.iload_n 2, 1) := by decide +kernel
theorem dX12_isAt_78 : decode cX12_isAt 78 = .ok (.iload 4, 2) := by decide +kernel
theorem dX12_isAt_80 : decode cX12_isAt 80 = .ok (.iadd, 1) := by decide +kernel
theorem dX12_isAt_81 : decode cX12_isAt 81 = .ok (.iaload, 1) := by decide +kernel
theorem dX12_isAt_82 : decode cX12_isAt 82 = .ok (.if_icmp .ne 94, 3) := by decide +kernel
theorem dX12_isAt_85 : decode cX12_isAt 85 = .ok (.aload_n 0, 1) := by decide +kernel
theorem dX12_isAt_86 : decode cX12_isAt 86 = .ok (.aload_n 0, 1) := by decide +kernel
theorem dX12_isAt_87 : decode cX12_isAt 87 = .ok (.getfield 89, 3) := by decide +kernel
theorem dX12_isAt_90 : decode cX12_isAt 90 = .ok (.iload_n 1, 1) := by decide +kernel
theorem dX12_isAt_91 : decode cX12_isAt 91 = .ok (.iconst 0, 1) := by decide +kernel
theorem dX12_isAt_92 : decode cX12_isAt 92 = .ok (.iload 4, 2) := by decide +kernel
theorem dX12_isAt_94 : decode cX12_isAt 94 = .ok (.iconst 0, 1) := by decide +kernel
theorem dX12_isAt_95 : decode cX12_isAt 95 = .ok (.invokestatic 351, 3) := by decide +kernel
theorem dX12_isAt_98 : decode cX12_isAt 98 = .ok (.iaload, 1) := by decide +kernel
theorem dX12_isAt_99 : decode cX12_isAt 99 = .ok (.aload_n 0, 1) := by decide +kernel
theorem dX12_isAt_100 : decode cX12_isAt 100 = .ok (.getfield 13, 3) := by decide +kernel
theorem dX12_isAt_103 : decode cX12_isAt 103 = .ok (.iload_n 2, 1) := by decide +kernel
theorem dX12_isAt_104 : decode cX12_isAt 104 = .ok (.iload 4, 2) := by decide +kernel
theorem dX12_isAt_106 : decode cX12_isAt 106 = .ok (.iadd, 1) := by decide +kernel
theorem dX12_isAt_107 : decode cX12_isAt 107 = .ok (.iaload, 1) := by decide +kernel
theorem dX12_isAt_108 : decode cX12_isAt 108 = .ok (.invokevirtual 368, 3) := by decide +kernel
theorem dX12_isAt_111 : decode cX12_isAt 111 = .ok (.ifCond .eq 65, 3) := by decide +kernel
theorem dX12_isAt_114 : decode cX12_isAt 114 = .ok (.aload_n 0, 1) := by decide +kernel
theorem dX12_isAt_115 : decode cX12_isAt 115 = .ok (.aload_n 0, 1) := by decide +kernel
theorem dX12_isAt_116 : decode cX12_isAt 116 = .ok (.getfield 89, 3) := by decide +kernel
theorem dX12_isAt_119 : decode cX12_isAt 119 = .ok (.iload_n 1, 1) := by decide +kernel
theorem dX12_isAt_120 : decode cX12_isAt 120 = .ok (.iconst 0, 1) := by decide +kernel
theorem dX12_isAt_121 : decode cX12_isAt 121 = .ok (.iload 4, 2) := by decide +kernel
theorem dX12_isAt_123 : decode cX12_isAt 123 = .ok (.iconst 2, 1) := by decide +kernel
theorem dX12_isAt_124 : decode cX12_isAt 124 = .ok (.invokestatic 351, 3) := by decide +kernel
theorem dX12_isAt_127 : decode cX12_isAt 127 = .ok (.iaload, 1) := by decide +kernel
theorem dX12_isAt_128 : decode cX12_isAt 128 = .ok (.aload_n 0, 1) := by decide +kernel
theorem dX12_isAt_129 : decode cX12_isAt 129 = .ok (.getfield 19, 3) := by decide +kernel
theorem dX12_isAt_132 : decode cX12_isAt 132 = .ok (.iload_n 2, 1) := by decide +kernel
theorem dX12_isAt_133 : decode cX12_isAt 133 = .ok (.iload 4, 2) := by decide +kernel
theorem dX12_isAt_135 : decode cX12_isAt 135 = .ok (.iadd, 1) := by decide +kernel
theorem dX12_isAt_136 : decode cX12_isAt 136 = .ok (.iaload, 1) := by decide +kernel
theorem dX12_isAt_137 : decode cX12_isAt 137 = .ok (.invokevirtual 368, 3) := by decide +kernel
theorem dX12_isAt_140 : decode cX12_isAt 140 = .ok (.ifCond .eq 36, 3) := by decide +kernel
theorem dX12_isAt_143 : decode cX12_isAt 143 = .ok (.aload_n 0, 1) := by decide +kernel
theorem dX12_isAt_144 : decode cX12_isAt 144 = .ok (.aload_n 0, 1) := by decide +kernel
theorem dX12_isAt_145 : decode cX12_isAt 145 = .ok (.getfield 89, 3) := by decide +kernel
theorem dX12_isAt_148 : decode cX12_isAt 148 = .ok (.iload_n 1, 1) := by decide +kernel
theorem dX12_isAt_149 : decode cX12_isAt 149 = .ok (.iconst 0, 1) := by decide +kernel
theorem dX12_isAt_150 : decode cX12_isAt 150 = .ok (.iload 4, 2) := by decide +kernel
theorem dX12_isAt_152 : decode cX12_isAt 152 = .ok (.iconst 3, 1) := by decide +kernel
theorem dX12_isAt_153 : decode cX12_isAt 153 = .ok (.invokestatic 351, 3) := by decide +kernel
theorem dX12_isAt_156 : decode cX12_isAt 156 = .ok (.iaload, 1) := by decide +kernel
theorem dX12_isAt_157 : decode cX12_isAt 157 = .ok (.aload_n 0, 1) := by decide +kernel
theorem dX12_isAt_158 : decode cX12_isAt 158 = .ok (.getfield 22, 3) := by decide +kernel
theorem dX12_isAt_161 : decode cX12_isAt 161 = .ok (.iload_n 2, 1) := by decide +kernel
theorem dX12_isAt_162 : decode cX12_isAt 162 = .ok (.iload 4, 2) := by decide +kernel
theorem dX12_isAt_164 : decode cX12_isAt 164 = .ok (.iadd, 1) := by decide +kernel
theorem dX12_isAt_165 : decode cX12_isAt 165 = .ok (.iaload, 1) := by decide +kernel
theorem dX12_isAt_166 : decode cX12_isAt 166 = .ok (.invokevirtual 368, 3) := by decide +kernel
theorem dX12_isAt_169 : decode cX12_isAt 169 = .ok (.ifCond .eq 7, 3) := by decide +kernel
theorem dX12_isAt_172 : decode cX12_isAt 172 = .ok (.iconst 1, 1) := by decide +kernel
theorem dX12_isAt_173 : decode cX12_isAt 173 = .ok (.goto 4, 3) := by decide +kernel
theorem dX12_isAt_176 : decode cX12_isAt 176 = .ok (.iconst 0, 1) := by decide +kernel
theorem dX12_isAt_177 : decode cX12_isAt 177 = .ok (.istore_n 3, 1) := by decide +kernel
theorem dX12_isAt_178 : decode cX12_isAt 178 = .ok (.iinc 4 1, 3) := by decide +kernel
theorem dX12_isAt_181 : decode cX12_isAt 181 = .ok (.goto (-136), 3) := by decide +kernel
theorem dX12_isAt_184 : decode cX12_isAt 184 = .ok (.iload_n 3, 1) := by decide +kernel
theorem dX12_isAt_185 : decode cX12_isAt 185 = .ok (.ireturn, 1) := by decide +kernel
theorem dX12_placeOfRule_0 : decode cX12_placeOfRule 0 = .ok (.iconst 0, 1) := by decide +kernel
theorem dX12_placeOfRule_1 : decode cX12_placeOfRule 1 = .ok (.istore_n 2, 1) := by decide +kernel
theorem dX12_placeOfRule_2 : decode cX12_placeOfRule 2 = .ok (.iload_n 2, 1) := by decide +kernel
theorem dX12_placeOfRule_3 : decode cX12_placeOfRule 3 = .ok (.aload_n 0, 1) := by decide +kernel
theorem dX12_placeOfRule_4 : decode cX12_placeOfRule 4 = .ok (.getfield 181, 3) := by decide +kernel
theorem dX12_placeOfRule_7 : decode cX12_placeOfRule 7 = .ok (.if_icmp .ge 20, 3) := by decide +kernel
theorem dX12_placeOfRule_10 : decode cX12_placeOfRule 10 = .ok (.aload_n 0, 1) := by decide +kernel
theorem dX12_placeOfRule_11 : decode cX12_placeOfRule 11 = .ok (.iload_n 1, 1) := by decide +kernel
theorem dX12_placeOfRule_12 : decode cX12_placeOfRule 12 = .ok (.iload_n 2, 1) := by decide +kernel
theorem dX12_placeOfRule_13 : decode cX12_placeOfRule 13 = .ok (.invokevirtual 371, 3) := by decide +kernel
theorem dX12_placeOfRule_16 : decode cX12_placeOfRule 16 = .ok (.ifCond .eq 5, 3) := by decide +kernel
theorem dX12_placeOfRule_19 : decode cX12_placeOfRule 19 = .ok (.iload_n 2, 1) := by decide +kernel
theorem dX12_placeOfRule_20 : decode cX12_placeOfRule 20 = .ok (.ireturn, 1) := by decide +kernel
theorem dX12_placeOfRule_21 : decode cX12_placeOfRule 21 = .ok (.iinc 2 1, 3) := by decide +kernel
theorem dX12_placeOfRule_24 : decode cX12_placeOfRule 24 = .ok (.goto (-22), 3) := by decide +kernel
theorem dX12_placeOfRule_27 : decode cX12_placeOfRule 27 = .ok (.bipush (-6), 2) := by decide +kernel
theorem dX12_placeOfRule_29 : decode cX12_placeOfRule 29 = .ok (.ireturn, 1) := by decide +kernel
theorem dX12_fits_0 : decode cX12_fits 0 = .ok (.aload_n 0, 1) := by decide +kernel
theorem dX12_fits_1 : decode cX12_fits 1 = .ok (.iload_n 1, 1) := by decide +kernel
theorem dX12_fits_2 : decode cX12_fits 2 = .ok (.invokevirtual 359, 3) := by decide +kernel
theorem dX12_fits_5 : decode cX12_fits 5 = .ok (.ifCond .eq 11, 3) := by decide +kernel
theorem dX12_fits_8 : decode cX12_fits 8 = .ok (.aload_n 0, 1) := by decide +kernel
theorem dX12_fits_9 : decode cX12_fits 9 = .ok (.iload_n 1, 1) := by decide +kernel
theorem dX12_fits_10 : decode cX12_fits 10 = .ok (.invokevirtual 374, 3) := by decide +kernel
theorem dX12_fits_13 : decode cX12_fits 13 = .ok (.goto 4, 3) := by decide +kernel
theorem dX12_fits_16 : decode cX12_fits 16 = .ok (.iconst (-1), 1) := by decide +kernel
theorem dX12_fits_17 : decode cX12_fits 17 = .ok (.ireturn, 1) := by decide +kernel
theorem dX12_isInRight_0 : decode cX12_isInRight 0 = .ok (.iconst 0, 1) := by decide +kernel
theorem dX12_isInRight_1 : decode cX12_isInRight 1 = .ok (.istore_n 3, 1) := by decide +kernel
theorem dX12_isInRight_2 : decode cX12_isInRight 2 = .ok (.iconst 0, 1) := by decide +kernel
theorem dX12_isInRight_3 : decode cX12_isInRight 3 = .ok (.istore 4, 2) := by decide +kernel
theorem dX12_isInRight_5 : decode cX12_isInRight 5 = .ok (.iload 4, 2) := by decide +kernel
theorem dX12_isInRight_7 : decode cX12_isInRight 7 = .ok (.aload_n 0, 1) := by decide +kernel
theorem dX12_isInRight_8 : decode cX12_isInRight 8 = .ok (.getfield 95, 3) := by decide +kernel
theorem dX12_isInRight_11 : decode cX12_isInRight 11 = .ok (.iload_n 1, 1) := by decide +kernel
theorem dX12_isInRight_12 : decode cX12_isInRight 12 = .ok (.iaload, 1) := by decide +kernel
theorem dX12_isInRight_13 : decode cX12_isInRight 13 = .ok (.if_icmp .ge 70, 3) := by decide +kernel
theorem dX12_isInRight_16 : decode cX12_isInRight 16 = .ok (.iload_n 3, 1) := by decide +kernel
theorem dX12_isInRight_17 : decode cX12_isInRight 17 = .ok (.ifCond .ne 54, 3) := by decide +kernel
theorem dX12_isInRight_20 : decode cX12_isInRight 20 = .ok (.aload_n 0, 1) := by decide +kernel
theorem dX12_isInRight_21 : decode cX12_isInRight 21 = .ok (.getfield 89, 3) := by decide +kernel
theorem dX12_isInRight_24 : decode cX12_isInRight 24 = .ok (.iload_n 1, 1) := by decide +kernel
theorem dX12_isInRight_25 : decode cX12_isInRight 25 = .ok (.iconst 1, 1) := by decide +kernel
theorem dX12_isInRight_26 : decode cX12_isInRight 26 = .ok (.iload 4, 2) := by decide +kernel
theorem dX12_isInRight_28 : decode cX12_isInRight 28 = .ok (.iconst 0, 1) := by decide +kernel
theorem dX12_isInRight_29 : decode cX12_isInRight 29 = .ok (.invokestatic 351, 3) := by decide +kernel
theorem dX12_isInRight_32 : decode cX12_isInRight 32 = .ok (.iaload, 1) := by decide +kernel
theorem dX12_isInRight_33 : decode cX12_isInRight 33 = .ok (.iload_n 2, 1) := by decide +kernel
theorem dX12_isInRight_34 : decode cX12_isInRight 34 = .ok (.if_icmp .eq 37, 3) := by decide +kernel
theorem dX12_isInRight_37 : decode cX12_isInRight 37 = .ok (.aload_n 0, 1) := by decide +kernel
theorem dX12_isInRight_38 : decode cX12_isInRight 38 = .ok (.getfield 89, 3) := by decide +kernel
theorem dX12_isInRight_41 : decode cX12_isInRight 41 = .ok (.iload_n 1, 1) := by decide +kernel
theorem dX12_isInRight_42 : decode cX12_isInRight 42 = .ok (.iconst 1, 1) := by decide +kernel
theorem dX12_isInRight_43 : decode cX12_isInRight 43 = .ok (.iload 4, 2) := by decide +kernel
theorem dX12_isInRight_45 : decode cX12_isInRight 45 = .ok (.iconst 2, 1) := by decide +kernel
theorem dX12_isInRight_46 : decode cX12_isInRight 46 = .ok (.invokestatic 351, 3) := by decide +kernel
theorem dX12_isInRight_49 : decode cX12_isInRight 49 = .ok (.iaload, 1) := by decide +kernel
theorem dX12_isInRight_50 : decode cX12_isInRight 50 = .ok (.iload_n 2, 1) := by decide +kernel
theorem dX12_isInRight_51 : decode cX12_isInRight 51 = .ok (.if_icmp .eq 20, 3) := by decide +kernel
theorem dX12_isInRight_54 : decode cX12_isInRight 54 = .ok (.aload_n 0, 1) := by decide +kernel
theorem dX12_isInRight_55 : decode cX12_isInRight 55 = .ok (.getfield 89, 3) := by decide +kernel
theorem dX12_isInRight_58 : decode cX12_isInRight 58 = .ok (.iload_n 1, 1) := by decide +kernel
theorem dX12_isInRight_59 : decode cX12_isInRight 59 = .ok (.iconst 1, 1) := by decide +kernel
theorem dX12_isInRight_60 : decode cX12_isInRight 60 = .ok (.iload 4, 2) := by decide +kernel
theorem dX12_isInRight_62 : decode cX12_isInRight 62 = .ok (.iconst 3, 1) := by decide +kernel
theorem dX12_isInRight_63 : decode cX12_isInRight 63 = .ok (.invokestatic 351, 3) := by decide +kernel
theorem dX12_isInRight_66 : decode cX12_isInRight 66 = .ok (.iaload, 1) := by decide +kernel
theorem dX12_isInRight_67 : decode cX12_isInRight 67 = .ok (.iload_n 2, 1) := by decide +kernel
theorem dX12_isInRight_68 : decode cX12_isInRight 68 = .ok (.if_icmp .ne 7, 3) := by decide +kernel
theorem dX12_isInRight_71 : decode cX12_isInRight 71 = .ok (.iconst 1, 1) := by decide +kernel
theorem dX12_isInRight_72 : decode cX12_isInRight 72 = .ok (.goto 4, 3) := by decide +kernel
theorem dX12_isInRight_75 : decode cX12_isInRight 75 = .ok (.iconst 0, 1) := by decide +kernel
theorem dX12_isInRight_76 : decode cX12_isInRight 76 = .ok (.istore_n 3, 1) := by decide +kernel
theorem dX12_isInRight_77 : decode cX12_isInRight 77 = .ok (.iinc 4 1, 3) := by decide +kernel
theorem dX12_isInRight_80 : decode cX12_isInRight 80 = .ok (.goto (-75), 3) := by decide +kernel
theorem dX12_isInRight_83 : decode cX12_isInRight 83 = .ok (.iload_n 3, 1) := by decide +kernel
theorem dX12_isInRight_84 : decode cX12_isInRight 84 = .ok (.ireturn, 1) := by decide +kernel
theorem dX12_calledAs_0 : decode cX12_calledAs 0 = .ok (.iload_n 1, 1) := by decide +kernel
theorem dX12_calledAs_1 : decode cX12_calledAs 1 = .ok (.invokestatic 218, 3) := by decide +kernel
theorem dX12_calledAs_4 : decode cX12_calledAs 4 = .ok (.ifCond .eq 12, 3) := by decide +kernel
theorem dX12_calledAs_7 : decode cX12_calledAs 7 = .ok (.aload_n 0, 1) := by decide +kernel
theorem dX12_calledAs_8 : decode cX12_calledAs 8 = .ok (.getfield 98, 3) := by decide +kernel
theorem dX12_calledAs_11 : decode cX12_calledAs 11 = .ok (.iload_n 1, 1) := by decide +kernel
theorem dX12_calledAs_12 : decode cX12_calledAs 12 = .ok (.iaload, 1) := by decide +kernel
theorem dX12_calledAs_13 : decode cX12_calledAs 13 = .ok (.goto 4, 3) := by decide +kernel
theorem dX12_calledAs_16 : decode cX12_calledAs 16 = .ok (.iload_n 1, 1) := by decide +kernel
theorem dX12_calledAs_17 : decode cX12_calledAs 17 = .ok (.ireturn, 1) := by decide +kernel
theorem dX12_move_0 : decode cX12_move 0 = .ok (.aload_n 0, 1) := by decide +kernel
theorem dX12_move_1 : decode cX12_move 1 = .ok (.getfield 13, 3) := by decide +kernel
theorem dX12_move_4 : decode cX12_move 4 = .ok (.iload_n 2, 1) := by decide +kernel
theorem dX12_move_5 : decode cX12_move 5 = .ok (.aload_n 0, 1) := by decide +kernel
theorem dX12_move_6 : decode cX12_move 6 = .ok (.getfield 13, 3) := by decide +kernel
theorem dX12_move_9 : decode cX12_move 9 = .ok (.iload_n 1, 1) := by decide +kernel
theorem dX12_move_10 : decode cX12_move 10 = .ok (.iaload, 1) := by decide +kernel
theorem dX12_move_11 : decode cX12_move 11 = .ok (.iastore, 1) := by decide +kernel
theorem dX12_move_12 : decode cX12_move 12 = .ok (.aload_n 0, 1) := by decide +kernel
theorem dX12_move_13 : decode cX12_move 13 = .ok (.getfield 16, 3) := by decide +kernel
theorem dX12_move_16 : decode cX12_move 16 = .ok (.iload_n 2, 1) := by decide +kernel
theorem dX12_move_17 : decode cX12_move 17 = .ok (.aload_n 0, 1) := by decide +kernel
theorem dX12_move_18 : decode cX12_move 18 = .ok (.getfield 16, 3) := by decide +kernel
theorem dX12_move_21 : decode cX12_move 21 = .ok (.iload_n 1, 1) := by decide +kernel
theorem dX12_move_22 : decode cX12_move 22 = .ok (.iaload, 1) := by decide +kernel
theorem dX12_move_23 : decode cX12_move 23 = .ok (.iastore, 1) := by decide +kernel
theorem dX12_move_24 : decode cX12_move 24 = .ok (.aload_n 0, 1) := by decide +kernel
theorem dX12_move_25 : decode cX12_move 25 = .ok (.getfield 19, 3) := by decide +kernel
theorem dX12_move_28 : decode cX12_move 28 = .ok (.iload_n 2, 1) := by decide +kernel
theorem dX12_move_29 : decode cX12_move 29 = .ok (.aload_n 0, 1) := by decide +kernel
theorem dX12_move_30 : decode cX12_move 30 = .ok (.getfield 19, 3) := by decide +kernel
theorem dX12_move_33 : decode cX12_move 33 = .ok (.iload_n 1, 1) := by decide +kernel
theorem dX12_move_34 : decode cX12_move 34 = .ok (.iaload, 1) := by decide +kernel
theorem dX12_move_35 : decode cX12_move 35 = .ok (.iastore, 1) := by decide +kernel
theorem dX12_move_36 : decode cX12_move 36 = .ok (.aload_n 0, 1) := by decide +kernel
theorem dX12_move_37 : decode cX12_move 37 = .ok (.getfield 22, 3) := by decide +kernel
theorem dX12_move_40 : decode cX12_move 40 = .ok (.iload_n 2, 1) := by decide +kernel
theorem dX12_move_41 : decode cX12_move 41 = .ok (.aload_n 0, 1) := by decide +kernel
theorem dX12_move_42 : decode cX12_move 42 = .ok (.getfield 22, 3) := by decide +kernel
theorem dX12_move_45 : decode cX12_move 45 = .ok (.iload_n 1, 1) := by decide +kernel
theorem dX12_move_46 : decode cX12_move 46 = .ok (.iaload, 1) := by decide +kernel
theorem dX12_move_47 : decode cX12_move 47 = .ok (.iastore, 1) := by decide +kernel
theorem dX12_move_48 : decode cX12_move 48 = .ok (.return_, 1) := by decide +kernel
theorem dX12_put_0 : decode cX12_put 0 = .ok (.iconst 0, 1) := by decide +kernel
theorem dX12_put_1 : decode cX12_put 1 = .ok (.istore_n 3, 1) := by decide +kernel
theorem dX12_put_2 : decode cX12_put 2 = .ok (.iload_n 3, 1) := by decide +kernel
theorem dX12_put_3 : decode cX12_put 3 = .ok (.iconst 4, 1) := by decide +kernel
theorem dX12_put_4 : decode cX12_put 4 = .ok (.if_icmp .ge 53, 3) := by decide +kernel
theorem dX12_put_7 : decode cX12_put 7 = .ok (.aload_n 0, 1) := by decide +kernel
theorem dX12_put_8 : decode cX12_put 8 = .ok (.getfield 98, 3) := by decide +kernel
theorem dX12_put_11 : decode cX12_put 11 = .ok (.iload_n 3, 1) := by decide +kernel
theorem dX12_put_12 : decode cX12_put 12 = .ok (.iaload, 1) := by decide +kernel
theorem dX12_put_13 : decode cX12_put 13 = .ok (.ifCond .ge 38, 3) := by decide +kernel
theorem dX12_put_16 : decode cX12_put 16 = .ok (.aload_n 0, 1) := by decide +kernel
theorem dX12_put_17 : decode cX12_put 17 = .ok (.iload_n 1, 1) := by decide +kernel
theorem dX12_put_18 : decode cX12_put 18 = .ok (.iload_n 3, 1) := by decide +kernel
theorem dX12_put_19 : decode cX12_put 19 = .ok (.invokevirtual 377, 3) := by decide +kernel
theorem dX12_put_22 : decode cX12_put 22 = .ok (.ifCond .eq 29, 3) := by decide +kernel
theorem dX12_put_25 : decode cX12_put 25 = .ok (.iconst 0, 1) := by decide +kernel
theorem dX12_put_26 : decode cX12_put 26 = .ok (.istore 4, 2) := by decide +kernel
theorem dX12_put_28 : decode cX12_put 28 = .ok (.aload_n 0, 1) := by decide +kernel
theorem dX12_put_29 : decode cX12_put 29 = .ok (.iload 4, 2) := by decide +kernel
theorem dX12_put_31 : decode cX12_put 31 = .ok (.invokevirtual 365, 3) := by decide +kernel
theorem dX12_put_34 : decode cX12_put 34 = .ok (.ifCond .eq 9, 3) := by decide +kernel
theorem dX12_put_37 : decode cX12_put 37 = .ok (.iinc 4 1, 3) := by decide +kernel
theorem dX12_put_40 : decode cX12_put 40 = .ok (.goto (-12), 3) := by decide +kernel
theorem dX12_put_43 : decode cX12_put 43 = .ok (.aload_n 0, 1) := by decide +kernel
theorem dX12_put_44 : decode cX12_put 44 = .ok (.getfield 98, 3) := by decide +kernel
theorem dX12_put_47 : decode cX12_put 47 = .ok (.iload_n 3, 1) := by decide +kernel
theorem dX12_put_48 : decode cX12_put 48 = .ok (.iload 4, 2) := by decide +kernel
theorem dX12_put_50 : decode cX12_put 50 = .ok (.iastore, 1) := by decide +kernel
theorem dX12_put_51 : decode cX12_put 51 = .ok (.iinc 3 1, 3) := by decide +kernel
theorem dX12_put_54 : decode cX12_put 54 = .ok (.goto (-52), 3) := by decide +kernel
theorem dX12_put_57 : decode cX12_put 57 = .ok (.aload_n 0, 1) := by decide +kernel
theorem dX12_put_58 : decode cX12_put 58 = .ok (.getfield 92, 3) := by decide +kernel
theorem dX12_put_61 : decode cX12_put 61 = .ok (.iload_n 1, 1) := by decide +kernel
theorem dX12_put_62 : decode cX12_put 62 = .ok (.iaload, 1) := by decide +kernel
theorem dX12_put_63 : decode cX12_put 63 = .ok (.istore_n 3, 1) := by decide +kernel
theorem dX12_put_64 : decode cX12_put 64 = .ok (.aload_n 0, 1) := by decide +kernel
theorem dX12_put_65 : decode cX12_put 65 = .ok (.getfield 95, 3) := by decide +kernel
theorem dX12_put_68 : decode cX12_put 68 = .ok (.iload_n 1, 1) := by decide +kernel
theorem dX12_put_69 : decode cX12_put 69 = .ok (.iaload, 1) := by decide +kernel
theorem dX12_put_70 : decode cX12_put 70 = .ok (.istore 4, 2) := by decide +kernel
theorem dX12_put_72 : decode cX12_put 72 = .ok (.iload 4, 2) := by decide +kernel
theorem dX12_put_74 : decode cX12_put 74 = .ok (.iload_n 3, 1) := by decide +kernel
theorem dX12_put_75 : decode cX12_put 75 = .ok (.if_icmp .ge 39, 3) := by decide +kernel
theorem dX12_put_78 : decode cX12_put 78 = .ok (.iload_n 2, 1) := by decide +kernel
theorem dX12_put_79 : decode cX12_put 79 = .ok (.iload_n 3, 1) := by decide +kernel
theorem dX12_put_80 : decode cX12_put 80 = .ok (.iadd, 1) := by decide +kernel
theorem dX12_put_81 : decode cX12_put 81 = .ok (.istore 5, 2) := by decide +kernel
theorem dX12_put_83 : decode cX12_put 83 = .ok (.iload 5, 2) := by decide +kernel
theorem dX12_put_85 : decode cX12_put 85 = .ok (.aload_n 0, 1) := by decide +kernel
theorem dX12_put_86 : decode cX12_put 86 = .ok (.getfield 181, 3) := by decide +kernel
theorem dX12_put_89 : decode cX12_put 89 = .ok (.if_icmp .ge 22, 3) := by decide +kernel
theorem dX12_put_92 : decode cX12_put 92 = .ok (.aload_n 0, 1) := by decide +kernel
theorem dX12_put_93 : decode cX12_put 93 = .ok (.iload 5, 2) := by decide +kernel
theorem dX12_put_95 : decode cX12_put 95 = .ok (.iload 5, 2) := by decide +kernel
theorem dX12_put_97 : decode cX12_put 97 = .ok (.iload 4, 2) := by decide +kernel
theorem dX12_put_99 : decode cX12_put 99 = .ok (.iadd, 1) := by decide +kernel
theorem dX12_put_100 : decode cX12_put 100 = .ok (.iload_n 3, 1) := by decide +kernel
theorem dX12_put_101 : decode cX12_put 101 = .ok (.isub, 1) := by decide +kernel
theorem dX12_put_102 : decode cX12_put 102 = .ok (.invokevirtual 380, 3) := by decide +kernel
theorem dX12_put_105 : decode cX12_put 105 = .ok (.iinc 5 1, 3) := by decide +kernel
theorem dX12_put_108 : decode cX12_put 108 = .ok (.goto (-25), 3) := by decide +kernel
theorem dX12_put_111 : decode cX12_put 111 = .ok (.goto 38, 3) := by decide +kernel
theorem dX12_put_114 : decode cX12_put 114 = .ok (.aload_n 0, 1) := by decide +kernel
theorem dX12_put_115 : decode cX12_put 115 = .ok (.getfield 181, 3) := by decide +kernel
theorem dX12_put_118 : decode cX12_put 118 = .ok (.iconst 1, 1) := by decide +kernel
theorem dX12_put_119 : decode cX12_put 119 = .ok (.isub, 1) := by decide +kernel
theorem dX12_put_120 : decode cX12_put 120 = .ok (.istore 5, 2) := by decide +kernel
theorem dX12_put_122 : decode cX12_put 122 = .ok (.iload 5, 2) := by decide +kernel
theorem dX12_put_124 : decode cX12_put 124 = .ok (.iload_n 2, 1) := by decide +kernel
theorem dX12_put_125 : decode cX12_put 125 = .ok (.iload_n 3, 1) := by decide +kernel
theorem dX12_put_126 : decode cX12_put 126 = .ok (.iadd, 1) := by decide +kernel
theorem dX12_put_127 : decode cX12_put 127 = .ok (.if_icmp .lt 22, 3) := by decide +kernel
theorem dX12_put_130 : decode cX12_put 130 = .ok (.aload_n 0, 1) := by decide +kernel
theorem dX12_put_131 : decode cX12_put 131 = .ok (.iload 5, 2) := by decide +kernel
theorem dX12_put_133 : decode cX12_put 133 = .ok (.iload 5, 2) := by decide +kernel
theorem dX12_put_135 : decode cX12_put 135 = .ok (.iload 4, 2) := by decide +kernel
theorem dX12_put_137 : decode cX12_put 137 = .ok (.iadd, 1) := by decide +kernel
theorem dX12_put_138 : decode cX12_put 138 = .ok (.iload_n 3, 1) := by decide +kernel
theorem dX12_put_139 : decode cX12_put 139 = .ok (.isub, 1) := by decide +kernel
theorem dX12_put_140 : decode cX12_put 140 = .ok (.invokevirtual 380, 3) := by decide +kernel
theorem dX12_put_143 : decode cX12_put 143 = .ok (.iinc 5 (-1), 3) := by decide +kernel
theorem dX12_put_146 : decode cX12_put 146 = .ok (.goto (-24), 3) := by decide +kernel
theorem dX12_put_149 : decode cX12_put 149 = .ok (.aload_n 0, 1) := by decide +kernel
theorem dX12_put_150 : decode cX12_put 150 = .ok (.dup, 1) := by decide +kernel
theorem dX12_put_151 : decode cX12_put 151 = .ok (.getfield 181, 3) := by decide +kernel
theorem dX12_put_154 : decode cX12_put 154 = .ok (.iload 4, 2) := by decide +kernel
theorem dX12_put_156 : decode cX12_put 156 = .ok (.iload_n 3, 1) := by decide +kernel
theorem dX12_put_157 : decode cX12_put 157 = .ok (.isub, 1) := by decide +kernel
theorem dX12_put_158 : decode cX12_put 158 = .ok (.iadd, 1) := by decide +kernel
theorem dX12_put_159 : decode cX12_put 159 = .ok (.putfield 181, 3) := by decide +kernel
theorem dX12_put_162 : decode cX12_put 162 = .ok (.iconst 0, 1) := by decide +kernel
theorem dX12_put_163 : decode cX12_put 163 = .ok (.istore 5, 2) := by decide +kernel
theorem dX12_put_165 : decode cX12_put 165 = .ok (.iload 5, 2) := by decide +kernel
theorem dX12_put_167 : decode cX12_put 167 = .ok (.iload 4, 2) := by decide +kernel
theorem dX12_put_169 : decode cX12_put 169 = .ok (.if_icmp .ge 109, 3) := by decide +kernel
theorem dX12_put_172 : decode cX12_put 172 = .ok (.aload_n 0, 1) := by decide +kernel
theorem dX12_put_173 : decode cX12_put 173 = .ok (.getfield 13, 3) := by decide +kernel
theorem dX12_put_176 : decode cX12_put 176 = .ok (.iload_n 2, 1) := by decide +kernel
theorem dX12_put_177 : decode cX12_put 177 = .ok (.iload 5, 2) := by decide +kernel
theorem dX12_put_179 : decode cX12_put 179 = .ok (.iadd, 1) := by decide +kernel
theorem dX12_put_180 : decode cX12_put 180 = .ok (.aload_n 0, 1) := by decide +kernel
theorem dX12_put_181 : decode cX12_put 181 = .ok (.aload_n 0, 1) := by decide +kernel
theorem dX12_put_182 : decode cX12_put 182 = .ok (.getfield 89, 3) := by decide +kernel
theorem dX12_put_185 : decode cX12_put 185 = .ok (.iload_n 1, 1) := by decide +kernel
theorem dX12_put_186 : decode cX12_put 186 = .ok (.iconst 1, 1) := by decide +kernel
theorem dX12_put_187 : decode cX12_put 187 = .ok (.iload 5, 2) := by decide +kernel
theorem dX12_put_189 : decode cX12_put 189 = .ok (.iconst 0, 1) := by decide +kernel
theorem dX12_put_190 : decode cX12_put 190 = .ok (.invokestatic 351, 3) := by decide +kernel
theorem dX12_put_193 : decode cX12_put 193 = .ok (.iaload, 1) := by decide +kernel
theorem dX12_put_194 : decode cX12_put 194 = .ok (.invokevirtual 383, 3) := by decide +kernel
theorem dX12_put_197 : decode cX12_put 197 = .ok (.iastore, 1) := by decide +kernel
theorem dX12_put_198 : decode cX12_put 198 = .ok (.aload_n 0, 1) := by decide +kernel
theorem dX12_put_199 : decode cX12_put 199 = .ok (.getfield 16, 3) := by decide +kernel
theorem dX12_put_202 : decode cX12_put 202 = .ok (.iload_n 2, 1) := by decide +kernel
theorem dX12_put_203 : decode cX12_put 203 = .ok (.iload 5, 2) := by decide +kernel
theorem dX12_put_205 : decode cX12_put 205 = .ok (.iadd, 1) := by decide +kernel
theorem dX12_put_206 : decode cX12_put 206 = .ok (.aload_n 0, 1) := by decide +kernel
theorem dX12_put_207 : decode cX12_put 207 = .ok (.getfield 89, 3) := by decide +kernel
theorem dX12_put_210 : decode cX12_put 210 = .ok (.iload_n 1, 1) := by decide +kernel
theorem dX12_put_211 : decode cX12_put 211 = .ok (.iconst 1, 1) := by decide +kernel
theorem dX12_put_212 : decode cX12_put 212 = .ok (.iload 5, 2) := by decide +kernel
theorem dX12_put_214 : decode cX12_put 214 = .ok (.iconst 1, 1) := by decide +kernel
theorem dX12_put_215 : decode cX12_put 215 = .ok (.invokestatic 351, 3) := by decide +kernel
theorem dX12_put_218 : decode cX12_put 218 = .ok (.iaload, 1) := by decide +kernel
theorem dX12_put_219 : decode cX12_put 219 = .ok (.iastore, 1) := by decide +kernel
theorem dX12_put_220 : decode cX12_put 220 = .ok (.aload_n 0, 1) := by decide +kernel
theorem dX12_put_221 : decode cX12_put 221 = .ok (.getfield 19, 3) := by decide +kernel
theorem dX12_put_224 : decode cX12_put 224 = .ok (.iload_n 2, 1) := by decide +kernel
theorem dX12_put_225 : decode cX12_put 225 = .ok (.iload 5, 2) := by decide +kernel
theorem dX12_put_227 : decode cX12_put 227 = .ok (.iadd, 1) := by decide +kernel
theorem dX12_put_228 : decode cX12_put 228 = .ok (.aload_n 0, 1) := by decide +kernel
theorem dX12_put_229 : decode cX12_put 229 = .ok (.aload_n 0, 1) := by decide +kernel
theorem dX12_put_230 : decode cX12_put 230 = .ok (.getfield 89, 3) := by decide +kernel
theorem dX12_put_233 : decode cX12_put 233 = .ok (.iload_n 1, 1) := by decide +kernel
theorem dX12_put_234 : decode cX12_put 234 = .ok (.iconst 1, 1) := by decide +kernel
theorem dX12_put_235 : decode cX12_put 235 = .ok (.iload 5, 2) := by decide +kernel
theorem dX12_put_237 : decode cX12_put 237 = .ok (.iconst 2, 1) := by decide +kernel
theorem dX12_put_238 : decode cX12_put 238 = .ok (.invokestatic 351, 3) := by decide +kernel
theorem dX12_put_241 : decode cX12_put 241 = .ok (.iaload, 1) := by decide +kernel
theorem dX12_put_242 : decode cX12_put 242 = .ok (.invokevirtual 383, 3) := by decide +kernel
theorem dX12_put_245 : decode cX12_put 245 = .ok (.iastore, 1) := by decide +kernel
theorem dX12_put_246 : decode cX12_put 246 = .ok (.aload_n 0, 1) := by decide +kernel
theorem dX12_put_247 : decode cX12_put 247 = .ok (.getfield 22, 3) := by decide +kernel
theorem dX12_put_250 : decode cX12_put 250 = .ok (.iload_n 2, 1) := by decide +kernel
theorem dX12_put_251 : decode cX12_put 251 = .ok (.iload 5, 2) := by decide +kernel
theorem dX12_put_253 : decode cX12_put 253 = .ok (.iadd, 1) := by decide +kernel
theorem dX12_put_254 : decode cX12_put 254 = .ok (.aload_n 0, 1) := by decide +kernel
theorem dX12_put_255 : decode cX12_put 255 = .ok (.aload_n 0, 1) := by decide +kernel
theorem dX12_put_256 : decode cX12_put 256 = .ok (.getfield 89, 3) := by decide +kernel
theorem dX12_put_259 : decode cX12_put 259 = .ok (.iload_n 1, 1) := by decide +kernel
theorem dX12_put_260 : decode cX12_put 260 = .ok (.iconst 1, 1) := by decide +kernel
theorem dX12_put_261 : decode cX12_put 261 = .ok (.iload 5, 2) := by decide +kernel
theorem dX12_put_263 : decode cX12_put 263 = .ok (.iconst 3, 1) := by decide +kernel
theorem dX12_put_264 : decode cX12_put 264 = .ok (.invokestatic 351, 3) := by decide +kernel
theorem dX12_put_267 : decode cX12_put 267 = .ok (.iaload, 1) := by decide +kernel
theorem dX12_put_268 : decode cX12_put 268 = .ok (.invokevirtual 383, 3) := by decide +kernel
theorem dX12_put_271 : decode cX12_put 271 = .ok (.iastore, 1) := by decide +kernel
theorem dX12_put_272 : decode cX12_put 272 = .ok (.iinc 5 1, 3) := by decide +kernel
theorem dX12_put_275 : decode cX12_put 275 = .ok (.goto (-110), 3) := by decide +kernel
theorem dX12_put_278 : decode cX12_put 278 = .ok (.return_, 1) := by decide +kernel
theorem dX12_hasRoom_0 : decode cX12_hasRoom 0 = .ok (.aload_n 0, 1) := by decide +kernel
theorem dX12_hasRoom_1 : decode cX12_hasRoom 1 = .ok (.getfield 181, 3) := by decide +kernel
theorem dX12_hasRoom_4 : decode cX12_hasRoom 4 = .ok (.aload_n 0, 1) := by decide +kernel
theorem dX12_hasRoom_5 : decode cX12_hasRoom 5 = .ok (.getfield 95, 3) := by decide +kernel
theorem dX12_hasRoom_8 : decode cX12_hasRoom 8 = .ok (.iload_n 1, 1) := by decide +kernel
theorem dX12_hasRoom_9 : decode cX12_hasRoom 9 = .ok (.iaload, 1) := by decide +kernel
theorem dX12_hasRoom_10 : decode cX12_hasRoom 10 = .ok (.iadd, 1) := by decide +kernel
theorem dX12_hasRoom_11 : decode cX12_hasRoom 11 = .ok (.aload_n 0, 1) := by decide +kernel
theorem dX12_hasRoom_12 : decode cX12_hasRoom 12 = .ok (.getfield 92, 3) := by decide +kernel
theorem dX12_hasRoom_15 : decode cX12_hasRoom 15 = .ok (.iload_n 1, 1) := by decide +kernel
theorem dX12_hasRoom_16 : decode cX12_hasRoom 16 = .ok (.iaload, 1) := by decide +kernel
theorem dX12_hasRoom_17 : decode cX12_hasRoom 17 = .ok (.isub, 1) := by decide +kernel
theorem dX12_hasRoom_18 : decode cX12_hasRoom 18 = .ok (.bipush 12, 2) := by decide +kernel
theorem dX12_hasRoom_20 : decode cX12_hasRoom 20 = .ok (.if_icmp .gt 7, 3) := by decide +kernel
theorem dX12_hasRoom_23 : decode cX12_hasRoom 23 = .ok (.iconst 1, 1) := by decide +kernel
theorem dX12_hasRoom_24 : decode cX12_hasRoom 24 = .ok (.goto 4, 3) := by decide +kernel
theorem dX12_hasRoom_27 : decode cX12_hasRoom 27 = .ok (.iconst 0, 1) := by decide +kernel
theorem dX12_hasRoom_28 : decode cX12_hasRoom 28 = .ok (.ireturn, 1) := by decide +kernel
theorem dX12_replace_0 : decode cX12_replace 0 = .ok (.aload_n 0, 1) := by decide +kernel
theorem dX12_replace_1 : decode cX12_replace 1 = .ok (.iload_n 1, 1) := by decide +kernel
theorem dX12_replace_2 : decode cX12_replace 2 = .ok (.invokevirtual 359, 3) := by decide +kernel
theorem dX12_replace_5 : decode cX12_replace 5 = .ok (.ifCond .ne 5, 3) := by decide +kernel
theorem dX12_replace_8 : decode cX12_replace 8 = .ok (.iconst (-1), 1) := by decide +kernel
theorem dX12_replace_9 : decode cX12_replace 9 = .ok (.ireturn, 1) := by decide +kernel
theorem dX12_replace_10 : decode cX12_replace 10 = .ok (.aload_n 0, 1) := by decide +kernel
theorem dX12_replace_11 : decode cX12_replace 11 = .ok (.iload_n 1, 1) := by decide +kernel
theorem dX12_replace_12 : decode cX12_replace 12 = .ok (.invokevirtual 374, 3) := by decide +kernel
theorem dX12_replace_15 : decode cX12_replace 15 = .ok (.istore_n 2, 1) := by decide +kernel
theorem dX12_replace_16 : decode cX12_replace 16 = .ok (.iload_n 2, 1) := by decide +kernel
theorem dX12_replace_17 : decode cX12_replace 17 = .ok (.ifCond .ge 6, 3) := by decide +kernel
theorem dX12_replace_20 : decode cX12_replace 20 = .ok (.bipush (-3), 2) := by decide +kernel
theorem dX12_replace_22 : decode cX12_replace 22 = .ok (.ireturn, 1) := by decide +kernel
theorem dX12_replace_23 : decode cX12_replace 23 = .ok (.aload_n 0, 1) := by decide +kernel
theorem dX12_replace_24 : decode cX12_replace 24 = .ok (.iload_n 1, 1) := by decide +kernel
theorem dX12_replace_25 : decode cX12_replace 25 = .ok (.invokevirtual 386, 3) := by decide +kernel
theorem dX12_replace_28 : decode cX12_replace 28 = .ok (.ifCond .ne 6, 3) := by decide +kernel
theorem dX12_replace_31 : decode cX12_replace 31 = .ok (.bipush (-4), 2) := by decide +kernel
theorem dX12_replace_33 : decode cX12_replace 33 = .ok (.ireturn, 1) := by decide +kernel
theorem dX12_replace_34 : decode cX12_replace 34 = .ok (.aload_n 0, 1) := by decide +kernel
theorem dX12_replace_35 : decode cX12_replace 35 = .ok (.iload_n 1, 1) := by decide +kernel
theorem dX12_replace_36 : decode cX12_replace 36 = .ok (.iload_n 2, 1) := by decide +kernel
theorem dX12_replace_37 : decode cX12_replace 37 = .ok (.invokevirtual 389, 3) := by decide +kernel
theorem dX12_replace_40 : decode cX12_replace 40 = .ok (.aload_n 0, 1) := by decide +kernel
theorem dX12_replace_41 : decode cX12_replace 41 = .ok (.getfield 181, 3) := by decide +kernel
theorem dX12_replace_44 : decode cX12_replace 44 = .ok (.ireturn, 1) := by decide +kernel
theorem dX12_go_0 : decode cX12_go 0 = .ok (.iconst 0, 1) := by decide +kernel
theorem dX12_go_1 : decode cX12_go 1 = .ok (.istore_n 1, 1) := by decide +kernel
theorem dX12_go_2 : decode cX12_go 2 = .ok (.iconst 1, 1) := by decide +kernel
theorem dX12_go_3 : decode cX12_go 3 = .ok (.istore_n 2, 1) := by decide +kernel
theorem dX12_go_4 : decode cX12_go 4 = .ok (.iload_n 2, 1) := by decide +kernel
theorem dX12_go_5 : decode cX12_go 5 = .ok (.ifCond .eq 85, 3) := by decide +kernel
theorem dX12_go_8 : decode cX12_go 8 = .ok (.iload_n 1, 1) := by decide +kernel
theorem dX12_go_9 : decode cX12_go 9 = .ok (.bipush 20, 2) := by decide +kernel
theorem dX12_go_11 : decode cX12_go 11 = .ok (.if_icmp .ge 79, 3) := by decide +kernel
theorem dX12_go_14 : decode cX12_go 14 = .ok (.bipush (-6), 2) := by decide +kernel
theorem dX12_go_16 : decode cX12_go 16 = .ok (.istore_n 3, 1) := by decide +kernel
theorem dX12_go_17 : decode cX12_go 17 = .ok (.aload_n 0, 1) := by decide +kernel
theorem dX12_go_18 : decode cX12_go 18 = .ok (.getfield 348, 3) := by decide +kernel
theorem dX12_go_21 : decode cX12_go 21 = .ok (.iconst 1, 1) := by decide +kernel
theorem dX12_go_22 : decode cX12_go 22 = .ok (.isub, 1) := by decide +kernel
theorem dX12_go_23 : decode cX12_go 23 = .ok (.istore 4, 2) := by decide +kernel
theorem dX12_go_25 : decode cX12_go 25 = .ok (.iload 4, 2) := by decide +kernel
theorem dX12_go_27 : decode cX12_go 27 = .ok (.ifCond .lt 25, 3) := by decide +kernel
theorem dX12_go_30 : decode cX12_go 30 = .ok (.aload_n 0, 1) := by decide +kernel
theorem dX12_go_31 : decode cX12_go 31 = .ok (.iload 4, 2) := by decide +kernel
theorem dX12_go_33 : decode cX12_go 33 = .ok (.invokevirtual 374, 3) := by decide +kernel
theorem dX12_go_36 : decode cX12_go 36 = .ok (.ifCond .lt 8, 3) := by decide +kernel
theorem dX12_go_39 : decode cX12_go 39 = .ok (.iload 4, 2) := by decide +kernel
theorem dX12_go_41 : decode cX12_go 41 = .ok (.goto 4, 3) := by decide +kernel
theorem dX12_go_44 : decode cX12_go 44 = .ok (.iload_n 3, 1) := by decide +kernel
theorem dX12_go_45 : decode cX12_go 45 = .ok (.istore_n 3, 1) := by decide +kernel
theorem dX12_go_46 : decode cX12_go 46 = .ok (.iinc 4 (-1), 3) := by decide +kernel
theorem dX12_go_49 : decode cX12_go 49 = .ok (.goto (-24), 3) := by decide +kernel
theorem dX12_go_52 : decode cX12_go 52 = .ok (.iload_n 3, 1) := by decide +kernel
theorem dX12_go_53 : decode cX12_go 53 = .ok (.ifCond .lt 15, 3) := by decide +kernel
theorem dX12_go_56 : decode cX12_go 56 = .ok (.aload_n 0, 1) := by decide +kernel
theorem dX12_go_57 : decode cX12_go 57 = .ok (.iload_n 3, 1) := by decide +kernel
theorem dX12_go_58 : decode cX12_go 58 = .ok (.invokevirtual 386, 3) := by decide +kernel
theorem dX12_go_61 : decode cX12_go 61 = .ok (.ifCond .eq 7, 3) := by decide +kernel
theorem dX12_go_64 : decode cX12_go 64 = .ok (.iconst 1, 1) := by decide +kernel
theorem dX12_go_65 : decode cX12_go 65 = .ok (.goto 4, 3) := by decide +kernel
theorem dX12_go_68 : decode cX12_go 68 = .ok (.iconst 0, 1) := by decide +kernel
theorem dX12_go_69 : decode cX12_go 69 = .ok (.istore_n 2, 1) := by decide +kernel
theorem dX12_go_70 : decode cX12_go 70 = .ok (.iload_n 2, 1) := by decide +kernel
theorem dX12_go_71 : decode cX12_go 71 = .ok (.ifCond .eq 16, 3) := by decide +kernel
theorem dX12_go_74 : decode cX12_go 74 = .ok (.aload_n 0, 1) := by decide +kernel
theorem dX12_go_75 : decode cX12_go 75 = .ok (.iload_n 3, 1) := by decide +kernel
theorem dX12_go_76 : decode cX12_go 76 = .ok (.aload_n 0, 1) := by decide +kernel
theorem dX12_go_77 : decode cX12_go 77 = .ok (.iload_n 3, 1) := by decide +kernel
theorem dX12_go_78 : decode cX12_go 78 = .ok (.invokevirtual 374, 3) := by decide +kernel
theorem dX12_go_81 : decode cX12_go 81 = .ok (.invokevirtual 389, 3) := by decide +kernel
theorem dX12_go_84 : decode cX12_go 84 = .ok (.iinc 1 1, 3) := by decide +kernel
theorem dX12_go_87 : decode cX12_go 87 = .ok (.goto (-83), 3) := by decide +kernel
theorem dX12_go_90 : decode cX12_go 90 = .ok (.iload_n 1, 1) := by decide +kernel
theorem dX12_go_91 : decode cX12_go 91 = .ok (.ireturn, 1) := by decide +kernel
theorem dX12_digitOf_0 : decode cX12_digitOf 0 = .ok (.iload_n 1, 1) := by decide +kernel
theorem dX12_digitOf_1 : decode cX12_digitOf 1 = .ok (.ifCond .ne 10, 3) := by decide +kernel
theorem dX12_digitOf_4 : decode cX12_digitOf 4 = .ok (.iload_n 0, 1) := by decide +kernel
theorem dX12_digitOf_5 : decode cX12_digitOf 5 = .ok (.bipush 8, 2) := by decide +kernel
theorem dX12_digitOf_7 : decode cX12_digitOf 7 = .ok (.idiv, 1) := by decide +kernel
theorem dX12_digitOf_8 : decode cX12_digitOf 8 = .ok (.goto 7, 3) := by decide +kernel
theorem dX12_digitOf_11 : decode cX12_digitOf 11 = .ok (.iload_n 0, 1) := by decide +kernel
theorem dX12_digitOf_12 : decode cX12_digitOf 12 = .ok (.bipush 8, 2) := by decide +kernel
theorem dX12_digitOf_14 : decode cX12_digitOf 14 = .ok (.irem, 1) := by decide +kernel
theorem dX12_digitOf_15 : decode cX12_digitOf 15 = .ok (.ireturn, 1) := by decide +kernel
theorem dX12_tried_0 : decode cX12_tried 0 = .ok (.iload_n 0, 1) := by decide +kernel
theorem dX12_tried_1 : decode cX12_tried 1 = .ok (.bipush 26, 2) := by decide +kernel
theorem dX12_tried_3 : decode cX12_tried 3 = .ok (.idiv, 1) := by decide +kernel
theorem dX12_tried_4 : decode cX12_tried 4 = .ok (.istore_n 1, 1) := by decide +kernel
theorem dX12_tried_5 : decode cX12_tried 5 = .ok (.iload_n 0, 1) := by decide +kernel
theorem dX12_tried_6 : decode cX12_tried 6 = .ok (.bipush 26, 2) := by decide +kernel
theorem dX12_tried_8 : decode cX12_tried 8 = .ok (.irem, 1) := by decide +kernel
theorem dX12_tried_9 : decode cX12_tried 9 = .ok (.istore_n 2, 1) := by decide +kernel
theorem dX12_tried_10 : decode cX12_tried 10 = .ok (.iload_n 2, 1) := by decide +kernel
theorem dX12_tried_11 : decode cX12_tried 11 = .ok (.iconst 2, 1) := by decide +kernel
theorem dX12_tried_12 : decode cX12_tried 12 = .ok (.if_icmp .ge 30, 3) := by decide +kernel
theorem dX12_tried_15 : decode cX12_tried 15 = .ok (.sipush 1000, 3) := by decide +kernel
theorem dX12_tried_18 : decode cX12_tried 18 = .ok (.iload_n 1, 1) := by decide +kernel
theorem dX12_tried_19 : decode cX12_tried 19 = .ok (.imul, 1) := by decide +kernel
theorem dX12_tried_20 : decode cX12_tried 20 = .ok (.bipush 100, 2) := by decide +kernel
theorem dX12_tried_22 : decode cX12_tried 22 = .ok (.iload_n 2, 1) := by decide +kernel
theorem dX12_tried_23 : decode cX12_tried 23 = .ok (.imul, 1) := by decide +kernel
theorem dX12_tried_24 : decode cX12_tried 24 = .ok (.iadd, 1) := by decide +kernel
theorem dX12_tried_25 : decode cX12_tried 25 = .ok (.iload_n 2, 1) := by decide +kernel
theorem dX12_tried_26 : decode cX12_tried 26 = .ok (.iconst 1, 1) := by decide +kernel
theorem dX12_tried_27 : decode cX12_tried 27 = .ok (.if_icmp .ne 12, 3) := by decide +kernel
theorem dX12_tried_30 : decode cX12_tried 30 = .ok (.bipush 10, 2) := by decide +kernel
theorem dX12_tried_32 : decode cX12_tried 32 = .ok (.iconst 1, 1) := by decide +kernel
theorem dX12_tried_33 : decode cX12_tried 33 = .ok (.iload_n 1, 1) := by decide +kernel
theorem dX12_tried_34 : decode cX12_tried 34 = .ok (.isub, 1) := by decide +kernel
theorem dX12_tried_35 : decode cX12_tried 35 = .ok (.imul, 1) := by decide +kernel
theorem dX12_tried_36 : decode cX12_tried 36 = .ok (.goto 4, 3) := by decide +kernel
theorem dX12_tried_39 : decode cX12_tried 39 = .ok (.iconst 0, 1) := by decide +kernel
theorem dX12_tried_40 : decode cX12_tried 40 = .ok (.iadd, 1) := by decide +kernel
theorem dX12_tried_41 : decode cX12_tried 41 = .ok (.ireturn, 1) := by decide +kernel
theorem dX12_tried_42 : decode cX12_tried 42 = .ok (.iload_n 2, 1) := by decide +kernel
theorem dX12_tried_43 : decode cX12_tried 43 = .ok (.iconst 2, 1) := by decide +kernel
theorem dX12_tried_44 : decode cX12_tried 44 = .ok (.isub, 1) := by decide +kernel
theorem dX12_tried_45 : decode cX12_tried 45 = .ok (.istore_n 3, 1) := by decide +kernel
theorem dX12_tried_46 : decode cX12_tried 46 = .ok (.sipush 1000, 3) := by decide +kernel
theorem dX12_tried_49 : decode cX12_tried 49 = .ok (.iload_n 1, 1) := by decide +kernel
theorem dX12_tried_50 : decode cX12_tried 50 = .ok (.imul, 1) := by decide +kernel
theorem dX12_tried_51 : decode cX12_tried 51 = .ok (.bipush 100, 2) := by decide +kernel
theorem dX12_tried_53 : decode cX12_tried 53 = .ok (.iconst 2, 1) := by decide +kernel
theorem dX12_tried_54 : decode cX12_tried 54 = .ok (.iload_n 3, 1) := by decide +kernel
theorem dX12_tried_55 : decode cX12_tried 55 = .ok (.bipush 6, 2) := by decide +kernel
theorem dX12_tried_57 : decode cX12_tried 57 = .ok (.idiv, 1) := by decide +kernel
theorem dX12_tried_58 : decode cX12_tried 58 = .ok (.iadd, 1) := by decide +kernel
theorem dX12_tried_59 : decode cX12_tried 59 = .ok (.imul, 1) := by decide +kernel
theorem dX12_tried_60 : decode cX12_tried 60 = .ok (.iadd, 1) := by decide +kernel
theorem dX12_tried_61 : decode cX12_tried 61 = .ok (.bipush 10, 2) := by decide +kernel
theorem dX12_tried_63 : decode cX12_tried 63 = .ok (.iload_n 3, 1) := by decide +kernel
theorem dX12_tried_64 : decode cX12_tried 64 = .ok (.iconst 3, 1) := by decide +kernel
theorem dX12_tried_65 : decode cX12_tried 65 = .ok (.idiv, 1) := by decide +kernel
theorem dX12_tried_66 : decode cX12_tried 66 = .ok (.iconst 2, 1) := by decide +kernel
theorem dX12_tried_67 : decode cX12_tried 67 = .ok (.irem, 1) := by decide +kernel
theorem dX12_tried_68 : decode cX12_tried 68 = .ok (.imul, 1) := by decide +kernel
theorem dX12_tried_69 : decode cX12_tried 69 = .ok (.iadd, 1) := by decide +kernel
theorem dX12_tried_70 : decode cX12_tried 70 = .ok (.iload_n 3, 1) := by decide +kernel
theorem dX12_tried_71 : decode cX12_tried 71 = .ok (.iconst 3, 1) := by decide +kernel
theorem dX12_tried_72 : decode cX12_tried 72 = .ok (.irem, 1) := by decide +kernel
theorem dX12_tried_73 : decode cX12_tried 73 = .ok (.iadd, 1) := by decide +kernel
theorem dX12_tried_74 : decode cX12_tried 74 = .ok (.ireturn, 1) := by decide +kernel
theorem dX12_signOf_0 : decode cX12_signOf 0 = .ok (.iload_n 0, 1) := by decide +kernel
theorem dX12_signOf_1 : decode cX12_signOf 1 = .ok (.iconst 2, 1) := by decide +kernel
theorem dX12_signOf_2 : decode cX12_signOf 2 = .ok (.if_icmp .ne 8, 3) := by decide +kernel
theorem dX12_signOf_5 : decode cX12_signOf 5 = .ok (.bipush 43, 2) := by decide +kernel
theorem dX12_signOf_7 : decode cX12_signOf 7 = .ok (.goto 25, 3) := by decide +kernel
theorem dX12_signOf_10 : decode cX12_signOf 10 = .ok (.iload_n 0, 1) := by decide +kernel
theorem dX12_signOf_11 : decode cX12_signOf 11 = .ok (.iconst 3, 1) := by decide +kernel
theorem dX12_signOf_12 : decode cX12_signOf 12 = .ok (.if_icmp .ne 8, 3) := by decide +kernel
theorem dX12_signOf_15 : decode cX12_signOf 15 = .ok (.bipush 45, 2) := by decide +kernel
theorem dX12_signOf_17 : decode cX12_signOf 17 = .ok (.goto 15, 3) := by decide +kernel
theorem dX12_signOf_20 : decode cX12_signOf 20 = .ok (.iload_n 0, 1) := by decide +kernel
theorem dX12_signOf_21 : decode cX12_signOf 21 = .ok (.iconst 4, 1) := by decide +kernel
theorem dX12_signOf_22 : decode cX12_signOf 22 = .ok (.if_icmp .ne 8, 3) := by decide +kernel
theorem dX12_signOf_25 : decode cX12_signOf 25 = .ok (.bipush 42, 2) := by decide +kernel
theorem dX12_signOf_27 : decode cX12_signOf 27 = .ok (.goto 5, 3) := by decide +kernel
theorem dX12_signOf_30 : decode cX12_signOf 30 = .ok (.bipush 109, 2) := by decide +kernel
theorem dX12_signOf_32 : decode cX12_signOf 32 = .ok (.ireturn, 1) := by decide +kernel
theorem dX12_doneSmall_0 : decode cX12_doneSmall 0 = .ok (.iload_n 1, 1) := by decide +kernel
theorem dX12_doneSmall_1 : decode cX12_doneSmall 1 = .ok (.sipush 1000, 3) := by decide +kernel
theorem dX12_doneSmall_4 : decode cX12_doneSmall 4 = .ok (.idiv, 1) := by decide +kernel
theorem dX12_doneSmall_5 : decode cX12_doneSmall 5 = .ok (.istore_n 2, 1) := by decide +kernel
theorem dX12_doneSmall_6 : decode cX12_doneSmall 6 = .ok (.iload_n 1, 1) := by decide +kernel
theorem dX12_doneSmall_7 : decode cX12_doneSmall 7 = .ok (.bipush 100, 2) := by decide +kernel
theorem dX12_doneSmall_9 : decode cX12_doneSmall 9 = .ok (.idiv, 1) := by decide +kernel
theorem dX12_doneSmall_10 : decode cX12_doneSmall 10 = .ok (.bipush 10, 2) := by decide +kernel
theorem dX12_doneSmall_12 : decode cX12_doneSmall 12 = .ok (.irem, 1) := by decide +kernel
theorem dX12_doneSmall_13 : decode cX12_doneSmall 13 = .ok (.istore_n 3, 1) := by decide +kernel
theorem dX12_doneSmall_14 : decode cX12_doneSmall 14 = .ok (.iload_n 0, 1) := by decide +kernel
theorem dX12_doneSmall_15 : decode cX12_doneSmall 15 = .ok (.iload_n 1, 1) := by decide +kernel
theorem dX12_doneSmall_16 : decode cX12_doneSmall 16 = .ok (.bipush 10, 2) := by decide +kernel
theorem dX12_doneSmall_18 : decode cX12_doneSmall 18 = .ok (.idiv, 1) := by decide +kernel
theorem dX12_doneSmall_19 : decode cX12_doneSmall 19 = .ok (.bipush 10, 2) := by decide +kernel
theorem dX12_doneSmall_21 : decode cX12_doneSmall 21 = .ok (.irem, 1) := by decide +kernel
theorem dX12_doneSmall_22 : decode cX12_doneSmall 22 = .ok (.invokestatic 392, 3) := by decide +kernel
theorem dX12_doneSmall_25 : decode cX12_doneSmall 25 = .ok (.istore 4, 2) := by decide +kernel
theorem dX12_doneSmall_27 : decode cX12_doneSmall 27 = .ok (.iload_n 1, 1) := by decide +kernel
theorem dX12_doneSmall_28 : decode cX12_doneSmall 28 = .ok (.bipush 10, 2) := by decide +kernel
theorem dX12_doneSmall_30 : decode cX12_doneSmall 30 = .ok (.irem, 1) := by decide +kernel
theorem dX12_doneSmall_31 : decode cX12_doneSmall 31 = .ok (.istore 5, 2) := by decide +kernel
theorem dX12_doneSmall_33 : decode cX12_doneSmall 33 = .ok (.iload 5, 2) := by decide +kernel
theorem dX12_doneSmall_35 : decode cX12_doneSmall 35 = .ok (.iconst 2, 1) := by decide +kernel
theorem dX12_doneSmall_36 : decode cX12_doneSmall 36 = .ok (.if_icmp .ne 7, 3) := by decide +kernel
theorem dX12_doneSmall_39 : decode cX12_doneSmall 39 = .ok (.iconst 1, 1) := by decide +kernel
theorem dX12_doneSmall_40 : decode cX12_doneSmall 40 = .ok (.goto 9, 3) := by decide +kernel
theorem dX12_doneSmall_43 : decode cX12_doneSmall 43 = .ok (.iload_n 0, 1) := by decide +kernel
theorem dX12_doneSmall_44 : decode cX12_doneSmall 44 = .ok (.iload 5, 2) := by decide +kernel
theorem dX12_doneSmall_46 : decode cX12_doneSmall 46 = .ok (.invokestatic 392, 3) := by decide +kernel
theorem dX12_doneSmall_49 : decode cX12_doneSmall 49 = .ok (.istore 6, 2) := by decide +kernel
theorem dX12_doneSmall_51 : decode cX12_doneSmall 51 = .ok (.iload_n 3, 1) := by decide +kernel
theorem dX12_doneSmall_52 : decode cX12_doneSmall 52 = .ok (.ifCond .ne 7, 3) := by decide +kernel
theorem dX12_doneSmall_55 : decode cX12_doneSmall 55 = .ok (.iconst 0, 1) := by decide +kernel
theorem dX12_doneSmall_56 : decode cX12_doneSmall 56 = .ok (.goto 24, 3) := by decide +kernel
theorem dX12_doneSmall_59 : decode cX12_doneSmall 59 = .ok (.iload_n 3, 1) := by decide +kernel
theorem dX12_doneSmall_60 : decode cX12_doneSmall 60 = .ok (.iconst 1, 1) := by decide +kernel
theorem dX12_doneSmall_61 : decode cX12_doneSmall 61 = .ok (.if_icmp .ne 8, 3) := by decide +kernel
theorem dX12_doneSmall_64 : decode cX12_doneSmall 64 = .ok (.iload 4, 2) := by decide +kernel
theorem dX12_doneSmall_66 : decode cX12_doneSmall 66 = .ok (.goto 14, 3) := by decide +kernel
theorem dX12_doneSmall_69 : decode cX12_doneSmall 69 = .ok (.iload_n 3, 1) := by decide +kernel
theorem dX12_doneSmall_70 : decode cX12_doneSmall 70 = .ok (.invokestatic 395, 3) := by decide +kernel
theorem dX12_doneSmall_73 : decode cX12_doneSmall 73 = .ok (.iload 4, 2) := by decide +kernel
theorem dX12_doneSmall_75 : decode cX12_doneSmall 75 = .ok (.iload 6, 2) := by decide +kernel
theorem dX12_doneSmall_77 : decode cX12_doneSmall 77 = .ok (.invokestatic 195, 3) := by decide +kernel
theorem dX12_doneSmall_80 : decode cX12_doneSmall 80 = .ok (.istore 7, 2) := by decide +kernel
theorem dX12_doneSmall_82 : decode cX12_doneSmall 82 = .ok (.iload_n 2, 1) := by decide +kernel
theorem dX12_doneSmall_83 : decode cX12_doneSmall 83 = .ok (.ifCond .ne 16, 3) := by decide +kernel
theorem dX12_doneSmall_86 : decode cX12_doneSmall 86 = .ok (.bipush 8, 2) := by decide +kernel
theorem dX12_doneSmall_88 : decode cX12_doneSmall 88 = .ok (.iload 7, 2) := by decide +kernel
theorem dX12_doneSmall_90 : decode cX12_doneSmall 90 = .ok (.imul, 1) := by decide +kernel
theorem dX12_doneSmall_91 : decode cX12_doneSmall 91 = .ok (.iload_n 0, 1) := by decide +kernel
theorem dX12_doneSmall_92 : decode cX12_doneSmall 92 = .ok (.bipush 8, 2) := by decide +kernel
theorem dX12_doneSmall_94 : decode cX12_doneSmall 94 = .ok (.irem, 1) := by decide +kernel
theorem dX12_doneSmall_95 : decode cX12_doneSmall 95 = .ok (.iadd, 1) := by decide +kernel
theorem dX12_doneSmall_96 : decode cX12_doneSmall 96 = .ok (.goto 13, 3) := by decide +kernel
theorem dX12_doneSmall_99 : decode cX12_doneSmall 99 = .ok (.iload_n 0, 1) := by decide +kernel
theorem dX12_doneSmall_100 : decode cX12_doneSmall 100 = .ok (.bipush 8, 2) := by decide +kernel
theorem dX12_doneSmall_102 : decode cX12_doneSmall 102 = .ok (.idiv, 1) := by decide +kernel
theorem dX12_doneSmall_103 : decode cX12_doneSmall 103 = .ok (.bipush 8, 2) := by decide +kernel
theorem dX12_doneSmall_105 : decode cX12_doneSmall 105 = .ok (.imul, 1) := by decide +kernel
theorem dX12_doneSmall_106 : decode cX12_doneSmall 106 = .ok (.iload 7, 2) := by decide +kernel
theorem dX12_doneSmall_108 : decode cX12_doneSmall 108 = .ok (.iadd, 1) := by decide +kernel
theorem dX12_doneSmall_109 : decode cX12_doneSmall 109 = .ok (.ireturn, 1) := by decide +kernel
theorem dX12_isSmall_0 : decode cX12_isSmall 0 = .ok (.aload_n 0, 1) := by decide +kernel
theorem dX12_isSmall_1 : decode cX12_isSmall 1 = .ok (.getfield 116, 3) := by decide +kernel
theorem dX12_isSmall_4 : decode cX12_isSmall 4 = .ok (.iconst 4, 1) := by decide +kernel
theorem dX12_isSmall_5 : decode cX12_isSmall 5 = .ok (.if_icmp .ge 7, 3) := by decide +kernel
theorem dX12_isSmall_8 : decode cX12_isSmall 8 = .ok (.iconst 1, 1) := by decide +kernel
theorem dX12_isSmall_9 : decode cX12_isSmall 9 = .ok (.goto 4, 3) := by decide +kernel
theorem dX12_isSmall_12 : decode cX12_isSmall 12 = .ok (.iconst 0, 1) := by decide +kernel
theorem dX12_isSmall_13 : decode cX12_isSmall 13 = .ok (.istore_n 1, 1) := by decide +kernel
theorem dX12_isSmall_14 : decode cX12_isSmall 14 = .ok (.iconst 0, 1) := by decide +kernel
theorem dX12_isSmall_15 : decode cX12_isSmall 15 = .ok (.istore_n 2, 1) := by decide +kernel
theorem dX12_isSmall_16 : decode cX12_isSmall 16 = .ok (.iload_n 2, 1) := by decide +kernel
theorem dX12_isSmall_17 : decode cX12_isSmall 17 = .ok (.aload_n 0, 1) := by decide +kernel
theorem dX12_isSmall_18 : decode cX12_isSmall 18 = .ok (.getfield 181, 3) := by decide +kernel
theorem dX12_isSmall_21 : decode cX12_isSmall 21 = .ok (.if_icmp .ge 71, 3) := by decide +kernel
theorem dX12_isSmall_24 : decode cX12_isSmall 24 = .ok (.iload_n 1, 1) := by decide +kernel
theorem dX12_isSmall_25 : decode cX12_isSmall 25 = .ok (.ifCond .eq 59, 3) := by decide +kernel
theorem dX12_isSmall_28 : decode cX12_isSmall 28 = .ok (.aload_n 0, 1) := by decide +kernel
theorem dX12_isSmall_29 : decode cX12_isSmall 29 = .ok (.getfield 13, 3) := by decide +kernel
theorem dX12_isSmall_32 : decode cX12_isSmall 32 = .ok (.iload_n 2, 1) := by decide +kernel
theorem dX12_isSmall_33 : decode cX12_isSmall 33 = .ok (.iaload, 1) := by decide +kernel
theorem dX12_isSmall_34 : decode cX12_isSmall 34 = .ok (.iconst 2, 1) := by decide +kernel
theorem dX12_isSmall_35 : decode cX12_isSmall 35 = .ok (.if_icmp .ge 49, 3) := by decide +kernel
theorem dX12_isSmall_38 : decode cX12_isSmall 38 = .ok (.aload_n 0, 1) := by decide +kernel
theorem dX12_isSmall_39 : decode cX12_isSmall 39 = .ok (.getfield 19, 3) := by decide +kernel
theorem dX12_isSmall_42 : decode cX12_isSmall 42 = .ok (.iload_n 2, 1) := by decide +kernel
theorem dX12_isSmall_43 : decode cX12_isSmall 43 = .ok (.iaload, 1) := by decide +kernel
theorem dX12_isSmall_44 : decode cX12_isSmall 44 = .ok (.iconst 2, 1) := by decide +kernel
theorem dX12_isSmall_45 : decode cX12_isSmall 45 = .ok (.if_icmp .lt 14, 3) := by decide +kernel
theorem dX12_isSmall_48 : decode cX12_isSmall 48 = .ok (.aload_n 0, 1) := by decide +kernel
theorem dX12_isSmall_49 : decode cX12_isSmall 49 = .ok (.getfield 19, 3) := by decide +kernel
theorem dX12_isSmall_52 : decode cX12_isSmall 52 = .ok (.iload_n 2, 1) := by decide +kernel
theorem dX12_isSmall_53 : decode cX12_isSmall 53 = .ok (.iaload, 1) := by decide +kernel
theorem dX12_isSmall_54 : decode cX12_isSmall 54 = .ok (.bipush 10, 2) := by decide +kernel
theorem dX12_isSmall_56 : decode cX12_isSmall 56 = .ok (.if_icmp .lt 28, 3) := by decide +kernel
theorem dX12_isSmall_59 : decode cX12_isSmall 59 = .ok (.aload_n 0, 1) := by decide +kernel
theorem dX12_isSmall_60 : decode cX12_isSmall 60 = .ok (.getfield 22, 3) := by decide +kernel
theorem dX12_isSmall_63 : decode cX12_isSmall 63 = .ok (.iload_n 2, 1) := by decide +kernel
theorem dX12_isSmall_64 : decode cX12_isSmall 64 = .ok (.iaload, 1) := by decide +kernel
theorem dX12_isSmall_65 : decode cX12_isSmall 65 = .ok (.iconst 2, 1) := by decide +kernel
theorem dX12_isSmall_66 : decode cX12_isSmall 66 = .ok (.if_icmp .lt 14, 3) := by decide +kernel
theorem dX12_isSmall_69 : decode cX12_isSmall 69 = .ok (.aload_n 0, 1) := by decide +kernel
theorem dX12_isSmall_70 : decode cX12_isSmall 70 = .ok (.getfield 22, 3) := by decide +kernel
theorem dX12_isSmall_73 : decode cX12_isSmall 73 = .ok (.iload_n 2, 1) := by decide +kernel
theorem dX12_isSmall_74 : decode cX12_isSmall 74 = .ok (.iaload, 1) := by decide +kernel
theorem dX12_isSmall_75 : decode cX12_isSmall 75 = .ok (.bipush 10, 2) := by decide +kernel
theorem dX12_isSmall_77 : decode cX12_isSmall 77 = .ok (.if_icmp .lt 7, 3) := by decide +kernel
theorem dX12_isSmall_80 : decode cX12_isSmall 80 = .ok (.iconst 1, 1) := by decide +kernel
theorem dX12_isSmall_81 : decode cX12_isSmall 81 = .ok (.goto 4, 3) := by decide +kernel
theorem dX12_isSmall_84 : decode cX12_isSmall 84 = .ok (.iconst 0, 1) := by decide +kernel
theorem dX12_isSmall_85 : decode cX12_isSmall 85 = .ok (.istore_n 1, 1) := by decide +kernel
theorem dX12_isSmall_86 : decode cX12_isSmall 86 = .ok (.iinc 2 1, 3) := by decide +kernel
theorem dX12_isSmall_89 : decode cX12_isSmall 89 = .ok (.goto (-73), 3) := by decide +kernel
theorem dX12_isSmall_92 : decode cX12_isSmall 92 = .ok (.iload_n 1, 1) := by decide +kernel
theorem dX12_isSmall_93 : decode cX12_isSmall 93 = .ok (.ireturn, 1) := by decide +kernel
theorem dX12_layStep_0 : decode cX12_layStep 0 = .ok (.iconst 0, 1) := by decide +kernel
theorem dX12_layStep_1 : decode cX12_layStep 1 = .ok (.istore_n 3, 1) := by decide +kernel
theorem dX12_layStep_2 : decode cX12_layStep 2 = .ok (.iload_n 3, 1) := by decide +kernel
theorem dX12_layStep_3 : decode cX12_layStep 3 = .ok (.bipush 64, 2) := by decide +kernel
theorem dX12_layStep_5 : decode cX12_layStep 5 = .ok (.if_icmp .ge 38, 3) := by decide +kernel
theorem dX12_layStep_8 : decode cX12_layStep 8 = .ok (.aload_n 0, 1) := by decide +kernel
theorem dX12_layStep_9 : decode cX12_layStep 9 = .ok (.getfield 104, 3) := by decide +kernel
theorem dX12_layStep_12 : decode cX12_layStep 12 = .ok (.bipush 64, 2) := by decide +kernel
theorem dX12_layStep_14 : decode cX12_layStep 14 = .ok (.iload_n 1, 1) := by decide +kernel
theorem dX12_layStep_15 : decode cX12_layStep 15 = .ok (.imul, 1) := by decide +kernel
theorem dX12_layStep_16 : decode cX12_layStep 16 = .ok (.bipush 64, 2) := by decide +kernel
theorem dX12_layStep_18 : decode cX12_layStep 18 = .ok (.iadd, 1) := by decide +kernel
theorem dX12_layStep_19 : decode cX12_layStep 19 = .ok (.iload_n 3, 1) := by decide +kernel
theorem dX12_layStep_20 : decode cX12_layStep 20 = .ok (.iadd, 1) := by decide +kernel
theorem dX12_layStep_21 : decode cX12_layStep 21 = .ok (.aload_n 0, 1) := by decide +kernel
theorem dX12_layStep_22 : decode cX12_layStep 22 = .ok (.getfield 104, 3) := by decide +kernel
theorem dX12_layStep_25 : decode cX12_layStep 25 = .ok (.bipush 64, 2) := by decide +kernel
theorem dX12_layStep_27 : decode cX12_layStep 27 = .ok (.iload_n 1, 1) := by decide +kernel
theorem dX12_layStep_28 : decode cX12_layStep 28 = .ok (.imul, 1) := by decide +kernel
theorem dX12_layStep_29 : decode cX12_layStep 29 = .ok (.iload_n 3, 1) := by decide +kernel
theorem dX12_layStep_30 : decode cX12_layStep 30 = .ok (.iadd, 1) := by decide +kernel
theorem dX12_layStep_31 : decode cX12_layStep 31 = .ok (.iaload, 1) := by decide +kernel
theorem dX12_layStep_32 : decode cX12_layStep 32 = .ok (.iload_n 2, 1) := by decide +kernel
theorem dX12_layStep_33 : decode cX12_layStep 33 = .ok (.invokestatic 398, 3) := by decide +kernel
theorem dX12_layStep_36 : decode cX12_layStep 36 = .ok (.iastore, 1) := by decide +kernel
theorem dX12_layStep_37 : decode cX12_layStep 37 = .ok (.iinc 3 1, 3) := by decide +kernel
theorem dX12_layStep_40 : decode cX12_layStep 40 = .ok (.goto (-38), 3) := by decide +kernel
theorem dX12_layStep_43 : decode cX12_layStep 43 = .ok (.return_, 1) := by decide +kernel
theorem dX12_isDue_0 : decode cX12_isDue 0 = .ok (.iconst 1, 1) := by decide +kernel
theorem dX12_isDue_1 : decode cX12_isDue 1 = .ok (.istore_n 2, 1) := by decide +kernel
theorem dX12_isDue_2 : decode cX12_isDue 2 = .ok (.iconst 0, 1) := by decide +kernel
theorem dX12_isDue_3 : decode cX12_isDue 3 = .ok (.istore_n 3, 1) := by decide +kernel
theorem dX12_isDue_4 : decode cX12_isDue 4 = .ok (.iload_n 3, 1) := by decide +kernel
theorem dX12_isDue_5 : decode cX12_isDue 5 = .ok (.bipush 64, 2) := by decide +kernel
theorem dX12_isDue_7 : decode cX12_isDue 7 = .ok (.if_icmp .ge 84, 3) := by decide +kernel
theorem dX12_isDue_10 : decode cX12_isDue 10 = .ok (.iload_n 2, 1) := by decide +kernel
theorem dX12_isDue_11 : decode cX12_isDue 11 = .ok (.ifCond .eq 80, 3) := by decide +kernel
theorem dX12_isDue_14 : decode cX12_isDue 14 = .ok (.aload_n 0, 1) := by decide +kernel
theorem dX12_isDue_15 : decode cX12_isDue 15 = .ok (.getfield 104, 3) := by decide +kernel
theorem dX12_isDue_18 : decode cX12_isDue 18 = .ok (.bipush 64, 2) := by decide +kernel
theorem dX12_isDue_20 : decode cX12_isDue 20 = .ok (.iload_n 1, 1) := by decide +kernel
theorem dX12_isDue_21 : decode cX12_isDue 21 = .ok (.imul, 1) := by decide +kernel
theorem dX12_isDue_22 : decode cX12_isDue 22 = .ok (.iload_n 3, 1) := by decide +kernel
theorem dX12_isDue_23 : decode cX12_isDue 23 = .ok (.iadd, 1) := by decide +kernel
theorem dX12_isDue_24 : decode cX12_isDue 24 = .ok (.iaload, 1) := by decide +kernel
theorem dX12_isDue_25 : decode cX12_isDue 25 = .ok (.istore 4, 2) := by decide +kernel
theorem dX12_isDue_27 : decode cX12_isDue 27 = .ok (.aload_n 0, 1) := by decide +kernel
theorem dX12_isDue_28 : decode cX12_isDue 28 = .ok (.getfield 116, 3) := by decide +kernel
theorem dX12_isDue_31 : decode cX12_isDue 31 = .ok (.iconst 1, 1) := by decide +kernel
theorem dX12_isDue_32 : decode cX12_isDue 32 = .ok (.iand, 1) := by decide +kernel
theorem dX12_isDue_33 : decode cX12_isDue 33 = .ok (.ifCond .eq 20, 3) := by decide +kernel
theorem dX12_isDue_36 : decode cX12_isDue 36 = .ok (.iload 4, 2) := by decide +kernel
theorem dX12_isDue_38 : decode cX12_isDue 38 = .ok (.bipush 8, 2) := by decide +kernel
theorem dX12_isDue_40 : decode cX12_isDue 40 = .ok (.idiv, 1) := by decide +kernel
theorem dX12_isDue_41 : decode cX12_isDue 41 = .ok (.aload_n 0, 1) := by decide +kernel
theorem dX12_isDue_42 : decode cX12_isDue 42 = .ok (.getfield 101, 3) := by decide +kernel
theorem dX12_isDue_45 : decode cX12_isDue 45 = .ok (.iload_n 3, 1) := by decide +kernel
theorem dX12_isDue_46 : decode cX12_isDue 46 = .ok (.iaload, 1) := by decide +kernel
theorem dX12_isDue_47 : decode cX12_isDue 47 = .ok (.bipush 8, 2) := by decide +kernel
theorem dX12_isDue_49 : decode cX12_isDue 49 = .ok (.idiv, 1) := by decide +kernel
theorem dX12_isDue_50 : decode cX12_isDue 50 = .ok (.if_icmp .ne 33, 3) := by decide +kernel
theorem dX12_isDue_53 : decode cX12_isDue 53 = .ok (.aload_n 0, 1) := by decide +kernel
theorem dX12_isDue_54 : decode cX12_isDue 54 = .ok (.getfield 116, 3) := by decide +kernel
theorem dX12_isDue_57 : decode cX12_isDue 57 = .ok (.iconst 2, 1) := by decide +kernel
theorem dX12_isDue_58 : decode cX12_isDue 58 = .ok (.iand, 1) := by decide +kernel
theorem dX12_isDue_59 : decode cX12_isDue 59 = .ok (.ifCond .eq 20, 3) := by decide +kernel
theorem dX12_isDue_62 : decode cX12_isDue 62 = .ok (.iload 4, 2) := by decide +kernel
theorem dX12_isDue_64 : decode cX12_isDue 64 = .ok (.bipush 8, 2) := by decide +kernel
theorem dX12_isDue_66 : decode cX12_isDue 66 = .ok (.irem, 1) := by decide +kernel
theorem dX12_isDue_67 : decode cX12_isDue 67 = .ok (.aload_n 0, 1) := by decide +kernel
theorem dX12_isDue_68 : decode cX12_isDue 68 = .ok (.getfield 101, 3) := by decide +kernel
theorem dX12_isDue_71 : decode cX12_isDue 71 = .ok (.iload_n 3, 1) := by decide +kernel
theorem dX12_isDue_72 : decode cX12_isDue 72 = .ok (.iaload, 1) := by decide +kernel
theorem dX12_isDue_73 : decode cX12_isDue 73 = .ok (.bipush 8, 2) := by decide +kernel
theorem dX12_isDue_75 : decode cX12_isDue 75 = .ok (.irem, 1) := by decide +kernel
theorem dX12_isDue_76 : decode cX12_isDue 76 = .ok (.if_icmp .ne 7, 3) := by decide +kernel
theorem dX12_isDue_79 : decode cX12_isDue 79 = .ok (.iconst 1, 1) := by decide +kernel
theorem dX12_isDue_80 : decode cX12_isDue 80 = .ok (.goto 4, 3) := by decide +kernel
theorem dX12_isDue_83 : decode cX12_isDue 83 = .ok (.iconst 0, 1) := by decide +kernel
theorem dX12_isDue_84 : decode cX12_isDue 84 = .ok (.istore_n 2, 1) := by decide +kernel
theorem dX12_isDue_85 : decode cX12_isDue 85 = .ok (.iinc 3 1, 3) := by decide +kernel
theorem dX12_isDue_88 : decode cX12_isDue 88 = .ok (.goto (-84), 3) := by decide +kernel
theorem dX12_isDue_91 : decode cX12_isDue 91 = .ok (.iload_n 2, 1) := by decide +kernel
theorem dX12_isDue_92 : decode cX12_isDue 92 = .ok (.ireturn, 1) := by decide +kernel
theorem dX12_tryAll_0 : decode cX12_tryAll 0 = .ok (.iconst 0, 1) := by decide +kernel
theorem dX12_tryAll_1 : decode cX12_tryAll 1 = .ok (.istore_n 2, 1) := by decide +kernel
theorem dX12_tryAll_2 : decode cX12_tryAll 2 = .ok (.iload_n 2, 1) := by decide +kernel
theorem dX12_tryAll_3 : decode cX12_tryAll 3 = .ok (.iconst 3, 1) := by decide +kernel
theorem dX12_tryAll_4 : decode cX12_tryAll 4 = .ok (.if_icmp .ge 16, 3) := by decide +kernel
theorem dX12_tryAll_7 : decode cX12_tryAll 7 = .ok (.aload_n 0, 1) := by decide +kernel
theorem dX12_tryAll_8 : decode cX12_tryAll 8 = .ok (.getfield 107, 3) := by decide +kernel
theorem dX12_tryAll_11 : decode cX12_tryAll 11 = .ok (.iload_n 2, 1) := by decide +kernel
theorem dX12_tryAll_12 : decode cX12_tryAll 12 = .ok (.iconst 0, 1) := by decide +kernel
theorem dX12_tryAll_13 : decode cX12_tryAll 13 = .ok (.iastore, 1) := by decide +kernel
theorem dX12_tryAll_14 : decode cX12_tryAll 14 = .ok (.iinc 2 1, 3) := by decide +kernel
theorem dX12_tryAll_17 : decode cX12_tryAll 17 = .ok (.goto (-15), 3) := by decide +kernel
theorem dX12_tryAll_20 : decode cX12_tryAll 20 = .ok (.iconst 0, 1) := by decide +kernel
theorem dX12_tryAll_21 : decode cX12_tryAll 21 = .ok (.istore_n 2, 1) := by decide +kernel
theorem dX12_tryAll_22 : decode cX12_tryAll 22 = .ok (.iconst 1, 1) := by decide +kernel
theorem dX12_tryAll_23 : decode cX12_tryAll 23 = .ok (.istore_n 3, 1) := by decide +kernel
theorem dX12_tryAll_24 : decode cX12_tryAll 24 = .ok (.iload_n 3, 1) := by decide +kernel
theorem dX12_tryAll_25 : decode cX12_tryAll 25 = .ok (.ifCond .eq 112, 3) := by decide +kernel
theorem dX12_tryAll_28 : decode cX12_tryAll 28 = .ok (.iload_n 2, 1) := by decide +kernel
theorem dX12_tryAll_29 : decode cX12_tryAll 29 = .ok (.istore 4, 2) := by decide +kernel
theorem dX12_tryAll_31 : decode cX12_tryAll 31 = .ok (.iload 4, 2) := by decide +kernel
theorem dX12_tryAll_33 : decode cX12_tryAll 33 = .ok (.iload_n 1, 1) := by decide +kernel
theorem dX12_tryAll_34 : decode cX12_tryAll 34 = .ok (.if_icmp .ge 25, 3) := by decide +kernel
theorem dX12_tryAll_37 : decode cX12_tryAll 37 = .ok (.aload_n 0, 1) := by decide +kernel
theorem dX12_tryAll_38 : decode cX12_tryAll 38 = .ok (.iload 4, 2) := by decide +kernel
theorem dX12_tryAll_40 : decode cX12_tryAll 40 = .ok (.aload_n 0, 1) := by decide +kernel
theorem dX12_tryAll_41 : decode cX12_tryAll 41 = .ok (.getfield 107, 3) := by decide +kernel
theorem dX12_tryAll_44 : decode cX12_tryAll 44 = .ok (.iload 4, 2) := by decide +kernel
theorem dX12_tryAll_46 : decode cX12_tryAll 46 = .ok (.iaload, 1) := by decide +kernel
theorem dX12_tryAll_47 : decode cX12_tryAll 47 = .ok (.invokestatic 401, 3) := by decide +kernel
theorem dX12_tryAll_50 : decode cX12_tryAll 50 = .ok (.invokevirtual 404, 3) := by decide +kernel
theorem dX12_tryAll_53 : decode cX12_tryAll 53 = .ok (.iinc 4 1, 3) := by decide +kernel
theorem dX12_tryAll_56 : decode cX12_tryAll 56 = .ok (.goto (-25), 3) := by decide +kernel
theorem dX12_tryAll_59 : decode cX12_tryAll 59 = .ok (.aload_n 0, 1) := by decide +kernel
theorem dX12_tryAll_60 : decode cX12_tryAll 60 = .ok (.iload_n 1, 1) := by decide +kernel
theorem dX12_tryAll_61 : decode cX12_tryAll 61 = .ok (.invokevirtual 407, 3) := by decide +kernel
theorem dX12_tryAll_64 : decode cX12_tryAll 64 = .ok (.ifCond .eq 5, 3) := by decide +kernel
theorem dX12_tryAll_67 : decode cX12_tryAll 67 = .ok (.iconst 1, 1) := by decide +kernel
theorem dX12_tryAll_68 : decode cX12_tryAll 68 = .ok (.ireturn, 1) := by decide +kernel
theorem dX12_tryAll_69 : decode cX12_tryAll 69 = .ok (.iload_n 1, 1) := by decide +kernel
theorem dX12_tryAll_70 : decode cX12_tryAll 70 = .ok (.iconst 1, 1) := by decide +kernel
theorem dX12_tryAll_71 : decode cX12_tryAll 71 = .ok (.isub, 1) := by decide +kernel
theorem dX12_tryAll_72 : decode cX12_tryAll 72 = .ok (.istore 4, 2) := by decide +kernel
theorem dX12_tryAll_74 : decode cX12_tryAll 74 = .ok (.iload 4, 2) := by decide +kernel
theorem dX12_tryAll_76 : decode cX12_tryAll 76 = .ok (.ifCond .lt 29, 3) := by decide +kernel
theorem dX12_tryAll_79 : decode cX12_tryAll 79 = .ok (.aload_n 0, 1) := by decide +kernel
theorem dX12_tryAll_80 : decode cX12_tryAll 80 = .ok (.getfield 107, 3) := by decide +kernel
theorem dX12_tryAll_83 : decode cX12_tryAll 83 = .ok (.iload 4, 2) := by decide +kernel
theorem dX12_tryAll_85 : decode cX12_tryAll 85 = .ok (.iaload, 1) := by decide +kernel
theorem dX12_tryAll_86 : decode cX12_tryAll 86 = .ok (.bipush 51, 2) := by decide +kernel
theorem dX12_tryAll_88 : decode cX12_tryAll 88 = .ok (.if_icmp .ne 17, 3) := by decide +kernel
theorem dX12_tryAll_91 : decode cX12_tryAll 91 = .ok (.aload_n 0, 1) := by decide +kernel
theorem dX12_tryAll_92 : decode cX12_tryAll 92 = .ok (.getfield 107, 3) := by decide +kernel
theorem dX12_tryAll_95 : decode cX12_tryAll 95 = .ok (.iload 4, 2) := by decide +kernel
theorem dX12_tryAll_97 : decode cX12_tryAll 97 = .ok (.iconst 0, 1) := by decide +kernel
theorem dX12_tryAll_98 : decode cX12_tryAll 98 = .ok (.iastore, 1) := by decide +kernel
theorem dX12_tryAll_99 : decode cX12_tryAll 99 = .ok (.iinc 4 (-1), 3) := by decide +kernel
theorem dX12_tryAll_102 : decode cX12_tryAll 102 = .ok (.goto (-28), 3) := by decide +kernel
theorem dX12_tryAll_105 : decode cX12_tryAll 105 = .ok (.iload 4, 2) := by decide +kernel
theorem dX12_tryAll_107 : decode cX12_tryAll 107 = .ok (.ifCond .lt 7, 3) := by decide +kernel
theorem dX12_tryAll_110 : decode cX12_tryAll 110 = .ok (.iconst 1, 1) := by decide +kernel
theorem dX12_tryAll_111 : decode cX12_tryAll 111 = .ok (.goto 4, 3) := by decide +kernel
theorem dX12_tryAll_114 : decode cX12_tryAll 114 = .ok (.iconst 0, 1) := by decide +kernel
theorem dX12_tryAll_115 : decode cX12_tryAll 115 = .ok (.istore_n 3, 1) := by decide +kernel
theorem dX12_tryAll_116 : decode cX12_tryAll 116 = .ok (.iload_n 3, 1) := by decide +kernel
theorem dX12_tryAll_117 : decode cX12_tryAll 117 = .ok (.ifCond .eq 17, 3) := by decide +kernel
theorem dX12_tryAll_120 : decode cX12_tryAll 120 = .ok (.aload_n 0, 1) := by decide +kernel
theorem dX12_tryAll_121 : decode cX12_tryAll 121 = .ok (.getfield 107, 3) := by decide +kernel
theorem dX12_tryAll_124 : decode cX12_tryAll 124 = .ok (.iload 4, 2) := by decide +kernel
theorem dX12_tryAll_126 : decode cX12_tryAll 126 = .ok (.dup2, 1) := by decide +kernel
theorem dX12_tryAll_127 : decode cX12_tryAll 127 = .ok (.iaload, 1) := by decide +kernel
theorem dX12_tryAll_128 : decode cX12_tryAll 128 = .ok (.iconst 1, 1) := by decide +kernel
theorem dX12_tryAll_129 : decode cX12_tryAll 129 = .ok (.iadd, 1) := by decide +kernel
theorem dX12_tryAll_130 : decode cX12_tryAll 130 = .ok (.iastore, 1) := by decide +kernel
theorem dX12_tryAll_131 : decode cX12_tryAll 131 = .ok (.iload 4, 2) := by decide +kernel
theorem dX12_tryAll_133 : decode cX12_tryAll 133 = .ok (.istore_n 2, 1) := by decide +kernel
theorem dX12_tryAll_134 : decode cX12_tryAll 134 = .ok (.goto (-110), 3) := by decide +kernel
theorem dX12_tryAll_137 : decode cX12_tryAll 137 = .ok (.iconst 0, 1) := by decide +kernel
theorem dX12_tryAll_138 : decode cX12_tryAll 138 = .ok (.ireturn, 1) := by decide +kernel
theorem dX12_shortest_0 : decode cX12_shortest 0 = .ok (.aload_n 0, 1) := by decide +kernel
theorem dX12_shortest_1 : decode cX12_shortest 1 = .ok (.invokevirtual 410, 3) := by decide +kernel
theorem dX12_shortest_4 : decode cX12_shortest 4 = .ok (.ifCond .ne 6, 3) := by decide +kernel
theorem dX12_shortest_7 : decode cX12_shortest 7 = .ok (.bipush (-3), 2) := by decide +kernel
theorem dX12_shortest_9 : decode cX12_shortest 9 = .ok (.ireturn, 1) := by decide +kernel
theorem dX12_shortest_10 : decode cX12_shortest 10 = .ok (.iconst 0, 1) := by decide +kernel
theorem dX12_shortest_11 : decode cX12_shortest 11 = .ok (.istore_n 2, 1) := by decide +kernel
theorem dX12_shortest_12 : decode cX12_shortest 12 = .ok (.iload_n 2, 1) := by decide +kernel
theorem dX12_shortest_13 : decode cX12_shortest 13 = .ok (.bipush 64, 2) := by decide +kernel
theorem dX12_shortest_15 : decode cX12_shortest 15 = .ok (.if_icmp .ge 61, 3) := by decide +kernel
theorem dX12_shortest_18 : decode cX12_shortest 18 = .ok (.aload_n 0, 1) := by decide +kernel
theorem dX12_shortest_19 : decode cX12_shortest 19 = .ok (.iload_n 2, 1) := by decide +kernel
theorem dX12_shortest_20 : decode cX12_shortest 20 = .ok (.bipush 8, 2) := by decide +kernel
theorem dX12_shortest_22 : decode cX12_shortest 22 = .ok (.idiv, 1) := by decide +kernel
theorem dX12_shortest_23 : decode cX12_shortest 23 = .ok (.sipush 512, 3) := by decide +kernel
theorem dX12_shortest_26 : decode cX12_shortest 26 = .ok (.imul, 1) := by decide +kernel
theorem dX12_shortest_27 : decode cX12_shortest 27 = .ok (.iload_n 2, 1) := by decide +kernel
theorem dX12_shortest_28 : decode cX12_shortest 28 = .ok (.bipush 8, 2) := by decide +kernel
theorem dX12_shortest_30 : decode cX12_shortest 30 = .ok (.irem, 1) := by decide +kernel
theorem dX12_shortest_31 : decode cX12_shortest 31 = .ok (.bipush 64, 2) := by decide +kernel
theorem dX12_shortest_33 : decode cX12_shortest 33 = .ok (.imul, 1) := by decide +kernel
theorem dX12_shortest_34 : decode cX12_shortest 34 = .ok (.iadd, 1) := by decide +kernel
theorem dX12_shortest_35 : decode cX12_shortest 35 = .ok (.aload_n 0, 1) := by decide +kernel
theorem dX12_shortest_36 : decode cX12_shortest 36 = .ok (.getfield 181, 3) := by decide +kernel
theorem dX12_shortest_39 : decode cX12_shortest 39 = .ok (.invokevirtual 208, 3) := by decide +kernel
theorem dX12_shortest_42 : decode cX12_shortest 42 = .ok (.istore_n 3, 1) := by decide +kernel
theorem dX12_shortest_43 : decode cX12_shortest 43 = .ok (.aload_n 0, 1) := by decide +kernel
theorem dX12_shortest_44 : decode cX12_shortest 44 = .ok (.getfield 101, 3) := by decide +kernel
theorem dX12_shortest_47 : decode cX12_shortest 47 = .ok (.iload_n 2, 1) := by decide +kernel
theorem dX12_shortest_48 : decode cX12_shortest 48 = .ok (.bipush 8, 2) := by decide +kernel
theorem dX12_shortest_50 : decode cX12_shortest 50 = .ok (.iconst 0, 1) := by decide +kernel
theorem dX12_shortest_51 : decode cX12_shortest 51 = .ok (.iload_n 3, 1) := by decide +kernel
theorem dX12_shortest_52 : decode cX12_shortest 52 = .ok (.invokestatic 192, 3) := by decide +kernel
theorem dX12_shortest_55 : decode cX12_shortest 55 = .ok (.imul, 1) := by decide +kernel
theorem dX12_shortest_56 : decode cX12_shortest 56 = .ok (.iconst 1, 1) := by decide +kernel
theorem dX12_shortest_57 : decode cX12_shortest 57 = .ok (.iload_n 3, 1) := by decide +kernel
theorem dX12_shortest_58 : decode cX12_shortest 58 = .ok (.invokestatic 192, 3) := by decide +kernel
theorem dX12_shortest_61 : decode cX12_shortest 61 = .ok (.iadd, 1) := by decide +kernel
theorem dX12_shortest_62 : decode cX12_shortest 62 = .ok (.iastore, 1) := by decide +kernel
theorem dX12_shortest_63 : decode cX12_shortest 63 = .ok (.aload_n 0, 1) := by decide +kernel
theorem dX12_shortest_64 : decode cX12_shortest 64 = .ok (.getfield 104, 3) := by decide +kernel
theorem dX12_shortest_67 : decode cX12_shortest 67 = .ok (.iload_n 2, 1) := by decide +kernel
theorem dX12_shortest_68 : decode cX12_shortest 68 = .ok (.iload_n 2, 1) := by decide +kernel
theorem dX12_shortest_69 : decode cX12_shortest 69 = .ok (.iastore, 1) := by decide +kernel
theorem dX12_shortest_70 : decode cX12_shortest 70 = .ok (.iinc 2 1, 3) := by decide +kernel
theorem dX12_shortest_73 : decode cX12_shortest 73 = .ok (.goto (-61), 3) := by decide +kernel
theorem dX12_shortest_76 : decode cX12_shortest 76 = .ok (.iconst 0, 1) := by decide +kernel
theorem dX12_shortest_77 : decode cX12_shortest 77 = .ok (.istore_n 2, 1) := by decide +kernel
theorem dX12_shortest_78 : decode cX12_shortest 78 = .ok (.iload_n 2, 1) := by decide +kernel
theorem dX12_shortest_79 : decode cX12_shortest 79 = .ok (.iconst 4, 1) := by decide +kernel
theorem dX12_shortest_80 : decode cX12_shortest 80 = .ok (.if_icmp .ge 17, 3) := by decide +kernel
theorem dX12_shortest_83 : decode cX12_shortest 83 = .ok (.aload_n 0, 1) := by decide +kernel
theorem dX12_shortest_84 : decode cX12_shortest 84 = .ok (.iload_n 2, 1) := by decide +kernel
theorem dX12_shortest_85 : decode cX12_shortest 85 = .ok (.invokevirtual 413, 3) := by decide +kernel
theorem dX12_shortest_88 : decode cX12_shortest 88 = .ok (.ifCond .ne 9, 3) := by decide +kernel
theorem dX12_shortest_91 : decode cX12_shortest 91 = .ok (.iinc 2 1, 3) := by decide +kernel
theorem dX12_shortest_94 : decode cX12_shortest 94 = .ok (.goto (-16), 3) := by decide +kernel
theorem dX12_shortest_97 : decode cX12_shortest 97 = .ok (.iload_n 2, 1) := by decide +kernel
theorem dX12_shortest_98 : decode cX12_shortest 98 = .ok (.iconst 4, 1) := by decide +kernel
theorem dX12_shortest_99 : decode cX12_shortest 99 = .ok (.if_icmp .ne 6, 3) := by decide +kernel
theorem dX12_shortest_102 : decode cX12_shortest 102 = .ok (.bipush (-6), 2) := by decide +kernel
theorem dX12_shortest_104 : decode cX12_shortest 104 = .ok (.ireturn, 1) := by decide +kernel
theorem dX12_shortest_105 : decode cX12_shortest 105 = .ok (.iload_n 1, 1) := by decide +kernel
theorem dX12_shortest_106 : decode cX12_shortest 106 = .ok (.iconst (-1), 1) := by decide +kernel
theorem dX12_shortest_107 : decode cX12_shortest 107 = .ok (.if_icmp .ne 7, 3) := by decide +kernel
theorem dX12_shortest_110 : decode cX12_shortest 110 = .ok (.iload_n 2, 1) := by decide +kernel
theorem dX12_shortest_111 : decode cX12_shortest 111 = .ok (.goto 30, 3) := by decide +kernel
theorem dX12_shortest_114 : decode cX12_shortest 114 = .ok (.iload_n 1, 1) := by decide +kernel
theorem dX12_shortest_115 : decode cX12_shortest 115 = .ok (.i2l, 1) := by decide +kernel
theorem dX12_shortest_116 : decode cX12_shortest 116 = .ok (.lconst 0, 1) := by decide +kernel
theorem dX12_shortest_117 : decode cX12_shortest 117 = .ok (.iload_n 2, 1) := by decide +kernel
theorem dX12_shortest_118 : decode cX12_shortest 118 = .ok (.iconst 1, 1) := by decide +kernel
theorem dX12_shortest_119 : decode cX12_shortest 119 = .ok (.isub, 1) := by decide +kernel
theorem dX12_shortest_120 : decode cX12_shortest 120 = .ok (.i2l, 1) := by decide +kernel
theorem dX12_shortest_121 : decode cX12_shortest 121 = .ok (.invokestatic 125, 3) := by decide +kernel
theorem dX12_shortest_124 : decode cX12_shortest 124 = .ok (.ifCond .eq 15, 3) := by decide +kernel
theorem dX12_shortest_127 : decode cX12_shortest 127 = .ok (.aload_n 0, 1) := by decide +kernel
theorem dX12_shortest_128 : decode cX12_shortest 128 = .ok (.getfield 107, 3) := by decide +kernel
theorem dX12_shortest_131 : decode cX12_shortest 131 = .ok (.iload_n 1, 1) := by decide +kernel
theorem dX12_shortest_132 : decode cX12_shortest 132 = .ok (.iaload, 1) := by decide +kernel
theorem dX12_shortest_133 : decode cX12_shortest 133 = .ok (.invokestatic 401, 3) := by decide +kernel
theorem dX12_shortest_136 : decode cX12_shortest 136 = .ok (.goto 5, 3) := by decide +kernel
theorem dX12_shortest_139 : decode cX12_shortest 139 = .ok (.bipush (-6), 2) := by decide +kernel
theorem dX12_shortest_141 : decode cX12_shortest 141 = .ok (.ireturn, 1) := by decide +kernel
theorem dX12_pass_0 : decode cX12_pass 0 = .ok (.aload_n 0, 1) := by decide +kernel
theorem dX12_pass_1 : decode cX12_pass 1 = .ok (.getfield 416, 3) := by decide +kernel
theorem dX12_pass_4 : decode cX12_pass 4 = .ok (.ifCond .eq 7, 3) := by decide +kernel
theorem dX12_pass_7 : decode cX12_pass 7 = .ok (.iload_n 1, 1) := by decide +kernel
theorem dX12_pass_8 : decode cX12_pass 8 = .ok (.goto 12, 3) := by decide +kernel
theorem dX12_pass_11 : decode cX12_pass 11 = .ok (.aload_n 0, 1) := by decide +kernel
theorem dX12_pass_12 : decode cX12_pass 12 = .ok (.getfield 110, 3) := by decide +kernel
theorem dX12_pass_15 : decode cX12_pass 15 = .ok (.aload_n 0, 1) := by decide +kernel
theorem dX12_pass_16 : decode cX12_pass 16 = .ok (.getfield 419, 3) := by decide +kernel
theorem dX12_pass_19 : decode cX12_pass 19 = .ok (.iaload, 1) := by decide +kernel
theorem dX12_pass_20 : decode cX12_pass 20 = .ok (.istore_n 2, 1) := by decide +kernel
theorem dX12_pass_21 : decode cX12_pass 21 = .ok (.aload_n 0, 1) := by decide +kernel
theorem dX12_pass_22 : decode cX12_pass 22 = .ok (.getfield 110, 3) := by decide +kernel
theorem dX12_pass_25 : decode cX12_pass 25 = .ok (.aload_n 0, 1) := by decide +kernel
theorem dX12_pass_26 : decode cX12_pass 26 = .ok (.getfield 419, 3) := by decide +kernel
theorem dX12_pass_29 : decode cX12_pass 29 = .ok (.iload_n 2, 1) := by decide +kernel
theorem dX12_pass_30 : decode cX12_pass 30 = .ok (.iastore, 1) := by decide +kernel
theorem dX12_pass_31 : decode cX12_pass 31 = .ok (.aload_n 0, 1) := by decide +kernel
theorem dX12_pass_32 : decode cX12_pass 32 = .ok (.dup, 1) := by decide +kernel
theorem dX12_pass_33 : decode cX12_pass 33 = .ok (.getfield 419, 3) := by decide +kernel
theorem dX12_pass_36 : decode cX12_pass 36 = .ok (.iconst 1, 1) := by decide +kernel
theorem dX12_pass_37 : decode cX12_pass 37 = .ok (.iadd, 1) := by decide +kernel
theorem dX12_pass_38 : decode cX12_pass 38 = .ok (.putfield 419, 3) := by decide +kernel
theorem dX12_pass_41 : decode cX12_pass 41 = .ok (.iload_n 2, 1) := by decide +kernel
theorem dX12_pass_42 : decode cX12_pass 42 = .ok (.ireturn, 1) := by decide +kernel
theorem dX12_passAll_0 : decode cX12_passAll 0 = .ok (.aload_n 0, 1) := by decide +kernel
theorem dX12_passAll_1 : decode cX12_passAll 1 = .ok (.aload_n 0, 1) := by decide +kernel
theorem dX12_passAll_2 : decode cX12_passAll 2 = .ok (.aload_n 0, 1) := by decide +kernel
theorem dX12_passAll_3 : decode cX12_passAll 3 = .ok (.getfield 181, 3) := by decide +kernel
theorem dX12_passAll_6 : decode cX12_passAll 6 = .ok (.invokevirtual 422, 3) := by decide +kernel
theorem dX12_passAll_9 : decode cX12_passAll 9 = .ok (.putfield 181, 3) := by decide +kernel
theorem dX12_passAll_12 : decode cX12_passAll 12 = .ok (.aload_n 0, 1) := by decide +kernel
theorem dX12_passAll_13 : decode cX12_passAll 13 = .ok (.aload_n 0, 1) := by decide +kernel
theorem dX12_passAll_14 : decode cX12_passAll 14 = .ok (.aload_n 0, 1) := by decide +kernel
theorem dX12_passAll_15 : decode cX12_passAll 15 = .ok (.getfield 211, 3) := by decide +kernel
theorem dX12_passAll_18 : decode cX12_passAll 18 = .ok (.invokevirtual 422, 3) := by decide +kernel
theorem dX12_passAll_21 : decode cX12_passAll 21 = .ok (.putfield 211, 3) := by decide +kernel
theorem dX12_passAll_24 : decode cX12_passAll 24 = .ok (.aload_n 0, 1) := by decide +kernel
theorem dX12_passAll_25 : decode cX12_passAll 25 = .ok (.aload_n 0, 1) := by decide +kernel
theorem dX12_passAll_26 : decode cX12_passAll 26 = .ok (.aload_n 0, 1) := by decide +kernel
theorem dX12_passAll_27 : decode cX12_passAll 27 = .ok (.getfield 116, 3) := by decide +kernel
theorem dX12_passAll_30 : decode cX12_passAll 30 = .ok (.invokevirtual 422, 3) := by decide +kernel
theorem dX12_passAll_33 : decode cX12_passAll 33 = .ok (.putfield 116, 3) := by decide +kernel
theorem dX12_passAll_36 : decode cX12_passAll 36 = .ok (.aload_n 0, 1) := by decide +kernel
theorem dX12_passAll_37 : decode cX12_passAll 37 = .ok (.aload_n 0, 1) := by decide +kernel
theorem dX12_passAll_38 : decode cX12_passAll 38 = .ok (.aload_n 0, 1) := by decide +kernel
theorem dX12_passAll_39 : decode cX12_passAll 39 = .ok (.getfield 120, 3) := by decide +kernel
theorem dX12_passAll_42 : decode cX12_passAll 42 = .ok (.invokevirtual 422, 3) := by decide +kernel
theorem dX12_passAll_45 : decode cX12_passAll 45 = .ok (.putfield 120, 3) := by decide +kernel
theorem dX12_passAll_48 : decode cX12_passAll 48 = .ok (.aload_n 0, 1) := by decide +kernel
theorem dX12_passAll_49 : decode cX12_passAll 49 = .ok (.aload_n 0, 1) := by decide +kernel
theorem dX12_passAll_50 : decode cX12_passAll 50 = .ok (.aload_n 0, 1) := by decide +kernel
theorem dX12_passAll_51 : decode cX12_passAll 51 = .ok (.getfield 348, 3) := by decide +kernel
theorem dX12_passAll_54 : decode cX12_passAll 54 = .ok (.invokevirtual 422, 3) := by decide +kernel
theorem dX12_passAll_57 : decode cX12_passAll 57 = .ok (.putfield 348, 3) := by decide +kernel
theorem dX12_passAll_60 : decode cX12_passAll 60 = .ok (.iconst 0, 1) := by decide +kernel
theorem dX12_passAll_61 : decode cX12_passAll 61 = .ok (.istore_n 1, 1) := by decide +kernel
theorem dX12_passAll_62 : decode cX12_passAll 62 = .ok (.iload_n 1, 1) := by decide +kernel
theorem dX12_passAll_63 : decode cX12_passAll 63 = .ok (.iconst 4, 1) := by decide +kernel
theorem dX12_passAll_64 : decode cX12_passAll 64 = .ok (.if_icmp .ge 57, 3) := by decide +kernel
theorem dX12_passAll_67 : decode cX12_passAll 67 = .ok (.aload_n 0, 1) := by decide +kernel
theorem dX12_passAll_68 : decode cX12_passAll 68 = .ok (.getfield 28, 3) := by decide +kernel
theorem dX12_passAll_71 : decode cX12_passAll 71 = .ok (.iload_n 1, 1) := by decide +kernel
theorem dX12_passAll_72 : decode cX12_passAll 72 = .ok (.aload_n 0, 1) := by decide +kernel
theorem dX12_passAll_73 : decode cX12_passAll 73 = .ok (.aload_n 0, 1) := by decide +kernel
theorem dX12_passAll_74 : decode cX12_passAll 74 = .ok (.getfield 28, 3) := by decide +kernel
theorem dX12_passAll_77 : decode cX12_passAll 77 = .ok (.iload_n 1, 1) := by decide +kernel
theorem dX12_passAll_78 : decode cX12_passAll 78 = .ok (.iaload, 1) := by decide +kernel
theorem dX12_passAll_79 : decode cX12_passAll 79 = .ok (.invokevirtual 422, 3) := by decide +kernel
theorem dX12_passAll_82 : decode cX12_passAll 82 = .ok (.iastore, 1) := by decide +kernel
theorem dX12_passAll_83 : decode cX12_passAll 83 = .ok (.aload_n 0, 1) := by decide +kernel
theorem dX12_passAll_84 : decode cX12_passAll 84 = .ok (.getfield 92, 3) := by decide +kernel
theorem dX12_passAll_87 : decode cX12_passAll 87 = .ok (.iload_n 1, 1) := by decide +kernel
theorem dX12_passAll_88 : decode cX12_passAll 88 = .ok (.aload_n 0, 1) := by decide +kernel
theorem dX12_passAll_89 : decode cX12_passAll 89 = .ok (.aload_n 0, 1) := by decide +kernel
theorem dX12_passAll_90 : decode cX12_passAll 90 = .ok (.getfield 92, 3) := by decide +kernel
theorem dX12_passAll_93 : decode cX12_passAll 93 = .ok (.iload_n 1, 1) := by decide +kernel
theorem dX12_passAll_94 : decode cX12_passAll 94 = .ok (.iaload, 1) := by decide +kernel
theorem dX12_passAll_95 : decode cX12_passAll 95 = .ok (.invokevirtual 422, 3) := by decide +kernel
theorem dX12_passAll_98 : decode cX12_passAll 98 = .ok (.iastore, 1) := by decide +kernel
theorem dX12_passAll_99 : decode cX12_passAll 99 = .ok (.aload_n 0, 1) := by decide +kernel
theorem dX12_passAll_100 : decode cX12_passAll 100 = .ok (.getfield 95, 3) := by decide +kernel
theorem dX12_passAll_103 : decode cX12_passAll 103 = .ok (.iload_n 1, 1) := by decide +kernel
theorem dX12_passAll_104 : decode cX12_passAll 104 = .ok (.aload_n 0, 1) := by decide +kernel
theorem dX12_passAll_105 : decode cX12_passAll 105 = .ok (.aload_n 0, 1) := by decide +kernel
theorem dX12_passAll_106 : decode cX12_passAll 106 = .ok (.getfield 95, 3) := by decide +kernel
theorem dX12_passAll_109 : decode cX12_passAll 109 = .ok (.iload_n 1, 1) := by decide +kernel
theorem dX12_passAll_110 : decode cX12_passAll 110 = .ok (.iaload, 1) := by decide +kernel
theorem dX12_passAll_111 : decode cX12_passAll 111 = .ok (.invokevirtual 422, 3) := by decide +kernel
theorem dX12_passAll_114 : decode cX12_passAll 114 = .ok (.iastore, 1) := by decide +kernel
theorem dX12_passAll_115 : decode cX12_passAll 115 = .ok (.iinc 1 1, 3) := by decide +kernel
theorem dX12_passAll_118 : decode cX12_passAll 118 = .ok (.goto (-56), 3) := by decide +kernel
theorem dX12_passAll_121 : decode cX12_passAll 121 = .ok (.iconst 0, 1) := by decide +kernel
theorem dX12_passAll_122 : decode cX12_passAll 122 = .ok (.istore_n 1, 1) := by decide +kernel
theorem dX12_passAll_123 : decode cX12_passAll 123 = .ok (.iload_n 1, 1) := by decide +kernel
theorem dX12_passAll_124 : decode cX12_passAll 124 = .ok (.bipush 12, 2) := by decide +kernel
theorem dX12_passAll_126 : decode cX12_passAll 126 = .ok (.if_icmp .ge 73, 3) := by decide +kernel
theorem dX12_passAll_129 : decode cX12_passAll 129 = .ok (.aload_n 0, 1) := by decide +kernel
theorem dX12_passAll_130 : decode cX12_passAll 130 = .ok (.getfield 13, 3) := by decide +kernel
theorem dX12_passAll_133 : decode cX12_passAll 133 = .ok (.iload_n 1, 1) := by decide +kernel
theorem dX12_passAll_134 : decode cX12_passAll 134 = .ok (.aload_n 0, 1) := by decide +kernel
theorem dX12_passAll_135 : decode cX12_passAll 135 = .ok (.aload_n 0, 1) := by decide +kernel
theorem dX12_passAll_136 : decode cX12_passAll 136 = .ok (.getfield 13, 3) := by decide +kernel
theorem dX12_passAll_139 : decode cX12_passAll 139 = .ok (.iload_n 1, 1) := by decide +kernel
theorem dX12_passAll_140 : decode cX12_passAll 140 = .ok (.iaload, 1) := by decide +kernel
theorem dX12_passAll_141 : decode cX12_passAll 141 = .ok (.invokevirtual 422, 3) := by decide +kernel
theorem dX12_passAll_144 : decode cX12_passAll 144 = .ok (.iastore, 1) := by decide +kernel
theorem dX12_passAll_145 : decode cX12_passAll 145 = .ok (.aload_n 0, 1) := by decide +kernel
theorem dX12_passAll_146 : decode cX12_passAll 146 = .ok (.getfield 16, 3) := by decide +kernel
theorem dX12_passAll_149 : decode cX12_passAll 149 = .ok (.iload_n 1, 1) := by decide +kernel
theorem dX12_passAll_150 : decode cX12_passAll 150 = .ok (.aload_n 0, 1) := by decide +kernel
theorem dX12_passAll_151 : decode cX12_passAll 151 = .ok (.aload_n 0, 1) := by decide +kernel
theorem dX12_passAll_152 : decode cX12_passAll 152 = .ok (.getfield 16, 3) := by decide +kernel
theorem dX12_passAll_155 : decode cX12_passAll 155 = .ok (.iload_n 1, 1) := by decide +kernel
theorem dX12_passAll_156 : decode cX12_passAll 156 = .ok (.iaload, 1) := by decide +kernel
theorem dX12_passAll_157 : decode cX12_passAll 157 = .ok (.invokevirtual 422, 3) := by decide +kernel
theorem dX12_passAll_160 : decode cX12_passAll 160 = .ok (.iastore, 1) := by decide +kernel
theorem dX12_passAll_161 : decode cX12_passAll 161 = .ok (.aload_n 0, 1) := by decide +kernel
theorem dX12_passAll_162 : decode cX12_passAll 162 = .ok (.getfield 19, 3) := by decide +kernel
theorem dX12_passAll_165 : decode cX12_passAll 165 = .ok (.iload_n 1, 1) := by decide +kernel
theorem dX12_passAll_166 : decode cX12_passAll 166 = .ok (.aload_n 0, 1) := by decide +kernel
theorem dX12_passAll_167 : decode cX12_passAll 167 = .ok (.aload_n 0, 1) := by decide +kernel
theorem dX12_passAll_168 : decode cX12_passAll 168 = .ok (.getfield 19, 3) := by decide +kernel
theorem dX12_passAll_171 : decode cX12_passAll 171 = .ok (.iload_n 1, 1) := by decide +kernel
theorem dX12_passAll_172 : decode cX12_passAll 172 = .ok (.iaload, 1) := by decide +kernel
theorem dX12_passAll_173 : decode cX12_passAll 173 = .ok (.invokevirtual 422, 3) := by decide +kernel
theorem dX12_passAll_176 : decode cX12_passAll 176 = .ok (.iastore, 1) := by decide +kernel
theorem dX12_passAll_177 : decode cX12_passAll 177 = .ok (.aload_n 0, 1) := by decide +kernel
theorem dX12_passAll_178 : decode cX12_passAll 178 = .ok (.getfield 22, 3) := by decide +kernel
theorem dX12_passAll_181 : decode cX12_passAll 181 = .ok (.iload_n 1, 1) := by decide +kernel
theorem dX12_passAll_182 : decode cX12_passAll 182 = .ok (.aload_n 0, 1) := by decide +kernel
theorem dX12_passAll_183 : decode cX12_passAll 183 = .ok (.aload_n 0, 1) := by decide +kernel
theorem dX12_passAll_184 : decode cX12_passAll 184 = .ok (.getfield 22, 3) := by decide +kernel
theorem dX12_passAll_187 : decode cX12_passAll 187 = .ok (.iload_n 1, 1) := by decide +kernel
theorem dX12_passAll_188 : decode cX12_passAll 188 = .ok (.iaload, 1) := by decide +kernel
theorem dX12_passAll_189 : decode cX12_passAll 189 = .ok (.invokevirtual 422, 3) := by decide +kernel
theorem dX12_passAll_192 : decode cX12_passAll 192 = .ok (.iastore, 1) := by decide +kernel
theorem dX12_passAll_193 : decode cX12_passAll 193 = .ok (.iinc 1 1, 3) := by decide +kernel
theorem dX12_passAll_196 : decode cX12_passAll 196 = .ok (.goto (-73), 3) := by decide +kernel
theorem dX12_passAll_199 : decode cX12_passAll 199 = .ok (.iconst 0, 1) := by decide +kernel
theorem dX12_passAll_200 : decode cX12_passAll 200 = .ok (.istore_n 1, 1) := by decide +kernel
theorem dX12_passAll_201 : decode cX12_passAll 201 = .ok (.iload_n 1, 1) := by decide +kernel
theorem dX12_passAll_202 : decode cX12_passAll 202 = .ok (.bipush 48, 2) := by decide +kernel
theorem dX12_passAll_204 : decode cX12_passAll 204 = .ok (.if_icmp .ge 25, 3) := by decide +kernel
theorem dX12_passAll_207 : decode cX12_passAll 207 = .ok (.aload_n 0, 1) := by decide +kernel
theorem dX12_passAll_208 : decode cX12_passAll 208 = .ok (.getfield 25, 3) := by decide +kernel
theorem dX12_passAll_211 : decode cX12_passAll 211 = .ok (.iload_n 1, 1) := by decide +kernel
theorem dX12_passAll_212 : decode cX12_passAll 212 = .ok (.aload_n 0, 1) := by decide +kernel
theorem dX12_passAll_213 : decode cX12_passAll 213 = .ok (.aload_n 0, 1) := by decide +kernel
theorem dX12_passAll_214 : decode cX12_passAll 214 = .ok (.getfield 25, 3) := by decide +kernel
theorem dX12_passAll_217 : decode cX12_passAll 217 = .ok (.iload_n 1, 1) := by decide +kernel
theorem dX12_passAll_218 : decode cX12_passAll 218 = .ok (.iaload, 1) := by decide +kernel
theorem dX12_passAll_219 : decode cX12_passAll 219 = .ok (.invokevirtual 422, 3) := by decide +kernel
theorem dX12_passAll_222 : decode cX12_passAll 222 = .ok (.iastore, 1) := by decide +kernel
theorem dX12_passAll_223 : decode cX12_passAll 223 = .ok (.iinc 1 1, 3) := by decide +kernel
theorem dX12_passAll_226 : decode cX12_passAll 226 = .ok (.goto (-25), 3) := by decide +kernel
theorem dX12_passAll_229 : decode cX12_passAll 229 = .ok (.iconst 0, 1) := by decide +kernel
theorem dX12_passAll_230 : decode cX12_passAll 230 = .ok (.istore_n 1, 1) := by decide +kernel
theorem dX12_passAll_231 : decode cX12_passAll 231 = .ok (.iload_n 1, 1) := by decide +kernel
theorem dX12_passAll_232 : decode cX12_passAll 232 = .ok (.bipush 96, 2) := by decide +kernel
theorem dX12_passAll_234 : decode cX12_passAll 234 = .ok (.if_icmp .ge 25, 3) := by decide +kernel
theorem dX12_passAll_237 : decode cX12_passAll 237 = .ok (.aload_n 0, 1) := by decide +kernel
theorem dX12_passAll_238 : decode cX12_passAll 238 = .ok (.getfield 89, 3) := by decide +kernel
theorem dX12_passAll_241 : decode cX12_passAll 241 = .ok (.iload_n 1, 1) := by decide +kernel
theorem dX12_passAll_242 : decode cX12_passAll 242 = .ok (.aload_n 0, 1) := by decide +kernel
theorem dX12_passAll_243 : decode cX12_passAll 243 = .ok (.aload_n 0, 1) := by decide +kernel
theorem dX12_passAll_244 : decode cX12_passAll 244 = .ok (.getfield 89, 3) := by decide +kernel
theorem dX12_passAll_247 : decode cX12_passAll 247 = .ok (.iload_n 1, 1) := by decide +kernel
theorem dX12_passAll_248 : decode cX12_passAll 248 = .ok (.iaload, 1) := by decide +kernel
theorem dX12_passAll_249 : decode cX12_passAll 249 = .ok (.invokevirtual 422, 3) := by decide +kernel
theorem dX12_passAll_252 : decode cX12_passAll 252 = .ok (.iastore, 1) := by decide +kernel
theorem dX12_passAll_253 : decode cX12_passAll 253 = .ok (.iinc 1 1, 3) := by decide +kernel
theorem dX12_passAll_256 : decode cX12_passAll 256 = .ok (.goto (-25), 3) := by decide +kernel
theorem dX12_passAll_259 : decode cX12_passAll 259 = .ok (.return_, 1) := by decide +kernel
theorem dX12_image_0 : decode cX12_image 0 = .ok (.iload_n 1, 1) := by decide +kernel
theorem dX12_image_1 : decode cX12_image 1 = .ok (.i2l, 1) := by decide +kernel
theorem dX12_image_2 : decode cX12_image 2 = .ok (.lconst 0, 1) := by decide +kernel
theorem dX12_image_3 : decode cX12_image 3 = .ok (.lconst 1, 1) := by decide +kernel
theorem dX12_image_4 : decode cX12_image 4 = .ok (.invokestatic 125, 3) := by decide +kernel
theorem dX12_image_7 : decode cX12_image 7 = .ok (.ifCond .ne 6, 3) := by decide +kernel
theorem dX12_image_10 : decode cX12_image 10 = .ok (.bipush (-2), 2) := by decide +kernel
theorem dX12_image_12 : decode cX12_image 12 = .ok (.ireturn, 1) := by decide +kernel
theorem dX12_image_13 : decode cX12_image 13 = .ok (.aload_n 0, 1) := by decide +kernel
theorem dX12_image_14 : decode cX12_image 14 = .ok (.sipush 300, 3) := by decide +kernel
theorem dX12_image_17 : decode cX12_image 17 = .ok (.iload_n 1, 1) := by decide +kernel
theorem dX12_image_18 : decode cX12_image 18 = .ok (.imul, 1) := by decide +kernel
theorem dX12_image_19 : decode cX12_image 19 = .ok (.putfield 419, 3) := by decide +kernel
theorem dX12_image_22 : decode cX12_image 22 = .ok (.aload_n 0, 1) := by decide +kernel
theorem dX12_image_23 : decode cX12_image 23 = .ok (.iconst 1, 1) := by decide +kernel
theorem dX12_image_24 : decode cX12_image 24 = .ok (.putfield 416, 3) := by decide +kernel
theorem dX12_image_27 : decode cX12_image 27 = .ok (.aload_n 0, 1) := by decide +kernel
theorem dX12_image_28 : decode cX12_image 28 = .ok (.invokevirtual 425, 3) := by decide +kernel
theorem dX12_image_31 : decode cX12_image 31 = .ok (.aload_n 0, 1) := by decide +kernel
theorem dX12_image_32 : decode cX12_image 32 = .ok (.getfield 113, 3) := by decide +kernel
theorem dX12_image_35 : decode cX12_image 35 = .ok (.iload_n 1, 1) := by decide +kernel
theorem dX12_image_36 : decode cX12_image 36 = .ok (.iconst 1, 1) := by decide +kernel
theorem dX12_image_37 : decode cX12_image 37 = .ok (.bastore, 1) := by decide +kernel
theorem dX12_image_38 : decode cX12_image 38 = .ok (.iconst 1, 1) := by decide +kernel
theorem dX12_image_39 : decode cX12_image 39 = .ok (.ireturn, 1) := by decide +kernel
theorem dX12_restore_0 : decode cX12_restore 0 = .ok (.iload_n 1, 1) := by decide +kernel
theorem dX12_restore_1 : decode cX12_restore 1 = .ok (.i2l, 1) := by decide +kernel
theorem dX12_restore_2 : decode cX12_restore 2 = .ok (.lconst 0, 1) := by decide +kernel
theorem dX12_restore_3 : decode cX12_restore 3 = .ok (.lconst 1, 1) := by decide +kernel
theorem dX12_restore_4 : decode cX12_restore 4 = .ok (.invokestatic 125, 3) := by decide +kernel
theorem dX12_restore_7 : decode cX12_restore 7 = .ok (.ifCond .ne 6, 3) := by decide +kernel
theorem dX12_restore_10 : decode cX12_restore 10 = .ok (.bipush (-2), 2) := by decide +kernel
theorem dX12_restore_12 : decode cX12_restore 12 = .ok (.ireturn, 1) := by decide +kernel
theorem dX12_restore_13 : decode cX12_restore 13 = .ok (.aload_n 0, 1) := by decide +kernel
theorem dX12_restore_14 : decode cX12_restore 14 = .ok (.getfield 113, 3) := by decide +kernel
theorem dX12_restore_17 : decode cX12_restore 17 = .ok (.iload_n 1, 1) := by decide +kernel
theorem dX12_restore_18 : decode cX12_restore 18 = .ok (.baload, 1) := by decide +kernel
theorem dX12_restore_19 : decode cX12_restore 19 = .ok (.ifCond .ne 6, 3) := by decide +kernel
theorem dX12_restore_22 : decode cX12_restore 22 = .ok (.bipush (-3), 2) := by decide +kernel
theorem dX12_restore_24 : decode cX12_restore 24 = .ok (.ireturn, 1) := by decide +kernel
theorem dX12_restore_25 : decode cX12_restore 25 = .ok (.aload_n 0, 1) := by decide +kernel
theorem dX12_restore_26 : decode cX12_restore 26 = .ok (.sipush 300, 3) := by decide +kernel
theorem dX12_restore_29 : decode cX12_restore 29 = .ok (.iload_n 1, 1) := by decide +kernel
theorem dX12_restore_30 : decode cX12_restore 30 = .ok (.imul, 1) := by decide +kernel
theorem dX12_restore_31 : decode cX12_restore 31 = .ok (.putfield 419, 3) := by decide +kernel
theorem dX12_restore_34 : decode cX12_restore 34 = .ok (.aload_n 0, 1) := by decide +kernel
theorem dX12_restore_35 : decode cX12_restore 35 = .ok (.iconst 0, 1) := by decide +kernel
theorem dX12_restore_36 : decode cX12_restore 36 = .ok (.putfield 416, 3) := by decide +kernel
theorem dX12_restore_39 : decode cX12_restore 39 = .ok (.aload_n 0, 1) := by decide +kernel
theorem dX12_restore_40 : decode cX12_restore 40 = .ok (.invokevirtual 425, 3) := by decide +kernel
theorem dX12_restore_43 : decode cX12_restore 43 = .ok (.iconst 1, 1) := by decide +kernel
theorem dX12_restore_44 : decode cX12_restore 44 = .ok (.ireturn, 1) := by decide +kernel
theorem dX12_told_0 : decode cX12_told 0 = .ok (.iload_n 1, 1) := by decide +kernel
theorem dX12_told_1 : decode cX12_told 1 = .ok (.tableswitch 85 0 9 #[55, 60, 65, 70, 75, 85, 85, 85, 85, 80], 55) := by decide +kernel
theorem dX12_told_56 : decode cX12_told 56 = .ok (.aload_n 0, 1) := by decide +kernel
theorem dX12_told_57 : decode cX12_told 57 = .ok (.getfield 181, 3) := by decide +kernel
theorem dX12_told_60 : decode cX12_told 60 = .ok (.ireturn, 1) := by decide +kernel
theorem dX12_told_61 : decode cX12_told 61 = .ok (.aload_n 0, 1) := by decide +kernel
theorem dX12_told_62 : decode cX12_told 62 = .ok (.getfield 133, 3) := by decide +kernel
theorem dX12_told_65 : decode cX12_told 65 = .ok (.ireturn, 1) := by decide +kernel
theorem dX12_told_66 : decode cX12_told 66 = .ok (.aload_n 0, 1) := by decide +kernel
theorem dX12_told_67 : decode cX12_told 67 = .ok (.getfield 116, 3) := by decide +kernel
theorem dX12_told_70 : decode cX12_told 70 = .ok (.ireturn, 1) := by decide +kernel
theorem dX12_told_71 : decode cX12_told 71 = .ok (.aload_n 0, 1) := by decide +kernel
theorem dX12_told_72 : decode cX12_told 72 = .ok (.getfield 348, 3) := by decide +kernel
theorem dX12_told_75 : decode cX12_told 75 = .ok (.ireturn, 1) := by decide +kernel
theorem dX12_told_76 : decode cX12_told 76 = .ok (.aload_n 0, 1) := by decide +kernel
theorem dX12_told_77 : decode cX12_told 77 = .ok (.getfield 120, 3) := by decide +kernel
theorem dX12_told_80 : decode cX12_told 80 = .ok (.ireturn, 1) := by decide +kernel
theorem dX12_told_81 : decode cX12_told 81 = .ok (.aload_n 0, 1) := by decide +kernel
theorem dX12_told_82 : decode cX12_told 82 = .ok (.getfield 211, 3) := by decide +kernel
theorem dX12_told_85 : decode cX12_told 85 = .ok (.ireturn, 1) := by decide +kernel
theorem dX12_told_86 : decode cX12_told 86 = .ok (.iload_n 1, 1) := by decide +kernel
theorem dX12_told_87 : decode cX12_told 87 = .ok (.i2l, 1) := by decide +kernel
theorem dX12_told_88 : decode cX12_told 88 = .ok (.ldc2_w 298, 3) := by decide +kernel
theorem dX12_told_91 : decode cX12_told 91 = .ok (.ldc2_w 343, 3) := by decide +kernel
theorem dX12_told_94 : decode cX12_told 94 = .ok (.invokestatic 125, 3) := by decide +kernel
theorem dX12_told_97 : decode cX12_told 97 = .ok (.ifCond .eq 14, 3) := by decide +kernel
theorem dX12_told_100 : decode cX12_told 100 = .ok (.aload_n 0, 1) := by decide +kernel
theorem dX12_told_101 : decode cX12_told 101 = .ok (.getfield 28, 3) := by decide +kernel
theorem dX12_told_104 : decode cX12_told 104 = .ok (.iload_n 1, 1) := by decide +kernel
theorem dX12_told_105 : decode cX12_told 105 = .ok (.iconst 5, 1) := by decide +kernel
theorem dX12_told_106 : decode cX12_told 106 = .ok (.isub, 1) := by decide +kernel
theorem dX12_told_107 : decode cX12_told 107 = .ok (.iaload, 1) := by decide +kernel
theorem dX12_told_108 : decode cX12_told 108 = .ok (.goto 5, 3) := by decide +kernel
theorem dX12_told_111 : decode cX12_told 111 = .ok (.bipush (-2), 2) := by decide +kernel
theorem dX12_told_113 : decode cX12_told 113 = .ok (.ireturn, 1) := by decide +kernel
theorem dJ6_bitCount_0f7a4_0 : decode cJ6_bitCount_0f7a4 0 = .ok (.iload_n 0, 1) := by decide +kernel
theorem dJ6_bitCount_0f7a4_1 : decode cJ6_bitCount_0f7a4 1 = .ok (.iload_n 0, 1) := by decide +kernel
theorem dJ6_bitCount_0f7a4_2 : decode cJ6_bitCount_0f7a4 2 = .ok (.iconst 1, 1) := by decide +kernel
theorem dJ6_bitCount_0f7a4_3 : decode cJ6_bitCount_0f7a4 3 = .ok (.iushr, 1) := by decide +kernel
theorem dJ6_bitCount_0f7a4_4 : decode cJ6_bitCount_0f7a4 4 = .ok (.ldc_w 265, 3) := by decide +kernel
theorem dJ6_bitCount_0f7a4_7 : decode cJ6_bitCount_0f7a4 7 = .ok (.iand, 1) := by decide +kernel
theorem dJ6_bitCount_0f7a4_8 : decode cJ6_bitCount_0f7a4 8 = .ok (.isub, 1) := by decide +kernel
theorem dJ6_bitCount_0f7a4_9 : decode cJ6_bitCount_0f7a4 9 = .ok (.istore_n 0, 1) := by decide +kernel
theorem dJ6_bitCount_0f7a4_10 : decode cJ6_bitCount_0f7a4 10 = .ok (.iload_n 0, 1) := by decide +kernel
theorem dJ6_bitCount_0f7a4_11 : decode cJ6_bitCount_0f7a4 11 = .ok (.ldc_w 266, 3) := by decide +kernel
theorem dJ6_bitCount_0f7a4_14 : decode cJ6_bitCount_0f7a4 14 = .ok (.iand, 1) := by decide +kernel
theorem dJ6_bitCount_0f7a4_15 : decode cJ6_bitCount_0f7a4 15 = .ok (.iload_n 0, 1) := by decide +kernel
theorem dJ6_bitCount_0f7a4_16 : decode cJ6_bitCount_0f7a4 16 = .ok (.iconst 2, 1) := by decide +kernel
theorem dJ6_bitCount_0f7a4_17 : decode cJ6_bitCount_0f7a4 17 = .ok (.iushr, 1) := by decide +kernel
theorem dJ6_bitCount_0f7a4_18 : decode cJ6_bitCount_0f7a4 18 = .ok (.ldc_w 266, 3) := by decide +kernel
theorem dJ6_bitCount_0f7a4_21 : decode cJ6_bitCount_0f7a4 21 = .ok (.iand, 1) := by decide +kernel
theorem dJ6_bitCount_0f7a4_22 : decode cJ6_bitCount_0f7a4 22 = .ok (.iadd, 1) := by decide +kernel
theorem dJ6_bitCount_0f7a4_23 : decode cJ6_bitCount_0f7a4 23 = .ok (.istore_n 0, 1) := by decide +kernel
theorem dJ6_bitCount_0f7a4_24 : decode cJ6_bitCount_0f7a4 24 = .ok (.iload_n 0, 1) := by decide +kernel
theorem dJ6_bitCount_0f7a4_25 : decode cJ6_bitCount_0f7a4 25 = .ok (.iload_n 0, 1) := by decide +kernel
theorem dJ6_bitCount_0f7a4_26 : decode cJ6_bitCount_0f7a4 26 = .ok (.iconst 4, 1) := by decide +kernel
theorem dJ6_bitCount_0f7a4_27 : decode cJ6_bitCount_0f7a4 27 = .ok (.iushr, 1) := by decide +kernel
theorem dJ6_bitCount_0f7a4_28 : decode cJ6_bitCount_0f7a4 28 = .ok (.iadd, 1) := by decide +kernel
theorem dJ6_bitCount_0f7a4_29 : decode cJ6_bitCount_0f7a4 29 = .ok (.ldc_w 267, 3) := by decide +kernel
theorem dJ6_bitCount_0f7a4_32 : decode cJ6_bitCount_0f7a4 32 = .ok (.iand, 1) := by decide +kernel
theorem dJ6_bitCount_0f7a4_33 : decode cJ6_bitCount_0f7a4 33 = .ok (.istore_n 0, 1) := by decide +kernel
theorem dJ6_bitCount_0f7a4_34 : decode cJ6_bitCount_0f7a4 34 = .ok (.iload_n 0, 1) := by decide +kernel
theorem dJ6_bitCount_0f7a4_35 : decode cJ6_bitCount_0f7a4 35 = .ok (.iload_n 0, 1) := by decide +kernel
theorem dJ6_bitCount_0f7a4_36 : decode cJ6_bitCount_0f7a4 36 = .ok (.bipush 8, 2) := by decide +kernel
theorem dJ6_bitCount_0f7a4_38 : decode cJ6_bitCount_0f7a4 38 = .ok (.iushr, 1) := by decide +kernel
theorem dJ6_bitCount_0f7a4_39 : decode cJ6_bitCount_0f7a4 39 = .ok (.iadd, 1) := by decide +kernel
theorem dJ6_bitCount_0f7a4_40 : decode cJ6_bitCount_0f7a4 40 = .ok (.istore_n 0, 1) := by decide +kernel
theorem dJ6_bitCount_0f7a4_41 : decode cJ6_bitCount_0f7a4 41 = .ok (.iload_n 0, 1) := by decide +kernel
theorem dJ6_bitCount_0f7a4_42 : decode cJ6_bitCount_0f7a4 42 = .ok (.iload_n 0, 1) := by decide +kernel
theorem dJ6_bitCount_0f7a4_43 : decode cJ6_bitCount_0f7a4 43 = .ok (.bipush 16, 2) := by decide +kernel
theorem dJ6_bitCount_0f7a4_45 : decode cJ6_bitCount_0f7a4 45 = .ok (.iushr, 1) := by decide +kernel
theorem dJ6_bitCount_0f7a4_46 : decode cJ6_bitCount_0f7a4 46 = .ok (.iadd, 1) := by decide +kernel
theorem dJ6_bitCount_0f7a4_47 : decode cJ6_bitCount_0f7a4 47 = .ok (.istore_n 0, 1) := by decide +kernel
theorem dJ6_bitCount_0f7a4_48 : decode cJ6_bitCount_0f7a4 48 = .ok (.iload_n 0, 1) := by decide +kernel
theorem dJ6_bitCount_0f7a4_49 : decode cJ6_bitCount_0f7a4 49 = .ok (.bipush 63, 2) := by decide +kernel
theorem dJ6_bitCount_0f7a4_51 : decode cJ6_bitCount_0f7a4 51 = .ok (.iand, 1) := by decide +kernel
theorem dJ6_bitCount_0f7a4_52 : decode cJ6_bitCount_0f7a4 52 = .ok (.ireturn, 1) := by decide +kernel
theorem dJ9_max_7cf53_0 : decode cJ9_max_7cf53 0 = .ok (.iload_n 0, 1) := by decide +kernel
theorem dJ9_max_7cf53_1 : decode cJ9_max_7cf53 1 = .ok (.iload_n 1, 1) := by decide +kernel
theorem dJ9_max_7cf53_2 : decode cJ9_max_7cf53 2 = .ok (.if_icmp .lt 7, 3) := by decide +kernel
theorem dJ9_max_7cf53_5 : decode cJ9_max_7cf53 5 = .ok (.iload_n 0, 1) := by decide +kernel
theorem dJ9_max_7cf53_6 : decode cJ9_max_7cf53 6 = .ok (.goto 4, 3) := by decide +kernel
theorem dJ9_max_7cf53_9 : decode cJ9_max_7cf53 9 = .ok (.iload_n 1, 1) := by decide +kernel
theorem dJ9_max_7cf53_10 : decode cJ9_max_7cf53 10 = .ok (.ireturn, 1) := by decide +kernel
theorem dJ9_min_7cf53_0 : decode cJ9_min_7cf53 0 = .ok (.iload_n 0, 1) := by decide +kernel
theorem dJ9_min_7cf53_1 : decode cJ9_min_7cf53 1 = .ok (.iload_n 1, 1) := by decide +kernel
theorem dJ9_min_7cf53_2 : decode cJ9_min_7cf53 2 = .ok (.if_icmp .gt 7, 3) := by decide +kernel
theorem dJ9_min_7cf53_5 : decode cJ9_min_7cf53 5 = .ok (.iload_n 0, 1) := by decide +kernel
theorem dJ9_min_7cf53_6 : decode cJ9_min_7cf53 6 = .ok (.goto 4, 3) := by decide +kernel
theorem dJ9_min_7cf53_9 : decode cJ9_min_7cf53 9 = .ok (.iload_n 1, 1) := by decide +kernel
theorem dJ9_min_7cf53_10 : decode cJ9_min_7cf53 10 = .ok (.ireturn, 1) := by decide +kernel
theorem dJ7_fill_53178_0 : decode cJ7_fill_53178 0 = .ok (.iconst 0, 1) := by decide +kernel
theorem dJ7_fill_53178_1 : decode cJ7_fill_53178 1 = .ok (.istore_n 2, 1) := by decide +kernel
theorem dJ7_fill_53178_2 : decode cJ7_fill_53178 2 = .ok (.aload_n 0, 1) := by decide +kernel
theorem dJ7_fill_53178_3 : decode cJ7_fill_53178 3 = .ok (.arraylength, 1) := by decide +kernel
theorem dJ7_fill_53178_4 : decode cJ7_fill_53178 4 = .ok (.istore_n 3, 1) := by decide +kernel
theorem dJ7_fill_53178_5 : decode cJ7_fill_53178 5 = .ok (.iload_n 2, 1) := by decide +kernel
theorem dJ7_fill_53178_6 : decode cJ7_fill_53178 6 = .ok (.iload_n 3, 1) := by decide +kernel
theorem dJ7_fill_53178_7 : decode cJ7_fill_53178 7 = .ok (.if_icmp .ge 13, 3) := by decide +kernel
theorem dJ7_fill_53178_10 : decode cJ7_fill_53178 10 = .ok (.aload_n 0, 1) := by decide +kernel
theorem dJ7_fill_53178_11 : decode cJ7_fill_53178 11 = .ok (.iload_n 2, 1) := by decide +kernel
theorem dJ7_fill_53178_12 : decode cJ7_fill_53178 12 = .ok (.iload_n 1, 1) := by decide +kernel
theorem dJ7_fill_53178_13 : decode cJ7_fill_53178 13 = .ok (.iastore, 1) := by decide +kernel
theorem dJ7_fill_53178_14 : decode cJ7_fill_53178 14 = .ok (.iinc 2 1, 3) := by decide +kernel
theorem dJ7_fill_53178_17 : decode cJ7_fill_53178 17 = .ok (.goto (-12), 3) := by decide +kernel
theorem dJ7_fill_53178_20 : decode cJ7_fill_53178 20 = .ok (.return_, 1) := by decide +kernel
theorem dL_law_0 : decode cL_law 0 = .ok (.new 7, 3) := by decide +kernel
theorem dL_law_3 : decode cL_law 3 = .ok (.dup, 1) := by decide +kernel
theorem dL_law_4 : decode cL_law 4 = .ok (.invokespecial 9, 3) := by decide +kernel
theorem dL_law_7 : decode cL_law 7 = .ok (.astore_n 1, 1) := by decide +kernel
theorem dL_law_8 : decode cL_law 8 = .ok (.new 10, 3) := by decide +kernel
theorem dL_law_11 : decode cL_law 11 = .ok (.dup, 1) := by decide +kernel
theorem dL_law_12 : decode cL_law 12 = .ok (.invokespecial 12, 3) := by decide +kernel
theorem dL_law_15 : decode cL_law 15 = .ok (.astore_n 2, 1) := by decide +kernel
theorem dL_law_16 : decode cL_law 16 = .ok (.iconst 0, 1) := by decide +kernel
theorem dL_law_17 : decode cL_law 17 = .ok (.istore_n 3, 1) := by decide +kernel
theorem dL_law_18 : decode cL_law 18 = .ok (.iload_n 3, 1) := by decide +kernel
theorem dL_law_19 : decode cL_law 19 = .ok (.aload_n 0, 1) := by decide +kernel
theorem dL_law_20 : decode cL_law 20 = .ok (.arraylength, 1) := by decide +kernel
theorem dL_law_21 : decode cL_law 21 = .ok (.iconst 3, 1) := by decide +kernel
theorem dL_law_22 : decode cL_law 22 = .ok (.isub, 1) := by decide +kernel
theorem dL_law_23 : decode cL_law 23 = .ok (.if_icmp .gt 953, 3) := by decide +kernel
theorem dL_law_26 : decode cL_law 26 = .ok (.aload_n 0, 1) := by decide +kernel
theorem dL_law_27 : decode cL_law 27 = .ok (.iload_n 3, 1) := by decide +kernel
theorem dL_law_28 : decode cL_law 28 = .ok (.iaload, 1) := by decide +kernel
theorem dL_law_29 : decode cL_law 29 = .ok (.bipush 63, 2) := by decide +kernel
theorem dL_law_31 : decode cL_law 31 = .ok (.iand, 1) := by decide +kernel
theorem dL_law_32 : decode cL_law 32 = .ok (.tableswitch 938 0 35 #[160, 183, 196, 219, 232, 255, 288, 321, 334, 347, 370, 393, 426, 459, 482, 495, 518, 531, 564, 587, 600, 623, 656, 679, 692, 715, 738, 751, 764, 787, 810, 833, 846, 869, 892, 915], 160) := by decide +kernel
theorem dL_law_192 : decode cL_law 192 = .ok (.aload_n 1, 1) := by decide +kernel
theorem dL_law_193 : decode cL_law 193 = .ok (.aload_n 0, 1) := by decide +kernel
theorem dL_law_194 : decode cL_law 194 = .ok (.iload_n 3, 1) := by decide +kernel
theorem dL_law_195 : decode cL_law 195 = .ok (.iconst 1, 1) := by decide +kernel
theorem dL_law_196 : decode cL_law 196 = .ok (.iadd, 1) := by decide +kernel
theorem dL_law_197 : decode cL_law 197 = .ok (.iaload, 1) := by decide +kernel
theorem dL_law_198 : decode cL_law 198 = .ok (.invokevirtual 13, 3) := by decide +kernel
theorem dL_law_201 : decode cL_law 201 = .ok (.aload_n 2, 1) := by decide +kernel
theorem dL_law_202 : decode cL_law 202 = .ok (.aload_n 0, 1) := by decide +kernel
theorem dL_law_203 : decode cL_law 203 = .ok (.iload_n 3, 1) := by decide +kernel
theorem dL_law_204 : decode cL_law 204 = .ok (.iconst 1, 1) := by decide +kernel
theorem dL_law_205 : decode cL_law 205 = .ok (.iadd, 1) := by decide +kernel
theorem dL_law_206 : decode cL_law 206 = .ok (.iaload, 1) := by decide +kernel
theorem dL_law_207 : decode cL_law 207 = .ok (.invokevirtual 17, 3) := by decide +kernel
theorem dL_law_210 : decode cL_law 210 = .ok (.if_icmp .eq 760, 3) := by decide +kernel
theorem dL_law_213 : decode cL_law 213 = .ok (.iconst 0, 1) := by decide +kernel
theorem dL_law_214 : decode cL_law 214 = .ok (.ireturn, 1) := by decide +kernel
theorem dL_law_215 : decode cL_law 215 = .ok (.aload_n 1, 1) := by decide +kernel
theorem dL_law_216 : decode cL_law 216 = .ok (.invokevirtual 18, 3) := by decide +kernel
theorem dL_law_219 : decode cL_law 219 = .ok (.aload_n 2, 1) := by decide +kernel
theorem dL_law_220 : decode cL_law 220 = .ok (.invokevirtual 22, 3) := by decide +kernel
theorem dL_law_223 : decode cL_law 223 = .ok (.if_icmp .eq 747, 3) := by decide +kernel
theorem dL_law_226 : decode cL_law 226 = .ok (.iconst 0, 1) := by decide +kernel
theorem dL_law_227 : decode cL_law 227 = .ok (.ireturn, 1) := by decide +kernel
theorem dL_law_228 : decode cL_law 228 = .ok (.aload_n 1, 1) := by decide +kernel
theorem dL_law_229 : decode cL_law 229 = .ok (.aload_n 0, 1) := by decide +kernel
theorem dL_law_230 : decode cL_law 230 = .ok (.iload_n 3, 1) := by decide +kernel
theorem dL_law_231 : decode cL_law 231 = .ok (.iconst 1, 1) := by decide +kernel
theorem dL_law_232 : decode cL_law 232 = .ok (.iadd, 1) := by decide +kernel
theorem dL_law_233 : decode cL_law 233 = .ok (.iaload, 1) := by decide +kernel
theorem dL_law_234 : decode cL_law 234 = .ok (.invokevirtual 23, 3) := by decide +kernel
theorem dL_law_237 : decode cL_law 237 = .ok (.aload_n 2, 1) := by decide +kernel
theorem dL_law_238 : decode cL_law 238 = .ok (.aload_n 0, 1) := by decide +kernel
theorem dL_law_239 : decode cL_law 239 = .ok (.iload_n 3, 1) := by decide +kernel
theorem dL_law_240 : decode cL_law 240 = .ok (.iconst 1, 1) := by decide +kernel
theorem dL_law_241 : decode cL_law 241 = .ok (.iadd, 1) := by decide +kernel
theorem dL_law_242 : decode cL_law 242 = .ok (.iaload, 1) := by decide +kernel
theorem dL_law_243 : decode cL_law 243 = .ok (.invokevirtual 26, 3) := by decide +kernel
theorem dL_law_246 : decode cL_law 246 = .ok (.if_icmp .eq 724, 3) := by decide +kernel
theorem dL_law_249 : decode cL_law 249 = .ok (.iconst 0, 1) := by decide +kernel
theorem dL_law_250 : decode cL_law 250 = .ok (.ireturn, 1) := by decide +kernel
theorem dL_law_251 : decode cL_law 251 = .ok (.aload_n 1, 1) := by decide +kernel
theorem dL_law_252 : decode cL_law 252 = .ok (.invokevirtual 27, 3) := by decide +kernel
theorem dL_law_255 : decode cL_law 255 = .ok (.aload_n 2, 1) := by decide +kernel
theorem dL_law_256 : decode cL_law 256 = .ok (.invokevirtual 30, 3) := by decide +kernel
theorem dL_law_259 : decode cL_law 259 = .ok (.if_icmp .eq 711, 3) := by decide +kernel
theorem dL_law_262 : decode cL_law 262 = .ok (.iconst 0, 1) := by decide +kernel
theorem dL_law_263 : decode cL_law 263 = .ok (.ireturn, 1) := by decide +kernel
theorem dL_law_264 : decode cL_law 264 = .ok (.aload_n 1, 1) := by decide +kernel
theorem dL_law_265 : decode cL_law 265 = .ok (.aload_n 0, 1) := by decide +kernel
theorem dL_law_266 : decode cL_law 266 = .ok (.iload_n 3, 1) := by decide +kernel
theorem dL_law_267 : decode cL_law 267 = .ok (.iconst 1, 1) := by decide +kernel
theorem dL_law_268 : decode cL_law 268 = .ok (.iadd, 1) := by decide +kernel
theorem dL_law_269 : decode cL_law 269 = .ok (.iaload, 1) := by decide +kernel
theorem dL_law_270 : decode cL_law 270 = .ok (.invokevirtual 31, 3) := by decide +kernel
theorem dL_law_273 : decode cL_law 273 = .ok (.aload_n 2, 1) := by decide +kernel
theorem dL_law_274 : decode cL_law 274 = .ok (.aload_n 0, 1) := by decide +kernel
theorem dL_law_275 : decode cL_law 275 = .ok (.iload_n 3, 1) := by decide +kernel
theorem dL_law_276 : decode cL_law 276 = .ok (.iconst 1, 1) := by decide +kernel
theorem dL_law_277 : decode cL_law 277 = .ok (.iadd, 1) := by decide +kernel
theorem dL_law_278 : decode cL_law 278 = .ok (.iaload, 1) := by decide +kernel
theorem dL_law_279 : decode cL_law 279 = .ok (.invokevirtual 34, 3) := by decide +kernel
theorem dL_law_282 : decode cL_law 282 = .ok (.if_icmp .eq 688, 3) := by decide +kernel
theorem dL_law_285 : decode cL_law 285 = .ok (.iconst 0, 1) := by decide +kernel
theorem dL_law_286 : decode cL_law 286 = .ok (.ireturn, 1) := by decide +kernel
theorem dL_law_287 : decode cL_law 287 = .ok (.aload_n 1, 1) := by decide +kernel
theorem dL_law_288 : decode cL_law 288 = .ok (.aload_n 0, 1) := by decide +kernel
theorem dL_law_289 : decode cL_law 289 = .ok (.iload_n 3, 1) := by decide +kernel
theorem dL_law_290 : decode cL_law 290 = .ok (.iconst 1, 1) := by decide +kernel
theorem dL_law_291 : decode cL_law 291 = .ok (.iadd, 1) := by decide +kernel
theorem dL_law_292 : decode cL_law 292 = .ok (.iaload, 1) := by decide +kernel
theorem dL_law_293 : decode cL_law 293 = .ok (.aload_n 0, 1) := by decide +kernel
theorem dL_law_294 : decode cL_law 294 = .ok (.iload_n 3, 1) := by decide +kernel
theorem dL_law_295 : decode cL_law 295 = .ok (.iconst 2, 1) := by decide +kernel
theorem dL_law_296 : decode cL_law 296 = .ok (.iadd, 1) := by decide +kernel
theorem dL_law_297 : decode cL_law 297 = .ok (.iaload, 1) := by decide +kernel
theorem dL_law_298 : decode cL_law 298 = .ok (.invokevirtual 35, 3) := by decide +kernel
theorem dL_law_301 : decode cL_law 301 = .ok (.aload_n 2, 1) := by decide +kernel
theorem dL_law_302 : decode cL_law 302 = .ok (.aload_n 0, 1) := by decide +kernel
theorem dL_law_303 : decode cL_law 303 = .ok (.iload_n 3, 1) := by decide +kernel
theorem dL_law_304 : decode cL_law 304 = .ok (.iconst 1, 1) := by decide +kernel
theorem dL_law_305 : decode cL_law 305 = .ok (.iadd, 1) := by decide +kernel
theorem dL_law_306 : decode cL_law 306 = .ok (.iaload, 1) := by decide +kernel
theorem dL_law_307 : decode cL_law 307 = .ok (.aload_n 0, 1) := by decide +kernel
theorem dL_law_308 : decode cL_law 308 = .ok (.iload_n 3, 1) := by decide +kernel
theorem dL_law_309 : decode cL_law 309 = .ok (.iconst 2, 1) := by decide +kernel
theorem dL_law_310 : decode cL_law 310 = .ok (.iadd, 1) := by decide +kernel
theorem dL_law_311 : decode cL_law 311 = .ok (.iaload, 1) := by decide +kernel
theorem dL_law_312 : decode cL_law 312 = .ok (.invokevirtual 39, 3) := by decide +kernel
theorem dL_law_315 : decode cL_law 315 = .ok (.if_icmp .eq 655, 3) := by decide +kernel
theorem dL_law_318 : decode cL_law 318 = .ok (.iconst 0, 1) := by decide +kernel
theorem dL_law_319 : decode cL_law 319 = .ok (.ireturn, 1) := by decide +kernel
theorem dL_law_320 : decode cL_law 320 = .ok (.aload_n 1, 1) := by decide +kernel
theorem dL_law_321 : decode cL_law 321 = .ok (.aload_n 0, 1) := by decide +kernel
theorem dL_law_322 : decode cL_law 322 = .ok (.iload_n 3, 1) := by decide +kernel
theorem dL_law_323 : decode cL_law 323 = .ok (.iconst 1, 1) := by decide +kernel
theorem dL_law_324 : decode cL_law 324 = .ok (.iadd, 1) := by decide +kernel
theorem dL_law_325 : decode cL_law 325 = .ok (.iaload, 1) := by decide +kernel
theorem dL_law_326 : decode cL_law 326 = .ok (.aload_n 0, 1) := by decide +kernel
theorem dL_law_327 : decode cL_law 327 = .ok (.iload_n 3, 1) := by decide +kernel
theorem dL_law_328 : decode cL_law 328 = .ok (.iconst 2, 1) := by decide +kernel
theorem dL_law_329 : decode cL_law 329 = .ok (.iadd, 1) := by decide +kernel
theorem dL_law_330 : decode cL_law 330 = .ok (.iaload, 1) := by decide +kernel
theorem dL_law_331 : decode cL_law 331 = .ok (.invokevirtual 40, 3) := by decide +kernel
theorem dL_law_334 : decode cL_law 334 = .ok (.aload_n 2, 1) := by decide +kernel
theorem dL_law_335 : decode cL_law 335 = .ok (.aload_n 0, 1) := by decide +kernel
theorem dL_law_336 : decode cL_law 336 = .ok (.iload_n 3, 1) := by decide +kernel
theorem dL_law_337 : decode cL_law 337 = .ok (.iconst 1, 1) := by decide +kernel
theorem dL_law_338 : decode cL_law 338 = .ok (.iadd, 1) := by decide +kernel
theorem dL_law_339 : decode cL_law 339 = .ok (.iaload, 1) := by decide +kernel
theorem dL_law_340 : decode cL_law 340 = .ok (.aload_n 0, 1) := by decide +kernel
theorem dL_law_341 : decode cL_law 341 = .ok (.iload_n 3, 1) := by decide +kernel
theorem dL_law_342 : decode cL_law 342 = .ok (.iconst 2, 1) := by decide +kernel
theorem dL_law_343 : decode cL_law 343 = .ok (.iadd, 1) := by decide +kernel
theorem dL_law_344 : decode cL_law 344 = .ok (.iaload, 1) := by decide +kernel
theorem dL_law_345 : decode cL_law 345 = .ok (.invokevirtual 43, 3) := by decide +kernel
theorem dL_law_348 : decode cL_law 348 = .ok (.if_icmp .eq 622, 3) := by decide +kernel
theorem dL_law_351 : decode cL_law 351 = .ok (.iconst 0, 1) := by decide +kernel
theorem dL_law_352 : decode cL_law 352 = .ok (.ireturn, 1) := by decide +kernel
theorem dL_law_353 : decode cL_law 353 = .ok (.aload_n 1, 1) := by decide +kernel
theorem dL_law_354 : decode cL_law 354 = .ok (.invokevirtual 44, 3) := by decide +kernel
theorem dL_law_357 : decode cL_law 357 = .ok (.aload_n 2, 1) := by decide +kernel
theorem dL_law_358 : decode cL_law 358 = .ok (.invokevirtual 47, 3) := by decide +kernel
theorem dL_law_361 : decode cL_law 361 = .ok (.if_icmp .eq 609, 3) := by decide +kernel
theorem dL_law_364 : decode cL_law 364 = .ok (.iconst 0, 1) := by decide +kernel
theorem dL_law_365 : decode cL_law 365 = .ok (.ireturn, 1) := by decide +kernel
theorem dL_law_366 : decode cL_law 366 = .ok (.aload_n 1, 1) := by decide +kernel
theorem dL_law_367 : decode cL_law 367 = .ok (.invokevirtual 48, 3) := by decide +kernel
theorem dL_law_370 : decode cL_law 370 = .ok (.aload_n 2, 1) := by decide +kernel
theorem dL_law_371 : decode cL_law 371 = .ok (.invokevirtual 51, 3) := by decide +kernel
theorem dL_law_374 : decode cL_law 374 = .ok (.if_icmp .eq 596, 3) := by decide +kernel
theorem dL_law_377 : decode cL_law 377 = .ok (.iconst 0, 1) := by decide +kernel
theorem dL_law_378 : decode cL_law 378 = .ok (.ireturn, 1) := by decide +kernel
theorem dL_law_379 : decode cL_law 379 = .ok (.aload_n 1, 1) := by decide +kernel
theorem dL_law_380 : decode cL_law 380 = .ok (.aload_n 0, 1) := by decide +kernel
theorem dL_law_381 : decode cL_law 381 = .ok (.iload_n 3, 1) := by decide +kernel
theorem dL_law_382 : decode cL_law 382 = .ok (.iconst 1, 1) := by decide +kernel
theorem dL_law_383 : decode cL_law 383 = .ok (.iadd, 1) := by decide +kernel
theorem dL_law_384 : decode cL_law 384 = .ok (.iaload, 1) := by decide +kernel
theorem dL_law_385 : decode cL_law 385 = .ok (.invokevirtual 52, 3) := by decide +kernel
theorem dL_law_388 : decode cL_law 388 = .ok (.aload_n 2, 1) := by decide +kernel
theorem dL_law_389 : decode cL_law 389 = .ok (.aload_n 0, 1) := by decide +kernel
theorem dL_law_390 : decode cL_law 390 = .ok (.iload_n 3, 1) := by decide +kernel
theorem dL_law_391 : decode cL_law 391 = .ok (.iconst 1, 1) := by decide +kernel
theorem dL_law_392 : decode cL_law 392 = .ok (.iadd, 1) := by decide +kernel
theorem dL_law_393 : decode cL_law 393 = .ok (.iaload, 1) := by decide +kernel
theorem dL_law_394 : decode cL_law 394 = .ok (.invokevirtual 55, 3) := by decide +kernel
theorem dL_law_397 : decode cL_law 397 = .ok (.if_icmp .eq 573, 3) := by decide +kernel
theorem dL_law_400 : decode cL_law 400 = .ok (.iconst 0, 1) := by decide +kernel
theorem dL_law_401 : decode cL_law 401 = .ok (.ireturn, 1) := by decide +kernel
theorem dL_law_402 : decode cL_law 402 = .ok (.aload_n 1, 1) := by decide +kernel
theorem dL_law_403 : decode cL_law 403 = .ok (.aload_n 0, 1) := by decide +kernel
theorem dL_law_404 : decode cL_law 404 = .ok (.iload_n 3, 1) := by decide +kernel
theorem dL_law_405 : decode cL_law 405 = .ok (.iconst 1, 1) := by decide +kernel
theorem dL_law_406 : decode cL_law 406 = .ok (.iadd, 1) := by decide +kernel
theorem dL_law_407 : decode cL_law 407 = .ok (.iaload, 1) := by decide +kernel
theorem dL_law_408 : decode cL_law 408 = .ok (.invokevirtual 56, 3) := by decide +kernel
theorem dL_law_411 : decode cL_law 411 = .ok (.aload_n 2, 1) := by decide +kernel
theorem dL_law_412 : decode cL_law 412 = .ok (.aload_n 0, 1) := by decide +kernel
theorem dL_law_413 : decode cL_law 413 = .ok (.iload_n 3, 1) := by decide +kernel
theorem dL_law_414 : decode cL_law 414 = .ok (.iconst 1, 1) := by decide +kernel
theorem dL_law_415 : decode cL_law 415 = .ok (.iadd, 1) := by decide +kernel
theorem dL_law_416 : decode cL_law 416 = .ok (.iaload, 1) := by decide +kernel
theorem dL_law_417 : decode cL_law 417 = .ok (.invokevirtual 59, 3) := by decide +kernel
theorem dL_law_420 : decode cL_law 420 = .ok (.if_icmp .eq 550, 3) := by decide +kernel
theorem dL_law_423 : decode cL_law 423 = .ok (.iconst 0, 1) := by decide +kernel
theorem dL_law_424 : decode cL_law 424 = .ok (.ireturn, 1) := by decide +kernel
theorem dL_law_425 : decode cL_law 425 = .ok (.aload_n 1, 1) := by decide +kernel
theorem dL_law_426 : decode cL_law 426 = .ok (.aload_n 0, 1) := by decide +kernel
theorem dL_law_427 : decode cL_law 427 = .ok (.iload_n 3, 1) := by decide +kernel
theorem dL_law_428 : decode cL_law 428 = .ok (.iconst 1, 1) := by decide +kernel
theorem dL_law_429 : decode cL_law 429 = .ok (.iadd, 1) := by decide +kernel
theorem dL_law_430 : decode cL_law 430 = .ok (.iaload, 1) := by decide +kernel
theorem dL_law_431 : decode cL_law 431 = .ok (.aload_n 0, 1) := by decide +kernel
theorem dL_law_432 : decode cL_law 432 = .ok (.iload_n 3, 1) := by decide +kernel
theorem dL_law_433 : decode cL_law 433 = .ok (.iconst 2, 1) := by decide +kernel
theorem dL_law_434 : decode cL_law 434 = .ok (.iadd, 1) := by decide +kernel
theorem dL_law_435 : decode cL_law 435 = .ok (.iaload, 1) := by decide +kernel
theorem dL_law_436 : decode cL_law 436 = .ok (.invokevirtual 60, 3) := by decide +kernel
theorem dL_law_439 : decode cL_law 439 = .ok (.aload_n 2, 1) := by decide +kernel
theorem dL_law_440 : decode cL_law 440 = .ok (.aload_n 0, 1) := by decide +kernel
theorem dL_law_441 : decode cL_law 441 = .ok (.iload_n 3, 1) := by decide +kernel
theorem dL_law_442 : decode cL_law 442 = .ok (.iconst 1, 1) := by decide +kernel
theorem dL_law_443 : decode cL_law 443 = .ok (.iadd, 1) := by decide +kernel
theorem dL_law_444 : decode cL_law 444 = .ok (.iaload, 1) := by decide +kernel
theorem dL_law_445 : decode cL_law 445 = .ok (.aload_n 0, 1) := by decide +kernel
theorem dL_law_446 : decode cL_law 446 = .ok (.iload_n 3, 1) := by decide +kernel
theorem dL_law_447 : decode cL_law 447 = .ok (.iconst 2, 1) := by decide +kernel
theorem dL_law_448 : decode cL_law 448 = .ok (.iadd, 1) := by decide +kernel
theorem dL_law_449 : decode cL_law 449 = .ok (.iaload, 1) := by decide +kernel
theorem dL_law_450 : decode cL_law 450 = .ok (.invokevirtual 63, 3) := by decide +kernel
theorem dL_law_453 : decode cL_law 453 = .ok (.if_icmp .eq 517, 3) := by decide +kernel
theorem dL_law_456 : decode cL_law 456 = .ok (.iconst 0, 1) := by decide +kernel
theorem dL_law_457 : decode cL_law 457 = .ok (.ireturn, 1) := by decide +kernel
theorem dL_law_458 : decode cL_law 458 = .ok (.aload_n 1, 1) := by decide +kernel
theorem dL_law_459 : decode cL_law 459 = .ok (.aload_n 0, 1) := by decide +kernel
theorem dL_law_460 : decode cL_law 460 = .ok (.iload_n 3, 1) := by decide +kernel
theorem dL_law_461 : decode cL_law 461 = .ok (.iconst 1, 1) := by decide +kernel
theorem dL_law_462 : decode cL_law 462 = .ok (.iadd, 1) := by decide +kernel
theorem dL_law_463 : decode cL_law 463 = .ok (.iaload, 1) := by decide +kernel
theorem dL_law_464 : decode cL_law 464 = .ok (.aload_n 0, 1) := by decide +kernel
theorem dL_law_465 : decode cL_law 465 = .ok (.iload_n 3, 1) := by decide +kernel
theorem dL_law_466 : decode cL_law 466 = .ok (.iconst 2, 1) := by decide +kernel
theorem dL_law_467 : decode cL_law 467 = .ok (.iadd, 1) := by decide +kernel
theorem dL_law_468 : decode cL_law 468 = .ok (.iaload, 1) := by decide +kernel
theorem dL_law_469 : decode cL_law 469 = .ok (.invokevirtual 64, 3) := by decide +kernel
theorem dL_law_472 : decode cL_law 472 = .ok (.aload_n 2, 1) := by decide +kernel
theorem dL_law_473 : decode cL_law 473 = .ok (.aload_n 0, 1) := by decide +kernel
theorem dL_law_474 : decode cL_law 474 = .ok (.iload_n 3, 1) := by decide +kernel
theorem dL_law_475 : decode cL_law 475 = .ok (.iconst 1, 1) := by decide +kernel
theorem dL_law_476 : decode cL_law 476 = .ok (.iadd, 1) := by decide +kernel
theorem dL_law_477 : decode cL_law 477 = .ok (.iaload, 1) := by decide +kernel
theorem dL_law_478 : decode cL_law 478 = .ok (.aload_n 0, 1) := by decide +kernel
theorem dL_law_479 : decode cL_law 479 = .ok (.iload_n 3, 1) := by decide +kernel
theorem dL_law_480 : decode cL_law 480 = .ok (.iconst 2, 1) := by decide +kernel
theorem dL_law_481 : decode cL_law 481 = .ok (.iadd, 1) := by decide +kernel
theorem dL_law_482 : decode cL_law 482 = .ok (.iaload, 1) := by decide +kernel
theorem dL_law_483 : decode cL_law 483 = .ok (.invokevirtual 67, 3) := by decide +kernel
theorem dL_law_486 : decode cL_law 486 = .ok (.if_icmp .eq 484, 3) := by decide +kernel
theorem dL_law_489 : decode cL_law 489 = .ok (.iconst 0, 1) := by decide +kernel
theorem dL_law_490 : decode cL_law 490 = .ok (.ireturn, 1) := by decide +kernel
theorem dL_law_491 : decode cL_law 491 = .ok (.aload_n 1, 1) := by decide +kernel
theorem dL_law_492 : decode cL_law 492 = .ok (.aload_n 0, 1) := by decide +kernel
theorem dL_law_493 : decode cL_law 493 = .ok (.iload_n 3, 1) := by decide +kernel
theorem dL_law_494 : decode cL_law 494 = .ok (.iconst 1, 1) := by decide +kernel
theorem dL_law_495 : decode cL_law 495 = .ok (.iadd, 1) := by decide +kernel
theorem dL_law_496 : decode cL_law 496 = .ok (.iaload, 1) := by decide +kernel
theorem dL_law_497 : decode cL_law 497 = .ok (.invokevirtual 68, 3) := by decide +kernel
theorem dL_law_500 : decode cL_law 500 = .ok (.aload_n 2, 1) := by decide +kernel
theorem dL_law_501 : decode cL_law 501 = .ok (.aload_n 0, 1) := by decide +kernel
theorem dL_law_502 : decode cL_law 502 = .ok (.iload_n 3, 1) := by decide +kernel
theorem dL_law_503 : decode cL_law 503 = .ok (.iconst 1, 1) := by decide +kernel
theorem dL_law_504 : decode cL_law 504 = .ok (.iadd, 1) := by decide +kernel
theorem dL_law_505 : decode cL_law 505 = .ok (.iaload, 1) := by decide +kernel
theorem dL_law_506 : decode cL_law 506 = .ok (.invokevirtual 71, 3) := by decide +kernel
theorem dL_law_509 : decode cL_law 509 = .ok (.if_icmp .eq 461, 3) := by decide +kernel
theorem dL_law_512 : decode cL_law 512 = .ok (.iconst 0, 1) := by decide +kernel
theorem dL_law_513 : decode cL_law 513 = .ok (.ireturn, 1) := by decide +kernel
theorem dL_law_514 : decode cL_law 514 = .ok (.aload_n 1, 1) := by decide +kernel
theorem dL_law_515 : decode cL_law 515 = .ok (.invokevirtual 72, 3) := by decide +kernel
theorem dL_law_518 : decode cL_law 518 = .ok (.aload_n 2, 1) := by decide +kernel
theorem dL_law_519 : decode cL_law 519 = .ok (.invokevirtual 75, 3) := by decide +kernel
theorem dL_law_522 : decode cL_law 522 = .ok (.if_icmp .eq 448, 3) := by decide +kernel
theorem dL_law_525 : decode cL_law 525 = .ok (.iconst 0, 1) := by decide +kernel
theorem dL_law_526 : decode cL_law 526 = .ok (.ireturn, 1) := by decide +kernel
theorem dL_law_527 : decode cL_law 527 = .ok (.aload_n 1, 1) := by decide +kernel
theorem dL_law_528 : decode cL_law 528 = .ok (.aload_n 0, 1) := by decide +kernel
theorem dL_law_529 : decode cL_law 529 = .ok (.iload_n 3, 1) := by decide +kernel
theorem dL_law_530 : decode cL_law 530 = .ok (.iconst 1, 1) := by decide +kernel
theorem dL_law_531 : decode cL_law 531 = .ok (.iadd, 1) := by decide +kernel
theorem dL_law_532 : decode cL_law 532 = .ok (.iaload, 1) := by decide +kernel
theorem dL_law_533 : decode cL_law 533 = .ok (.invokevirtual 76, 3) := by decide +kernel
theorem dL_law_536 : decode cL_law 536 = .ok (.aload_n 2, 1) := by decide +kernel
theorem dL_law_537 : decode cL_law 537 = .ok (.aload_n 0, 1) := by decide +kernel
theorem dL_law_538 : decode cL_law 538 = .ok (.iload_n 3, 1) := by decide +kernel
theorem dL_law_539 : decode cL_law 539 = .ok (.iconst 1, 1) := by decide +kernel
theorem dL_law_540 : decode cL_law 540 = .ok (.iadd, 1) := by decide +kernel
theorem dL_law_541 : decode cL_law 541 = .ok (.iaload, 1) := by decide +kernel
theorem dL_law_542 : decode cL_law 542 = .ok (.invokevirtual 79, 3) := by decide +kernel
theorem dL_law_545 : decode cL_law 545 = .ok (.if_icmp .eq 425, 3) := by decide +kernel
theorem dL_law_548 : decode cL_law 548 = .ok (.iconst 0, 1) := by decide +kernel
theorem dL_law_549 : decode cL_law 549 = .ok (.ireturn, 1) := by decide +kernel
theorem dL_law_550 : decode cL_law 550 = .ok (.aload_n 1, 1) := by decide +kernel
theorem dL_law_551 : decode cL_law 551 = .ok (.invokevirtual 80, 3) := by decide +kernel
theorem dL_law_554 : decode cL_law 554 = .ok (.aload_n 2, 1) := by decide +kernel
theorem dL_law_555 : decode cL_law 555 = .ok (.invokevirtual 83, 3) := by decide +kernel
theorem dL_law_558 : decode cL_law 558 = .ok (.if_icmp .eq 412, 3) := by decide +kernel
theorem dL_law_561 : decode cL_law 561 = .ok (.iconst 0, 1) := by decide +kernel
theorem dL_law_562 : decode cL_law 562 = .ok (.ireturn, 1) := by decide +kernel
theorem dL_law_563 : decode cL_law 563 = .ok (.aload_n 1, 1) := by decide +kernel
theorem dL_law_564 : decode cL_law 564 = .ok (.aload_n 0, 1) := by decide +kernel
theorem dL_law_565 : decode cL_law 565 = .ok (.iload_n 3, 1) := by decide +kernel
theorem dL_law_566 : decode cL_law 566 = .ok (.iconst 1, 1) := by decide +kernel
theorem dL_law_567 : decode cL_law 567 = .ok (.iadd, 1) := by decide +kernel
theorem dL_law_568 : decode cL_law 568 = .ok (.iaload, 1) := by decide +kernel
theorem dL_law_569 : decode cL_law 569 = .ok (.aload_n 0, 1) := by decide +kernel
theorem dL_law_570 : decode cL_law 570 = .ok (.iload_n 3, 1) := by decide +kernel
theorem dL_law_571 : decode cL_law 571 = .ok (.iconst 2, 1) := by decide +kernel
theorem dL_law_572 : decode cL_law 572 = .ok (.iadd, 1) := by decide +kernel
theorem dL_law_573 : decode cL_law 573 = .ok (.iaload, 1) := by decide +kernel
theorem dL_law_574 : decode cL_law 574 = .ok (.invokevirtual 84, 3) := by decide +kernel
theorem dL_law_577 : decode cL_law 577 = .ok (.aload_n 2, 1) := by decide +kernel
theorem dL_law_578 : decode cL_law 578 = .ok (.aload_n 0, 1) := by decide +kernel
theorem dL_law_579 : decode cL_law 579 = .ok (.iload_n 3, 1) := by decide +kernel
theorem dL_law_580 : decode cL_law 580 = .ok (.iconst 1, 1) := by decide +kernel
theorem dL_law_581 : decode cL_law 581 = .ok (.iadd, 1) := by decide +kernel
theorem dL_law_582 : decode cL_law 582 = .ok (.iaload, 1) := by decide +kernel
theorem dL_law_583 : decode cL_law 583 = .ok (.aload_n 0, 1) := by decide +kernel
theorem dL_law_584 : decode cL_law 584 = .ok (.iload_n 3, 1) := by decide +kernel
theorem dL_law_585 : decode cL_law 585 = .ok (.iconst 2, 1) := by decide +kernel
theorem dL_law_586 : decode cL_law 586 = .ok (.iadd, 1) := by decide +kernel
theorem dL_law_587 : decode cL_law 587 = .ok (.iaload, 1) := by decide +kernel
theorem dL_law_588 : decode cL_law 588 = .ok (.invokevirtual 87, 3) := by decide +kernel
theorem dL_law_591 : decode cL_law 591 = .ok (.if_icmp .eq 379, 3) := by decide +kernel
theorem dL_law_594 : decode cL_law 594 = .ok (.iconst 0, 1) := by decide +kernel
theorem dL_law_595 : decode cL_law 595 = .ok (.ireturn, 1) := by decide +kernel
theorem dL_law_596 : decode cL_law 596 = .ok (.aload_n 1, 1) := by decide +kernel
theorem dL_law_597 : decode cL_law 597 = .ok (.aload_n 0, 1) := by decide +kernel
theorem dL_law_598 : decode cL_law 598 = .ok (.iload_n 3, 1) := by decide +kernel
theorem dL_law_599 : decode cL_law 599 = .ok (.iconst 1, 1) := by decide +kernel
theorem dL_law_600 : decode cL_law 600 = .ok (.iadd, 1) := by decide +kernel
theorem dL_law_601 : decode cL_law 601 = .ok (.iaload, 1) := by decide +kernel
theorem dL_law_602 : decode cL_law 602 = .ok (.invokevirtual 88, 3) := by decide +kernel
theorem dL_law_605 : decode cL_law 605 = .ok (.aload_n 2, 1) := by decide +kernel
theorem dL_law_606 : decode cL_law 606 = .ok (.aload_n 0, 1) := by decide +kernel
theorem dL_law_607 : decode cL_law 607 = .ok (.iload_n 3, 1) := by decide +kernel
theorem dL_law_608 : decode cL_law 608 = .ok (.iconst 1, 1) := by decide +kernel
theorem dL_law_609 : decode cL_law 609 = .ok (.iadd, 1) := by decide +kernel
theorem dL_law_610 : decode cL_law 610 = .ok (.iaload, 1) := by decide +kernel
theorem dL_law_611 : decode cL_law 611 = .ok (.invokevirtual 91, 3) := by decide +kernel
theorem dL_law_614 : decode cL_law 614 = .ok (.if_icmp .eq 356, 3) := by decide +kernel
theorem dL_law_617 : decode cL_law 617 = .ok (.iconst 0, 1) := by decide +kernel
theorem dL_law_618 : decode cL_law 618 = .ok (.ireturn, 1) := by decide +kernel
theorem dL_law_619 : decode cL_law 619 = .ok (.aload_n 1, 1) := by decide +kernel
theorem dL_law_620 : decode cL_law 620 = .ok (.invokevirtual 92, 3) := by decide +kernel
theorem dL_law_623 : decode cL_law 623 = .ok (.aload_n 2, 1) := by decide +kernel
theorem dL_law_624 : decode cL_law 624 = .ok (.invokevirtual 95, 3) := by decide +kernel
theorem dL_law_627 : decode cL_law 627 = .ok (.if_icmp .eq 343, 3) := by decide +kernel
theorem dL_law_630 : decode cL_law 630 = .ok (.iconst 0, 1) := by decide +kernel
theorem dL_law_631 : decode cL_law 631 = .ok (.ireturn, 1) := by decide +kernel
theorem dL_law_632 : decode cL_law 632 = .ok (.aload_n 1, 1) := by decide +kernel
theorem dL_law_633 : decode cL_law 633 = .ok (.aload_n 0, 1) := by decide +kernel
theorem dL_law_634 : decode cL_law 634 = .ok (.iload_n 3, 1) := by decide +kernel
theorem dL_law_635 : decode cL_law 635 = .ok (.iconst 1, 1) := by decide +kernel
theorem dL_law_636 : decode cL_law 636 = .ok (.iadd, 1) := by decide +kernel
theorem dL_law_637 : decode cL_law 637 = .ok (.iaload, 1) := by decide +kernel
theorem dL_law_638 : decode cL_law 638 = .ok (.invokevirtual 96, 3) := by decide +kernel
theorem dL_law_641 : decode cL_law 641 = .ok (.aload_n 2, 1) := by decide +kernel
theorem dL_law_642 : decode cL_law 642 = .ok (.aload_n 0, 1) := by decide +kernel
theorem dL_law_643 : decode cL_law 643 = .ok (.iload_n 3, 1) := by decide +kernel
theorem dL_law_644 : decode cL_law 644 = .ok (.iconst 1, 1) := by decide +kernel
theorem dL_law_645 : decode cL_law 645 = .ok (.iadd, 1) := by decide +kernel
theorem dL_law_646 : decode cL_law 646 = .ok (.iaload, 1) := by decide +kernel
theorem dL_law_647 : decode cL_law 647 = .ok (.invokevirtual 99, 3) := by decide +kernel
theorem dL_law_650 : decode cL_law 650 = .ok (.if_icmp .eq 320, 3) := by decide +kernel
theorem dL_law_653 : decode cL_law 653 = .ok (.iconst 0, 1) := by decide +kernel
theorem dL_law_654 : decode cL_law 654 = .ok (.ireturn, 1) := by decide +kernel
theorem dL_law_655 : decode cL_law 655 = .ok (.aload_n 1, 1) := by decide +kernel
theorem dL_law_656 : decode cL_law 656 = .ok (.aload_n 0, 1) := by decide +kernel
theorem dL_law_657 : decode cL_law 657 = .ok (.iload_n 3, 1) := by decide +kernel
theorem dL_law_658 : decode cL_law 658 = .ok (.iconst 1, 1) := by decide +kernel
theorem dL_law_659 : decode cL_law 659 = .ok (.iadd, 1) := by decide +kernel
theorem dL_law_660 : decode cL_law 660 = .ok (.iaload, 1) := by decide +kernel
theorem dL_law_661 : decode cL_law 661 = .ok (.aload_n 0, 1) := by decide +kernel
theorem dL_law_662 : decode cL_law 662 = .ok (.iload_n 3, 1) := by decide +kernel
theorem dL_law_663 : decode cL_law 663 = .ok (.iconst 2, 1) := by decide +kernel
theorem dL_law_664 : decode cL_law 664 = .ok (.iadd, 1) := by decide +kernel
theorem dL_law_665 : decode cL_law 665 = .ok (.iaload, 1) := by decide +kernel
theorem dL_law_666 : decode cL_law 666 = .ok (.invokevirtual 100, 3) := by decide +kernel
theorem dL_law_669 : decode cL_law 669 = .ok (.aload_n 2, 1) := by decide +kernel
theorem dL_law_670 : decode cL_law 670 = .ok (.aload_n 0, 1) := by decide +kernel
theorem dL_law_671 : decode cL_law 671 = .ok (.iload_n 3, 1) := by decide +kernel
theorem dL_law_672 : decode cL_law 672 = .ok (.iconst 1, 1) := by decide +kernel
theorem dL_law_673 : decode cL_law 673 = .ok (.iadd, 1) := by decide +kernel
theorem dL_law_674 : decode cL_law 674 = .ok (.iaload, 1) := by decide +kernel
theorem dL_law_675 : decode cL_law 675 = .ok (.aload_n 0, 1) := by decide +kernel
theorem dL_law_676 : decode cL_law 676 = .ok (.iload_n 3, 1) := by decide +kernel
theorem dL_law_677 : decode cL_law 677 = .ok (.iconst 2, 1) := by decide +kernel
theorem dL_law_678 : decode cL_law 678 = .ok (.iadd, 1) := by decide +kernel
theorem dL_law_679 : decode cL_law 679 = .ok (.iaload, 1) := by decide +kernel
theorem dL_law_680 : decode cL_law 680 = .ok (.invokevirtual 103, 3) := by decide +kernel
theorem dL_law_683 : decode cL_law 683 = .ok (.if_icmp .eq 287, 3) := by decide +kernel
theorem dL_law_686 : decode cL_law 686 = .ok (.iconst 0, 1) := by decide +kernel
theorem dL_law_687 : decode cL_law 687 = .ok (.ireturn, 1) := by decide +kernel
theorem dL_law_688 : decode cL_law 688 = .ok (.aload_n 1, 1) := by decide +kernel
theorem dL_law_689 : decode cL_law 689 = .ok (.aload_n 0, 1) := by decide +kernel
theorem dL_law_690 : decode cL_law 690 = .ok (.iload_n 3, 1) := by decide +kernel
theorem dL_law_691 : decode cL_law 691 = .ok (.iconst 1, 1) := by decide +kernel
theorem dL_law_692 : decode cL_law 692 = .ok (.iadd, 1) := by decide +kernel
theorem dL_law_693 : decode cL_law 693 = .ok (.iaload, 1) := by decide +kernel
theorem dL_law_694 : decode cL_law 694 = .ok (.invokevirtual 104, 3) := by decide +kernel
theorem dL_law_697 : decode cL_law 697 = .ok (.aload_n 2, 1) := by decide +kernel
theorem dL_law_698 : decode cL_law 698 = .ok (.aload_n 0, 1) := by decide +kernel
theorem dL_law_699 : decode cL_law 699 = .ok (.iload_n 3, 1) := by decide +kernel
theorem dL_law_700 : decode cL_law 700 = .ok (.iconst 1, 1) := by decide +kernel
theorem dL_law_701 : decode cL_law 701 = .ok (.iadd, 1) := by decide +kernel
theorem dL_law_702 : decode cL_law 702 = .ok (.iaload, 1) := by decide +kernel
theorem dL_law_703 : decode cL_law 703 = .ok (.invokevirtual 107, 3) := by decide +kernel
theorem dL_law_706 : decode cL_law 706 = .ok (.if_icmp .eq 264, 3) := by decide +kernel
theorem dL_law_709 : decode cL_law 709 = .ok (.iconst 0, 1) := by decide +kernel
theorem dL_law_710 : decode cL_law 710 = .ok (.ireturn, 1) := by decide +kernel
theorem dL_law_711 : decode cL_law 711 = .ok (.aload_n 1, 1) := by decide +kernel
theorem dL_law_712 : decode cL_law 712 = .ok (.invokevirtual 108, 3) := by decide +kernel
theorem dL_law_715 : decode cL_law 715 = .ok (.aload_n 2, 1) := by decide +kernel
theorem dL_law_716 : decode cL_law 716 = .ok (.invokevirtual 111, 3) := by decide +kernel
theorem dL_law_719 : decode cL_law 719 = .ok (.if_icmp .eq 251, 3) := by decide +kernel
theorem dL_law_722 : decode cL_law 722 = .ok (.iconst 0, 1) := by decide +kernel
theorem dL_law_723 : decode cL_law 723 = .ok (.ireturn, 1) := by decide +kernel
theorem dL_law_724 : decode cL_law 724 = .ok (.aload_n 1, 1) := by decide +kernel
theorem dL_law_725 : decode cL_law 725 = .ok (.aload_n 0, 1) := by decide +kernel
theorem dL_law_726 : decode cL_law 726 = .ok (.iload_n 3, 1) := by decide +kernel
theorem dL_law_727 : decode cL_law 727 = .ok (.iconst 1, 1) := by decide +kernel
theorem dL_law_728 : decode cL_law 728 = .ok (.iadd, 1) := by decide +kernel
theorem dL_law_729 : decode cL_law 729 = .ok (.iaload, 1) := by decide +kernel
theorem dL_law_730 : decode cL_law 730 = .ok (.invokevirtual 112, 3) := by decide +kernel
theorem dL_law_733 : decode cL_law 733 = .ok (.aload_n 2, 1) := by decide +kernel
theorem dL_law_734 : decode cL_law 734 = .ok (.aload_n 0, 1) := by decide +kernel
theorem dL_law_735 : decode cL_law 735 = .ok (.iload_n 3, 1) := by decide +kernel
theorem dL_law_736 : decode cL_law 736 = .ok (.iconst 1, 1) := by decide +kernel
theorem dL_law_737 : decode cL_law 737 = .ok (.iadd, 1) := by decide +kernel
theorem dL_law_738 : decode cL_law 738 = .ok (.iaload, 1) := by decide +kernel
theorem dL_law_739 : decode cL_law 739 = .ok (.invokevirtual 115, 3) := by decide +kernel
theorem dL_law_742 : decode cL_law 742 = .ok (.if_icmp .eq 228, 3) := by decide +kernel
theorem dL_law_745 : decode cL_law 745 = .ok (.iconst 0, 1) := by decide +kernel
theorem dL_law_746 : decode cL_law 746 = .ok (.ireturn, 1) := by decide +kernel
theorem dL_law_747 : decode cL_law 747 = .ok (.aload_n 1, 1) := by decide +kernel
theorem dL_law_748 : decode cL_law 748 = .ok (.aload_n 0, 1) := by decide +kernel
theorem dL_law_749 : decode cL_law 749 = .ok (.iload_n 3, 1) := by decide +kernel
theorem dL_law_750 : decode cL_law 750 = .ok (.iconst 1, 1) := by decide +kernel
theorem dL_law_751 : decode cL_law 751 = .ok (.iadd, 1) := by decide +kernel
theorem dL_law_752 : decode cL_law 752 = .ok (.iaload, 1) := by decide +kernel
theorem dL_law_753 : decode cL_law 753 = .ok (.invokevirtual 116, 3) := by decide +kernel
theorem dL_law_756 : decode cL_law 756 = .ok (.aload_n 2, 1) := by decide +kernel
theorem dL_law_757 : decode cL_law 757 = .ok (.aload_n 0, 1) := by decide +kernel
theorem dL_law_758 : decode cL_law 758 = .ok (.iload_n 3, 1) := by decide +kernel
theorem dL_law_759 : decode cL_law 759 = .ok (.iconst 1, 1) := by decide +kernel
theorem dL_law_760 : decode cL_law 760 = .ok (.iadd, 1) := by decide +kernel
theorem dL_law_761 : decode cL_law 761 = .ok (.iaload, 1) := by decide +kernel
theorem dL_law_762 : decode cL_law 762 = .ok (.invokevirtual 119, 3) := by decide +kernel
theorem dL_law_765 : decode cL_law 765 = .ok (.if_icmp .eq 205, 3) := by decide +kernel
theorem dL_law_768 : decode cL_law 768 = .ok (.iconst 0, 1) := by decide +kernel
theorem dL_law_769 : decode cL_law 769 = .ok (.ireturn, 1) := by decide +kernel
theorem dL_law_770 : decode cL_law 770 = .ok (.aload_n 1, 1) := by decide +kernel
theorem dL_law_771 : decode cL_law 771 = .ok (.invokevirtual 120, 3) := by decide +kernel
theorem dL_law_774 : decode cL_law 774 = .ok (.aload_n 2, 1) := by decide +kernel
theorem dL_law_775 : decode cL_law 775 = .ok (.invokevirtual 123, 3) := by decide +kernel
theorem dL_law_778 : decode cL_law 778 = .ok (.if_icmp .eq 192, 3) := by decide +kernel
theorem dL_law_781 : decode cL_law 781 = .ok (.iconst 0, 1) := by decide +kernel
theorem dL_law_782 : decode cL_law 782 = .ok (.ireturn, 1) := by decide +kernel
theorem dL_law_783 : decode cL_law 783 = .ok (.aload_n 1, 1) := by decide +kernel
theorem dL_law_784 : decode cL_law 784 = .ok (.invokevirtual 124, 3) := by decide +kernel
theorem dL_law_787 : decode cL_law 787 = .ok (.aload_n 2, 1) := by decide +kernel
theorem dL_law_788 : decode cL_law 788 = .ok (.invokevirtual 127, 3) := by decide +kernel
theorem dL_law_791 : decode cL_law 791 = .ok (.if_icmp .eq 179, 3) := by decide +kernel
theorem dL_law_794 : decode cL_law 794 = .ok (.iconst 0, 1) := by decide +kernel
theorem dL_law_795 : decode cL_law 795 = .ok (.ireturn, 1) := by decide +kernel
theorem dL_law_796 : decode cL_law 796 = .ok (.aload_n 1, 1) := by decide +kernel
theorem dL_law_797 : decode cL_law 797 = .ok (.aload_n 0, 1) := by decide +kernel
theorem dL_law_798 : decode cL_law 798 = .ok (.iload_n 3, 1) := by decide +kernel
theorem dL_law_799 : decode cL_law 799 = .ok (.iconst 1, 1) := by decide +kernel
theorem dL_law_800 : decode cL_law 800 = .ok (.iadd, 1) := by decide +kernel
theorem dL_law_801 : decode cL_law 801 = .ok (.iaload, 1) := by decide +kernel
theorem dL_law_802 : decode cL_law 802 = .ok (.invokevirtual 128, 3) := by decide +kernel
theorem dL_law_805 : decode cL_law 805 = .ok (.aload_n 2, 1) := by decide +kernel
theorem dL_law_806 : decode cL_law 806 = .ok (.aload_n 0, 1) := by decide +kernel
theorem dL_law_807 : decode cL_law 807 = .ok (.iload_n 3, 1) := by decide +kernel
theorem dL_law_808 : decode cL_law 808 = .ok (.iconst 1, 1) := by decide +kernel
theorem dL_law_809 : decode cL_law 809 = .ok (.iadd, 1) := by decide +kernel
theorem dL_law_810 : decode cL_law 810 = .ok (.iaload, 1) := by decide +kernel
theorem dL_law_811 : decode cL_law 811 = .ok (.invokevirtual 131, 3) := by decide +kernel
theorem dL_law_814 : decode cL_law 814 = .ok (.if_icmp .eq 156, 3) := by decide +kernel
theorem dL_law_817 : decode cL_law 817 = .ok (.iconst 0, 1) := by decide +kernel
theorem dL_law_818 : decode cL_law 818 = .ok (.ireturn, 1) := by decide +kernel
theorem dL_law_819 : decode cL_law 819 = .ok (.aload_n 1, 1) := by decide +kernel
theorem dL_law_820 : decode cL_law 820 = .ok (.aload_n 0, 1) := by decide +kernel
theorem dL_law_821 : decode cL_law 821 = .ok (.iload_n 3, 1) := by decide +kernel
theorem dL_law_822 : decode cL_law 822 = .ok (.iconst 1, 1) := by decide +kernel
theorem dL_law_823 : decode cL_law 823 = .ok (.iadd, 1) := by decide +kernel
theorem dL_law_824 : decode cL_law 824 = .ok (.iaload, 1) := by decide +kernel
theorem dL_law_825 : decode cL_law 825 = .ok (.invokevirtual 132, 3) := by decide +kernel
theorem dL_law_828 : decode cL_law 828 = .ok (.aload_n 2, 1) := by decide +kernel
theorem dL_law_829 : decode cL_law 829 = .ok (.aload_n 0, 1) := by decide +kernel
theorem dL_law_830 : decode cL_law 830 = .ok (.iload_n 3, 1) := by decide +kernel
theorem dL_law_831 : decode cL_law 831 = .ok (.iconst 1, 1) := by decide +kernel
theorem dL_law_832 : decode cL_law 832 = .ok (.iadd, 1) := by decide +kernel
theorem dL_law_833 : decode cL_law 833 = .ok (.iaload, 1) := by decide +kernel
theorem dL_law_834 : decode cL_law 834 = .ok (.invokevirtual 135, 3) := by decide +kernel
theorem dL_law_837 : decode cL_law 837 = .ok (.if_icmp .eq 133, 3) := by decide +kernel
theorem dL_law_840 : decode cL_law 840 = .ok (.iconst 0, 1) := by decide +kernel
theorem dL_law_841 : decode cL_law 841 = .ok (.ireturn, 1) := by decide +kernel
theorem dL_law_842 : decode cL_law 842 = .ok (.aload_n 1, 1) := by decide +kernel
theorem dL_law_843 : decode cL_law 843 = .ok (.aload_n 0, 1) := by decide +kernel
theorem dL_law_844 : decode cL_law 844 = .ok (.iload_n 3, 1) := by decide +kernel
theorem dL_law_845 : decode cL_law 845 = .ok (.iconst 1, 1) := by decide +kernel
theorem dL_law_846 : decode cL_law 846 = .ok (.iadd, 1) := by decide +kernel
theorem dL_law_847 : decode cL_law 847 = .ok (.iaload, 1) := by decide +kernel
theorem dL_law_848 : decode cL_law 848 = .ok (.invokevirtual 136, 3) := by decide +kernel
theorem dL_law_851 : decode cL_law 851 = .ok (.aload_n 2, 1) := by decide +kernel
theorem dL_law_852 : decode cL_law 852 = .ok (.aload_n 0, 1) := by decide +kernel
theorem dL_law_853 : decode cL_law 853 = .ok (.iload_n 3, 1) := by decide +kernel
theorem dL_law_854 : decode cL_law 854 = .ok (.iconst 1, 1) := by decide +kernel
theorem dL_law_855 : decode cL_law 855 = .ok (.iadd, 1) := by decide +kernel
theorem dL_law_856 : decode cL_law 856 = .ok (.iaload, 1) := by decide +kernel
theorem dL_law_857 : decode cL_law 857 = .ok (.invokevirtual 139, 3) := by decide +kernel
theorem dL_law_860 : decode cL_law 860 = .ok (.if_icmp .eq 110, 3) := by decide +kernel
theorem dL_law_863 : decode cL_law 863 = .ok (.iconst 0, 1) := by decide +kernel
theorem dL_law_864 : decode cL_law 864 = .ok (.ireturn, 1) := by decide +kernel
theorem dL_law_865 : decode cL_law 865 = .ok (.aload_n 1, 1) := by decide +kernel
theorem dL_law_866 : decode cL_law 866 = .ok (.invokevirtual 140, 3) := by decide +kernel
theorem dL_law_869 : decode cL_law 869 = .ok (.aload_n 2, 1) := by decide +kernel
theorem dL_law_870 : decode cL_law 870 = .ok (.invokevirtual 143, 3) := by decide +kernel
theorem dL_law_873 : decode cL_law 873 = .ok (.if_icmp .eq 97, 3) := by decide +kernel
theorem dL_law_876 : decode cL_law 876 = .ok (.iconst 0, 1) := by decide +kernel
theorem dL_law_877 : decode cL_law 877 = .ok (.ireturn, 1) := by decide +kernel
theorem dL_law_878 : decode cL_law 878 = .ok (.aload_n 1, 1) := by decide +kernel
theorem dL_law_879 : decode cL_law 879 = .ok (.aload_n 0, 1) := by decide +kernel
theorem dL_law_880 : decode cL_law 880 = .ok (.iload_n 3, 1) := by decide +kernel
theorem dL_law_881 : decode cL_law 881 = .ok (.iconst 1, 1) := by decide +kernel
theorem dL_law_882 : decode cL_law 882 = .ok (.iadd, 1) := by decide +kernel
theorem dL_law_883 : decode cL_law 883 = .ok (.iaload, 1) := by decide +kernel
theorem dL_law_884 : decode cL_law 884 = .ok (.invokevirtual 144, 3) := by decide +kernel
theorem dL_law_887 : decode cL_law 887 = .ok (.aload_n 2, 1) := by decide +kernel
theorem dL_law_888 : decode cL_law 888 = .ok (.aload_n 0, 1) := by decide +kernel
theorem dL_law_889 : decode cL_law 889 = .ok (.iload_n 3, 1) := by decide +kernel
theorem dL_law_890 : decode cL_law 890 = .ok (.iconst 1, 1) := by decide +kernel
theorem dL_law_891 : decode cL_law 891 = .ok (.iadd, 1) := by decide +kernel
theorem dL_law_892 : decode cL_law 892 = .ok (.iaload, 1) := by decide +kernel
theorem dL_law_893 : decode cL_law 893 = .ok (.invokevirtual 147, 3) := by decide +kernel
theorem dL_law_896 : decode cL_law 896 = .ok (.if_icmp .eq 74, 3) := by decide +kernel
theorem dL_law_899 : decode cL_law 899 = .ok (.iconst 0, 1) := by decide +kernel
theorem dL_law_900 : decode cL_law 900 = .ok (.ireturn, 1) := by decide +kernel
theorem dL_law_901 : decode cL_law 901 = .ok (.aload_n 1, 1) := by decide +kernel
theorem dL_law_902 : decode cL_law 902 = .ok (.aload_n 0, 1) := by decide +kernel
theorem dL_law_903 : decode cL_law 903 = .ok (.iload_n 3, 1) := by decide +kernel
theorem dL_law_904 : decode cL_law 904 = .ok (.iconst 1, 1) := by decide +kernel
theorem dL_law_905 : decode cL_law 905 = .ok (.iadd, 1) := by decide +kernel
theorem dL_law_906 : decode cL_law 906 = .ok (.iaload, 1) := by decide +kernel
theorem dL_law_907 : decode cL_law 907 = .ok (.invokevirtual 148, 3) := by decide +kernel
theorem dL_law_910 : decode cL_law 910 = .ok (.aload_n 2, 1) := by decide +kernel
theorem dL_law_911 : decode cL_law 911 = .ok (.aload_n 0, 1) := by decide +kernel
theorem dL_law_912 : decode cL_law 912 = .ok (.iload_n 3, 1) := by decide +kernel
theorem dL_law_913 : decode cL_law 913 = .ok (.iconst 1, 1) := by decide +kernel
theorem dL_law_914 : decode cL_law 914 = .ok (.iadd, 1) := by decide +kernel
theorem dL_law_915 : decode cL_law 915 = .ok (.iaload, 1) := by decide +kernel
theorem dL_law_916 : decode cL_law 916 = .ok (.invokevirtual 151, 3) := by decide +kernel
theorem dL_law_919 : decode cL_law 919 = .ok (.if_icmp .eq 51, 3) := by decide +kernel
theorem dL_law_922 : decode cL_law 922 = .ok (.iconst 0, 1) := by decide +kernel
theorem dL_law_923 : decode cL_law 923 = .ok (.ireturn, 1) := by decide +kernel
theorem dL_law_924 : decode cL_law 924 = .ok (.aload_n 1, 1) := by decide +kernel
theorem dL_law_925 : decode cL_law 925 = .ok (.aload_n 0, 1) := by decide +kernel
theorem dL_law_926 : decode cL_law 926 = .ok (.iload_n 3, 1) := by decide +kernel
theorem dL_law_927 : decode cL_law 927 = .ok (.iconst 1, 1) := by decide +kernel
theorem dL_law_928 : decode cL_law 928 = .ok (.iadd, 1) := by decide +kernel
theorem dL_law_929 : decode cL_law 929 = .ok (.iaload, 1) := by decide +kernel
theorem dL_law_930 : decode cL_law 930 = .ok (.invokevirtual 152, 3) := by decide +kernel
theorem dL_law_933 : decode cL_law 933 = .ok (.aload_n 2, 1) := by decide +kernel
theorem dL_law_934 : decode cL_law 934 = .ok (.aload_n 0, 1) := by decide +kernel
theorem dL_law_935 : decode cL_law 935 = .ok (.iload_n 3, 1) := by decide +kernel
theorem dL_law_936 : decode cL_law 936 = .ok (.iconst 1, 1) := by decide +kernel
theorem dL_law_937 : decode cL_law 937 = .ok (.iadd, 1) := by decide +kernel
theorem dL_law_938 : decode cL_law 938 = .ok (.iaload, 1) := by decide +kernel
theorem dL_law_939 : decode cL_law 939 = .ok (.invokevirtual 155, 3) := by decide +kernel
theorem dL_law_942 : decode cL_law 942 = .ok (.if_icmp .eq 28, 3) := by decide +kernel
theorem dL_law_945 : decode cL_law 945 = .ok (.iconst 0, 1) := by decide +kernel
theorem dL_law_946 : decode cL_law 946 = .ok (.ireturn, 1) := by decide +kernel
theorem dL_law_947 : decode cL_law 947 = .ok (.aload_n 1, 1) := by decide +kernel
theorem dL_law_948 : decode cL_law 948 = .ok (.aload_n 0, 1) := by decide +kernel
theorem dL_law_949 : decode cL_law 949 = .ok (.iload_n 3, 1) := by decide +kernel
theorem dL_law_950 : decode cL_law 950 = .ok (.iconst 1, 1) := by decide +kernel
theorem dL_law_951 : decode cL_law 951 = .ok (.iadd, 1) := by decide +kernel
theorem dL_law_952 : decode cL_law 952 = .ok (.iaload, 1) := by decide +kernel
theorem dL_law_953 : decode cL_law 953 = .ok (.invokevirtual 156, 3) := by decide +kernel
theorem dL_law_956 : decode cL_law 956 = .ok (.aload_n 2, 1) := by decide +kernel
theorem dL_law_957 : decode cL_law 957 = .ok (.aload_n 0, 1) := by decide +kernel
theorem dL_law_958 : decode cL_law 958 = .ok (.iload_n 3, 1) := by decide +kernel
theorem dL_law_959 : decode cL_law 959 = .ok (.iconst 1, 1) := by decide +kernel
theorem dL_law_960 : decode cL_law 960 = .ok (.iadd, 1) := by decide +kernel
theorem dL_law_961 : decode cL_law 961 = .ok (.iaload, 1) := by decide +kernel
theorem dL_law_962 : decode cL_law 962 = .ok (.invokevirtual 159, 3) := by decide +kernel
theorem dL_law_965 : decode cL_law 965 = .ok (.if_icmp .eq 5, 3) := by decide +kernel
theorem dL_law_968 : decode cL_law 968 = .ok (.iconst 0, 1) := by decide +kernel
theorem dL_law_969 : decode cL_law 969 = .ok (.ireturn, 1) := by decide +kernel
theorem dL_law_970 : decode cL_law 970 = .ok (.iinc 3 3, 3) := by decide +kernel
theorem dL_law_973 : decode cL_law 973 = .ok (.goto (-955), 3) := by decide +kernel
theorem dL_law_976 : decode cL_law 976 = .ok (.iconst 1, 1) := by decide +kernel
theorem dL_law_977 : decode cL_law 977 = .ok (.ireturn, 1) := by decide +kernel
