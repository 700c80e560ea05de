theorem dX12_stepOf_65 : decode cX12_stepOf 65 = .ok (.bipush 61, 2) := by decide +kernel
theorem dX12_stepOf_67 : decode cX12_stepOf 67 = .ok (.if_icmp .ne 7, 3) := by decide +kernel
theorem dX12_stepOf_70 : decode cX12_stepOf 70 = .ok (.iconst 2, 1) := by decide +kernel
theorem dX12_stepOf_71 : decode cX12_stepOf 71 = .ok (.goto 4, 3) := by decide +kernel
theorem dX12_stepOf_74 : decode cX12_stepOf 74 = .ok (.iconst (-1), 1) := by decide +kernel
theorem dX12_stepOf_75 : decode cX12_stepOf 75 = .ok (.ireturn, 1) := by decide +kernel
theorem dX12_stepOf_76 : decode cX12_stepOf 76 = .ok (.iload_n 2, 1) := by decide +kernel
theorem dX12_stepOf_77 : decode cX12_stepOf 77 = .ok (.invokestatic 144, 3) := by decide +kernel
theorem dX12_stepOf_80 : decode cX12_stepOf 80 = .ok (.ifCond .eq 7, 3) := by decide +kernel
theorem dX12_stepOf_83 : decode cX12_stepOf 83 = .ok (.iconst 5, 1) := by decide +kernel
theorem dX12_stepOf_84 : decode cX12_stepOf 84 = .ok (.goto 15, 3) := by decide +kernel
theorem dX12_stepOf_87 : decode cX12_stepOf 87 = .ok (.iload_n 2, 1) := by decide +kernel
theorem dX12_stepOf_88 : decode cX12_stepOf 88 = .ok (.invokestatic 148, 3) := by decide +kernel
theorem dX12_stepOf_91 : decode cX12_stepOf 91 = .ok (.ifCond .eq 7, 3) := by decide +kernel
theorem dX12_stepOf_94 : decode cX12_stepOf 94 = .ok (.iconst 3, 1) := by decide +kernel
theorem dX12_stepOf_95 : decode cX12_stepOf 95 = .ok (.goto 4, 3) := by decide +kernel
theorem dX12_stepOf_98 : decode cX12_stepOf 98 = .ok (.iconst (-1), 1) := by decide +kernel
theorem dX12_stepOf_99 : decode cX12_stepOf 99 = .ok (.ireturn, 1) := by decide +kernel
theorem dX12_stepOf_100 : decode cX12_stepOf 100 = .ok (.iload_n 2, 1) := by decide +kernel
theorem dX12_stepOf_101 : decode cX12_stepOf 101 = .ok (.invokestatic 144, 3) := by decide +kernel
theorem dX12_stepOf_104 : decode cX12_stepOf 104 = .ok (.ifCond .eq 7, 3) := by decide +kernel
theorem dX12_stepOf_107 : decode cX12_stepOf 107 = .ok (.iconst 4, 1) := by decide +kernel
theorem dX12_stepOf_108 : decode cX12_stepOf 108 = .ok (.goto 4, 3) := by decide +kernel
theorem dX12_stepOf_111 : decode cX12_stepOf 111 = .ok (.iconst (-1), 1) := by decide +kernel
theorem dX12_stepOf_112 : decode cX12_stepOf 112 = .ok (.ireturn, 1) := by decide +kernel
theorem dX12_stepOf_113 : decode cX12_stepOf 113 = .ok (.iload_n 2, 1) := by decide +kernel
theorem dX12_stepOf_114 : decode cX12_stepOf 114 = .ok (.invokestatic 144, 3) := by decide +kernel
theorem dX12_stepOf_117 : decode cX12_stepOf 117 = .ok (.ifCond .eq 7, 3) := by decide +kernel
theorem dX12_stepOf_120 : decode cX12_stepOf 120 = .ok (.iconst 5, 1) := by decide +kernel
theorem dX12_stepOf_121 : decode cX12_stepOf 121 = .ok (.goto 4, 3) := by decide +kernel
theorem dX12_stepOf_124 : decode cX12_stepOf 124 = .ok (.iconst (-1), 1) := by decide +kernel
theorem dX12_stepOf_125 : decode cX12_stepOf 125 = .ok (.ireturn, 1) := by decide +kernel
theorem dX12_stepOf_126 : decode cX12_stepOf 126 = .ok (.iload_n 2, 1) := by decide +kernel
theorem dX12_stepOf_127 : decode cX12_stepOf 127 = .ok (.bipush 59, 2) := by decide +kernel
theorem dX12_stepOf_129 : decode cX12_stepOf 129 = .ok (.if_icmp .ne 26, 3) := by decide +kernel
theorem dX12_stepOf_132 : decode cX12_stepOf 132 = .ok (.aload_n 0, 1) := by decide +kernel
theorem dX12_stepOf_133 : decode cX12_stepOf 133 = .ok (.getfield 151, 3) := by decide +kernel
theorem dX12_stepOf_136 : decode cX12_stepOf 136 = .ok (.aload_n 0, 1) := by decide +kernel
theorem dX12_stepOf_137 : decode cX12_stepOf 137 = .ok (.getfield 154, 3) := by decide +kernel
theorem dX12_stepOf_140 : decode cX12_stepOf 140 = .ok (.if_icmp .ge 15, 3) := by decide +kernel
theorem dX12_stepOf_143 : decode cX12_stepOf 143 = .ok (.aload_n 0, 1) := by decide +kernel
theorem dX12_stepOf_144 : decode cX12_stepOf 144 = .ok (.dup, 1) := by decide +kernel
theorem dX12_stepOf_145 : decode cX12_stepOf 145 = .ok (.getfield 151, 3) := by decide +kernel
theorem dX12_stepOf_148 : decode cX12_stepOf 148 = .ok (.iconst 1, 1) := by decide +kernel
theorem dX12_stepOf_149 : decode cX12_stepOf 149 = .ok (.iadd, 1) := by decide +kernel
theorem dX12_stepOf_150 : decode cX12_stepOf 150 = .ok (.putfield 151, 3) := by decide +kernel
theorem dX12_stepOf_153 : decode cX12_stepOf 153 = .ok (.iconst 0, 1) := by decide +kernel
theorem dX12_stepOf_154 : decode cX12_stepOf 154 = .ok (.ireturn, 1) := by decide +kernel
theorem dX12_stepOf_155 : decode cX12_stepOf 155 = .ok (.iload_n 2, 1) := by decide +kernel
theorem dX12_stepOf_156 : decode cX12_stepOf 156 = .ok (.bipush 62, 2) := by decide +kernel
theorem dX12_stepOf_158 : decode cX12_stepOf 158 = .ok (.if_icmp .ne 27, 3) := by decide +kernel
theorem dX12_stepOf_161 : decode cX12_stepOf 161 = .ok (.iload_n 3, 1) := by decide +kernel
theorem dX12_stepOf_162 : decode cX12_stepOf 162 = .ok (.ifCond .eq 23, 3) := by decide +kernel
theorem dX12_stepOf_165 : decode cX12_stepOf 165 = .ok (.aload_n 0, 1) := by decide +kernel
theorem dX12_stepOf_166 : decode cX12_stepOf 166 = .ok (.getfield 157, 3) := by decide +kernel
theorem dX12_stepOf_169 : decode cX12_stepOf 169 = .ok (.ifCond .ne 16, 3) := by decide +kernel
theorem dX12_stepOf_172 : decode cX12_stepOf 172 = .ok (.aload_n 0, 1) := by decide +kernel
theorem dX12_stepOf_173 : decode cX12_stepOf 173 = .ok (.iconst 1, 1) := by decide +kernel
theorem dX12_stepOf_174 : decode cX12_stepOf 174 = .ok (.putfield 157, 3) := by decide +kernel
theorem dX12_stepOf_177 : decode cX12_stepOf 177 = .ok (.aload_n 0, 1) := by decide +kernel
theorem dX12_stepOf_178 : decode cX12_stepOf 178 = .ok (.iconst 1, 1) := by decide +kernel
theorem dX12_stepOf_179 : decode cX12_stepOf 179 = .ok (.putfield 151, 3) := by decide +kernel
theorem dX12_stepOf_182 : decode cX12_stepOf 182 = .ok (.bipush 6, 2) := by decide +kernel
theorem dX12_stepOf_184 : decode cX12_stepOf 184 = .ok (.ireturn, 1) := by decide +kernel
theorem dX12_stepOf_185 : decode cX12_stepOf 185 = .ok (.iconst (-1), 1) := by decide +kernel
theorem dX12_stepOf_186 : decode cX12_stepOf 186 = .ok (.ireturn, 1) := by decide +kernel
theorem dX12_beginRead_0 : decode cX12_beginRead 0 = .ok (.aload_n 0, 1) := by decide +kernel
theorem dX12_beginRead_1 : decode cX12_beginRead 1 = .ok (.iconst 1, 1) := by decide +kernel
theorem dX12_beginRead_2 : decode cX12_beginRead 2 = .ok (.putfield 151, 3) := by decide +kernel
theorem dX12_beginRead_5 : decode cX12_beginRead 5 = .ok (.aload_n 0, 1) := by decide +kernel
theorem dX12_beginRead_6 : decode cX12_beginRead 6 = .ok (.iload_n 1, 1) := by decide +kernel
theorem dX12_beginRead_7 : decode cX12_beginRead 7 = .ok (.ifCond .eq 7, 3) := by decide +kernel
theorem dX12_beginRead_10 : decode cX12_beginRead 10 = .ok (.iconst 3, 1) := by decide +kernel
theorem dX12_beginRead_11 : decode cX12_beginRead 11 = .ok (.goto 5, 3) := by decide +kernel
theorem dX12_beginRead_14 : decode cX12_beginRead 14 = .ok (.bipush 12, 2) := by decide +kernel
theorem dX12_beginRead_16 : decode cX12_beginRead 16 = .ok (.putfield 154, 3) := by decide +kernel
theorem dX12_beginRead_19 : decode cX12_beginRead 19 = .ok (.aload_n 0, 1) := by decide +kernel
theorem dX12_beginRead_20 : decode cX12_beginRead 20 = .ok (.iconst 0, 1) := by decide +kernel
theorem dX12_beginRead_21 : decode cX12_beginRead 21 = .ok (.putfield 157, 3) := by decide +kernel
theorem dX12_beginRead_24 : decode cX12_beginRead 24 = .ok (.return_, 1) := by decide +kernel
theorem dX12_faultOf_0 : decode cX12_faultOf 0 = .ok (.aload_n 0, 1) := by decide +kernel
theorem dX12_faultOf_1 : decode cX12_faultOf 1 = .ok (.iload_n 1, 1) := by decide +kernel
theorem dX12_faultOf_2 : decode cX12_faultOf 2 = .ok (.invokevirtual 161, 3) := by decide +kernel
theorem dX12_faultOf_5 : decode cX12_faultOf 5 = .ok (.iconst 0, 1) := by decide +kernel
theorem dX12_faultOf_6 : decode cX12_faultOf 6 = .ok (.istore_n 2, 1) := by decide +kernel
theorem dX12_faultOf_7 : decode cX12_faultOf 7 = .ok (.iconst 0, 1) := by decide +kernel
theorem dX12_faultOf_8 : decode cX12_faultOf 8 = .ok (.istore_n 3, 1) := by decide +kernel
theorem dX12_faultOf_9 : decode cX12_faultOf 9 = .ok (.iload_n 3, 1) := by decide +kernel
theorem dX12_faultOf_10 : decode cX12_faultOf 10 = .ok (.aload_n 0, 1) := by decide +kernel
theorem dX12_faultOf_11 : decode cX12_faultOf 11 = .ok (.getfield 133, 3) := by decide +kernel
theorem dX12_faultOf_14 : decode cX12_faultOf 14 = .ok (.if_icmp .ge 28, 3) := by decide +kernel
theorem dX12_faultOf_17 : decode cX12_faultOf 17 = .ok (.aload_n 0, 1) := by decide +kernel
theorem dX12_faultOf_18 : decode cX12_faultOf 18 = .ok (.iload_n 2, 1) := by decide +kernel
theorem dX12_faultOf_19 : decode cX12_faultOf 19 = .ok (.aload_n 0, 1) := by decide +kernel
theorem dX12_faultOf_20 : decode cX12_faultOf 20 = .ok (.getfield 7, 3) := by decide +kernel
theorem dX12_faultOf_23 : decode cX12_faultOf 23 = .ok (.iload_n 3, 1) := by decide +kernel
theorem dX12_faultOf_24 : decode cX12_faultOf 24 = .ok (.iaload, 1) := by decide +kernel
theorem dX12_faultOf_25 : decode cX12_faultOf 25 = .ok (.iload_n 1, 1) := by decide +kernel
theorem dX12_faultOf_26 : decode cX12_faultOf 26 = .ok (.invokevirtual 165, 3) := by decide +kernel
theorem dX12_faultOf_29 : decode cX12_faultOf 29 = .ok (.istore_n 2, 1) := by decide +kernel
theorem dX12_faultOf_30 : decode cX12_faultOf 30 = .ok (.iload_n 2, 1) := by decide +kernel
theorem dX12_faultOf_31 : decode cX12_faultOf 31 = .ok (.ifCond .ge 5, 3) := by decide +kernel
theorem dX12_faultOf_34 : decode cX12_faultOf 34 = .ok (.iload_n 3, 1) := by decide +kernel
theorem dX12_faultOf_35 : decode cX12_faultOf 35 = .ok (.ireturn, 1) := by decide +kernel
theorem dX12_faultOf_36 : decode cX12_faultOf 36 = .ok (.iinc 3 1, 3) := by decide +kernel
theorem dX12_faultOf_39 : decode cX12_faultOf 39 = .ok (.goto (-30), 3) := by decide +kernel
theorem dX12_faultOf_42 : decode cX12_faultOf 42 = .ok (.iload_n 1, 1) := by decide +kernel
theorem dX12_faultOf_43 : decode cX12_faultOf 43 = .ok (.ifCond .eq 29, 3) := by decide +kernel
theorem dX12_faultOf_46 : decode cX12_faultOf 46 = .ok (.aload_n 0, 1) := by decide +kernel
theorem dX12_faultOf_47 : decode cX12_faultOf 47 = .ok (.getfield 157, 3) := by decide +kernel
theorem dX12_faultOf_50 : decode cX12_faultOf 50 = .ok (.ifCond .eq 18, 3) := by decide +kernel
theorem dX12_faultOf_53 : decode cX12_faultOf 53 = .ok (.iload_n 2, 1) := by decide +kernel
theorem dX12_faultOf_54 : decode cX12_faultOf 54 = .ok (.iconst 5, 1) := by decide +kernel
theorem dX12_faultOf_55 : decode cX12_faultOf 55 = .ok (.if_icmp .eq 9, 3) := by decide +kernel
theorem dX12_faultOf_58 : decode cX12_faultOf 58 = .ok (.iload_n 2, 1) := by decide +kernel
theorem dX12_faultOf_59 : decode cX12_faultOf 59 = .ok (.bipush 6, 2) := by decide +kernel
theorem dX12_faultOf_61 : decode cX12_faultOf 61 = .ok (.if_icmp .ne 7, 3) := by decide +kernel
theorem dX12_faultOf_64 : decode cX12_faultOf 64 = .ok (.iconst 1, 1) := by decide +kernel
theorem dX12_faultOf_65 : decode cX12_faultOf 65 = .ok (.goto 17, 3) := by decide +kernel
theorem dX12_faultOf_68 : decode cX12_faultOf 68 = .ok (.iconst 0, 1) := by decide +kernel
theorem dX12_faultOf_69 : decode cX12_faultOf 69 = .ok (.goto 13, 3) := by decide +kernel
theorem dX12_faultOf_72 : decode cX12_faultOf 72 = .ok (.iload_n 2, 1) := by decide +kernel
theorem dX12_faultOf_73 : decode cX12_faultOf 73 = .ok (.iconst 5, 1) := by decide +kernel
theorem dX12_faultOf_74 : decode cX12_faultOf 74 = .ok (.if_icmp .ne 7, 3) := by decide +kernel
theorem dX12_faultOf_77 : decode cX12_faultOf 77 = .ok (.iconst 1, 1) := by decide +kernel
theorem dX12_faultOf_78 : decode cX12_faultOf 78 = .ok (.goto 4, 3) := by decide +kernel
theorem dX12_faultOf_81 : decode cX12_faultOf 81 = .ok (.iconst 0, 1) := by decide +kernel
theorem dX12_faultOf_82 : decode cX12_faultOf 82 = .ok (.istore_n 3, 1) := by decide +kernel
theorem dX12_faultOf_83 : decode cX12_faultOf 83 = .ok (.iload_n 3, 1) := by decide +kernel
theorem dX12_faultOf_84 : decode cX12_faultOf 84 = .ok (.ifCond .eq 8, 3) := by decide +kernel
theorem dX12_faultOf_87 : decode cX12_faultOf 87 = .ok (.bipush (-6), 2) := by decide +kernel
theorem dX12_faultOf_89 : decode cX12_faultOf 89 = .ok (.goto 7, 3) := by decide +kernel
theorem dX12_faultOf_92 : decode cX12_faultOf 92 = .ok (.aload_n 0, 1) := by decide +kernel
theorem dX12_faultOf_93 : decode cX12_faultOf 93 = .ok (.getfield 133, 3) := by decide +kernel
theorem dX12_faultOf_96 : decode cX12_faultOf 96 = .ok (.ireturn, 1) := by decide +kernel
theorem dX12_fault_0 : decode cX12_fault 0 = .ok (.iload_n 1, 1) := by decide +kernel
theorem dX12_fault_1 : decode cX12_fault 1 = .ok (.i2l, 1) := by decide +kernel
theorem dX12_fault_2 : decode cX12_fault 2 = .ok (.lconst 0, 1) := by decide +kernel
theorem dX12_fault_3 : decode cX12_fault 3 = .ok (.lconst 1, 1) := by decide +kernel
theorem dX12_fault_4 : decode cX12_fault 4 = .ok (.invokestatic 125, 3) := by decide +kernel
theorem dX12_fault_7 : decode cX12_fault 7 = .ok (.ifCond .eq 20, 3) := by decide +kernel
theorem dX12_fault_10 : decode cX12_fault 10 = .ok (.aload_n 0, 1) := by decide +kernel
theorem dX12_fault_11 : decode cX12_fault 11 = .ok (.iload_n 1, 1) := by decide +kernel
theorem dX12_fault_12 : decode cX12_fault 12 = .ok (.iconst 1, 1) := by decide +kernel
theorem dX12_fault_13 : decode cX12_fault 13 = .ok (.if_icmp .ne 7, 3) := by decide +kernel
theorem dX12_fault_16 : decode cX12_fault 16 = .ok (.iconst 1, 1) := by decide +kernel
theorem dX12_fault_17 : decode cX12_fault 17 = .ok (.goto 4, 3) := by decide +kernel
theorem dX12_fault_20 : decode cX12_fault 20 = .ok (.iconst 0, 1) := by decide +kernel
theorem dX12_fault_21 : decode cX12_fault 21 = .ok (.invokevirtual 169, 3) := by decide +kernel
theorem dX12_fault_24 : decode cX12_fault 24 = .ok (.goto 5, 3) := by decide +kernel
theorem dX12_fault_27 : decode cX12_fault 27 = .ok (.bipush (-2), 2) := by decide +kernel
theorem dX12_fault_29 : decode cX12_fault 29 = .ok (.ireturn, 1) := by decide +kernel
theorem dX12_operandOf_0 : decode cX12_operandOf 0 = .ok (.iload_n 0, 1) := by decide +kernel
theorem dX12_operandOf_1 : decode cX12_operandOf 1 = .ok (.i2l, 1) := by decide +kernel
theorem dX12_operandOf_2 : decode cX12_operandOf 2 = .ok (.ldc2_w 136, 3) := by decide +kernel
theorem dX12_operandOf_5 : decode cX12_operandOf 5 = .ok (.ldc2_w 138, 3) := by decide +kernel
theorem dX12_operandOf_8 : decode cX12_operandOf 8 = .ok (.invokestatic 125, 3) := by decide +kernel
theorem dX12_operandOf_11 : decode cX12_operandOf 11 = .ok (.ifCond .eq 10, 3) := by decide +kernel
theorem dX12_operandOf_14 : decode cX12_operandOf 14 = .ok (.iload_n 0, 1) := by decide +kernel
theorem dX12_operandOf_15 : decode cX12_operandOf 15 = .ok (.bipush 97, 2) := by decide +kernel
theorem dX12_operandOf_17 : decode cX12_operandOf 17 = .ok (.isub, 1) := by decide +kernel
theorem dX12_operandOf_18 : decode cX12_operandOf 18 = .ok (.goto 10, 3) := by decide +kernel
theorem dX12_operandOf_21 : decode cX12_operandOf 21 = .ok (.bipush 10, 2) := by decide +kernel
theorem dX12_operandOf_23 : decode cX12_operandOf 23 = .ok (.iload_n 0, 1) := by decide +kernel
theorem dX12_operandOf_24 : decode cX12_operandOf 24 = .ok (.iadd, 1) := by decide +kernel
theorem dX12_operandOf_25 : decode cX12_operandOf 25 = .ok (.bipush 48, 2) := by decide +kernel
theorem dX12_operandOf_27 : decode cX12_operandOf 27 = .ok (.isub, 1) := by decide +kernel
theorem dX12_operandOf_28 : decode cX12_operandOf 28 = .ok (.ireturn, 1) := by decide +kernel
theorem dX12_readSteps_0 : decode cX12_readSteps 0 = .ok (.iconst 0, 1) := by decide +kernel
theorem dX12_readSteps_1 : decode cX12_readSteps 1 = .ok (.istore_n 3, 1) := by decide +kernel
theorem dX12_readSteps_2 : decode cX12_readSteps 2 = .ok (.iload_n 1, 1) := by decide +kernel
theorem dX12_readSteps_3 : decode cX12_readSteps 3 = .ok (.istore 4, 2) := by decide +kernel
theorem dX12_readSteps_5 : decode cX12_readSteps 5 = .ok (.iload 4, 2) := by decide +kernel
theorem dX12_readSteps_7 : decode cX12_readSteps 7 = .ok (.iload_n 2, 1) := by decide +kernel
theorem dX12_readSteps_8 : decode cX12_readSteps 8 = .ok (.if_icmp .ge 152, 3) := by decide +kernel
theorem dX12_readSteps_11 : decode cX12_readSteps 11 = .ok (.aload_n 0, 1) := by decide +kernel
theorem dX12_readSteps_12 : decode cX12_readSteps 12 = .ok (.getfield 31, 3) := by decide +kernel
theorem dX12_readSteps_15 : decode cX12_readSteps 15 = .ok (.iconst 4, 1) := by decide +kernel
theorem dX12_readSteps_16 : decode cX12_readSteps 16 = .ok (.iload_n 3, 1) := by decide +kernel
theorem dX12_readSteps_17 : decode cX12_readSteps 17 = .ok (.imul, 1) := by decide +kernel
theorem dX12_readSteps_18 : decode cX12_readSteps 18 = .ok (.aload_n 0, 1) := by decide +kernel
theorem dX12_readSteps_19 : decode cX12_readSteps 19 = .ok (.getfield 7, 3) := by decide +kernel
theorem dX12_readSteps_22 : decode cX12_readSteps 22 = .ok (.iload 4, 2) := by decide +kernel
theorem dX12_readSteps_24 : decode cX12_readSteps 24 = .ok (.iaload, 1) := by decide +kernel
theorem dX12_readSteps_25 : decode cX12_readSteps 25 = .ok (.bipush 97, 2) := by decide +kernel
theorem dX12_readSteps_27 : decode cX12_readSteps 27 = .ok (.isub, 1) := by decide +kernel
theorem dX12_readSteps_28 : decode cX12_readSteps 28 = .ok (.iastore, 1) := by decide +kernel
theorem dX12_readSteps_29 : decode cX12_readSteps 29 = .ok (.aload_n 0, 1) := by decide +kernel
theorem dX12_readSteps_30 : decode cX12_readSteps 30 = .ok (.getfield 7, 3) := by decide +kernel
theorem dX12_readSteps_33 : decode cX12_readSteps 33 = .ok (.iload 4, 2) := by decide +kernel
theorem dX12_readSteps_35 : decode cX12_readSteps 35 = .ok (.iconst 2, 1) := by decide +kernel
theorem dX12_readSteps_36 : decode cX12_readSteps 36 = .ok (.iadd, 1) := by decide +kernel
theorem dX12_readSteps_37 : decode cX12_readSteps 37 = .ok (.iaload, 1) := by decide +kernel
theorem dX12_readSteps_38 : decode cX12_readSteps 38 = .ok (.invokestatic 148, 3) := by decide +kernel
theorem dX12_readSteps_41 : decode cX12_readSteps 41 = .ok (.istore 5, 2) := by decide +kernel
theorem dX12_readSteps_43 : decode cX12_readSteps 43 = .ok (.aload_n 0, 1) := by decide +kernel
theorem dX12_readSteps_44 : decode cX12_readSteps 44 = .ok (.getfield 31, 3) := by decide +kernel
theorem dX12_readSteps_47 : decode cX12_readSteps 47 = .ok (.iconst 4, 1) := by decide +kernel
theorem dX12_readSteps_48 : decode cX12_readSteps 48 = .ok (.iload_n 3, 1) := by decide +kernel
theorem dX12_readSteps_49 : decode cX12_readSteps 49 = .ok (.imul, 1) := by decide +kernel
theorem dX12_readSteps_50 : decode cX12_readSteps 50 = .ok (.iconst 1, 1) := by decide +kernel
theorem dX12_readSteps_51 : decode cX12_readSteps 51 = .ok (.iadd, 1) := by decide +kernel
theorem dX12_readSteps_52 : decode cX12_readSteps 52 = .ok (.iload 5, 2) := by decide +kernel
theorem dX12_readSteps_54 : decode cX12_readSteps 54 = .ok (.ifCond .eq 15, 3) := by decide +kernel
theorem dX12_readSteps_57 : decode cX12_readSteps 57 = .ok (.aload_n 0, 1) := by decide +kernel
theorem dX12_readSteps_58 : decode cX12_readSteps 58 = .ok (.getfield 7, 3) := by decide +kernel
theorem dX12_readSteps_61 : decode cX12_readSteps 61 = .ok (.iload 4, 2) := by decide +kernel
theorem dX12_readSteps_63 : decode cX12_readSteps 63 = .ok (.iconst 2, 1) := by decide +kernel
theorem dX12_readSteps_64 : decode cX12_readSteps 64 = .ok (.iadd, 1) := by decide +kernel
theorem dX12_readSteps_65 : decode cX12_readSteps 65 = .ok (.iaload, 1) := by decide +kernel
theorem dX12_readSteps_66 : decode cX12_readSteps 66 = .ok (.goto 5, 3) := by decide +kernel
theorem dX12_readSteps_69 : decode cX12_readSteps 69 = .ok (.bipush (-6), 2) := by decide +kernel
theorem dX12_readSteps_71 : decode cX12_readSteps 71 = .ok (.iastore, 1) := by decide +kernel
theorem dX12_readSteps_72 : decode cX12_readSteps 72 = .ok (.aload_n 0, 1) := by decide +kernel
theorem dX12_readSteps_73 : decode cX12_readSteps 73 = .ok (.getfield 31, 3) := by decide +kernel
theorem dX12_readSteps_76 : decode cX12_readSteps 76 = .ok (.iconst 4, 1) := by decide +kernel
theorem dX12_readSteps_77 : decode cX12_readSteps 77 = .ok (.iload_n 3, 1) := by decide +kernel
theorem dX12_readSteps_78 : decode cX12_readSteps 78 = .ok (.imul, 1) := by decide +kernel
theorem dX12_readSteps_79 : decode cX12_readSteps 79 = .ok (.iconst 2, 1) := by decide +kernel
theorem dX12_readSteps_80 : decode cX12_readSteps 80 = .ok (.iadd, 1) := by decide +kernel
theorem dX12_readSteps_81 : decode cX12_readSteps 81 = .ok (.aload_n 0, 1) := by decide +kernel
theorem dX12_readSteps_82 : decode cX12_readSteps 82 = .ok (.getfield 7, 3) := by decide +kernel
theorem dX12_readSteps_85 : decode cX12_readSteps 85 = .ok (.iload 5, 2) := by decide +kernel
theorem dX12_readSteps_87 : decode cX12_readSteps 87 = .ok (.ifCond .eq 10, 3) := by decide +kernel
theorem dX12_readSteps_90 : decode cX12_readSteps 90 = .ok (.iload 4, 2) := by decide +kernel
theorem dX12_readSteps_92 : decode cX12_readSteps 92 = .ok (.iconst 3, 1) := by decide +kernel
theorem dX12_readSteps_93 : decode cX12_readSteps 93 = .ok (.iadd, 1) := by decide +kernel
theorem dX12_readSteps_94 : decode cX12_readSteps 94 = .ok (.goto 7, 3) := by decide +kernel
theorem dX12_readSteps_97 : decode cX12_readSteps 97 = .ok (.iload 4, 2) := by decide +kernel
theorem dX12_readSteps_99 : decode cX12_readSteps 99 = .ok (.iconst 2, 1) := by decide +kernel
theorem dX12_readSteps_100 : decode cX12_readSteps 100 = .ok (.iadd, 1) := by decide +kernel
theorem dX12_readSteps_101 : decode cX12_readSteps 101 = .ok (.iaload, 1) := by decide +kernel
theorem dX12_readSteps_102 : decode cX12_readSteps 102 = .ok (.invokestatic 173, 3) := by decide +kernel
theorem dX12_readSteps_105 : decode cX12_readSteps 105 = .ok (.iastore, 1) := by decide +kernel
theorem dX12_readSteps_106 : decode cX12_readSteps 106 = .ok (.aload_n 0, 1) := by decide +kernel
theorem dX12_readSteps_107 : decode cX12_readSteps 107 = .ok (.getfield 31, 3) := by decide +kernel
theorem dX12_readSteps_110 : decode cX12_readSteps 110 = .ok (.iconst 4, 1) := by decide +kernel
theorem dX12_readSteps_111 : decode cX12_readSteps 111 = .ok (.iload_n 3, 1) := by decide +kernel
theorem dX12_readSteps_112 : decode cX12_readSteps 112 = .ok (.imul, 1) := by decide +kernel
theorem dX12_readSteps_113 : decode cX12_readSteps 113 = .ok (.iconst 3, 1) := by decide +kernel
theorem dX12_readSteps_114 : decode cX12_readSteps 114 = .ok (.iadd, 1) := by decide +kernel
theorem dX12_readSteps_115 : decode cX12_readSteps 115 = .ok (.iload 5, 2) := by decide +kernel
theorem dX12_readSteps_117 : decode cX12_readSteps 117 = .ok (.ifCond .eq 18, 3) := by decide +kernel
theorem dX12_readSteps_120 : decode cX12_readSteps 120 = .ok (.aload_n 0, 1) := by decide +kernel
theorem dX12_readSteps_121 : decode cX12_readSteps 121 = .ok (.getfield 7, 3) := by decide +kernel
theorem dX12_readSteps_124 : decode cX12_readSteps 124 = .ok (.iload 4, 2) := by decide +kernel
theorem dX12_readSteps_126 : decode cX12_readSteps 126 = .ok (.iconst 4, 1) := by decide +kernel
theorem dX12_readSteps_127 : decode cX12_readSteps 127 = .ok (.iadd, 1) := by decide +kernel
theorem dX12_readSteps_128 : decode cX12_readSteps 128 = .ok (.iaload, 1) := by decide +kernel
theorem dX12_readSteps_129 : decode cX12_readSteps 129 = .ok (.invokestatic 173, 3) := by decide +kernel
theorem dX12_readSteps_132 : decode cX12_readSteps 132 = .ok (.goto 5, 3) := by decide +kernel
theorem dX12_readSteps_135 : decode cX12_readSteps 135 = .ok (.bipush (-6), 2) := by decide +kernel
theorem dX12_readSteps_137 : decode cX12_readSteps 137 = .ok (.iastore, 1) := by decide +kernel
theorem dX12_readSteps_138 : decode cX12_readSteps 138 = .ok (.iload 4, 2) := by decide +kernel
theorem dX12_readSteps_140 : decode cX12_readSteps 140 = .ok (.iload 5, 2) := by decide +kernel
theorem dX12_readSteps_142 : decode cX12_readSteps 142 = .ok (.ifCond .eq 8, 3) := by decide +kernel
theorem dX12_readSteps_145 : decode cX12_readSteps 145 = .ok (.bipush 6, 2) := by decide +kernel
theorem dX12_readSteps_147 : decode cX12_readSteps 147 = .ok (.goto 4, 3) := by decide +kernel
theorem dX12_readSteps_150 : decode cX12_readSteps 150 = .ok (.iconst 4, 1) := by decide +kernel
theorem dX12_readSteps_151 : decode cX12_readSteps 151 = .ok (.iadd, 1) := by decide +kernel
theorem dX12_readSteps_152 : decode cX12_readSteps 152 = .ok (.istore 4, 2) := by decide +kernel
theorem dX12_readSteps_154 : decode cX12_readSteps 154 = .ok (.iinc 3 1, 3) := by decide +kernel
theorem dX12_readSteps_157 : decode cX12_readSteps 157 = .ok (.goto (-152), 3) := by decide +kernel
theorem dX12_readSteps_160 : decode cX12_readSteps 160 = .ok (.iload_n 3, 1) := by decide +kernel
theorem dX12_readSteps_161 : decode cX12_readSteps 161 = .ok (.ireturn, 1) := by decide +kernel
theorem dX12_code_0 : decode cX12_code 0 = .ok (.aload_n 0, 1) := by decide +kernel
theorem dX12_code_1 : decode cX12_code 1 = .ok (.iconst 0, 1) := by decide +kernel
theorem dX12_code_2 : decode cX12_code 2 = .ok (.invokevirtual 169, 3) := by decide +kernel
theorem dX12_code_5 : decode cX12_code 5 = .ok (.ifCond .lt 6, 3) := by decide +kernel
theorem dX12_code_8 : decode cX12_code 8 = .ok (.bipush (-5), 2) := by decide +kernel
theorem dX12_code_10 : decode cX12_code 10 = .ok (.ireturn, 1) := by decide +kernel
theorem dX12_code_11 : decode cX12_code 11 = .ok (.aload_n 0, 1) := by decide +kernel
theorem dX12_code_12 : decode cX12_code 12 = .ok (.aload_n 0, 1) := by decide +kernel
theorem dX12_code_13 : decode cX12_code 13 = .ok (.iconst 0, 1) := by decide +kernel
theorem dX12_code_14 : decode cX12_code 14 = .ok (.aload_n 0, 1) := by decide +kernel
theorem dX12_code_15 : decode cX12_code 15 = .ok (.getfield 133, 3) := by decide +kernel
theorem dX12_code_18 : decode cX12_code 18 = .ok (.invokevirtual 177, 3) := by decide +kernel
theorem dX12_code_21 : decode cX12_code 21 = .ok (.putfield 181, 3) := by decide +kernel
theorem dX12_code_24 : decode cX12_code 24 = .ok (.iconst 0, 1) := by decide +kernel
theorem dX12_code_25 : decode cX12_code 25 = .ok (.istore_n 1, 1) := by decide +kernel
theorem dX12_code_26 : decode cX12_code 26 = .ok (.iload_n 1, 1) := by decide +kernel
theorem dX12_code_27 : decode cX12_code 27 = .ok (.aload_n 0, 1) := by decide +kernel
theorem dX12_code_28 : decode cX12_code 28 = .ok (.getfield 181, 3) := by decide +kernel
theorem dX12_code_31 : decode cX12_code 31 = .ok (.if_icmp .ge 71, 3) := by decide +kernel
theorem dX12_code_34 : decode cX12_code 34 = .ok (.aload_n 0, 1) := by decide +kernel
theorem dX12_code_35 : decode cX12_code 35 = .ok (.getfield 13, 3) := by decide +kernel
theorem dX12_code_38 : decode cX12_code 38 = .ok (.iload_n 1, 1) := by decide +kernel
theorem dX12_code_39 : decode cX12_code 39 = .ok (.aload_n 0, 1) := by decide +kernel
theorem dX12_code_40 : decode cX12_code 40 = .ok (.getfield 31, 3) := by decide +kernel
theorem dX12_code_43 : decode cX12_code 43 = .ok (.iconst 4, 1) := by decide +kernel
theorem dX12_code_44 : decode cX12_code 44 = .ok (.iload_n 1, 1) := by decide +kernel
theorem dX12_code_45 : decode cX12_code 45 = .ok (.imul, 1) := by decide +kernel
theorem dX12_code_46 : decode cX12_code 46 = .ok (.iaload, 1) := by decide +kernel
theorem dX12_code_47 : decode cX12_code 47 = .ok (.iastore, 1) := by decide +kernel
theorem dX12_code_48 : decode cX12_code 48 = .ok (.aload_n 0, 1) := by decide +kernel
theorem dX12_code_49 : decode cX12_code 49 = .ok (.getfield 16, 3) := by decide +kernel
theorem dX12_code_52 : decode cX12_code 52 = .ok (.iload_n 1, 1) := by decide +kernel
theorem dX12_code_53 : decode cX12_code 53 = .ok (.aload_n 0, 1) := by decide +kernel
theorem dX12_code_54 : decode cX12_code 54 = .ok (.getfield 31, 3) := by decide +kernel
theorem dX12_code_57 : decode cX12_code 57 = .ok (.iconst 4, 1) := by decide +kernel
theorem dX12_code_58 : decode cX12_code 58 = .ok (.iload_n 1, 1) := by decide +kernel
theorem dX12_code_59 : decode cX12_code 59 = .ok (.imul, 1) := by decide +kernel
theorem dX12_code_60 : decode cX12_code 60 = .ok (.iconst 1, 1) := by decide +kernel
theorem dX12_code_61 : decode cX12_code 61 = .ok (.iadd, 1) := by decide +kernel
theorem dX12_code_62 : decode cX12_code 62 = .ok (.iaload, 1) := by decide +kernel
theorem dX12_code_63 : decode cX12_code 63 = .ok (.iastore, 1) := by decide +kernel
theorem dX12_code_64 : decode cX12_code 64 = .ok (.aload_n 0, 1) := by decide +kernel
theorem dX12_code_65 : decode cX12_code 65 = .ok (.getfield 19, 3) := by decide +kernel
theorem dX12_code_68 : decode cX12_code 68 = .ok (.iload_n 1, 1) := by decide +kernel
theorem dX12_code_69 : decode cX12_code 69 = .ok (.aload_n 0, 1) := by decide +kernel
theorem dX12_code_70 : decode cX12_code 70 = .ok (.getfield 31, 3) := by decide +kernel
theorem dX12_code_73 : decode cX12_code 73 = .ok (.iconst 4, 1) := by decide +kernel
theorem dX12_code_74 : decode cX12_code 74 = .ok (.iload_n 1, 1) := by decide +kernel
theorem dX12_code_75 : decode cX12_code 75 = .ok (.imul, 1) := by decide +kernel
theorem dX12_code_76 : decode cX12_code 76 = .ok (.iconst 2, 1) := by decide +kernel
theorem dX12_code_77 : decode cX12_code 77 = .ok (.iadd, 1) := by decide +kernel
theorem dX12_code_78 : decode cX12_code 78 = .ok (.iaload, 1) := by decide +kernel
theorem dX12_code_79 : decode cX12_code 79 = .ok (.iastore, 1) := by decide +kernel
theorem dX12_code_80 : decode cX12_code 80 = .ok (.aload_n 0, 1) := by decide +kernel
theorem dX12_code_81 : decode cX12_code 81 = .ok (.getfield 22, 3) := by decide +kernel
theorem dX12_code_84 : decode cX12_code 84 = .ok (.iload_n 1, 1) := by decide +kernel
theorem dX12_code_85 : decode cX12_code 85 = .ok (.aload_n 0, 1) := by decide +kernel
theorem dX12_code_86 : decode cX12_code 86 = .ok (.getfield 31, 3) := by decide +kernel
theorem dX12_code_89 : decode cX12_code 89 = .ok (.iconst 4, 1) := by decide +kernel
theorem dX12_code_90 : decode cX12_code 90 = .ok (.iload_n 1, 1) := by decide +kernel
theorem dX12_code_91 : decode cX12_code 91 = .ok (.imul, 1) := by decide +kernel
theorem dX12_code_92 : decode cX12_code 92 = .ok (.iconst 3, 1) := by decide +kernel
theorem dX12_code_93 : decode cX12_code 93 = .ok (.iadd, 1) := by decide +kernel
theorem dX12_code_94 : decode cX12_code 94 = .ok (.iaload, 1) := by decide +kernel
theorem dX12_code_95 : decode cX12_code 95 = .ok (.iastore, 1) := by decide +kernel
theorem dX12_code_96 : decode cX12_code 96 = .ok (.iinc 1 1, 3) := by decide +kernel
theorem dX12_code_99 : decode cX12_code 99 = .ok (.goto (-73), 3) := by decide +kernel
theorem dX12_code_102 : decode cX12_code 102 = .ok (.aload_n 0, 1) := by decide +kernel
theorem dX12_code_103 : decode cX12_code 103 = .ok (.iconst 0, 1) := by decide +kernel
theorem dX12_code_104 : decode cX12_code 104 = .ok (.putfield 133, 3) := by decide +kernel
theorem dX12_code_107 : decode cX12_code 107 = .ok (.aload_n 0, 1) := by decide +kernel
theorem dX12_code_108 : decode cX12_code 108 = .ok (.getfield 181, 3) := by decide +kernel
theorem dX12_code_111 : decode cX12_code 111 = .ok (.ireturn, 1) := by decide +kernel
theorem dX12_want_0 : decode cX12_want 0 = .ok (.iload_n 1, 1) := by decide +kernel
theorem dX12_want_1 : decode cX12_want 1 = .ok (.i2l, 1) := by decide +kernel
theorem dX12_want_2 : decode cX12_want 2 = .ok (.lconst 1, 1) := by decide +kernel
theorem dX12_want_3 : decode cX12_want 3 = .ok (.ldc2_w 184, 3) := by decide +kernel
theorem dX12_want_6 : decode cX12_want 6 = .ok (.invokestatic 125, 3) := by decide +kernel
theorem dX12_want_9 : decode cX12_want 9 = .ok (.ifCond .ne 6, 3) := by decide +kernel
theorem dX12_want_12 : decode cX12_want 12 = .ok (.bipush (-2), 2) := by decide +kernel
theorem dX12_want_14 : decode cX12_want 14 = .ok (.ireturn, 1) := by decide +kernel
theorem dX12_want_15 : decode cX12_want 15 = .ok (.aload_n 0, 1) := by decide +kernel
theorem dX12_want_16 : decode cX12_want 16 = .ok (.getfield 116, 3) := by decide +kernel
theorem dX12_want_19 : decode cX12_want 19 = .ok (.istore_n 2, 1) := by decide +kernel
theorem dX12_want_20 : decode cX12_want 20 = .ok (.aload_n 0, 1) := by decide +kernel
theorem dX12_want_21 : decode cX12_want 21 = .ok (.iload_n 1, 1) := by decide +kernel
theorem dX12_want_22 : decode cX12_want 22 = .ok (.putfield 116, 3) := by decide +kernel
theorem dX12_want_25 : decode cX12_want 25 = .ok (.iload_n 2, 1) := by decide +kernel
theorem dX12_want_26 : decode cX12_want 26 = .ok (.ireturn, 1) := by decide +kernel
theorem dX12_isStep_0 : decode cX12_isStep 0 = .ok (.iload_n 1, 1) := by decide +kernel
theorem dX12_isStep_1 : decode cX12_isStep 1 = .ok (.i2l, 1) := by decide +kernel
theorem dX12_isStep_2 : decode cX12_isStep 2 = .ok (.lconst 0, 1) := by decide +kernel
theorem dX12_isStep_3 : decode cX12_isStep 3 = .ok (.aload_n 0, 1) := by decide +kernel
theorem dX12_isStep_4 : decode cX12_isStep 4 = .ok (.getfield 181, 3) := by decide +kernel
theorem dX12_isStep_7 : decode cX12_isStep 7 = .ok (.iconst 1, 1) := by decide +kernel
theorem dX12_isStep_8 : decode cX12_isStep 8 = .ok (.isub, 1) := by decide +kernel
theorem dX12_isStep_9 : decode cX12_isStep 9 = .ok (.i2l, 1) := by decide +kernel
theorem dX12_isStep_10 : decode cX12_isStep 10 = .ok (.invokestatic 125, 3) := by decide +kernel
theorem dX12_isStep_13 : decode cX12_isStep 13 = .ok (.ireturn, 1) := by decide +kernel
theorem dX12_isPlace_0 : decode cX12_isPlace 0 = .ok (.iload_n 1, 1) := by decide +kernel
theorem dX12_isPlace_1 : decode cX12_isPlace 1 = .ok (.i2l, 1) := by decide +kernel
theorem dX12_isPlace_2 : decode cX12_isPlace 2 = .ok (.lconst 0, 1) := by decide +kernel
theorem dX12_isPlace_3 : decode cX12_isPlace 3 = .ok (.aload_n 0, 1) := by decide +kernel
theorem dX12_isPlace_4 : decode cX12_isPlace 4 = .ok (.getfield 181, 3) := by decide +kernel
theorem dX12_isPlace_7 : decode cX12_isPlace 7 = .ok (.i2l, 1) := by decide +kernel
theorem dX12_isPlace_8 : decode cX12_isPlace 8 = .ok (.invokestatic 125, 3) := by decide +kernel
theorem dX12_isPlace_11 : decode cX12_isPlace 11 = .ok (.ireturn, 1) := by decide +kernel
theorem dX12_step_0 : decode cX12_step 0 = .ok (.aload_n 0, 1) := by decide +kernel
theorem dX12_step_1 : decode cX12_step 1 = .ok (.iload_n 1, 1) := by decide +kernel
theorem dX12_step_2 : decode cX12_step 2 = .ok (.invokevirtual 186, 3) := by decide +kernel
theorem dX12_step_5 : decode cX12_step 5 = .ok (.ifCond .ne 5, 3) := by decide +kernel
theorem dX12_step_8 : decode cX12_step 8 = .ok (.iconst (-1), 1) := by decide +kernel
theorem dX12_step_9 : decode cX12_step 9 = .ok (.ireturn, 1) := by decide +kernel
theorem dX12_step_10 : decode cX12_step 10 = .ok (.iload_n 2, 1) := by decide +kernel
theorem dX12_step_11 : decode cX12_step 11 = .ok (.tableswitch 57 0 3 #[29, 36, 43, 50], 29) := by decide +kernel
theorem dX12_step_40 : decode cX12_step 40 = .ok (.aload_n 0, 1) := by decide +kernel
theorem dX12_step_41 : decode cX12_step 41 = .ok (.getfield 13, 3) := by decide +kernel
theorem dX12_step_44 : decode cX12_step 44 = .ok (.iload_n 1, 1) := by decide +kernel
theorem dX12_step_45 : decode cX12_step 45 = .ok (.iaload, 1) := by decide +kernel
theorem dX12_step_46 : decode cX12_step 46 = .ok (.ireturn, 1) := by decide +kernel
theorem dX12_step_47 : decode cX12_step 47 = .ok (.aload_n 0, 1) := by decide +kernel
theorem dX12_step_48 : decode cX12_step 48 = .ok (.getfield 16, 3) := by decide +kernel
theorem dX12_step_51 : decode cX12_step 51 = .ok (.iload_n 1, 1) := by decide +kernel
theorem dX12_step_52 : decode cX12_step 52 = .ok (.iaload, 1) := by decide +kernel
theorem dX12_step_53 : decode cX12_step 53 = .ok (.ireturn, 1) := by decide +kernel
theorem dX12_step_54 : decode cX12_step 54 = .ok (.aload_n 0, 1) := by decide +kernel
theorem dX12_step_55 : decode cX12_step 55 = .ok (.getfield 19, 3) := by decide +kernel
theorem dX12_step_58 : decode cX12_step 58 = .ok (.iload_n 1, 1) := by decide +kernel
theorem dX12_step_59 : decode cX12_step 59 = .ok (.iaload, 1) := by decide +kernel
theorem dX12_step_60 : decode cX12_step 60 = .ok (.ireturn, 1) := by decide +kernel
theorem dX12_step_61 : decode cX12_step 61 = .ok (.aload_n 0, 1) := by decide +kernel
theorem dX12_step_62 : decode cX12_step 62 = .ok (.getfield 22, 3) := by decide +kernel
theorem dX12_step_65 : decode cX12_step 65 = .ok (.iload_n 1, 1) := by decide +kernel
theorem dX12_step_66 : decode cX12_step 66 = .ok (.iaload, 1) := by decide +kernel
theorem dX12_step_67 : decode cX12_step 67 = .ok (.ireturn, 1) := by decide +kernel
theorem dX12_step_68 : decode cX12_step 68 = .ok (.bipush (-2), 2) := by decide +kernel
theorem dX12_step_70 : decode cX12_step 70 = .ok (.ireturn, 1) := by decide +kernel
theorem dX12_scale_0 : decode cX12_scale 0 = .ok (.iconst 1, 1) := by decide +kernel
theorem dX12_scale_1 : decode cX12_scale 1 = .ok (.iconst 3, 1) := by decide +kernel
theorem dX12_scale_2 : decode cX12_scale 2 = .ok (.iconst 3, 1) := by decide +kernel
theorem dX12_scale_3 : decode cX12_scale 3 = .ok (.iload_n 0, 1) := by decide +kernel
theorem dX12_scale_4 : decode cX12_scale 4 = .ok (.isub, 1) := by decide +kernel
theorem dX12_scale_5 : decode cX12_scale 5 = .ok (.imul, 1) := by decide +kernel
theorem dX12_scale_6 : decode cX12_scale 6 = .ok (.ishl, 1) := by decide +kernel
theorem dX12_scale_7 : decode cX12_scale 7 = .ok (.ireturn, 1) := by decide +kernel
theorem dX12_valueOf_0 : decode cX12_valueOf 0 = .ok (.iload_n 0, 1) := by decide +kernel
theorem dX12_valueOf_1 : decode cX12_valueOf 1 = .ok (.bipush 10, 2) := by decide +kernel
theorem dX12_valueOf_3 : decode cX12_valueOf 3 = .ok (.if_icmp .lt 10, 3) := by decide +kernel
theorem dX12_valueOf_6 : decode cX12_valueOf 6 = .ok (.iload_n 0, 1) := by decide +kernel
theorem dX12_valueOf_7 : decode cX12_valueOf 7 = .ok (.bipush 10, 2) := by decide +kernel
theorem dX12_valueOf_9 : decode cX12_valueOf 9 = .ok (.isub, 1) := by decide +kernel
theorem dX12_valueOf_10 : decode cX12_valueOf 10 = .ok (.goto 12, 3) := by decide +kernel
theorem dX12_valueOf_13 : decode cX12_valueOf 13 = .ok (.iload_n 1, 1) := by decide +kernel
theorem dX12_valueOf_14 : decode cX12_valueOf 14 = .ok (.iload_n 0, 1) := by decide +kernel
theorem dX12_valueOf_15 : decode cX12_valueOf 15 = .ok (.invokestatic 189, 3) := by decide +kernel
theorem dX12_valueOf_18 : decode cX12_valueOf 18 = .ok (.idiv, 1) := by decide +kernel
theorem dX12_valueOf_19 : decode cX12_valueOf 19 = .ok (.bipush 8, 2) := by decide +kernel
theorem dX12_valueOf_21 : decode cX12_valueOf 21 = .ok (.irem, 1) := by decide +kernel
theorem dX12_valueOf_22 : decode cX12_valueOf 22 = .ok (.ireturn, 1) := by decide +kernel
theorem dX12_acted_0 : decode cX12_acted 0 = .ok (.iload_n 0, 1) := by decide +kernel
theorem dX12_acted_1 : decode cX12_acted 1 = .ok (.bipush 43, 2) := by decide +kernel
theorem dX12_acted_3 : decode cX12_acted 3 = .ok (.if_icmp .ne 12, 3) := by decide +kernel
theorem dX12_acted_6 : decode cX12_acted 6 = .ok (.iload_n 1, 1) := by decide +kernel
theorem dX12_acted_7 : decode cX12_acted 7 = .ok (.iload_n 2, 1) := by decide +kernel
theorem dX12_acted_8 : decode cX12_acted 8 = .ok (.iadd, 1) := by decide +kernel
theorem dX12_acted_9 : decode cX12_acted 9 = .ok (.bipush 7, 2) := by decide +kernel
theorem dX12_acted_11 : decode cX12_acted 11 = .ok (.iand, 1) := by decide +kernel
theorem dX12_acted_12 : decode cX12_acted 12 = .ok (.goto 43, 3) := by decide +kernel
theorem dX12_acted_15 : decode cX12_acted 15 = .ok (.iload_n 0, 1) := by decide +kernel
theorem dX12_acted_16 : decode cX12_acted 16 = .ok (.bipush 45, 2) := by decide +kernel
theorem dX12_acted_18 : decode cX12_acted 18 = .ok (.if_icmp .ne 12, 3) := by decide +kernel
theorem dX12_acted_21 : decode cX12_acted 21 = .ok (.iload_n 1, 1) := by decide +kernel
theorem dX12_acted_22 : decode cX12_acted 22 = .ok (.iload_n 2, 1) := by decide +kernel
theorem dX12_acted_23 : decode cX12_acted 23 = .ok (.isub, 1) := by decide +kernel
theorem dX12_acted_24 : decode cX12_acted 24 = .ok (.bipush 7, 2) := by decide +kernel
theorem dX12_acted_26 : decode cX12_acted 26 = .ok (.iand, 1) := by decide +kernel
theorem dX12_acted_27 : decode cX12_acted 27 = .ok (.goto 28, 3) := by decide +kernel
theorem dX12_acted_30 : decode cX12_acted 30 = .ok (.iload_n 0, 1) := by decide +kernel
theorem dX12_acted_31 : decode cX12_acted 31 = .ok (.bipush 42, 2) := by decide +kernel
theorem dX12_acted_33 : decode cX12_acted 33 = .ok (.if_icmp .ne 12, 3) := by decide +kernel
theorem dX12_acted_36 : decode cX12_acted 36 = .ok (.iload_n 1, 1) := by decide +kernel
theorem dX12_acted_37 : decode cX12_acted 37 = .ok (.iload_n 2, 1) := by decide +kernel
theorem dX12_acted_38 : decode cX12_acted 38 = .ok (.imul, 1) := by decide +kernel
theorem dX12_acted_39 : decode cX12_acted 39 = .ok (.bipush 7, 2) := by decide +kernel
theorem dX12_acted_41 : decode cX12_acted 41 = .ok (.iand, 1) := by decide +kernel
theorem dX12_acted_42 : decode cX12_acted 42 = .ok (.goto 13, 3) := by decide +kernel
theorem dX12_acted_45 : decode cX12_acted 45 = .ok (.iload_n 1, 1) := by decide +kernel
theorem dX12_acted_46 : decode cX12_acted 46 = .ok (.iload_n 2, 1) := by decide +kernel
theorem dX12_acted_47 : decode cX12_acted 47 = .ok (.if_icmp .ge 7, 3) := by decide +kernel
theorem dX12_acted_50 : decode cX12_acted 50 = .ok (.iload_n 1, 1) := by decide +kernel
theorem dX12_acted_51 : decode cX12_acted 51 = .ok (.goto 4, 3) := by decide +kernel
theorem dX12_acted_54 : decode cX12_acted 54 = .ok (.iload_n 2, 1) := by decide +kernel
theorem dX12_acted_55 : decode cX12_acted 55 = .ok (.ireturn, 1) := by decide +kernel
theorem dX12_done_0 : decode cX12_done 0 = .ok (.iload_n 3, 1) := by decide +kernel
theorem dX12_done_1 : decode cX12_done 1 = .ok (.iload_n 0, 1) := by decide +kernel
theorem dX12_done_2 : decode cX12_done 2 = .ok (.invokestatic 192, 3) := by decide +kernel
theorem dX12_done_5 : decode cX12_done 5 = .ok (.istore 5, 2) := by decide +kernel
theorem dX12_done_7 : decode cX12_done 7 = .ok (.iload_n 2, 1) := by decide +kernel
theorem dX12_done_8 : decode cX12_done 8 = .ok (.bipush (-6), 2) := by decide +kernel
theorem dX12_done_10 : decode cX12_done 10 = .ok (.if_icmp .ne 8, 3) := by decide +kernel
theorem dX12_done_13 : decode cX12_done 13 = .ok (.iload 5, 2) := by decide +kernel
theorem dX12_done_15 : decode cX12_done 15 = .ok (.goto 15, 3) := by decide +kernel
theorem dX12_done_18 : decode cX12_done 18 = .ok (.iload_n 2, 1) := by decide +kernel
theorem dX12_done_19 : decode cX12_done 19 = .ok (.iload 5, 2) := by decide +kernel
theorem dX12_done_21 : decode cX12_done 21 = .ok (.iload 4, 2) := by decide +kernel
theorem dX12_done_23 : decode cX12_done 23 = .ok (.iload_n 0, 1) := by decide +kernel
theorem dX12_done_24 : decode cX12_done 24 = .ok (.invokestatic 192, 3) := by decide +kernel
theorem dX12_done_27 : decode cX12_done 27 = .ok (.invokestatic 195, 3) := by decide +kernel
theorem dX12_done_30 : decode cX12_done 30 = .ok (.istore 6, 2) := by decide +kernel
theorem dX12_done_32 : decode cX12_done 32 = .ok (.iload_n 0, 1) := by decide +kernel
theorem dX12_done_33 : decode cX12_done 33 = .ok (.iload 6, 2) := by decide +kernel
theorem dX12_done_35 : decode cX12_done 35 = .ok (.iload_n 1, 1) := by decide +kernel
theorem dX12_done_36 : decode cX12_done 36 = .ok (.iload_n 0, 1) := by decide +kernel
theorem dX12_done_37 : decode cX12_done 37 = .ok (.invokestatic 192, 3) := by decide +kernel
theorem dX12_done_40 : decode cX12_done 40 = .ok (.isub, 1) := by decide +kernel
theorem dX12_done_41 : decode cX12_done 41 = .ok (.iload_n 1, 1) := by decide +kernel
theorem dX12_done_42 : decode cX12_done 42 = .ok (.invokestatic 189, 3) := by decide +kernel
theorem dX12_done_45 : decode cX12_done 45 = .ok (.imul, 1) := by decide +kernel
theorem dX12_done_46 : decode cX12_done 46 = .ok (.iadd, 1) := by decide +kernel
theorem dX12_done_47 : decode cX12_done 47 = .ok (.ireturn, 1) := by decide +kernel
theorem dX12_runOf_0 : decode cX12_runOf 0 = .ok (.iload_n 1, 1) := by decide +kernel
theorem dX12_runOf_1 : decode cX12_runOf 1 = .ok (.istore_n 3, 1) := by decide +kernel
theorem dX12_runOf_2 : decode cX12_runOf 2 = .ok (.iconst 0, 1) := by decide +kernel
theorem dX12_runOf_3 : decode cX12_runOf 3 = .ok (.istore 4, 2) := by decide +kernel
theorem dX12_runOf_5 : decode cX12_runOf 5 = .ok (.iload 4, 2) := by decide +kernel
theorem dX12_runOf_7 : decode cX12_runOf 7 = .ok (.iload_n 2, 1) := by decide +kernel
theorem dX12_runOf_8 : decode cX12_runOf 8 = .ok (.if_icmp .ge 42, 3) := by decide +kernel
theorem dX12_runOf_11 : decode cX12_runOf 11 = .ok (.iload_n 3, 1) := by decide +kernel
theorem dX12_runOf_12 : decode cX12_runOf 12 = .ok (.aload_n 0, 1) := by decide +kernel
theorem dX12_runOf_13 : decode cX12_runOf 13 = .ok (.getfield 13, 3) := by decide +kernel
theorem dX12_runOf_16 : decode cX12_runOf 16 = .ok (.iload 4, 2) := by decide +kernel
theorem dX12_runOf_18 : decode cX12_runOf 18 = .ok (.iaload, 1) := by decide +kernel
theorem dX12_runOf_19 : decode cX12_runOf 19 = .ok (.aload_n 0, 1) := by decide +kernel
theorem dX12_runOf_20 : decode cX12_runOf 20 = .ok (.getfield 16, 3) := by decide +kernel
theorem dX12_runOf_23 : decode cX12_runOf 23 = .ok (.iload 4, 2) := by decide +kernel
theorem dX12_runOf_25 : decode cX12_runOf 25 = .ok (.iaload, 1) := by decide +kernel
theorem dX12_runOf_26 : decode cX12_runOf 26 = .ok (.aload_n 0, 1) := by decide +kernel
theorem dX12_runOf_27 : decode cX12_runOf 27 = .ok (.getfield 19, 3) := by decide +kernel
theorem dX12_runOf_30 : decode cX12_runOf 30 = .ok (.iload 4, 2) := by decide +kernel
theorem dX12_runOf_32 : decode cX12_runOf 32 = .ok (.iaload, 1) := by decide +kernel
theorem dX12_runOf_33 : decode cX12_runOf 33 = .ok (.aload_n 0, 1) := by decide +kernel
theorem dX12_runOf_34 : decode cX12_runOf 34 = .ok (.getfield 22, 3) := by decide +kernel
theorem dX12_runOf_37 : decode cX12_runOf 37 = .ok (.iload 4, 2) := by decide +kernel
theorem dX12_runOf_39 : decode cX12_runOf 39 = .ok (.iaload, 1) := by decide +kernel
theorem dX12_runOf_40 : decode cX12_runOf 40 = .ok (.invokestatic 199, 3) := by decide +kernel
theorem dX12_runOf_43 : decode cX12_runOf 43 = .ok (.istore_n 3, 1) := by decide +kernel
theorem dX12_runOf_44 : decode cX12_runOf 44 = .ok (.iinc 4 1, 3) := by decide +kernel
theorem dX12_runOf_47 : decode cX12_runOf 47 = .ok (.goto (-42), 3) := by decide +kernel
theorem dX12_runOf_50 : decode cX12_runOf 50 = .ok (.iload_n 3, 1) := by decide +kernel
theorem dX12_runOf_51 : decode cX12_runOf 51 = .ok (.ireturn, 1) := by decide +kernel
theorem dX12_run_0 : decode cX12_run 0 = .ok (.iload_n 1, 1) := by decide +kernel
theorem dX12_run_1 : decode cX12_run 1 = .ok (.i2l, 1) := by decide +kernel
theorem dX12_run_2 : decode cX12_run 2 = .ok (.lconst 0, 1) := by decide +kernel
theorem dX12_run_3 : decode cX12_run 3 = .ok (.ldc2_w 203, 3) := by decide +kernel
theorem dX12_run_6 : decode cX12_run 6 = .ok (.invokestatic 125, 3) := by decide +kernel
theorem dX12_run_9 : decode cX12_run 9 = .ok (.ifCond .eq 20, 3) := by decide +kernel
theorem dX12_run_12 : decode cX12_run 12 = .ok (.aload_n 0, 1) := by decide +kernel
theorem dX12_run_13 : decode cX12_run 13 = .ok (.iload_n 2, 1) := by decide +kernel
theorem dX12_run_14 : decode cX12_run 14 = .ok (.invokevirtual 205, 3) := by decide +kernel
theorem dX12_run_17 : decode cX12_run 17 = .ok (.ifCond .eq 12, 3) := by decide +kernel
theorem dX12_run_20 : decode cX12_run 20 = .ok (.aload_n 0, 1) := by decide +kernel
theorem dX12_run_21 : decode cX12_run 21 = .ok (.iload_n 1, 1) := by decide +kernel
theorem dX12_run_22 : decode cX12_run 22 = .ok (.iload_n 2, 1) := by decide +kernel
theorem dX12_run_23 : decode cX12_run 23 = .ok (.invokevirtual 208, 3) := by decide +kernel
theorem dX12_run_26 : decode cX12_run 26 = .ok (.goto 5, 3) := by decide +kernel
theorem dX12_run_29 : decode cX12_run 29 = .ok (.bipush (-2), 2) := by decide +kernel
theorem dX12_run_31 : decode cX12_run 31 = .ok (.ireturn, 1) := by decide +kernel
theorem dX12_keep_0 : decode cX12_keep 0 = .ok (.iconst 0, 1) := by decide +kernel
theorem dX12_keep_1 : decode cX12_keep 1 = .ok (.istore_n 1, 1) := by decide +kernel
theorem dX12_keep_2 : decode cX12_keep 2 = .ok (.iload_n 1, 1) := by decide +kernel
theorem dX12_keep_3 : decode cX12_keep 3 = .ok (.aload_n 0, 1) := by decide +kernel
theorem dX12_keep_4 : decode cX12_keep 4 = .ok (.getfield 181, 3) := by decide +kernel
theorem dX12_keep_7 : decode cX12_keep 7 = .ok (.if_icmp .ge 71, 3) := by decide +kernel
theorem dX12_keep_10 : decode cX12_keep 10 = .ok (.aload_n 0, 1) := by decide +kernel
theorem dX12_keep_11 : decode cX12_keep 11 = .ok (.getfield 25, 3) := by decide +kernel
theorem dX12_keep_14 : decode cX12_keep 14 = .ok (.iconst 4, 1) := by decide +kernel
theorem dX12_keep_15 : decode cX12_keep 15 = .ok (.iload_n 1, 1) := by decide +kernel
theorem dX12_keep_16 : decode cX12_keep 16 = .ok (.imul, 1) := by decide +kernel
theorem dX12_keep_17 : decode cX12_keep 17 = .ok (.aload_n 0, 1) := by decide +kernel
theorem dX12_keep_18 : decode cX12_keep 18 = .ok (.getfield 13, 3) := by decide +kernel
theorem dX12_keep_21 : decode cX12_keep 21 = .ok (.iload_n 1, 1) := by decide +kernel
theorem dX12_keep_22 : decode cX12_keep 22 = .ok (.iaload, 1) := by decide +kernel
theorem dX12_keep_23 : decode cX12_keep 23 = .ok (.iastore, 1) := by decide +kernel
theorem dX12_keep_24 : decode cX12_keep 24 = .ok (.aload_n 0, 1) := by decide +kernel
theorem dX12_keep_25 : decode cX12_keep 25 = .ok (.getfield 25, 3) := by decide +kernel
theorem dX12_keep_28 : decode cX12_keep 28 = .ok (.iconst 4, 1) := by decide +kernel
theorem dX12_keep_29 : decode cX12_keep 29 = .ok (.iload_n 1, 1) := by decide +kernel
theorem dX12_keep_30 : decode cX12_keep 30 = .ok (.imul, 1) := by decide +kernel
theorem dX12_keep_31 : decode cX12_keep 31 = .ok (.iconst 1, 1) := by decide +kernel
theorem dX12_keep_32 : decode cX12_keep 32 = .ok (.iadd, 1) := by decide +kernel
theorem dX12_keep_33 : decode cX12_keep 33 = .ok (.aload_n 0, 1) := by decide +kernel
theorem dX12_keep_34 : decode cX12_keep 34 = .ok (.getfield 16, 3) := by decide +kernel
theorem dX12_keep_37 : decode cX12_keep 37 = .ok (.iload_n 1, 1) := by decide +kernel
theorem dX12_keep_38 : decode cX12_keep 38 = .ok (.iaload, 1) := by decide +kernel
theorem dX12_keep_39 : decode cX12_keep 39 = .ok (.iastore, 1) := by decide +kernel
theorem dX12_keep_40 : decode cX12_keep 40 = .ok (.aload_n 0, 1) := by decide +kernel
theorem dX12_keep_41 : decode cX12_keep 41 = .ok (.getfield 25, 3) := by decide +kernel
theorem dX12_keep_44 : decode cX12_keep 44 = .ok (.iconst 4, 1) := by decide +kernel
theorem dX12_keep_45 : decode cX12_keep 45 = .ok (.iload_n 1, 1) := by decide +kernel
theorem dX12_keep_46 : decode cX12_keep 46 = .ok (.imul, 1) := by decide +kernel
theorem dX12_keep_47 : decode cX12_keep 47 = .ok (.iconst 2, 1) := by decide +kernel
theorem dX12_keep_48 : decode cX12_keep 48 = .ok (.iadd, 1) := by decide +kernel
theorem dX12_keep_49 : decode cX12_keep 49 = .ok (.aload_n 0, 1) := by decide +kernel
theorem dX12_keep_50 : decode cX12_keep 50 = .ok (.getfield 19, 3) := by decide +kernel
theorem dX12_keep_53 : decode cX12_keep 53 = .ok (.iload_n 1, 1) := by decide +kernel
theorem dX12_keep_54 : decode cX12_keep 54 = .ok (.iaload, 1) := by decide +kernel
theorem dX12_keep_55 : decode cX12_keep 55 = .ok (.iastore, 1) := by decide +kernel
theorem dX12_keep_56 : decode cX12_keep 56 = .ok (.aload_n 0, 1) := by decide +kernel
theorem dX12_keep_57 : decode cX12_keep 57 = .ok (.getfield 25, 3) := by decide +kernel
theorem dX12_keep_60 : decode cX12_keep 60 = .ok (.iconst 4, 1) := by decide +kernel
theorem dX12_keep_61 : decode cX12_keep 61 = .ok (.iload_n 1, 1) := by decide +kernel
theorem dX12_keep_62 : decode cX12_keep 62 = .ok (.imul, 1) := by decide +kernel
theorem dX12_keep_63 : decode cX12_keep 63 = .ok (.iconst 3, 1) := by decide +kernel
theorem dX12_keep_64 : decode cX12_keep 64 = .ok (.iadd, 1) := by decide +kernel
theorem dX12_keep_65 : decode cX12_keep 65 = .ok (.aload_n 0, 1) := by decide +kernel
theorem dX12_keep_66 : decode cX12_keep 66 = .ok (.getfield 22, 3) := by decide +kernel
theorem dX12_keep_69 : decode cX12_keep 69 = .ok (.iload_n 1, 1) := by decide +kernel
theorem dX12_keep_70 : decode cX12_keep 70 = .ok (.iaload, 1) := by decide +kernel
theorem dX12_keep_71 : decode cX12_keep 71 = .ok (.iastore, 1) := by decide +kernel
theorem dX12_keep_72 : decode cX12_keep 72 = .ok (.iinc 1 1, 3) := by decide +kernel
theorem dX12_keep_75 : decode cX12_keep 75 = .ok (.goto (-73), 3) := by decide +kernel
theorem dX12_keep_78 : decode cX12_keep 78 = .ok (.aload_n 0, 1) := by decide +kernel
theorem dX12_keep_79 : decode cX12_keep 79 = .ok (.aload_n 0, 1) := by decide +kernel
theorem dX12_keep_80 : decode cX12_keep 80 = .ok (.getfield 181, 3) := by decide +kernel
theorem dX12_keep_83 : decode cX12_keep 83 = .ok (.putfield 211, 3) := by decide +kernel
theorem dX12_keep_86 : decode cX12_keep 86 = .ok (.aload_n 0, 1) := by decide +kernel
theorem dX12_keep_87 : decode cX12_keep 87 = .ok (.getfield 181, 3) := by decide +kernel
theorem dX12_keep_90 : decode cX12_keep 90 = .ok (.ireturn, 1) := by decide +kernel
theorem dX12_areAlike_0 : decode cX12_areAlike 0 = .ok (.iconst 1, 1) := by decide +kernel
theorem dX12_areAlike_1 : decode cX12_areAlike 1 = .ok (.istore 4, 2) := by decide +kernel
theorem dX12_areAlike_3 : decode cX12_areAlike 3 = .ok (.iconst 0, 1) := by decide +kernel
theorem dX12_areAlike_4 : decode cX12_areAlike 4 = .ok (.istore 5, 2) := by decide +kernel
theorem dX12_areAlike_6 : decode cX12_areAlike 6 = .ok (.iload 5, 2) := by decide +kernel
theorem dX12_areAlike_8 : decode cX12_areAlike 8 = .ok (.iconst 4, 1) := by decide +kernel
theorem dX12_areAlike_9 : decode cX12_areAlike 9 = .ok (.if_icmp .ge 45, 3) := by decide +kernel
theorem dX12_areAlike_12 : decode cX12_areAlike 12 = .ok (.iload 4, 2) := by decide +kernel
theorem dX12_areAlike_14 : decode cX12_areAlike 14 = .ok (.ifCond .eq 31, 3) := by decide +kernel
theorem dX12_areAlike_17 : decode cX12_areAlike 17 = .ok (.iload_n 3, 1) := by decide +kernel
theorem dX12_areAlike_18 : decode cX12_areAlike 18 = .ok (.iload 5, 2) := by decide +kernel
theorem dX12_areAlike_20 : decode cX12_areAlike 20 = .ok (.ishr, 1) := by decide +kernel
theorem dX12_areAlike_21 : decode cX12_areAlike 21 = .ok (.iconst 1, 1) := by decide +kernel
theorem dX12_areAlike_22 : decode cX12_areAlike 22 = .ok (.iand, 1) := by decide +kernel
theorem dX12_areAlike_23 : decode cX12_areAlike 23 = .ok (.ifCond .eq 18, 3) := by decide +kernel
theorem dX12_areAlike_26 : decode cX12_areAlike 26 = .ok (.iload 5, 2) := by decide +kernel
theorem dX12_areAlike_28 : decode cX12_areAlike 28 = .ok (.iload_n 1, 1) := by decide +kernel
theorem dX12_areAlike_29 : decode cX12_areAlike 29 = .ok (.invokestatic 192, 3) := by decide +kernel
theorem dX12_areAlike_32 : decode cX12_areAlike 32 = .ok (.iload 5, 2) := by decide +kernel
theorem dX12_areAlike_34 : decode cX12_areAlike 34 = .ok (.iload_n 2, 1) := by decide +kernel
theorem dX12_areAlike_35 : decode cX12_areAlike 35 = .ok (.invokestatic 192, 3) := by decide +kernel
theorem dX12_areAlike_38 : decode cX12_areAlike 38 = .ok (.if_icmp .ne 7, 3) := by decide +kernel
theorem dX12_areAlike_41 : decode cX12_areAlike 41 = .ok (.iconst 1, 1) := by decide +kernel
theorem dX12_areAlike_42 : decode cX12_areAlike 42 = .ok (.goto 4, 3) := by decide +kernel
theorem dX12_areAlike_45 : decode cX12_areAlike 45 = .ok (.iconst 0, 1) := by decide +kernel
theorem dX12_areAlike_46 : decode cX12_areAlike 46 = .ok (.istore 4, 2) := by decide +kernel
theorem dX12_areAlike_48 : decode cX12_areAlike 48 = .ok (.iinc 5 1, 3) := by decide +kernel
theorem dX12_areAlike_51 : decode cX12_areAlike 51 = .ok (.goto (-45), 3) := by decide +kernel
theorem dX12_areAlike_54 : decode cX12_areAlike 54 = .ok (.iload 4, 2) := by decide +kernel
theorem dX12_areAlike_56 : decode cX12_areAlike 56 = .ok (.ireturn, 1) := by decide +kernel
theorem dX12_unlike_0 : decode cX12_unlike 0 = .ok (.iconst 0, 1) := by decide +kernel
theorem dX12_unlike_1 : decode cX12_unlike 1 = .ok (.istore_n 1, 1) := by decide +kernel
theorem dX12_unlike_2 : decode cX12_unlike 2 = .ok (.iload_n 1, 1) := by decide +kernel
theorem dX12_unlike_3 : decode cX12_unlike 3 = .ok (.sipush 4096, 3) := by decide +kernel
theorem dX12_unlike_6 : decode cX12_unlike 6 = .ok (.if_icmp .ge 93, 3) := by decide +kernel
theorem dX12_unlike_9 : decode cX12_unlike 9 = .ok (.iload_n 1, 1) := by decide +kernel
theorem dX12_unlike_10 : decode cX12_unlike 10 = .ok (.istore_n 2, 1) := by decide +kernel
theorem dX12_unlike_11 : decode cX12_unlike 11 = .ok (.iconst 0, 1) := by decide +kernel
theorem dX12_unlike_12 : decode cX12_unlike 12 = .ok (.istore_n 3, 1) := by decide +kernel
theorem dX12_unlike_13 : decode cX12_unlike 13 = .ok (.iload_n 3, 1) := by decide +kernel
theorem dX12_unlike_14 : decode cX12_unlike 14 = .ok (.aload_n 0, 1) := by decide +kernel
theorem dX12_unlike_15 : decode cX12_unlike 15 = .ok (.getfield 211, 3) := by decide +kernel
theorem dX12_unlike_18 : decode cX12_unlike 18 = .ok (.if_icmp .ge 52, 3) := by decide +kernel
theorem dX12_unlike_21 : decode cX12_unlike 21 = .ok (.iload_n 2, 1) := by decide +kernel
theorem dX12_unlike_22 : decode cX12_unlike 22 = .ok (.aload_n 0, 1) := by decide +kernel
theorem dX12_unlike_23 : decode cX12_unlike 23 = .ok (.getfield 25, 3) := by decide +kernel
theorem dX12_unlike_26 : decode cX12_unlike 26 = .ok (.iconst 4, 1) := by decide +kernel
theorem dX12_unlike_27 : decode cX12_unlike 27 = .ok (.iload_n 3, 1) := by decide +kernel
theorem dX12_unlike_28 : decode cX12_unlike 28 = .ok (.imul, 1) := by decide +kernel
theorem dX12_unlike_29 : decode cX12_unlike 29 = .ok (.iaload, 1) := by decide +kernel
theorem dX12_unlike_30 : decode cX12_unlike 30 = .ok (.aload_n 0, 1) := by decide +kernel
theorem dX12_unlike_31 : decode cX12_unlike 31 = .ok (.getfield 25, 3) := by decide +kernel
theorem dX12_unlike_34 : decode cX12_unlike 34 = .ok (.iconst 4, 1) := by decide +kernel
theorem dX12_unlike_35 : decode cX12_unlike 35 = .ok (.iload_n 3, 1) := by decide +kernel
theorem dX12_unlike_36 : decode cX12_unlike 36 = .ok (.imul, 1) := by decide +kernel
theorem dX12_unlike_37 : decode cX12_unlike 37 = .ok (.iconst 1, 1) := by decide +kernel
theorem dX12_unlike_38 : decode cX12_unlike 38 = .ok (.iadd, 1) := by decide +kernel
theorem dX12_unlike_39 : decode cX12_unlike 39 = .ok (.iaload, 1) := by decide +kernel
theorem dX12_unlike_40 : decode cX12_unlike 40 = .ok (.aload_n 0, 1) := by decide +kernel
theorem dX12_unlike_41 : decode cX12_unlike 41 = .ok (.getfield 25, 3) := by decide +kernel
theorem dX12_unlike_44 : decode cX12_unlike 44 = .ok (.iconst 4, 1) := by decide +kernel
theorem dX12_unlike_45 : decode cX12_unlike 45 = .ok (.iload_n 3, 1) := by decide +kernel
theorem dX12_unlike_46 : decode cX12_unlike 46 = .ok (.imul, 1) := by decide +kernel
theorem dX12_unlike_47 : decode cX12_unlike 47 = .ok (.iconst 2, 1) := by decide +kernel
theorem dX12_unlike_48 : decode cX12_unlike 48 = .ok (.iadd, 1) := by decide +kernel
theorem dX12_unlike_49 : decode cX12_unlike 49 = .ok (.iaload, 1) := by decide +kernel
theorem dX12_unlike_50 : decode cX12_unlike 50 = .ok (.aload_n 0, 1) := by decide +kernel
theorem dX12_unlike_51 : decode cX12_unlike 51 = .ok (.getfield 25, 3) := by decide +kernel
theorem dX12_unlike_54 : decode cX12_unlike 54 = .ok (.iconst 4, 1) := by decide +kernel
theorem dX12_unlike_55 : decode cX12_unlike 55 = .ok (.iload_n 3, 1) := by decide +kernel
theorem dX12_unlike_56 : decode cX12_unlike 56 = .ok (.imul, 1) := by decide +kernel
theorem dX12_unlike_57 : decode cX12_unlike 57 = .ok (.iconst 3, 1) := by decide +kernel
theorem dX12_unlike_58 : decode cX12_unlike 58 = .ok (.iadd, 1) := by decide +kernel
theorem dX12_unlike_59 : decode cX12_unlike 59 = .ok (.iaload, 1) := by decide +kernel
theorem dX12_unlike_60 : decode cX12_unlike 60 = .ok (.invokestatic 199, 3) := by decide +kernel
theorem dX12_unlike_63 : decode cX12_unlike 63 = .ok (.istore_n 2, 1) := by decide +kernel
theorem dX12_unlike_64 : decode cX12_unlike 64 = .ok (.iinc 3 1, 3) := by decide +kernel
theorem dX12_unlike_67 : decode cX12_unlike 67 = .ok (.goto (-54), 3) := by decide +kernel
theorem dX12_unlike_70 : decode cX12_unlike 70 = .ok (.aload_n 0, 1) := by decide +kernel
theorem dX12_unlike_71 : decode cX12_unlike 71 = .ok (.aload_n 0, 1) := by decide +kernel
theorem dX12_unlike_72 : decode cX12_unlike 72 = .ok (.iload_n 1, 1) := by decide +kernel
theorem dX12_unlike_73 : decode cX12_unlike 73 = .ok (.aload_n 0, 1) := by decide +kernel
theorem dX12_unlike_74 : decode cX12_unlike 74 = .ok (.getfield 181, 3) := by decide +kernel
theorem dX12_unlike_77 : decode cX12_unlike 77 = .ok (.invokevirtual 208, 3) := by decide +kernel
theorem dX12_unlike_80 : decode cX12_unlike 80 = .ok (.iload_n 2, 1) := by decide +kernel
theorem dX12_unlike_81 : decode cX12_unlike 81 = .ok (.aload_n 0, 1) := by decide +kernel
theorem dX12_unlike_82 : decode cX12_unlike 82 = .ok (.getfield 116, 3) := by decide +kernel
theorem dX12_unlike_85 : decode cX12_unlike 85 = .ok (.invokevirtual 214, 3) := by decide +kernel
theorem dX12_unlike_88 : decode cX12_unlike 88 = .ok (.ifCond .ne 5, 3) := by decide +kernel
theorem dX12_unlike_91 : decode cX12_unlike 91 = .ok (.iload_n 1, 1) := by decide +kernel
theorem dX12_unlike_92 : decode cX12_unlike 92 = .ok (.ireturn, 1) := by decide +kernel
theorem dX12_unlike_93 : decode cX12_unlike 93 = .ok (.iinc 1 1, 3) := by decide +kernel
theorem dX12_unlike_96 : decode cX12_unlike 96 = .ok (.goto (-94), 3) := by decide +kernel
theorem dX12_unlike_99 : decode cX12_unlike 99 = .ok (.bipush (-6), 2) := by decide +kernel
theorem dX12_unlike_101 : decode cX12_unlike 101 = .ok (.ireturn, 1) := by decide +kernel
theorem dX12_bitOf_0 : decode cX12_bitOf 0 = .ok (.iload_n 0, 1) := by decide +kernel
theorem dX12_bitOf_1 : decode cX12_bitOf 1 = .ok (.invokestatic 218, 3) := by decide +kernel
theorem dX12_bitOf_4 : decode cX12_bitOf 4 = .ok (.ifCond .eq 9, 3) := by decide +kernel
theorem dX12_bitOf_7 : decode cX12_bitOf 7 = .ok (.iconst 1, 1) := by decide +kernel
theorem dX12_bitOf_8 : decode cX12_bitOf 8 = .ok (.iload_n 0, 1) := by decide +kernel
theorem dX12_bitOf_9 : decode cX12_bitOf 9 = .ok (.ishl, 1) := by decide +kernel
theorem dX12_bitOf_10 : decode cX12_bitOf 10 = .ok (.goto 4, 3) := by decide +kernel
theorem dX12_bitOf_13 : decode cX12_bitOf 13 = .ok (.iconst 0, 1) := by decide +kernel
theorem dX12_bitOf_14 : decode cX12_bitOf 14 = .ok (.ireturn, 1) := by decide +kernel
theorem dX12_liveAt_0 : decode cX12_liveAt 0 = .ok (.aload_n 0, 1) := by decide +kernel
theorem dX12_liveAt_1 : decode cX12_liveAt 1 = .ok (.getfield 116, 3) := by decide +kernel
theorem dX12_liveAt_4 : decode cX12_liveAt 4 = .ok (.istore_n 2, 1) := by decide +kernel
theorem dX12_liveAt_5 : decode cX12_liveAt 5 = .ok (.aload_n 0, 1) := by decide +kernel
theorem dX12_liveAt_6 : decode cX12_liveAt 6 = .ok (.getfield 181, 3) := by decide +kernel
theorem dX12_liveAt_9 : decode cX12_liveAt 9 = .ok (.iconst 1, 1) := by decide +kernel
theorem dX12_liveAt_10 : decode cX12_liveAt 10 = .ok (.isub, 1) := by decide +kernel
theorem dX12_liveAt_11 : decode cX12_liveAt 11 = .ok (.istore_n 3, 1) := by decide +kernel
theorem dX12_liveAt_12 : decode cX12_liveAt 12 = .ok (.iload_n 3, 1) := by decide +kernel
theorem dX12_liveAt_13 : decode cX12_liveAt 13 = .ok (.iload_n 1, 1) := by decide +kernel
theorem dX12_liveAt_14 : decode cX12_liveAt 14 = .ok (.if_icmp .lt 42, 3) := by decide +kernel
theorem dX12_liveAt_17 : decode cX12_liveAt 17 = .ok (.iload_n 2, 1) := by decide +kernel
theorem dX12_liveAt_18 : decode cX12_liveAt 18 = .ok (.iconst 1, 1) := by decide +kernel
theorem dX12_liveAt_19 : decode cX12_liveAt 19 = .ok (.aload_n 0, 1) := by decide +kernel
theorem dX12_liveAt_20 : decode cX12_liveAt 20 = .ok (.getfield 13, 3) := by decide +kernel
theorem dX12_liveAt_23 : decode cX12_liveAt 23 = .ok (.iload_n 3, 1) := by decide +kernel
theorem dX12_liveAt_24 : decode cX12_liveAt 24 = .ok (.iaload, 1) := by decide +kernel
theorem dX12_liveAt_25 : decode cX12_liveAt 25 = .ok (.ishl, 1) := by decide +kernel
theorem dX12_liveAt_26 : decode cX12_liveAt 26 = .ok (.iconst (-1), 1) := by decide +kernel
theorem dX12_liveAt_27 : decode cX12_liveAt 27 = .ok (.ixor, 1) := by decide +kernel
theorem dX12_liveAt_28 : decode cX12_liveAt 28 = .ok (.iand, 1) := by decide +kernel
theorem dX12_liveAt_29 : decode cX12_liveAt 29 = .ok (.aload_n 0, 1) := by decide +kernel
theorem dX12_liveAt_30 : decode cX12_liveAt 30 = .ok (.getfield 19, 3) := by decide +kernel
theorem dX12_liveAt_33 : decode cX12_liveAt 33 = .ok (.iload_n 3, 1) := by decide +kernel
theorem dX12_liveAt_34 : decode cX12_liveAt 34 = .ok (.iaload, 1) := by decide +kernel
theorem dX12_liveAt_35 : decode cX12_liveAt 35 = .ok (.invokestatic 221, 3) := by decide +kernel
theorem dX12_liveAt_38 : decode cX12_liveAt 38 = .ok (.ior, 1) := by decide +kernel
theorem dX12_liveAt_39 : decode cX12_liveAt 39 = .ok (.aload_n 0, 1) := by decide +kernel
theorem dX12_liveAt_40 : decode cX12_liveAt 40 = .ok (.getfield 22, 3) := by decide +kernel
theorem dX12_liveAt_43 : decode cX12_liveAt 43 = .ok (.iload_n 3, 1) := by decide +kernel
theorem dX12_liveAt_44 : decode cX12_liveAt 44 = .ok (.iaload, 1) := by decide +kernel
theorem dX12_liveAt_45 : decode cX12_liveAt 45 = .ok (.invokestatic 221, 3) := by decide +kernel
theorem dX12_liveAt_48 : decode cX12_liveAt 48 = .ok (.ior, 1) := by decide +kernel
theorem dX12_liveAt_49 : decode cX12_liveAt 49 = .ok (.istore_n 2, 1) := by decide +kernel
theorem dX12_liveAt_50 : decode cX12_liveAt 50 = .ok (.iinc 3 (-1), 3) := by decide +kernel
theorem dX12_liveAt_53 : decode cX12_liveAt 53 = .ok (.goto (-41), 3) := by decide +kernel
theorem dX12_liveAt_56 : decode cX12_liveAt 56 = .ok (.iload_n 2, 1) := by decide +kernel
theorem dX12_liveAt_57 : decode cX12_liveAt 57 = .ok (.ireturn, 1) := by decide +kernel
theorem dX12_live_0 : decode cX12_live 0 = .ok (.aload_n 0, 1) := by decide +kernel
theorem dX12_live_1 : decode cX12_live 1 = .ok (.iload_n 1, 1) := by decide +kernel
theorem dX12_live_2 : decode cX12_live 2 = .ok (.invokevirtual 205, 3) := by decide +kernel
theorem dX12_live_5 : decode cX12_live 5 = .ok (.ifCond .eq 11, 3) := by decide +kernel
theorem dX12_live_8 : decode cX12_live 8 = .ok (.aload_n 0, 1) := by decide +kernel
theorem dX12_live_9 : decode cX12_live 9 = .ok (.iload_n 1, 1) := by decide +kernel
theorem dX12_live_10 : decode cX12_live 10 = .ok (.invokevirtual 224, 3) := by decide +kernel
theorem dX12_live_13 : decode cX12_live 13 = .ok (.goto 4, 3) := by decide +kernel
theorem dX12_live_16 : decode cX12_live 16 = .ok (.iconst (-1), 1) := by decide +kernel
theorem dX12_live_17 : decode cX12_live 17 = .ok (.ireturn, 1) := by decide +kernel
theorem dX12_isDead_0 : decode cX12_isDead 0 = .ok (.aload_n 0, 1) := by decide +kernel
theorem dX12_isDead_1 : decode cX12_isDead 1 = .ok (.iload_n 1, 1) := by decide +kernel
theorem dX12_isDead_2 : decode cX12_isDead 2 = .ok (.iconst 1, 1) := by decide +kernel
theorem dX12_isDead_3 : decode cX12_isDead 3 = .ok (.iadd, 1) := by decide +kernel
theorem dX12_isDead_4 : decode cX12_isDead 4 = .ok (.invokevirtual 224, 3) := by decide +kernel
theorem dX12_isDead_7 : decode cX12_isDead 7 = .ok (.aload_n 0, 1) := by decide +kernel
theorem dX12_isDead_8 : decode cX12_isDead 8 = .ok (.getfield 13, 3) := by decide +kernel
theorem dX12_isDead_11 : decode cX12_isDead 11 = .ok (.iload_n 1, 1) := by decide +kernel
theorem dX12_isDead_12 : decode cX12_isDead 12 = .ok (.iaload, 1) := by decide +kernel
theorem dX12_isDead_13 : decode cX12_isDead 13 = .ok (.ishr, 1) := by decide +kernel
theorem dX12_isDead_14 : decode cX12_isDead 14 = .ok (.iconst 1, 1) := by decide +kernel
theorem dX12_isDead_15 : decode cX12_isDead 15 = .ok (.iand, 1) := by decide +kernel
theorem dX12_isDead_16 : decode cX12_isDead 16 = .ok (.ifCond .ne 7, 3) := by decide +kernel
theorem dX12_isDead_19 : decode cX12_isDead 19 = .ok (.iconst 1, 1) := by decide +kernel
theorem dX12_isDead_20 : decode cX12_isDead 20 = .ok (.goto 4, 3) := by decide +kernel
theorem dX12_isDead_23 : decode cX12_isDead 23 = .ok (.iconst 0, 1) := by decide +kernel
theorem dX12_isDead_24 : decode cX12_isDead 24 = .ok (.ireturn, 1) := by decide +kernel
theorem dX12_knownOf_0 : decode cX12_knownOf 0 = .ok (.iload_n 1, 1) := by decide +kernel
theorem dX12_knownOf_1 : decode cX12_knownOf 1 = .ok (.bipush 10, 2) := by decide +kernel
theorem dX12_knownOf_3 : decode cX12_knownOf 3 = .ok (.if_icmp .lt 8, 3) := by decide +kernel
theorem dX12_knownOf_6 : decode cX12_knownOf 6 = .ok (.iload_n 1, 1) := by decide +kernel
theorem dX12_knownOf_7 : decode cX12_knownOf 7 = .ok (.bipush 10, 2) := by decide +kernel
theorem dX12_knownOf_9 : decode cX12_knownOf 9 = .ok (.isub, 1) := by decide +kernel
theorem dX12_knownOf_10 : decode cX12_knownOf 10 = .ok (.ireturn, 1) := by decide +kernel
theorem dX12_knownOf_11 : decode cX12_knownOf 11 = .ok (.iconst 0, 1) := by decide +kernel
theorem dX12_knownOf_12 : decode cX12_knownOf 12 = .ok (.istore_n 3, 1) := by decide +kernel
theorem dX12_knownOf_13 : decode cX12_knownOf 13 = .ok (.iload_n 3, 1) := by decide +kernel
theorem dX12_knownOf_14 : decode cX12_knownOf 14 = .ok (.iconst 4, 1) := by decide +kernel
theorem dX12_knownOf_15 : decode cX12_knownOf 15 = .ok (.if_icmp .ge 17, 3) := by decide +kernel
theorem dX12_knownOf_18 : decode cX12_knownOf 18 = .ok (.aload_n 0, 1) := by decide +kernel
theorem dX12_knownOf_19 : decode cX12_knownOf 19 = .ok (.getfield 34, 3) := by decide +kernel
theorem dX12_knownOf_22 : decode cX12_knownOf 22 = .ok (.iload_n 3, 1) := by decide +kernel
theorem dX12_knownOf_23 : decode cX12_knownOf 23 = .ok (.bipush (-6), 2) := by decide +kernel
theorem dX12_knownOf_25 : decode cX12_knownOf 25 = .ok (.iastore, 1) := by decide +kernel
theorem dX12_knownOf_26 : decode cX12_knownOf 26 = .ok (.iinc 3 1, 3) := by decide +kernel
theorem dX12_knownOf_29 : decode cX12_knownOf 29 = .ok (.goto (-16), 3) := by decide +kernel
theorem dX12_knownOf_32 : decode cX12_knownOf 32 = .ok (.iconst 0, 1) := by decide +kernel
theorem dX12_knownOf_33 : decode cX12_knownOf 33 = .ok (.istore_n 3, 1) := by decide +kernel
theorem dX12_knownOf_34 : decode cX12_knownOf 34 = .ok (.iload_n 3, 1) := by decide +kernel
theorem dX12_knownOf_35 : decode cX12_knownOf 35 = .ok (.iload_n 2, 1) := by decide +kernel
theorem dX12_knownOf_36 : decode cX12_knownOf 36 = .ok (.if_icmp .ge 103, 3) := by decide +kernel
theorem dX12_knownOf_39 : decode cX12_knownOf 39 = .ok (.aload_n 0, 1) := by decide +kernel
theorem dX12_knownOf_40 : decode cX12_knownOf 40 = .ok (.aload_n 0, 1) := by decide +kernel
theorem dX12_knownOf_41 : decode cX12_knownOf 41 = .ok (.getfield 19, 3) := by decide +kernel
theorem dX12_knownOf_44 : decode cX12_knownOf 44 = .ok (.iload_n 3, 1) := by decide +kernel
theorem dX12_knownOf_45 : decode cX12_knownOf 45 = .ok (.iaload, 1) := by decide +kernel
theorem dX12_knownOf_46 : decode cX12_knownOf 46 = .ok (.invokevirtual 227, 3) := by decide +kernel
theorem dX12_knownOf_49 : decode cX12_knownOf 49 = .ok (.istore 4, 2) := by decide +kernel
theorem dX12_knownOf_51 : decode cX12_knownOf 51 = .ok (.aload_n 0, 1) := by decide +kernel
theorem dX12_knownOf_52 : decode cX12_knownOf 52 = .ok (.getfield 16, 3) := by decide +kernel
theorem dX12_knownOf_55 : decode cX12_knownOf 55 = .ok (.iload_n 3, 1) := by decide +kernel
theorem dX12_knownOf_56 : decode cX12_knownOf 56 = .ok (.iaload, 1) := by decide +kernel
theorem dX12_knownOf_57 : decode cX12_knownOf 57 = .ok (.bipush (-6), 2) := by decide +kernel
theorem dX12_knownOf_59 : decode cX12_knownOf 59 = .ok (.if_icmp .ne 7, 3) := by decide +kernel
theorem dX12_knownOf_62 : decode cX12_knownOf 62 = .ok (.iconst 0, 1) := by decide +kernel
theorem dX12_knownOf_63 : decode cX12_knownOf 63 = .ok (.goto 13, 3) := by decide +kernel
theorem dX12_knownOf_66 : decode cX12_knownOf 66 = .ok (.aload_n 0, 1) := by decide +kernel
theorem dX12_knownOf_67 : decode cX12_knownOf 67 = .ok (.aload_n 0, 1) := by decide +kernel
theorem dX12_knownOf_68 : decode cX12_knownOf 68 = .ok (.getfield 22, 3) := by decide +kernel
theorem dX12_knownOf_71 : decode cX12_knownOf 71 = .ok (.iload_n 3, 1) := by decide +kernel
theorem dX12_knownOf_72 : decode cX12_knownOf 72 = .ok (.iaload, 1) := by decide +kernel
theorem dX12_knownOf_73 : decode cX12_knownOf 73 = .ok (.invokevirtual 227, 3) := by decide +kernel
theorem dX12_knownOf_76 : decode cX12_knownOf 76 = .ok (.istore 5, 2) := by decide +kernel
theorem dX12_knownOf_78 : decode cX12_knownOf 78 = .ok (.aload_n 0, 1) := by decide +kernel
theorem dX12_knownOf_79 : decode cX12_knownOf 79 = .ok (.getfield 34, 3) := by decide +kernel
theorem dX12_knownOf_82 : decode cX12_knownOf 82 = .ok (.aload_n 0, 1) := by decide +kernel
theorem dX12_knownOf_83 : decode cX12_knownOf 83 = .ok (.getfield 13, 3) := by decide +kernel
theorem dX12_knownOf_86 : decode cX12_knownOf 86 = .ok (.iload_n 3, 1) := by decide +kernel
theorem dX12_knownOf_87 : decode cX12_knownOf 87 = .ok (.iaload, 1) := by decide +kernel
theorem dX12_knownOf_88 : decode cX12_knownOf 88 = .ok (.iload 4, 2) := by decide +kernel
theorem dX12_knownOf_90 : decode cX12_knownOf 90 = .ok (.ifCond .lt 8, 3) := by decide +kernel
theorem dX12_knownOf_93 : decode cX12_knownOf 93 = .ok (.iload 5, 2) := by decide +kernel
theorem dX12_knownOf_95 : decode cX12_knownOf 95 = .ok (.ifCond .ge 8, 3) := by decide +kernel
theorem dX12_knownOf_98 : decode cX12_knownOf 98 = .ok (.bipush (-6), 2) := by decide +kernel
theorem dX12_knownOf_100 : decode cX12_knownOf 100 = .ok (.goto 32, 3) := by decide +kernel
theorem dX12_knownOf_103 : decode cX12_knownOf 103 = .ok (.aload_n 0, 1) := by decide +kernel
theorem dX12_knownOf_104 : decode cX12_knownOf 104 = .ok (.getfield 16, 3) := by decide +kernel
theorem dX12_knownOf_107 : decode cX12_knownOf 107 = .ok (.iload_n 3, 1) := by decide +kernel
theorem dX12_knownOf_108 : decode cX12_knownOf 108 = .ok (.iaload, 1) := by decide +kernel
theorem dX12_knownOf_109 : decode cX12_knownOf 109 = .ok (.bipush (-6), 2) := by decide +kernel
theorem dX12_knownOf_111 : decode cX12_knownOf 111 = .ok (.if_icmp .ne 8, 3) := by decide +kernel
theorem dX12_knownOf_114 : decode cX12_knownOf 114 = .ok (.iload 4, 2) := by decide +kernel
theorem dX12_knownOf_116 : decode cX12_knownOf 116 = .ok (.goto 16, 3) := by decide +kernel
theorem dX12_knownOf_119 : decode cX12_knownOf 119 = .ok (.aload_n 0, 1) := by decide +kernel
theorem dX12_knownOf_120 : decode cX12_knownOf 120 = .ok (.getfield 16, 3) := by decide +kernel
theorem dX12_knownOf_123 : decode cX12_knownOf 123 = .ok (.iload_n 3, 1) := by decide +kernel
theorem dX12_knownOf_124 : decode cX12_knownOf 124 = .ok (.iaload, 1) := by decide +kernel
theorem dX12_knownOf_125 : decode cX12_knownOf 125 = .ok (.iload 4, 2) := by decide +kernel
theorem dX12_knownOf_127 : decode cX12_knownOf 127 = .ok (.iload 5, 2) := by decide +kernel
theorem dX12_knownOf_129 : decode cX12_knownOf 129 = .ok (.invokestatic 195, 3) := by decide +kernel
theorem dX12_knownOf_132 : decode cX12_knownOf 132 = .ok (.iastore, 1) := by decide +kernel
theorem dX12_knownOf_133 : decode cX12_knownOf 133 = .ok (.iinc 3 1, 3) := by decide +kernel
theorem dX12_knownOf_136 : decode cX12_knownOf 136 = .ok (.goto (-102), 3) := by decide +kernel
theorem dX12_knownOf_139 : decode cX12_knownOf 139 = .ok (.aload_n 0, 1) := by decide +kernel
theorem dX12_knownOf_140 : decode cX12_knownOf 140 = .ok (.getfield 34, 3) := by decide +kernel
theorem dX12_knownOf_143 : decode cX12_knownOf 143 = .ok (.iload_n 1, 1) := by decide +kernel
theorem dX12_knownOf_144 : decode cX12_knownOf 144 = .ok (.iaload, 1) := by decide +kernel
theorem dX12_knownOf_145 : decode cX12_knownOf 145 = .ok (.ireturn, 1) := by decide +kernel
theorem dX12_knownHere_0 : decode cX12_knownHere 0 = .ok (.iload_n 1, 1) := by decide +kernel
theorem dX12_knownHere_1 : decode cX12_knownHere 1 = .ok (.bipush 10, 2) := by decide +kernel
theorem dX12_knownHere_3 : decode cX12_knownHere 3 = .ok (.if_icmp .lt 10, 3) := by decide +kernel
theorem dX12_knownHere_6 : decode cX12_knownHere 6 = .ok (.iload_n 1, 1) := by decide +kernel
theorem dX12_knownHere_7 : decode cX12_knownHere 7 = .ok (.bipush 10, 2) := by decide +kernel
theorem dX12_knownHere_9 : decode cX12_knownHere 9 = .ok (.isub, 1) := by decide +kernel
theorem dX12_knownHere_10 : decode cX12_knownHere 10 = .ok (.goto 9, 3) := by decide +kernel
theorem dX12_knownHere_13 : decode cX12_knownHere 13 = .ok (.aload_n 0, 1) := by decide +kernel
theorem dX12_knownHere_14 : decode cX12_knownHere 14 = .ok (.getfield 34, 3) := by decide +kernel
theorem dX12_knownHere_17 : decode cX12_knownHere 17 = .ok (.iload_n 1, 1) := by decide +kernel
theorem dX12_knownHere_18 : decode cX12_knownHere 18 = .ok (.iaload, 1) := by decide +kernel
theorem dX12_knownHere_19 : decode cX12_knownHere 19 = .ok (.ireturn, 1) := by decide +kernel
theorem dX12_known_0 : decode cX12_known 0 = .ok (.aload_n 0, 1) := by decide +kernel
theorem dX12_known_1 : decode cX12_known 1 = .ok (.iload_n 1, 1) := by decide +kernel
theorem dX12_known_2 : decode cX12_known 2 = .ok (.invokevirtual 205, 3) := by decide +kernel
theorem dX12_known_5 : decode cX12_known 5 = .ok (.ifCond .eq 19, 3) := by decide +kernel
theorem dX12_known_8 : decode cX12_known 8 = .ok (.iload_n 2, 1) := by decide +kernel
theorem dX12_known_9 : decode cX12_known 9 = .ok (.invokestatic 218, 3) := by decide +kernel
theorem dX12_known_12 : decode cX12_known 12 = .ok (.ifCond .eq 12, 3) := by decide +kernel
theorem dX12_known_15 : decode cX12_known 15 = .ok (.aload_n 0, 1) := by decide +kernel
theorem dX12_known_16 : decode cX12_known 16 = .ok (.iload_n 2, 1) := by decide +kernel
theorem dX12_known_17 : decode cX12_known 17 = .ok (.iload_n 1, 1) := by decide +kernel
theorem dX12_known_18 : decode cX12_known 18 = .ok (.invokevirtual 230, 3) := by decide +kernel
theorem dX12_known_21 : decode cX12_known 21 = .ok (.goto 4, 3) := by decide +kernel
theorem dX12_known_24 : decode cX12_known 24 = .ok (.iconst (-1), 1) := by decide +kernel
theorem dX12_known_25 : decode cX12_known 25 = .ok (.ireturn, 1) := by decide +kernel
theorem dX12_sortOf_0 : decode cX12_sortOf 0 = .ok (.iload_n 1, 1) := by decide +kernel
theorem dX12_sortOf_1 : decode cX12_sortOf 1 = .ok (.bipush 10, 2) := by decide +kernel
theorem dX12_sortOf_3 : decode cX12_sortOf 3 = .ok (.if_icmp .ge 10, 3) := by decide +kernel
theorem dX12_sortOf_6 : decode cX12_sortOf 6 = .ok (.aload_n 0, 1) := by decide +kernel
theorem dX12_sortOf_7 : decode cX12_sortOf 7 = .ok (.getfield 37, 3) := by decide +kernel
theorem dX12_sortOf_10 : decode cX12_sortOf 10 = .ok (.iload_n 1, 1) := by decide +kernel
theorem dX12_sortOf_11 : decode cX12_sortOf 11 = .ok (.iaload, 1) := by decide +kernel
theorem dX12_sortOf_12 : decode cX12_sortOf 12 = .ok (.ireturn, 1) := by decide +kernel
theorem dX12_sortOf_13 : decode cX12_sortOf 13 = .ok (.aload_n 0, 1) := by decide +kernel
theorem dX12_sortOf_14 : decode cX12_sortOf 14 = .ok (.getfield 40, 3) := by decide +kernel
theorem dX12_sortOf_17 : decode cX12_sortOf 17 = .ok (.iload_n 1, 1) := by decide +kernel
theorem dX12_sortOf_18 : decode cX12_sortOf 18 = .ok (.bipush 10, 2) := by decide +kernel
theorem dX12_sortOf_20 : decode cX12_sortOf 20 = .ok (.isub, 1) := by decide +kernel
theorem dX12_sortOf_21 : decode cX12_sortOf 21 = .ok (.iaload, 1) := by decide +kernel
theorem dX12_sortOf_22 : decode cX12_sortOf 22 = .ok (.ifCond .ge 26, 3) := by decide +kernel
theorem dX12_sortOf_25 : decode cX12_sortOf 25 = .ok (.aload_n 0, 1) := by decide +kernel
theorem dX12_sortOf_26 : decode cX12_sortOf 26 = .ok (.getfield 40, 3) := by decide +kernel
theorem dX12_sortOf_29 : decode cX12_sortOf 29 = .ok (.iload_n 1, 1) := by decide +kernel
theorem dX12_sortOf_30 : decode cX12_sortOf 30 = .ok (.bipush 10, 2) := by decide +kernel
theorem dX12_sortOf_32 : decode cX12_sortOf 32 = .ok (.isub, 1) := by decide +kernel
theorem dX12_sortOf_33 : decode cX12_sortOf 33 = .ok (.aload_n 0, 1) := by decide +kernel
theorem dX12_sortOf_34 : decode cX12_sortOf 34 = .ok (.getfield 233, 3) := by decide +kernel
theorem dX12_sortOf_37 : decode cX12_sortOf 37 = .ok (.iastore, 1) := by decide +kernel
theorem dX12_sortOf_38 : decode cX12_sortOf 38 = .ok (.aload_n 0, 1) := by decide +kernel
theorem dX12_sortOf_39 : decode cX12_sortOf 39 = .ok (.dup, 1) := by decide +kernel
theorem dX12_sortOf_40 : decode cX12_sortOf 40 = .ok (.getfield 233, 3) := by decide +kernel
theorem dX12_sortOf_43 : decode cX12_sortOf 43 = .ok (.iconst 1, 1) := by decide +kernel
theorem dX12_sortOf_44 : decode cX12_sortOf 44 = .ok (.iadd, 1) := by decide +kernel
theorem dX12_sortOf_45 : decode cX12_sortOf 45 = .ok (.putfield 233, 3) := by decide +kernel
theorem dX12_sortOf_48 : decode cX12_sortOf 48 = .ok (.aload_n 0, 1) := by decide +kernel
theorem dX12_sortOf_49 : decode cX12_sortOf 49 = .ok (.getfield 40, 3) := by decide +kernel
theorem dX12_sortOf_52 : decode cX12_sortOf 52 = .ok (.iload_n 1, 1) := by decide +kernel
theorem dX12_sortOf_53 : decode cX12_sortOf 53 = .ok (.bipush 10, 2) := by decide +kernel
theorem dX12_sortOf_55 : decode cX12_sortOf 55 = .ok (.isub, 1) := by decide +kernel
theorem dX12_sortOf_56 : decode cX12_sortOf 56 = .ok (.iaload, 1) := by decide +kernel
theorem dX12_sortOf_57 : decode cX12_sortOf 57 = .ok (.ireturn, 1) := by decide +kernel
theorem dX12_madeOf_0 : decode cX12_madeOf 0 = .ok (.iconst 0, 1) := by decide +kernel
theorem dX12_madeOf_1 : decode cX12_madeOf 1 = .ok (.istore 4, 2) := by decide +kernel
theorem dX12_madeOf_3 : decode cX12_madeOf 3 = .ok (.iload 4, 2) := by decide +kernel
theorem dX12_madeOf_5 : decode cX12_madeOf 5 = .ok (.aload_n 0, 1) := by decide +kernel
theorem dX12_madeOf_6 : decode cX12_madeOf 6 = .ok (.getfield 236, 3) := by decide +kernel
theorem dX12_madeOf_9 : decode cX12_madeOf 9 = .ok (.if_icmp .ge 102, 3) := by decide +kernel
theorem dX12_madeOf_12 : decode cX12_madeOf 12 = .ok (.aload_n 0, 1) := by decide +kernel
theorem dX12_madeOf_13 : decode cX12_madeOf 13 = .ok (.getfield 46, 3) := by decide +kernel
theorem dX12_madeOf_16 : decode cX12_madeOf 16 = .ok (.iload 4, 2) := by decide +kernel
theorem dX12_madeOf_18 : decode cX12_madeOf 18 = .ok (.iaload, 1) := by decide +kernel
theorem dX12_madeOf_19 : decode cX12_madeOf 19 = .ok (.iload_n 2, 1) := by decide +kernel
theorem dX12_madeOf_20 : decode cX12_madeOf 20 = .ok (.if_icmp .ne 18, 3) := by decide +kernel
theorem dX12_madeOf_23 : decode cX12_madeOf 23 = .ok (.aload_n 0, 1) := by decide +kernel
theorem dX12_madeOf_24 : decode cX12_madeOf 24 = .ok (.getfield 49, 3) := by decide +kernel
theorem dX12_madeOf_27 : decode cX12_madeOf 27 = .ok (.iload 4, 2) := by decide +kernel
theorem dX12_madeOf_29 : decode cX12_madeOf 29 = .ok (.iaload, 1) := by decide +kernel
theorem dX12_madeOf_30 : decode cX12_madeOf 30 = .ok (.iload_n 3, 1) := by decide +kernel
theorem dX12_madeOf_31 : decode cX12_madeOf 31 = .ok (.if_icmp .ne 7, 3) := by decide +kernel
theorem dX12_madeOf_34 : decode cX12_madeOf 34 = .ok (.iconst 1, 1) := by decide +kernel
theorem dX12_madeOf_35 : decode cX12_madeOf 35 = .ok (.goto 4, 3) := by decide +kernel
theorem dX12_madeOf_38 : decode cX12_madeOf 38 = .ok (.iconst 0, 1) := by decide +kernel
theorem dX12_madeOf_39 : decode cX12_madeOf 39 = .ok (.istore 5, 2) := by decide +kernel
theorem dX12_madeOf_41 : decode cX12_madeOf 41 = .ok (.iload_n 1, 1) := by decide +kernel
theorem dX12_madeOf_42 : decode cX12_madeOf 42 = .ok (.bipush 45, 2) := by decide +kernel
theorem dX12_madeOf_44 : decode cX12_madeOf 44 = .ok (.if_icmp .eq 29, 3) := by decide +kernel
theorem dX12_madeOf_47 : decode cX12_madeOf 47 = .ok (.aload_n 0, 1) := by decide +kernel
theorem dX12_madeOf_48 : decode cX12_madeOf 48 = .ok (.getfield 46, 3) := by decide +kernel
theorem dX12_madeOf_51 : decode cX12_madeOf 51 = .ok (.iload 4, 2) := by decide +kernel
theorem dX12_madeOf_53 : decode cX12_madeOf 53 = .ok (.iaload, 1) := by decide +kernel
theorem dX12_madeOf_54 : decode cX12_madeOf 54 = .ok (.iload_n 3, 1) := by decide +kernel
theorem dX12_madeOf_55 : decode cX12_madeOf 55 = .ok (.if_icmp .ne 18, 3) := by decide +kernel
theorem dX12_madeOf_58 : decode cX12_madeOf 58 = .ok (.aload_n 0, 1) := by decide +kernel
theorem dX12_madeOf_59 : decode cX12_madeOf 59 = .ok (.getfield 49, 3) := by decide +kernel
theorem dX12_madeOf_62 : decode cX12_madeOf 62 = .ok (.iload 4, 2) := by decide +kernel
theorem dX12_madeOf_64 : decode cX12_madeOf 64 = .ok (.iaload, 1) := by decide +kernel
theorem dX12_madeOf_65 : decode cX12_madeOf 65 = .ok (.iload_n 2, 1) := by decide +kernel
theorem dX12_madeOf_66 : decode cX12_madeOf 66 = .ok (.if_icmp .ne 7, 3) := by decide +kernel
theorem dX12_madeOf_69 : decode cX12_madeOf 69 = .ok (.iconst 1, 1) := by decide +kernel
theorem dX12_madeOf_70 : decode cX12_madeOf 70 = .ok (.goto 4, 3) := by decide +kernel
theorem dX12_madeOf_73 : decode cX12_madeOf 73 = .ok (.iconst 0, 1) := by decide +kernel
theorem dX12_madeOf_74 : decode cX12_madeOf 74 = .ok (.istore 6, 2) := by decide +kernel
theorem dX12_madeOf_76 : decode cX12_madeOf 76 = .ok (.aload_n 0, 1) := by decide +kernel
theorem dX12_madeOf_77 : decode cX12_madeOf 77 = .ok (.getfield 43, 3) := by decide +kernel
theorem dX12_madeOf_80 : decode cX12_madeOf 80 = .ok (.iload 4, 2) := by decide +kernel
theorem dX12_madeOf_82 : decode cX12_madeOf 82 = .ok (.iaload, 1) := by decide +kernel
theorem dX12_madeOf_83 : decode cX12_madeOf 83 = .ok (.iload_n 1, 1) := by decide +kernel
theorem dX12_madeOf_84 : decode cX12_madeOf 84 = .ok (.if_icmp .ne 21, 3) := by decide +kernel
theorem dX12_madeOf_87 : decode cX12_madeOf 87 = .ok (.iload 5, 2) := by decide +kernel
theorem dX12_madeOf_89 : decode cX12_madeOf 89 = .ok (.ifCond .ne 8, 3) := by decide +kernel
theorem dX12_madeOf_92 : decode cX12_madeOf 92 = .ok (.iload 6, 2) := by decide +kernel
theorem dX12_madeOf_94 : decode cX12_madeOf 94 = .ok (.ifCond .eq 11, 3) := by decide +kernel
theorem dX12_madeOf_97 : decode cX12_madeOf 97 = .ok (.aload_n 0, 1) := by decide +kernel
theorem dX12_madeOf_98 : decode cX12_madeOf 98 = .ok (.getfield 52, 3) := by decide +kernel
theorem dX12_madeOf_101 : decode cX12_madeOf 101 = .ok (.iload 4, 2) := by decide +kernel
theorem dX12_madeOf_103 : decode cX12_madeOf 103 = .ok (.iaload, 1) := by decide +kernel
theorem dX12_madeOf_104 : decode cX12_madeOf 104 = .ok (.ireturn, 1) := by decide +kernel
theorem dX12_madeOf_105 : decode cX12_madeOf 105 = .ok (.iinc 4 1, 3) := by decide +kernel
theorem dX12_madeOf_108 : decode cX12_madeOf 108 = .ok (.goto (-105), 3) := by decide +kernel
theorem dX12_madeOf_111 : decode cX12_madeOf 111 = .ok (.aload_n 0, 1) := by decide +kernel
theorem dX12_madeOf_112 : decode cX12_madeOf 112 = .ok (.getfield 43, 3) := by decide +kernel
theorem dX12_madeOf_115 : decode cX12_madeOf 115 = .ok (.aload_n 0, 1) := by decide +kernel
theorem dX12_madeOf_116 : decode cX12_madeOf 116 = .ok (.getfield 236, 3) := by decide +kernel
theorem dX12_madeOf_119 : decode cX12_madeOf 119 = .ok (.iload_n 1, 1) := by decide +kernel
theorem dX12_madeOf_120 : decode cX12_madeOf 120 = .ok (.iastore, 1) := by decide +kernel
theorem dX12_madeOf_121 : decode cX12_madeOf 121 = .ok (.aload_n 0, 1) := by decide +kernel
theorem dX12_madeOf_122 : decode cX12_madeOf 122 = .ok (.getfield 46, 3) := by decide +kernel
theorem dX12_madeOf_125 : decode cX12_madeOf 125 = .ok (.aload_n 0, 1) := by decide +kernel
theorem dX12_madeOf_126 : decode cX12_madeOf 126 = .ok (.getfield 236, 3) := by decide +kernel
theorem dX12_madeOf_129 : decode cX12_madeOf 129 = .ok (.iload_n 2, 1) := by decide +kernel
theorem dX12_madeOf_130 : decode cX12_madeOf 130 = .ok (.iastore, 1) := by decide +kernel
theorem dX12_madeOf_131 : decode cX12_madeOf 131 = .ok (.aload_n 0, 1) := by decide +kernel
theorem dX12_madeOf_132 : decode cX12_madeOf 132 = .ok (.getfield 49, 3) := by decide +kernel
theorem dX12_madeOf_135 : decode cX12_madeOf 135 = .ok (.aload_n 0, 1) := by decide +kernel
theorem dX12_madeOf_136 : decode cX12_madeOf 136 = .ok (.getfield 236, 3) := by decide +kernel
theorem dX12_madeOf_139 : decode cX12_madeOf 139 = .ok (.iload_n 3, 1) := by decide +kernel
theorem dX12_madeOf_140 : decode cX12_madeOf 140 = .ok (.iastore, 1) := by decide +kernel
theorem dX12_madeOf_141 : decode cX12_madeOf 141 = .ok (.aload_n 0, 1) := by decide +kernel
theorem dX12_madeOf_142 : decode cX12_madeOf 142 = .ok (.getfield 52, 3) := by decide +kernel
theorem dX12_madeOf_145 : decode cX12_madeOf 145 = .ok (.aload_n 0, 1) := by decide +kernel
theorem dX12_madeOf_146 : decode cX12_madeOf 146 = .ok (.getfield 236, 3) := by decide +kernel
theorem dX12_madeOf_149 : decode cX12_madeOf 149 = .ok (.aload_n 0, 1) := by decide +kernel
theorem dX12_madeOf_150 : decode cX12_madeOf 150 = .ok (.getfield 233, 3) := by decide +kernel
theorem dX12_madeOf_153 : decode cX12_madeOf 153 = .ok (.iastore, 1) := by decide +kernel
theorem dX12_madeOf_154 : decode cX12_madeOf 154 = .ok (.aload_n 0, 1) := by decide +kernel
theorem dX12_madeOf_155 : decode cX12_madeOf 155 = .ok (.dup, 1) := by decide +kernel
theorem dX12_madeOf_156 : decode cX12_madeOf 156 = .ok (.getfield 236, 3) := by decide +kernel
theorem dX12_madeOf_159 : decode cX12_madeOf 159 = .ok (.iconst 1, 1) := by decide +kernel
theorem dX12_madeOf_160 : decode cX12_madeOf 160 = .ok (.iadd, 1) := by decide +kernel
theorem dX12_madeOf_161 : decode cX12_madeOf 161 = .ok (.putfield 236, 3) := by decide +kernel
theorem dX12_madeOf_164 : decode cX12_madeOf 164 = .ok (.aload_n 0, 1) := by decide +kernel
theorem dX12_madeOf_165 : decode cX12_madeOf 165 = .ok (.dup, 1) := by decide +kernel
theorem dX12_madeOf_166 : decode cX12_madeOf 166 = .ok (.getfield 233, 3) := by decide +kernel
theorem dX12_madeOf_169 : decode cX12_madeOf 169 = .ok (.iconst 1, 1) := by decide +kernel
theorem dX12_madeOf_170 : decode cX12_madeOf 170 = .ok (.iadd, 1) := by decide +kernel
theorem dX12_madeOf_171 : decode cX12_madeOf 171 = .ok (.putfield 233, 3) := by decide +kernel
theorem dX12_madeOf_174 : decode cX12_madeOf 174 = .ok (.aload_n 0, 1) := by decide +kernel
theorem dX12_madeOf_175 : decode cX12_madeOf 175 = .ok (.getfield 233, 3) := by decide +kernel
theorem dX12_madeOf_178 : decode cX12_madeOf 178 = .ok (.iconst 1, 1) := by decide +kernel
theorem dX12_madeOf_179 : decode cX12_madeOf 179 = .ok (.isub, 1) := by decide +kernel
theorem dX12_madeOf_180 : decode cX12_madeOf 180 = .ok (.ireturn, 1) := by decide +kernel
theorem dX12_beginSorts_0 : decode cX12_beginSorts 0 = .ok (.iconst 0, 1) := by decide +kernel
theorem dX12_beginSorts_1 : decode cX12_beginSorts 1 = .ok (.istore_n 1, 1) := by decide +kernel
theorem dX12_beginSorts_2 : decode cX12_beginSorts 2 = .ok (.iload_n 1, 1) := by decide +kernel
theorem dX12_beginSorts_3 : decode cX12_beginSorts 3 = .ok (.iconst 4, 1) := by decide +kernel
theorem dX12_beginSorts_4 : decode cX12_beginSorts 4 = .ok (.if_icmp .ge 16, 3) := by decide +kernel
theorem dX12_beginSorts_7 : decode cX12_beginSorts 7 = .ok (.aload_n 0, 1) := by decide +kernel
theorem dX12_beginSorts_8 : decode cX12_beginSorts 8 = .ok (.getfield 37, 3) := by decide +kernel
theorem dX12_beginSorts_11 : decode cX12_beginSorts 11 = .ok (.iload_n 1, 1) := by decide +kernel
theorem dX12_beginSorts_12 : decode cX12_beginSorts 12 = .ok (.iload_n 1, 1) := by decide +kernel
theorem dX12_beginSorts_13 : decode cX12_beginSorts 13 = .ok (.iastore, 1) := by decide +kernel
theorem dX12_beginSorts_14 : decode cX12_beginSorts 14 = .ok (.iinc 1 1, 3) := by decide +kernel
theorem dX12_beginSorts_17 : decode cX12_beginSorts 17 = .ok (.goto (-15), 3) := by decide +kernel
theorem dX12_beginSorts_20 : decode cX12_beginSorts 20 = .ok (.iconst 0, 1) := by decide +kernel
theorem dX12_beginSorts_21 : decode cX12_beginSorts 21 = .ok (.istore_n 1, 1) := by decide +kernel
theorem dX12_beginSorts_22 : decode cX12_beginSorts 22 = .ok (.iload_n 1, 1) := by decide +kernel
theorem dX12_beginSorts_23 : decode cX12_beginSorts 23 = .ok (.bipush 8, 2) := by decide +kernel
theorem dX12_beginSorts_25 : decode cX12_beginSorts 25 = .ok (.if_icmp .ge 17, 3) := by decide +kernel
theorem dX12_beginSorts_28 : decode cX12_beginSorts 28 = .ok (.aload_n 0, 1) := by decide +kernel
theorem dX12_beginSorts_29 : decode cX12_beginSorts 29 = .ok (.getfield 40, 3) := by decide +kernel
theorem dX12_beginSorts_32 : decode cX12_beginSorts 32 = .ok (.iload_n 1, 1) := by decide +kernel
theorem dX12_beginSorts_33 : decode cX12_beginSorts 33 = .ok (.bipush (-6), 2) := by decide +kernel
theorem dX12_beginSorts_35 : decode cX12_beginSorts 35 = .ok (.iastore, 1) := by decide +kernel
theorem dX12_beginSorts_36 : decode cX12_beginSorts 36 = .ok (.iinc 1 1, 3) := by decide +kernel
theorem dX12_beginSorts_39 : decode cX12_beginSorts 39 = .ok (.goto (-17), 3) := by decide +kernel
theorem dX12_beginSorts_42 : decode cX12_beginSorts 42 = .ok (.aload_n 0, 1) := by decide +kernel
theorem dX12_beginSorts_43 : decode cX12_beginSorts 43 = .ok (.iconst 0, 1) := by decide +kernel
theorem dX12_beginSorts_44 : decode cX12_beginSorts 44 = .ok (.putfield 236, 3) := by decide +kernel
theorem dX12_beginSorts_47 : decode cX12_beginSorts 47 = .ok (.aload_n 0, 1) := by decide +kernel
theorem dX12_beginSorts_48 : decode cX12_beginSorts 48 = .ok (.iconst 4, 1) := by decide +kernel
theorem dX12_beginSorts_49 : decode cX12_beginSorts 49 = .ok (.putfield 233, 3) := by decide +kernel
theorem dX12_beginSorts_52 : decode cX12_beginSorts 52 = .ok (.return_, 1) := by decide +kernel
theorem dX12_sortMade_0 : decode cX12_sortMade 0 = .ok (.aload_n 0, 1) := by decide +kernel
theorem dX12_sortMade_1 : decode cX12_sortMade 1 = .ok (.aload_n 0, 1) := by decide +kernel
theorem dX12_sortMade_2 : decode cX12_sortMade 2 = .ok (.getfield 19, 3) := by decide +kernel
theorem dX12_sortMade_5 : decode cX12_sortMade 5 = .ok (.iload_n 1, 1) := by decide +kernel
theorem dX12_sortMade_6 : decode cX12_sortMade 6 = .ok (.iaload, 1) := by decide +kernel
theorem dX12_sortMade_7 : decode cX12_sortMade 7 = .ok (.invokevirtual 239, 3) := by decide +kernel
theorem dX12_sortMade_10 : decode cX12_sortMade 10 = .ok (.istore_n 2, 1) := by decide +kernel
theorem dX12_sortMade_11 : decode cX12_sortMade 11 = .ok (.aload_n 0, 1) := by decide +kernel
theorem dX12_sortMade_12 : decode cX12_sortMade 12 = .ok (.getfield 16, 3) := by decide +kernel
theorem dX12_sortMade_15 : decode cX12_sortMade 15 = .ok (.iload_n 1, 1) := by decide +kernel
theorem dX12_sortMade_16 : decode cX12_sortMade 16 = .ok (.iaload, 1) := by decide +kernel
theorem dX12_sortMade_17 : decode cX12_sortMade 17 = .ok (.bipush (-6), 2) := by decide +kernel
theorem dX12_sortMade_19 : decode cX12_sortMade 19 = .ok (.if_icmp .ne 5, 3) := by decide +kernel
theorem dX12_sortMade_22 : decode cX12_sortMade 22 = .ok (.iload_n 2, 1) := by decide +kernel
theorem dX12_sortMade_23 : decode cX12_sortMade 23 = .ok (.ireturn, 1) := by decide +kernel
theorem dX12_sortMade_24 : decode cX12_sortMade 24 = .ok (.aload_n 0, 1) := by decide +kernel
theorem dX12_sortMade_25 : decode cX12_sortMade 25 = .ok (.aload_n 0, 1) := by decide +kernel
theorem dX12_sortMade_26 : decode cX12_sortMade 26 = .ok (.getfield 22, 3) := by decide +kernel
theorem dX12_sortMade_29 : decode cX12_sortMade 29 = .ok (.iload_n 1, 1) := by decide +kernel
theorem dX12_sortMade_30 : decode cX12_sortMade 30 = .ok (.iaload, 1) := by decide +kernel
theorem dX12_sortMade_31 : decode cX12_sortMade 31 = .ok (.invokevirtual 239, 3) := by decide +kernel
theorem dX12_sortMade_34 : decode cX12_sortMade 34 = .ok (.istore_n 3, 1) := by decide +kernel
theorem dX12_sortMade_35 : decode cX12_sortMade 35 = .ok (.aload_n 0, 1) := by decide +kernel
theorem dX12_sortMade_36 : decode cX12_sortMade 36 = .ok (.aload_n 0, 1) := by decide +kernel
theorem dX12_sortMade_37 : decode cX12_sortMade 37 = .ok (.getfield 16, 3) := by decide +kernel
theorem dX12_sortMade_40 : decode cX12_sortMade 40 = .ok (.iload_n 1, 1) := by decide +kernel
theorem dX12_sortMade_41 : decode cX12_sortMade 41 = .ok (.iaload, 1) := by decide +kernel
theorem dX12_sortMade_42 : decode cX12_sortMade 42 = .ok (.iload_n 2, 1) := by decide +kernel
theorem dX12_sortMade_43 : decode cX12_sortMade 43 = .ok (.iload_n 3, 1) := by decide +kernel
theorem dX12_sortMade_44 : decode cX12_sortMade 44 = .ok (.invokevirtual 242, 3) := by decide +kernel
theorem dX12_sortMade_47 : decode cX12_sortMade 47 = .ok (.ireturn, 1) := by decide +kernel
theorem dX12_laySorts_0 : decode cX12_laySorts 0 = .ok (.aload_n 0, 1) := by decide +kernel
theorem dX12_laySorts_1 : decode cX12_laySorts 1 = .ok (.invokevirtual 245, 3) := by decide +kernel
theorem dX12_laySorts_4 : decode cX12_laySorts 4 = .ok (.iconst 0, 1) := by decide +kernel
theorem dX12_laySorts_5 : decode cX12_laySorts 5 = .ok (.istore_n 2, 1) := by decide +kernel
theorem dX12_laySorts_6 : decode cX12_laySorts 6 = .ok (.iload_n 2, 1) := by decide +kernel
theorem dX12_laySorts_7 : decode cX12_laySorts 7 = .ok (.iload_n 1, 1) := by decide +kernel
theorem dX12_laySorts_8 : decode cX12_laySorts 8 = .ok (.if_icmp .ge 25, 3) := by decide +kernel
theorem dX12_laySorts_11 : decode cX12_laySorts 11 = .ok (.aload_n 0, 1) := by decide +kernel
theorem dX12_laySorts_12 : decode cX12_laySorts 12 = .ok (.getfield 37, 3) := by decide +kernel
theorem dX12_laySorts_15 : decode cX12_laySorts 15 = .ok (.aload_n 0, 1) := by decide +kernel
theorem dX12_laySorts_16 : decode cX12_laySorts 16 = .ok (.getfield 13, 3) := by decide +kernel
theorem dX12_laySorts_19 : decode cX12_laySorts 19 = .ok (.iload_n 2, 1) := by decide +kernel
theorem dX12_laySorts_20 : decode cX12_laySorts 20 = .ok (.iaload, 1) := by decide +kernel
theorem dX12_laySorts_21 : decode cX12_laySorts 21 = .ok (.aload_n 0, 1) := by decide +kernel
theorem dX12_laySorts_22 : decode cX12_laySorts 22 = .ok (.iload_n 2, 1) := by decide +kernel
theorem dX12_laySorts_23 : decode cX12_laySorts 23 = .ok (.invokevirtual 248, 3) := by decide +kernel
theorem dX12_laySorts_26 : decode cX12_laySorts 26 = .ok (.iastore, 1) := by decide +kernel
theorem dX12_laySorts_27 : decode cX12_laySorts 27 = .ok (.iinc 2 1, 3) := by decide +kernel
theorem dX12_laySorts_30 : decode cX12_laySorts 30 = .ok (.goto (-24), 3) := by decide +kernel
theorem dX12_laySorts_33 : decode cX12_laySorts 33 = .ok (.return_, 1) := by decide +kernel
theorem dX12_sort_0 : decode cX12_sort 0 = .ok (.aload_n 0, 1) := by decide +kernel
theorem dX12_sort_1 : decode cX12_sort 1 = .ok (.iload_n 1, 1) := by decide +kernel
theorem dX12_sort_2 : decode cX12_sort 2 = .ok (.invokevirtual 205, 3) := by decide +kernel
theorem dX12_sort_5 : decode cX12_sort 5 = .ok (.ifCond .eq 10, 3) := by decide +kernel
theorem dX12_sort_8 : decode cX12_sort 8 = .ok (.iload_n 2, 1) := by decide +kernel
theorem dX12_sort_9 : decode cX12_sort 9 = .ok (.invokestatic 218, 3) := by decide +kernel
theorem dX12_sort_12 : decode cX12_sort 12 = .ok (.ifCond .ne 5, 3) := by decide +kernel
theorem dX12_sort_15 : decode cX12_sort 15 = .ok (.iconst (-1), 1) := by decide +kernel
theorem dX12_sort_16 : decode cX12_sort 16 = .ok (.ireturn, 1) := by decide +kernel
theorem dX12_sort_17 : decode cX12_sort 17 = .ok (.aload_n 0, 1) := by decide +kernel
theorem dX12_sort_18 : decode cX12_sort 18 = .ok (.iload_n 1, 1) := by decide +kernel
theorem dX12_sort_19 : decode cX12_sort 19 = .ok (.invokevirtual 251, 3) := by decide +kernel
theorem dX12_sort_22 : decode cX12_sort 22 = .ok (.aload_n 0, 1) := by decide +kernel
theorem dX12_sort_23 : decode cX12_sort 23 = .ok (.getfield 37, 3) := by decide +kernel
theorem dX12_sort_26 : decode cX12_sort 26 = .ok (.iload_n 2, 1) := by decide +kernel
theorem dX12_sort_27 : decode cX12_sort 27 = .ok (.iaload, 1) := by decide +kernel
theorem dX12_sort_28 : decode cX12_sort 28 = .ok (.ireturn, 1) := by decide +kernel
theorem dX12_holderOf_0 : decode cX12_holderOf 0 = .ok (.aload_n 0, 1) := by decide +kernel
theorem dX12_holderOf_1 : decode cX12_holderOf 1 = .ok (.iload_n 1, 1) := by decide +kernel
theorem dX12_holderOf_2 : decode cX12_holderOf 2 = .ok (.invokevirtual 251, 3) := by decide +kernel
theorem dX12_holderOf_5 : decode cX12_holderOf 5 = .ok (.aload_n 0, 1) := by decide +kernel
theorem dX12_holderOf_6 : decode cX12_holderOf 6 = .ok (.iload_n 1, 1) := by decide +kernel
theorem dX12_holderOf_7 : decode cX12_holderOf 7 = .ok (.invokevirtual 248, 3) := by decide +kernel
theorem dX12_holderOf_10 : decode cX12_holderOf 10 = .ok (.istore_n 2, 1) := by decide +kernel
theorem dX12_holderOf_11 : decode cX12_holderOf 11 = .ok (.bipush (-6), 2) := by decide +kernel
theorem dX12_holderOf_13 : decode cX12_holderOf 13 = .ok (.istore_n 3, 1) := by decide +kernel
theorem dX12_holderOf_14 : decode cX12_holderOf 14 = .ok (.iconst 3, 1) := by decide +kernel
theorem dX12_holderOf_15 : decode cX12_holderOf 15 = .ok (.istore 4, 2) := by decide +kernel
theorem dX12_holderOf_17 : decode cX12_holderOf 17 = .ok (.iload 4, 2) := by decide +kernel
theorem dX12_holderOf_19 : decode cX12_holderOf 19 = .ok (.ifCond .lt 27, 3) := by decide +kernel
theorem dX12_holderOf_22 : decode cX12_holderOf 22 = .ok (.aload_n 0, 1) := by decide +kernel
theorem dX12_holderOf_23 : decode cX12_holderOf 23 = .ok (.getfield 37, 3) := by decide +kernel
theorem dX12_holderOf_26 : decode cX12_holderOf 26 = .ok (.iload 4, 2) := by decide +kernel
theorem dX12_holderOf_28 : decode cX12_holderOf 28 = .ok (.iaload, 1) := by decide +kernel
theorem dX12_holderOf_29 : decode cX12_holderOf 29 = .ok (.iload_n 2, 1) := by decide +kernel
theorem dX12_holderOf_30 : decode cX12_holderOf 30 = .ok (.if_icmp .ne 8, 3) := by decide +kernel
theorem dX12_holderOf_33 : decode cX12_holderOf 33 = .ok (.iload 4, 2) := by decide +kernel
theorem dX12_holderOf_35 : decode cX12_holderOf 35 = .ok (.goto 4, 3) := by decide +kernel
theorem dX12_holderOf_38 : decode cX12_holderOf 38 = .ok (.iload_n 3, 1) := by decide +kernel
theorem dX12_holderOf_39 : decode cX12_holderOf 39 = .ok (.istore_n 3, 1) := by decide +kernel
theorem dX12_holderOf_40 : decode cX12_holderOf 40 = .ok (.iinc 4 (-1), 3) := by decide +kernel
theorem dX12_holderOf_43 : decode cX12_holderOf 43 = .ok (.goto (-26), 3) := by decide +kernel
theorem dX12_holderOf_46 : decode cX12_holderOf 46 = .ok (.iload_n 3, 1) := by decide +kernel
theorem dX12_holderOf_47 : decode cX12_holderOf 47 = .ok (.ireturn, 1) := by decide +kernel
theorem dX12_bad_0 : decode cX12_bad 0 = .ok (.iload_n 1, 1) := by decide +kernel
theorem dX12_bad_1 : decode cX12_bad 1 = .ok (.i2l, 1) := by decide +kernel
theorem dX12_bad_2 : decode cX12_bad 2 = .ok (.lconst 0, 1) := by decide +kernel
theorem dX12_bad_3 : decode cX12_bad 3 = .ok (.lconst 1, 1) := by decide +kernel
theorem dX12_bad_4 : decode cX12_bad 4 = .ok (.invokestatic 125, 3) := by decide +kernel
theorem dX12_bad_7 : decode cX12_bad 7 = .ok (.ifCond .ne 6, 3) := by decide +kernel
theorem dX12_bad_10 : decode cX12_bad 10 = .ok (.bipush (-2), 2) := by decide +kernel
theorem dX12_bad_12 : decode cX12_bad 12 = .ok (.ireturn, 1) := by decide +kernel
theorem dX12_bad_13 : decode cX12_bad 13 = .ok (.iconst 0, 1) := by decide +kernel
theorem dX12_bad_14 : decode cX12_bad 14 = .ok (.istore_n 2, 1) := by decide +kernel
theorem dX12_bad_15 : decode cX12_bad 15 = .ok (.iconst 0, 1) := by decide +kernel
theorem dX12_bad_16 : decode cX12_bad 16 = .ok (.istore_n 3, 1) := by decide +kernel
theorem dX12_bad_17 : decode cX12_bad 17 = .ok (.iload_n 3, 1) := by decide +kernel
theorem dX12_bad_18 : decode cX12_bad 18 = .ok (.aload_n 0, 1) := by decide +kernel
theorem dX12_bad_19 : decode cX12_bad 19 = .ok (.getfield 181, 3) := by decide +kernel
theorem dX12_bad_22 : decode cX12_bad 22 = .ok (.if_icmp .ge 42, 3) := by decide +kernel
theorem dX12_bad_25 : decode cX12_bad 25 = .ok (.iload_n 2, 1) := by decide +kernel
theorem dX12_bad_26 : decode cX12_bad 26 = .ok (.iload_n 1, 1) := by decide +kernel
theorem dX12_bad_27 : decode cX12_bad 27 = .ok (.ifCond .ne 14, 3) := by decide +kernel
theorem dX12_bad_30 : decode cX12_bad 30 = .ok (.aload_n 0, 1) := by decide +kernel
theorem dX12_bad_31 : decode cX12_bad 31 = .ok (.iload_n 3, 1) := by decide +kernel
theorem dX12_bad_32 : decode cX12_bad 32 = .ok (.invokevirtual 255, 3) := by decide +kernel
theorem dX12_bad_35 : decode cX12_bad 35 = .ok (.ifCond .eq 20, 3) := by decide +kernel
theorem dX12_bad_38 : decode cX12_bad 38 = .ok (.goto 11, 3) := by decide +kernel
theorem dX12_bad_41 : decode cX12_bad 41 = .ok (.aload_n 0, 1) := by decide +kernel
theorem dX12_bad_42 : decode cX12_bad 42 = .ok (.iload_n 3, 1) := by decide +kernel
theorem dX12_bad_43 : decode cX12_bad 43 = .ok (.invokevirtual 258, 3) := by decide +kernel
theorem dX12_bad_46 : decode cX12_bad 46 = .ok (.ifCond .lt 9, 3) := by decide +kernel
theorem dX12_bad_49 : decode cX12_bad 49 = .ok (.iconst 1, 1) := by decide +kernel
theorem dX12_bad_50 : decode cX12_bad 50 = .ok (.iload_n 3, 1) := by decide +kernel
theorem dX12_bad_51 : decode cX12_bad 51 = .ok (.ishl, 1) := by decide +kernel
theorem dX12_bad_52 : decode cX12_bad 52 = .ok (.goto 4, 3) := by decide +kernel
theorem dX12_bad_55 : decode cX12_bad 55 = .ok (.iconst 0, 1) := by decide +kernel
theorem dX12_bad_56 : decode cX12_bad 56 = .ok (.ior, 1) := by decide +kernel
theorem dX12_bad_57 : decode cX12_bad 57 = .ok (.istore_n 2, 1) := by decide +kernel
theorem dX12_bad_58 : decode cX12_bad 58 = .ok (.iinc 3 1, 3) := by decide +kernel
theorem dX12_bad_61 : decode cX12_bad 61 = .ok (.goto (-44), 3) := by decide +kernel
theorem dX12_bad_64 : decode cX12_bad 64 = .ok (.iload_n 2, 1) := by decide +kernel
theorem dX12_bad_65 : decode cX12_bad 65 = .ok (.ireturn, 1) := by decide +kernel
theorem dX12_knownAs_0 : decode cX12_knownAs 0 = .ok (.iload_n 1, 1) := by decide +kernel
theorem dX12_knownAs_1 : decode cX12_knownAs 1 = .ok (.bipush (-6), 2) := by decide +kernel
theorem dX12_knownAs_3 : decode cX12_knownAs 3 = .ok (.if_icmp .ne 8, 3) := by decide +kernel
theorem dX12_knownAs_6 : decode cX12_knownAs 6 = .ok (.bipush (-6), 2) := by decide +kernel
theorem dX12_knownAs_8 : decode cX12_knownAs 8 = .ok (.goto 9, 3) := by decide +kernel
theorem dX12_knownAs_11 : decode cX12_knownAs 11 = .ok (.aload_n 0, 1) := by decide +kernel
theorem dX12_knownAs_12 : decode cX12_knownAs 12 = .ok (.iload_n 1, 1) := by decide +kernel
theorem dX12_knownAs_13 : decode cX12_knownAs 13 = .ok (.iload_n 2, 1) := by decide +kernel
theorem dX12_knownAs_14 : decode cX12_knownAs 14 = .ok (.invokevirtual 230, 3) := by decide +kernel
theorem dX12_knownAs_17 : decode cX12_knownAs 17 = .ok (.istore_n 3, 1) := by decide +kernel
theorem dX12_knownAs_18 : decode cX12_knownAs 18 = .ok (.iload_n 3, 1) := by decide +kernel
theorem dX12_knownAs_19 : decode cX12_knownAs 19 = .ok (.ifCond .ge 7, 3) := by decide +kernel
theorem dX12_knownAs_22 : decode cX12_knownAs 22 = .ok (.iload_n 1, 1) := by decide +kernel
theorem dX12_knownAs_23 : decode cX12_knownAs 23 = .ok (.goto 7, 3) := by decide +kernel
theorem dX12_knownAs_26 : decode cX12_knownAs 26 = .ok (.bipush 10, 2) := by decide +kernel
theorem dX12_knownAs_28 : decode cX12_knownAs 28 = .ok (.iload_n 3, 1) := by decide +kernel
theorem dX12_knownAs_29 : decode cX12_knownAs 29 = .ok (.iadd, 1) := by decide +kernel
theorem dX12_knownAs_30 : decode cX12_knownAs 30 = .ok (.ireturn, 1) := by decide +kernel
theorem dX12_mendKnown_0 : decode cX12_mendKnown 0 = .ok (.iconst 0, 1) := by decide +kernel
theorem dX12_mendKnown_1 : decode cX12_mendKnown 1 = .ok (.istore_n 1, 1) := by decide +kernel
theorem dX12_mendKnown_2 : decode cX12_mendKnown 2 = .ok (.iconst 0, 1) := by decide +kernel
theorem dX12_mendKnown_3 : decode cX12_mendKnown 3 = .ok (.istore_n 2, 1) := by decide +kernel
theorem dX12_mendKnown_4 : decode cX12_mendKnown 4 = .ok (.iload_n 2, 1) := by decide +kernel
theorem dX12_mendKnown_5 : decode cX12_mendKnown 5 = .ok (.aload_n 0, 1) := by decide +kernel
theorem dX12_mendKnown_6 : decode cX12_mendKnown 6 = .ok (.getfield 181, 3) := by decide +kernel
theorem dX12_mendKnown_9 : decode cX12_mendKnown 9 = .ok (.if_icmp .ge 43, 3) := by decide +kernel
theorem dX12_mendKnown_12 : decode cX12_mendKnown 12 = .ok (.aload_n 0, 1) := by decide +kernel
theorem dX12_mendKnown_13 : decode cX12_mendKnown 13 = .ok (.getfield 55, 3) := by decide +kernel
theorem dX12_mendKnown_16 : decode cX12_mendKnown 16 = .ok (.iload_n 2, 1) := by decide +kernel
theorem dX12_mendKnown_17 : decode cX12_mendKnown 17 = .ok (.aload_n 0, 1) := by decide +kernel
theorem dX12_mendKnown_18 : decode cX12_mendKnown 18 = .ok (.aload_n 0, 1) := by decide +kernel
theorem dX12_mendKnown_19 : decode cX12_mendKnown 19 = .ok (.getfield 19, 3) := by decide +kernel
theorem dX12_mendKnown_22 : decode cX12_mendKnown 22 = .ok (.iload_n 2, 1) := by decide +kernel
theorem dX12_mendKnown_23 : decode cX12_mendKnown 23 = .ok (.iaload, 1) := by decide +kernel
theorem dX12_mendKnown_24 : decode cX12_mendKnown 24 = .ok (.iload_n 2, 1) := by decide +kernel
theorem dX12_mendKnown_25 : decode cX12_mendKnown 25 = .ok (.invokevirtual 261, 3) := by decide +kernel
theorem dX12_mendKnown_28 : decode cX12_mendKnown 28 = .ok (.iastore, 1) := by decide +kernel
theorem dX12_mendKnown_29 : decode cX12_mendKnown 29 = .ok (.aload_n 0, 1) := by decide +kernel
theorem dX12_mendKnown_30 : decode cX12_mendKnown 30 = .ok (.getfield 58, 3) := by decide +kernel
theorem dX12_mendKnown_33 : decode cX12_mendKnown 33 = .ok (.iload_n 2, 1) := by decide +kernel
theorem dX12_mendKnown_34 : decode cX12_mendKnown 34 = .ok (.aload_n 0, 1) := by decide +kernel
theorem dX12_mendKnown_35 : decode cX12_mendKnown 35 = .ok (.aload_n 0, 1) := by decide +kernel
theorem dX12_mendKnown_36 : decode cX12_mendKnown 36 = .ok (.getfield 22, 3) := by decide +kernel
theorem dX12_mendKnown_39 : decode cX12_mendKnown 39 = .ok (.iload_n 2, 1) := by decide +kernel
theorem dX12_mendKnown_40 : decode cX12_mendKnown 40 = .ok (.iaload, 1) := by decide +kernel
theorem dX12_mendKnown_41 : decode cX12_mendKnown 41 = .ok (.iload_n 2, 1) := by decide +kernel
theorem dX12_mendKnown_42 : decode cX12_mendKnown 42 = .ok (.invokevirtual 261, 3) := by decide +kernel
theorem dX12_mendKnown_45 : decode cX12_mendKnown 45 = .ok (.iastore, 1) := by decide +kernel
theorem dX12_mendKnown_46 : decode cX12_mendKnown 46 = .ok (.iinc 2 1, 3) := by decide +kernel
theorem dX12_mendKnown_49 : decode cX12_mendKnown 49 = .ok (.goto (-45), 3) := by decide +kernel
theorem dX12_mendKnown_52 : decode cX12_mendKnown 52 = .ok (.iconst 0, 1) := by decide +kernel
theorem dX12_mendKnown_53 : decode cX12_mendKnown 53 = .ok (.istore_n 2, 1) := by decide +kernel
theorem dX12_mendKnown_54 : decode cX12_mendKnown 54 = .ok (.iload_n 2, 1) := by decide +kernel
theorem dX12_mendKnown_55 : decode cX12_mendKnown 55 = .ok (.aload_n 0, 1) := by decide +kernel
theorem dX12_mendKnown_56 : decode cX12_mendKnown 56 = .ok (.getfield 181, 3) := by decide +kernel
theorem dX12_mendKnown_59 : decode cX12_mendKnown 59 = .ok (.if_icmp .ge 71, 3) := by decide +kernel
theorem dX12_mendKnown_62 : decode cX12_mendKnown 62 = .ok (.iload_n 1, 1) := by decide +kernel
theorem dX12_mendKnown_63 : decode cX12_mendKnown 63 = .ok (.aload_n 0, 1) := by decide +kernel
theorem dX12_mendKnown_64 : decode cX12_mendKnown 64 = .ok (.getfield 55, 3) := by decide +kernel
theorem dX12_mendKnown_67 : decode cX12_mendKnown 67 = .ok (.iload_n 2, 1) := by decide +kernel
theorem dX12_mendKnown_68 : decode cX12_mendKnown 68 = .ok (.iaload, 1) := by decide +kernel
theorem dX12_mendKnown_69 : decode cX12_mendKnown 69 = .ok (.aload_n 0, 1) := by decide +kernel
theorem dX12_mendKnown_70 : decode cX12_mendKnown 70 = .ok (.getfield 19, 3) := by decide +kernel
theorem dX12_mendKnown_73 : decode cX12_mendKnown 73 = .ok (.iload_n 2, 1) := by decide +kernel
theorem dX12_mendKnown_74 : decode cX12_mendKnown 74 = .ok (.iaload, 1) := by decide +kernel
theorem dX12_mendKnown_75 : decode cX12_mendKnown 75 = .ok (.if_icmp .ne 18, 3) := by decide +kernel
theorem dX12_mendKnown_78 : decode cX12_mendKnown 78 = .ok (.aload_n 0, 1) := by decide +kernel
theorem dX12_mendKnown_79 : decode cX12_mendKnown 79 = .ok (.getfield 58, 3) := by decide +kernel
theorem dX12_mendKnown_82 : decode cX12_mendKnown 82 = .ok (.iload_n 2, 1) := by decide +kernel
theorem dX12_mendKnown_83 : decode cX12_mendKnown 83 = .ok (.iaload, 1) := by decide +kernel
theorem dX12_mendKnown_84 : decode cX12_mendKnown 84 = .ok (.aload_n 0, 1) := by decide +kernel
theorem dX12_mendKnown_85 : decode cX12_mendKnown 85 = .ok (.getfield 22, 3) := by decide +kernel
theorem dX12_mendKnown_88 : decode cX12_mendKnown 88 = .ok (.iload_n 2, 1) := by decide +kernel
theorem dX12_mendKnown_89 : decode cX12_mendKnown 89 = .ok (.iaload, 1) := by decide +kernel
theorem dX12_mendKnown_90 : decode cX12_mendKnown 90 = .ok (.if_icmp .eq 7, 3) := by decide +kernel
theorem dX12_mendKnown_93 : decode cX12_mendKnown 93 = .ok (.iconst 1, 1) := by decide +kernel
theorem dX12_mendKnown_94 : decode cX12_mendKnown 94 = .ok (.goto 4, 3) := by decide +kernel
theorem dX12_mendKnown_97 : decode cX12_mendKnown 97 = .ok (.iconst 0, 1) := by decide +kernel
theorem dX12_mendKnown_98 : decode cX12_mendKnown 98 = .ok (.iadd, 1) := by decide +kernel
theorem dX12_mendKnown_99 : decode cX12_mendKnown 99 = .ok (.istore_n 1, 1) := by decide +kernel
theorem dX12_mendKnown_100 : decode cX12_mendKnown 100 = .ok (.aload_n 0, 1) := by decide +kernel
theorem dX12_mendKnown_101 : decode cX12_mendKnown 101 = .ok (.getfield 19, 3) := by decide +kernel
theorem dX12_mendKnown_104 : decode cX12_mendKnown 104 = .ok (.iload_n 2, 1) := by decide +kernel
theorem dX12_mendKnown_105 : decode cX12_mendKnown 105 = .ok (.aload_n 0, 1) := by decide +kernel
theorem dX12_mendKnown_106 : decode cX12_mendKnown 106 = .ok (.getfield 55, 3) := by decide +kernel
theorem dX12_mendKnown_109 : decode cX12_mendKnown 109 = .ok (.iload_n 2, 1) := by decide +kernel
theorem dX12_mendKnown_110 : decode cX12_mendKnown 110 = .ok (.iaload, 1) := by decide +kernel
theorem dX12_mendKnown_111 : decode cX12_mendKnown 111 = .ok (.iastore, 1) := by decide +kernel
theorem dX12_mendKnown_112 : decode cX12_mendKnown 112 = .ok (.aload_n 0, 1) := by decide +kernel
theorem dX12_mendKnown_113 : decode cX12_mendKnown 113 = .ok (.getfield 22, 3) := by decide +kernel
theorem dX12_mendKnown_116 : decode cX12_mendKnown 116 = .ok (.iload_n 2, 1) := by decide +kernel
theorem dX12_mendKnown_117 : decode cX12_mendKnown 117 = .ok (.aload_n 0, 1) := by decide +kernel
theorem dX12_mendKnown_118 : decode cX12_mendKnown 118 = .ok (.getfield 58, 3) := by decide +kernel
theorem dX12_mendKnown_121 : decode cX12_mendKnown 121 = .ok (.iload_n 2, 1) := by decide +kernel
theorem dX12_mendKnown_122 : decode cX12_mendKnown 122 = .ok (.iaload, 1) := by decide +kernel
theorem dX12_mendKnown_123 : decode cX12_mendKnown 123 = .ok (.iastore, 1) := by decide +kernel
theorem dX12_mendKnown_124 : decode cX12_mendKnown 124 = .ok (.iinc 2 1, 3) := by decide +kernel
theorem dX12_mendKnown_127 : decode cX12_mendKnown 127 = .ok (.goto (-73), 3) := by decide +kernel
theorem dX12_mendKnown_130 : decode cX12_mendKnown 130 = .ok (.iload_n 1, 1) := by decide +kernel
theorem dX12_mendKnown_131 : decode cX12_mendKnown 131 = .ok (.ireturn, 1) := by decide +kernel
theorem dX12_mendDigits_0 : decode cX12_mendDigits 0 = .ok (.iconst 0, 1) := by decide +kernel
theorem dX12_mendDigits_1 : decode cX12_mendDigits 1 = .ok (.istore_n 1, 1) := by decide +kernel
theorem dX12_mendDigits_2 : decode cX12_mendDigits 2 = .ok (.iconst 0, 1) := by decide +kernel
theorem dX12_mendDigits_3 : decode cX12_mendDigits 3 = .ok (.istore_n 2, 1) := by decide +kernel
theorem dX12_mendDigits_4 : decode cX12_mendDigits 4 = .ok (.iload_n 2, 1) := by decide +kernel
theorem dX12_mendDigits_5 : decode cX12_mendDigits 5 = .ok (.aload_n 0, 1) := by decide +kernel
theorem dX12_mendDigits_6 : decode cX12_mendDigits 6 = .ok (.getfield 181, 3) := by decide +kernel
theorem dX12_mendDigits_9 : decode cX12_mendDigits 9 = .ok (.if_icmp .ge 97, 3) := by decide +kernel
theorem dX12_mendDigits_12 : decode cX12_mendDigits 12 = .ok (.aload_n 0, 1) := by decide +kernel
theorem dX12_mendDigits_13 : decode cX12_mendDigits 13 = .ok (.getfield 16, 3) := by decide +kernel
theorem dX12_mendDigits_16 : decode cX12_mendDigits 16 = .ok (.iload_n 2, 1) := by decide +kernel
theorem dX12_mendDigits_17 : decode cX12_mendDigits 17 = .ok (.iaload, 1) := by decide +kernel
theorem dX12_mendDigits_18 : decode cX12_mendDigits 18 = .ok (.bipush (-6), 2) := by decide +kernel
theorem dX12_mendDigits_20 : decode cX12_mendDigits 20 = .ok (.if_icmp .eq 80, 3) := by decide +kernel
theorem dX12_mendDigits_23 : decode cX12_mendDigits 23 = .ok (.aload_n 0, 1) := by decide +kernel
theorem dX12_mendDigits_24 : decode cX12_mendDigits 24 = .ok (.getfield 19, 3) := by decide +kernel
theorem dX12_mendDigits_27 : decode cX12_mendDigits 27 = .ok (.iload_n 2, 1) := by decide +kernel
theorem dX12_mendDigits_28 : decode cX12_mendDigits 28 = .ok (.iaload, 1) := by decide +kernel
theorem dX12_mendDigits_29 : decode cX12_mendDigits 29 = .ok (.bipush 10, 2) := by decide +kernel
theorem dX12_mendDigits_31 : decode cX12_mendDigits 31 = .ok (.if_icmp .lt 69, 3) := by decide +kernel
theorem dX12_mendDigits_34 : decode cX12_mendDigits 34 = .ok (.aload_n 0, 1) := by decide +kernel
theorem dX12_mendDigits_35 : decode cX12_mendDigits 35 = .ok (.getfield 22, 3) := by decide +kernel
theorem dX12_mendDigits_38 : decode cX12_mendDigits 38 = .ok (.iload_n 2, 1) := by decide +kernel
theorem dX12_mendDigits_39 : decode cX12_mendDigits 39 = .ok (.iaload, 1) := by decide +kernel
theorem dX12_mendDigits_40 : decode cX12_mendDigits 40 = .ok (.bipush 10, 2) := by decide +kernel
theorem dX12_mendDigits_42 : decode cX12_mendDigits 42 = .ok (.if_icmp .lt 58, 3) := by decide +kernel
theorem dX12_mendDigits_45 : decode cX12_mendDigits 45 = .ok (.aload_n 0, 1) := by decide +kernel
theorem dX12_mendDigits_46 : decode cX12_mendDigits 46 = .ok (.getfield 19, 3) := by decide +kernel
theorem dX12_mendDigits_49 : decode cX12_mendDigits 49 = .ok (.iload_n 2, 1) := by decide +kernel
theorem dX12_mendDigits_50 : decode cX12_mendDigits 50 = .ok (.bipush 10, 2) := by decide +kernel
theorem dX12_mendDigits_52 : decode cX12_mendDigits 52 = .ok (.aload_n 0, 1) := by decide +kernel
theorem dX12_mendDigits_53 : decode cX12_mendDigits 53 = .ok (.getfield 16, 3) := by decide +kernel
theorem dX12_mendDigits_56 : decode cX12_mendDigits 56 = .ok (.iload_n 2, 1) := by decide +kernel
theorem dX12_mendDigits_57 : decode cX12_mendDigits 57 = .ok (.iaload, 1) := by decide +kernel
theorem dX12_mendDigits_58 : decode cX12_mendDigits 58 = .ok (.aload_n 0, 1) := by decide +kernel
theorem dX12_mendDigits_59 : decode cX12_mendDigits 59 = .ok (.getfield 19, 3) := by decide +kernel
theorem dX12_mendDigits_62 : decode cX12_mendDigits 62 = .ok (.iload_n 2, 1) := by decide +kernel
theorem dX12_mendDigits_63 : decode cX12_mendDigits 63 = .ok (.iaload, 1) := by decide +kernel
theorem dX12_mendDigits_64 : decode cX12_mendDigits 64 = .ok (.bipush 10, 2) := by decide +kernel
theorem dX12_mendDigits_66 : decode cX12_mendDigits 66 = .ok (.isub, 1) := by decide +kernel
theorem dX12_mendDigits_67 : decode cX12_mendDigits 67 = .ok (.aload_n 0, 1) := by decide +kernel
theorem dX12_mendDigits_68 : decode cX12_mendDigits 68 = .ok (.getfield 22, 3) := by decide +kernel
theorem dX12_mendDigits_71 : decode cX12_mendDigits 71 = .ok (.iload_n 2, 1) := by decide +kernel
theorem dX12_mendDigits_72 : decode cX12_mendDigits 72 = .ok (.iaload, 1) := by decide +kernel
theorem dX12_mendDigits_73 : decode cX12_mendDigits 73 = .ok (.bipush 10, 2) := by decide +kernel
theorem dX12_mendDigits_75 : decode cX12_mendDigits 75 = .ok (.isub, 1) := by decide +kernel
theorem dX12_mendDigits_76 : decode cX12_mendDigits 76 = .ok (.invokestatic 195, 3) := by decide +kernel
theorem dX12_mendDigits_79 : decode cX12_mendDigits 79 = .ok (.iadd, 1) := by decide +kernel
theorem dX12_mendDigits_80 : decode cX12_mendDigits 80 = .ok (.iastore, 1) := by decide +kernel
theorem dX12_mendDigits_81 : decode cX12_mendDigits 81 = .ok (.aload_n 0, 1) := by decide +kernel
theorem dX12_mendDigits_82 : decode cX12_mendDigits 82 = .ok (.getfield 16, 3) := by decide +kernel
theorem dX12_mendDigits_85 : decode cX12_mendDigits 85 = .ok (.iload_n 2, 1) := by decide +kernel
theorem dX12_mendDigits_86 : decode cX12_mendDigits 86 = .ok (.bipush (-6), 2) := by decide +kernel
theorem dX12_mendDigits_88 : decode cX12_mendDigits 88 = .ok (.iastore, 1) := by decide +kernel
theorem dX12_mendDigits_89 : decode cX12_mendDigits 89 = .ok (.aload_n 0, 1) := by decide +kernel
theorem dX12_mendDigits_90 : decode cX12_mendDigits 90 = .ok (.getfield 22, 3) := by decide +kernel
theorem dX12_mendDigits_93 : decode cX12_mendDigits 93 = .ok (.iload_n 2, 1) := by decide +kernel
theorem dX12_mendDigits_94 : decode cX12_mendDigits 94 = .ok (.bipush (-6), 2) := by decide +kernel
theorem dX12_mendDigits_96 : decode cX12_mendDigits 96 = .ok (.iastore, 1) := by decide +kernel
theorem dX12_mendDigits_97 : decode cX12_mendDigits 97 = .ok (.iinc 1 1, 3) := by decide +kernel
theorem dX12_mendDigits_100 : decode cX12_mendDigits 100 = .ok (.iinc 2 1, 3) := by decide +kernel
theorem dX12_mendDigits_103 : decode cX12_mendDigits 103 = .ok (.goto (-99), 3) := by decide +kernel
theorem dX12_mendDigits_106 : decode cX12_mendDigits 106 = .ok (.iload_n 1, 1) := by decide +kernel
theorem dX12_mendDigits_107 : decode cX12_mendDigits 107 = .ok (.ireturn, 1) := by decide +kernel
theorem dX12_mendNeedless_0 : decode cX12_mendNeedless 0 = .ok (.iconst 0, 1) := by decide +kernel
theorem dX12_mendNeedless_1 : decode cX12_mendNeedless 1 = .ok (.istore_n 1, 1) := by decide +kernel
theorem dX12_mendNeedless_2 : decode cX12_mendNeedless 2 = .ok (.iconst 0, 1) := by decide +kernel
theorem dX12_mendNeedless_3 : decode cX12_mendNeedless 3 = .ok (.istore_n 2, 1) := by decide +kernel
theorem dX12_mendNeedless_4 : decode cX12_mendNeedless 4 = .ok (.iload_n 2, 1) := by decide +kernel
theorem dX12_mendNeedless_5 : decode cX12_mendNeedless 5 = .ok (.aload_n 0, 1) := by decide +kernel
theorem dX12_mendNeedless_6 : decode cX12_mendNeedless 6 = .ok (.getfield 181, 3) := by decide +kernel
theorem dX12_mendNeedless_9 : decode cX12_mendNeedless 9 = .ok (.if_icmp .ge 36, 3) := by decide +kernel
theorem dX12_mendNeedless_12 : decode cX12_mendNeedless 12 = .ok (.aload_n 0, 1) := by decide +kernel
theorem dX12_mendNeedless_13 : decode cX12_mendNeedless 13 = .ok (.getfield 55, 3) := by decide +kernel
theorem dX12_mendNeedless_16 : decode cX12_mendNeedless 16 = .ok (.iload_n 2, 1) := by decide +kernel
theorem dX12_mendNeedless_17 : decode cX12_mendNeedless 17 = .ok (.aload_n 0, 1) := by decide +kernel
theorem dX12_mendNeedless_18 : decode cX12_mendNeedless 18 = .ok (.getfield 16, 3) := by decide +kernel
theorem dX12_mendNeedless_21 : decode cX12_mendNeedless 21 = .ok (.iload_n 2, 1) := by decide +kernel
theorem dX12_mendNeedless_22 : decode cX12_mendNeedless 22 = .ok (.iaload, 1) := by decide +kernel
theorem dX12_mendNeedless_23 : decode cX12_mendNeedless 23 = .ok (.bipush (-6), 2) := by decide +kernel
theorem dX12_mendNeedless_25 : decode cX12_mendNeedless 25 = .ok (.if_icmp .ne 8, 3) := by decide +kernel
theorem dX12_mendNeedless_28 : decode cX12_mendNeedless 28 = .ok (.bipush (-6), 2) := by decide +kernel
theorem dX12_mendNeedless_30 : decode cX12_mendNeedless 30 = .ok (.goto 8, 3) := by decide +kernel
theorem dX12_mendNeedless_33 : decode cX12_mendNeedless 33 = .ok (.aload_n 0, 1) := by decide +kernel
theorem dX12_mendNeedless_34 : decode cX12_mendNeedless 34 = .ok (.iload_n 2, 1) := by decide +kernel
theorem dX12_mendNeedless_35 : decode cX12_mendNeedless 35 = .ok (.invokevirtual 258, 3) := by decide +kernel
theorem dX12_mendNeedless_38 : decode cX12_mendNeedless 38 = .ok (.iastore, 1) := by decide +kernel
theorem dX12_mendNeedless_39 : decode cX12_mendNeedless 39 = .ok (.iinc 2 1, 3) := by decide +kernel
theorem dX12_mendNeedless_42 : decode cX12_mendNeedless 42 = .ok (.goto (-38), 3) := by decide +kernel
theorem dX12_mendNeedless_45 : decode cX12_mendNeedless 45 = .ok (.iconst 0, 1) := by decide +kernel
theorem dX12_mendNeedless_46 : decode cX12_mendNeedless 46 = .ok (.istore_n 2, 1) := by decide +kernel
theorem dX12_mendNeedless_47 : decode cX12_mendNeedless 47 = .ok (.iload_n 2, 1) := by decide +kernel
theorem dX12_mendNeedless_48 : decode cX12_mendNeedless 48 = .ok (.aload_n 0, 1) := by decide +kernel
theorem dX12_mendNeedless_49 : decode cX12_mendNeedless 49 = .ok (.getfield 181, 3) := by decide +kernel
theorem dX12_mendNeedless_52 : decode cX12_mendNeedless 52 = .ok (.if_icmp .ge 49, 3) := by decide +kernel
theorem dX12_mendNeedless_55 : decode cX12_mendNeedless 55 = .ok (.aload_n 0, 1) := by decide +kernel
theorem dX12_mendNeedless_56 : decode cX12_mendNeedless 56 = .ok (.getfield 55, 3) := by decide +kernel
theorem dX12_mendNeedless_59 : decode cX12_mendNeedless 59 = .ok (.iload_n 2, 1) := by decide +kernel
theorem dX12_mendNeedless_60 : decode cX12_mendNeedless 60 = .ok (.iaload, 1) := by decide +kernel
theorem dX12_mendNeedless_61 : decode cX12_mendNeedless 61 = .ok (.ifCond .lt 34, 3) := by decide +kernel
theorem dX12_mendNeedless_64 : decode cX12_mendNeedless 64 = .ok (.aload_n 0, 1) := by decide +kernel
theorem dX12_mendNeedless_65 : decode cX12_mendNeedless 65 = .ok (.getfield 16, 3) := by decide +kernel
theorem dX12_mendNeedless_68 : decode cX12_mendNeedless 68 = .ok (.iload_n 2, 1) := by decide +kernel
theorem dX12_mendNeedless_69 : decode cX12_mendNeedless 69 = .ok (.bipush (-6), 2) := by decide +kernel
theorem dX12_mendNeedless_71 : decode cX12_mendNeedless 71 = .ok (.iastore, 1) := by decide +kernel
theorem dX12_mendNeedless_72 : decode cX12_mendNeedless 72 = .ok (.aload_n 0, 1) := by decide +kernel
theorem dX12_mendNeedless_73 : decode cX12_mendNeedless 73 = .ok (.getfield 19, 3) := by decide +kernel
theorem dX12_mendNeedless_76 : decode cX12_mendNeedless 76 = .ok (.iload_n 2, 1) := by decide +kernel
theorem dX12_mendNeedless_77 : decode cX12_mendNeedless 77 = .ok (.aload_n 0, 1) := by decide +kernel
theorem dX12_mendNeedless_78 : decode cX12_mendNeedless 78 = .ok (.getfield 55, 3) := by decide +kernel
theorem dX12_mendNeedless_81 : decode cX12_mendNeedless 81 = .ok (.iload_n 2, 1) := by decide +kernel
theorem dX12_mendNeedless_82 : decode cX12_mendNeedless 82 = .ok (.iaload, 1) := by decide +kernel
theorem dX12_mendNeedless_83 : decode cX12_mendNeedless 83 = .ok (.iastore, 1) := by decide +kernel
theorem dX12_mendNeedless_84 : decode cX12_mendNeedless 84 = .ok (.aload_n 0, 1) := by decide +kernel
theorem dX12_mendNeedless_85 : decode cX12_mendNeedless 85 = .ok (.getfield 22, 3) := by decide +kernel
theorem dX12_mendNeedless_88 : decode cX12_mendNeedless 88 = .ok (.iload_n 2, 1) := by decide +kernel
theorem dX12_mendNeedless_89 : decode cX12_mendNeedless 89 = .ok (.bipush (-6), 2) := by decide +kernel
theorem dX12_mendNeedless_91 : decode cX12_mendNeedless 91 = .ok (.iastore, 1) := by decide +kernel
theorem dX12_mendNeedless_92 : decode cX12_mendNeedless 92 = .ok (.iinc 1 1, 3) := by decide +kernel
theorem dX12_mendNeedless_95 : decode cX12_mendNeedless 95 = .ok (.iinc 2 1, 3) := by decide +kernel
theorem dX12_mendNeedless_98 : decode cX12_mendNeedless 98 = .ok (.goto (-51), 3) := by decide +kernel
theorem dX12_mendNeedless_101 : decode cX12_mendNeedless 101 = .ok (.iload_n 1, 1) := by decide +kernel
theorem dX12_mendNeedless_102 : decode cX12_mendNeedless 102 = .ok (.ireturn, 1) := by decide +kernel
theorem dX12_mendDead_0 : decode cX12_mendDead 0 = .ok (.iconst 0, 1) := by decide +kernel
theorem dX12_mendDead_1 : decode cX12_mendDead 1 = .ok (.istore_n 1, 1) := by decide +kernel
theorem dX12_mendDead_2 : decode cX12_mendDead 2 = .ok (.iload_n 1, 1) := by decide +kernel
theorem dX12_mendDead_3 : decode cX12_mendDead 3 = .ok (.aload_n 0, 1) := by decide +kernel
theorem dX12_mendDead_4 : decode cX12_mendDead 4 = .ok (.getfield 181, 3) := by decide +kernel
theorem dX12_mendDead_7 : decode cX12_mendDead 7 = .ok (.if_icmp .ge 54, 3) := by decide +kernel
theorem dX12_mendDead_10 : decode cX12_mendDead 10 = .ok (.aload_n 0, 1) := by decide +kernel
theorem dX12_mendDead_11 : decode cX12_mendDead 11 = .ok (.getfield 61, 3) := by decide +kernel
theorem dX12_mendDead_14 : decode cX12_mendDead 14 = .ok (.iload_n 1, 1) := by decide +kernel
theorem dX12_mendDead_15 : decode cX12_mendDead 15 = .ok (.aload_n 0, 1) := by decide +kernel
theorem dX12_mendDead_16 : decode cX12_mendDead 16 = .ok (.iload_n 1, 1) := by decide +kernel
theorem dX12_mendDead_17 : decode cX12_mendDead 17 = .ok (.invokevirtual 255, 3) := by decide +kernel
theorem dX12_mendDead_20 : decode cX12_mendDead 20 = .ok (.ifCond .ne 29, 3) := by decide +kernel
theorem dX12_mendDead_23 : decode cX12_mendDead 23 = .ok (.aload_n 0, 1) := by decide +kernel
theorem dX12_mendDead_24 : decode cX12_mendDead 24 = .ok (.getfield 16, 3) := by decide +kernel
theorem dX12_mendDead_27 : decode cX12_mendDead 27 = .ok (.iload_n 1, 1) := by decide +kernel
theorem dX12_mendDead_28 : decode cX12_mendDead 28 = .ok (.iaload, 1) := by decide +kernel
theorem dX12_mendDead_29 : decode cX12_mendDead 29 = .ok (.bipush (-6), 2) := by decide +kernel
theorem dX12_mendDead_31 : decode cX12_mendDead 31 = .ok (.if_icmp .ne 22, 3) := by decide +kernel
theorem dX12_mendDead_34 : decode cX12_mendDead 34 = .ok (.aload_n 0, 1) := by decide +kernel
theorem dX12_mendDead_35 : decode cX12_mendDead 35 = .ok (.getfield 19, 3) := by decide +kernel
theorem dX12_mendDead_38 : decode cX12_mendDead 38 = .ok (.iload_n 1, 1) := by decide +kernel
theorem dX12_mendDead_39 : decode cX12_mendDead 39 = .ok (.iaload, 1) := by decide +kernel
theorem dX12_mendDead_40 : decode cX12_mendDead 40 = .ok (.aload_n 0, 1) := by decide +kernel
theorem dX12_mendDead_41 : decode cX12_mendDead 41 = .ok (.getfield 13, 3) := by decide +kernel
theorem dX12_mendDead_44 : decode cX12_mendDead 44 = .ok (.iload_n 1, 1) := by decide +kernel
theorem dX12_mendDead_45 : decode cX12_mendDead 45 = .ok (.iaload, 1) := by decide +kernel
theorem dX12_mendDead_46 : decode cX12_mendDead 46 = .ok (.if_icmp .ne 7, 3) := by decide +kernel
theorem dX12_mendDead_49 : decode cX12_mendDead 49 = .ok (.iconst 1, 1) := by decide +kernel
theorem dX12_mendDead_50 : decode cX12_mendDead 50 = .ok (.goto 4, 3) := by decide +kernel
theorem dX12_mendDead_53 : decode cX12_mendDead 53 = .ok (.iconst 0, 1) := by decide +kernel
theorem dX12_mendDead_54 : decode cX12_mendDead 54 = .ok (.bastore, 1) := by decide +kernel
theorem dX12_mendDead_55 : decode cX12_mendDead 55 = .ok (.iinc 1 1, 3) := by decide +kernel
theorem dX12_mendDead_58 : decode cX12_mendDead 58 = .ok (.goto (-56), 3) := by decide +kernel
theorem dX12_mendDead_61 : decode cX12_mendDead 61 = .ok (.iconst 0, 1) := by decide +kernel
theorem dX12_mendDead_62 : decode cX12_mendDead 62 = .ok (.istore_n 1, 1) := by decide +kernel
theorem dX12_mendDead_63 : decode cX12_mendDead 63 = .ok (.iconst 0, 1) := by decide +kernel
theorem dX12_mendDead_64 : decode cX12_mendDead 64 = .ok (.istore_n 2, 1) := by decide +kernel
theorem dX12_mendDead_65 : decode cX12_mendDead 65 = .ok (.iload_n 2, 1) := by decide +kernel
theorem dX12_mendDead_66 : decode cX12_mendDead 66 = .ok (.aload_n 0, 1) := by decide +kernel
theorem dX12_mendDead_67 : decode cX12_mendDead 67 = .ok (.getfield 181, 3) := by decide +kernel
theorem dX12_mendDead_70 : decode cX12_mendDead 70 = .ok (.if_icmp .ge 69, 3) := by decide +kernel
theorem dX12_mendDead_73 : decode cX12_mendDead 73 = .ok (.aload_n 0, 1) := by decide +kernel
theorem dX12_mendDead_74 : decode cX12_mendDead 74 = .ok (.getfield 61, 3) := by decide +kernel
theorem dX12_mendDead_77 : decode cX12_mendDead 77 = .ok (.iload_n 2, 1) := by decide +kernel
theorem dX12_mendDead_78 : decode cX12_mendDead 78 = .ok (.baload, 1) := by decide +kernel
theorem dX12_mendDead_79 : decode cX12_mendDead 79 = .ok (.ifCond .ne 54, 3) := by decide +kernel
theorem dX12_mendDead_82 : decode cX12_mendDead 82 = .ok (.aload_n 0, 1) := by decide +kernel
theorem dX12_mendDead_83 : decode cX12_mendDead 83 = .ok (.getfield 13, 3) := by decide +kernel
theorem dX12_mendDead_86 : decode cX12_mendDead 86 = .ok (.iload_n 1, 1) := by decide +kernel
theorem dX12_mendDead_87 : decode cX12_mendDead 87 = .ok (.aload_n 0, 1) := by decide +kernel
theorem dX12_mendDead_88 : decode cX12_mendDead 88 = .ok (.getfield 13, 3) := by decide +kernel
theorem dX12_mendDead_91 : decode cX12_mendDead 91 = .ok (.iload_n 2, 1) := by decide +kernel
theorem dX12_mendDead_92 : decode cX12_mendDead 92 = .ok (.iaload, 1) := by decide +kernel
theorem dX12_mendDead_93 : decode cX12_mendDead 93 = .ok (.iastore, 1) := by decide +kernel
theorem dX12_mendDead_94 : decode cX12_mendDead 94 = .ok (.aload_n 0, 1) := by decide +kernel
theorem dX12_mendDead_95 : decode cX12_mendDead 95 = .ok (.getfield 16, 3) := by decide +kernel
theorem dX12_mendDead_98 : decode cX12_mendDead 98 = .ok (.iload_n 1, 1) := by decide +kernel
theorem dX12_mendDead_99 : decode cX12_mendDead 99 = .ok (.aload_n 0, 1) := by decide +kernel
theorem dX12_mendDead_100 : decode cX12_mendDead 100 = .ok (.getfield 16, 3) := by decide +kernel
theorem dX12_mendDead_103 : decode cX12_mendDead 103 = .ok (.iload_n 2, 1) := by decide +kernel
theorem dX12_mendDead_104 : decode cX12_mendDead 104 = .ok (.iaload, 1) := by decide +kernel
theorem dX12_mendDead_105 : decode cX12_mendDead 105 = .ok (.iastore, 1) := by decide +kernel
theorem dX12_mendDead_106 : decode cX12_mendDead 106 = .ok (.aload_n 0, 1) := by decide +kernel
theorem dX12_mendDead_107 : decode cX12_mendDead 107 = .ok (.getfield 19, 3) := by decide +kernel
theorem dX12_mendDead_110 : decode cX12_mendDead 110 = .ok (.iload_n 1, 1) := by decide +kernel
theorem dX12_mendDead_111 : decode cX12_mendDead 111 = .ok (.aload_n 0, 1) := by decide +kernel
theorem dX12_mendDead_112 : decode cX12_mendDead 112 = .ok (.getfield 19, 3) := by decide +kernel
theorem dX12_mendDead_115 : decode cX12_mendDead 115 = .ok (.iload_n 2, 1) := by decide +kernel
theorem dX12_mendDead_116 : decode cX12_mendDead 116 = .ok (.iaload, 1) := by decide +kernel
theorem dX12_mendDead_117 : decode cX12_mendDead 117 = .ok (.iastore, 1) := by decide +kernel
theorem dX12_mendDead_118 : decode cX12_mendDead 118 = .ok (.aload_n 0, 1) := by decide +kernel
theorem dX12_mendDead_119 : decode cX12_mendDead 119 = .ok (.getfield 22, 3) := by decide +kernel
theorem dX12_mendDead_122 : decode cX12_mendDead 122 = .ok (.iload_n 1, 1) := by decide +kernel
theorem dX12_mendDead_123 : decode cX12_mendDead 123 = .ok (.aload_n 0, 1) := by decide +kernel
theorem dX12_mendDead_124 : decode cX12_mendDead 124 = .ok (.getfield 22, 3) := by decide +kernel
theorem dX12_mendDead_127 : decode cX12_mendDead 127 = .ok (.iload_n 2, 1) := by decide +kernel
theorem dX12_mendDead_128 : decode cX12_mendDead 128 = .ok (.iaload, 1) := by decide +kernel
theorem dX12_mendDead_129 : decode cX12_mendDead 129 = .ok (.iastore, 1) := by decide +kernel
theorem dX12_mendDead_130 : decode cX12_mendDead 130 = .ok (.iinc 1 1, 3) := by decide +kernel
theorem dX12_mendDead_133 : decode cX12_mendDead 133 = .ok (.iinc 2 1, 3) := by decide +kernel
theorem dX12_mendDead_136 : decode cX12_mendDead 136 = .ok (.goto (-71), 3) := by decide +kernel
theorem dX12_mendDead_139 : decode cX12_mendDead 139 = .ok (.aload_n 0, 1) := by decide +kernel
theorem dX12_mendDead_140 : decode cX12_mendDead 140 = .ok (.getfield 181, 3) := by decide +kernel
theorem dX12_mendDead_143 : decode cX12_mendDead 143 = .ok (.iload_n 1, 1) := by decide +kernel
theorem dX12_mendDead_144 : decode cX12_mendDead 144 = .ok (.isub, 1) := by decide +kernel
theorem dX12_mendDead_145 : decode cX12_mendDead 145 = .ok (.istore_n 2, 1) := by decide +kernel
theorem dX12_mendDead_146 : decode cX12_mendDead 146 = .ok (.aload_n 0, 1) := by decide +kernel
theorem dX12_mendDead_147 : decode cX12_mendDead 147 = .ok (.iload_n 1, 1) := by decide +kernel
theorem dX12_mendDead_148 : decode cX12_mendDead 148 = .ok (.putfield 181, 3) := by decide +kernel
theorem dX12_mendDead_151 : decode cX12_mendDead 151 = .ok (.iload_n 2, 1) := by decide +kernel
theorem dX12_mendDead_152 : decode cX12_mendDead 152 = .ok (.ireturn, 1) := by decide +kernel
theorem dX12_mendBy_0 : decode cX12_mendBy 0 = .ok (.iload_n 1, 1) := by decide +kernel
theorem dX12_mendBy_1 : decode cX12_mendBy 1 = .ok (.tableswitch 42 1 3 #[27, 32, 37], 27) := by decide +kernel
theorem dX12_mendBy_28 : decode cX12_mendBy 28 = .ok (.aload_n 0, 1) := by decide +kernel
theorem dX12_mendBy_29 : decode cX12_mendBy 29 = .ok (.invokevirtual 264, 3) := by decide +kernel
theorem dX12_mendBy_32 : decode cX12_mendBy 32 = .ok (.ireturn, 1) := by decide +kernel
theorem dX12_mendBy_33 : decode cX12_mendBy 33 = .ok (.aload_n 0, 1) := by decide +kernel
theorem dX12_mendBy_34 : decode cX12_mendBy 34 = .ok (.invokevirtual 268, 3) := by decide +kernel
theorem dX12_mendBy_37 : decode cX12_mendBy 37 = .ok (.ireturn, 1) := by decide +kernel
theorem dX12_mendBy_38 : decode cX12_mendBy 38 = .ok (.aload_n 0, 1) := by decide +kernel
theorem dX12_mendBy_39 : decode cX12_mendBy 39 = .ok (.invokevirtual 271, 3) := by decide +kernel
theorem dX12_mendBy_42 : decode cX12_mendBy 42 = .ok (.ireturn, 1) := by decide +kernel
theorem dX12_mendBy_43 : decode cX12_mendBy 43 = .ok (.aload_n 0, 1) := by decide +kernel
theorem dX12_mendBy_44 : decode cX12_mendBy 44 = .ok (.invokevirtual 274, 3) := by decide +kernel
theorem dX12_mendBy_47 : decode cX12_mendBy 47 = .ok (.ireturn, 1) := by decide +kernel
theorem dX12_mend_0 : decode cX12_mend 0 = .ok (.iload_n 1, 1) := by decide +kernel
theorem dX12_mend_1 : decode cX12_mend 1 = .ok (.i2l, 1) := by decide +kernel
theorem dX12_mend_2 : decode cX12_mend 2 = .ok (.lconst 1, 1) := by decide +kernel
theorem dX12_mend_3 : decode cX12_mend 3 = .ok (.ldc2_w 277, 3) := by decide +kernel
theorem dX12_mend_6 : decode cX12_mend 6 = .ok (.invokestatic 125, 3) := by decide +kernel
theorem dX12_mend_9 : decode cX12_mend 9 = .ok (.ifCond .eq 11, 3) := by decide +kernel
theorem dX12_mend_12 : decode cX12_mend 12 = .ok (.aload_n 0, 1) := by decide +kernel
theorem dX12_mend_13 : decode cX12_mend 13 = .ok (.iload_n 1, 1) := by decide +kernel
theorem dX12_mend_14 : decode cX12_mend 14 = .ok (.invokevirtual 279, 3) := by decide +kernel
theorem dX12_mend_17 : decode cX12_mend 17 = .ok (.goto 5, 3) := by decide +kernel
theorem dX12_mend_20 : decode cX12_mend 20 = .ok (.bipush (-2), 2) := by decide +kernel
theorem dX12_mend_22 : decode cX12_mend 22 = .ok (.ireturn, 1) := by decide +kernel
theorem dX12_clean_0 : decode cX12_clean 0 = .ok (.iconst 1, 1) := by decide +kernel
theorem dX12_clean_1 : decode cX12_clean 1 = .ok (.istore_n 1, 1) := by decide +kernel
theorem dX12_clean_2 : decode cX12_clean 2 = .ok (.iload_n 1, 1) := by decide +kernel
theorem dX12_clean_3 : decode cX12_clean 3 = .ok (.ifCond .le 29, 3) := by decide +kernel
theorem dX12_clean_6 : decode cX12_clean 6 = .ok (.iconst 0, 1) := by decide +kernel
theorem dX12_clean_7 : decode cX12_clean 7 = .ok (.istore_n 1, 1) := by decide +kernel
theorem dX12_clean_8 : decode cX12_clean 8 = .ok (.iconst 1, 1) := by decide +kernel
theorem dX12_clean_9 : decode cX12_clean 9 = .ok (.istore_n 2, 1) := by decide +kernel
theorem dX12_clean_10 : decode cX12_clean 10 = .ok (.iload_n 2, 1) := by decide +kernel
theorem dX12_clean_11 : decode cX12_clean 11 = .ok (.iconst 4, 1) := by decide +kernel
theorem dX12_clean_12 : decode cX12_clean 12 = .ok (.if_icmp .gt 17, 3) := by decide +kernel
theorem dX12_clean_15 : decode cX12_clean 15 = .ok (.iload_n 1, 1) := by decide +kernel
theorem dX12_clean_16 : decode cX12_clean 16 = .ok (.aload_n 0, 1) := by decide +kernel
theorem dX12_clean_17 : decode cX12_clean 17 = .ok (.iload_n 2, 1) := by decide +kernel
theorem dX12_clean_18 : decode cX12_clean 18 = .ok (.invokevirtual 279, 3) := by decide +kernel
theorem dX12_clean_21 : decode cX12_clean 21 = .ok (.iadd, 1) := by decide +kernel
theorem dX12_clean_22 : decode cX12_clean 22 = .ok (.istore_n 1, 1) := by decide +kernel
theorem dX12_clean_23 : decode cX12_clean 23 = .ok (.iinc 2 1, 3) := by decide +kernel
theorem dX12_clean_26 : decode cX12_clean 26 = .ok (.goto (-16), 3) := by decide +kernel
theorem dX12_clean_29 : decode cX12_clean 29 = .ok (.goto (-27), 3) := by decide +kernel
theorem dX12_clean_32 : decode cX12_clean 32 = .ok (.aload_n 0, 1) := by decide +kernel
theorem dX12_clean_33 : decode cX12_clean 33 = .ok (.getfield 181, 3) := by decide +kernel
theorem dX12_clean_36 : decode cX12_clean 36 = .ok (.ireturn, 1) := by decide +kernel
theorem dX12_doesRead_0 : decode cX12_doesRead 0 = .ok (.aload_n 0, 1) := by decide +kernel
theorem dX12_doesRead_1 : decode cX12_doesRead 1 = .ok (.getfield 19, 3) := by decide +kernel
theorem dX12_doesRead_4 : decode cX12_doesRead 4 = .ok (.iload_n 1, 1) := by decide +kernel
theorem dX12_doesRead_5 : decode cX12_doesRead 5 = .ok (.iaload, 1) := by decide +kernel
theorem dX12_doesRead_6 : decode cX12_doesRead 6 = .ok (.iload_n 2, 1) := by decide +kernel
theorem dX12_doesRead_7 : decode cX12_doesRead 7 = .ok (.if_icmp .eq 13, 3) := by decide +kernel
theorem dX12_doesRead_10 : decode cX12_doesRead 10 = .ok (.aload_n 0, 1) := by decide +kernel
theorem dX12_doesRead_11 : decode cX12_doesRead 11 = .ok (.getfield 22, 3) := by decide +kernel
theorem dX12_doesRead_14 : decode cX12_doesRead 14 = .ok (.iload_n 1, 1) := by decide +kernel
theorem dX12_doesRead_15 : decode cX12_doesRead 15 = .ok (.iaload, 1) := by decide +kernel
theorem dX12_doesRead_16 : decode cX12_doesRead 16 = .ok (.iload_n 2, 1) := by decide +kernel
theorem dX12_doesRead_17 : decode cX12_doesRead 17 = .ok (.if_icmp .ne 7, 3) := by decide +kernel
theorem dX12_doesRead_20 : decode cX12_doesRead 20 = .ok (.iconst 1, 1) := by decide +kernel
theorem dX12_doesRead_21 : decode cX12_doesRead 21 = .ok (.goto 4, 3) := by decide +kernel
theorem dX12_doesRead_24 : decode cX12_doesRead 24 = .ok (.iconst 0, 1) := by decide +kernel
theorem dX12_doesRead_25 : decode cX12_doesRead 25 = .ok (.ireturn, 1) := by decide +kernel
theorem dX12_makerOf_0 : decode cX12_makerOf 0 = .ok (.bipush (-6), 2) := by decide +kernel
theorem dX12_makerOf_2 : decode cX12_makerOf 2 = .ok (.istore_n 3, 1) := by decide +kernel
theorem dX12_makerOf_3 : decode cX12_makerOf 3 = .ok (.iconst 0, 1) := by decide +kernel
theorem dX12_makerOf_4 : decode cX12_makerOf 4 = .ok (.istore 4, 2) := by decide +kernel
theorem dX12_makerOf_6 : decode cX12_makerOf 6 = .ok (.iload 4, 2) := by decide +kernel
theorem dX12_makerOf_8 : decode cX12_makerOf 8 = .ok (.iload_n 2, 1) := by decide +kernel
theorem dX12_makerOf_9 : decode cX12_makerOf 9 = .ok (.if_icmp .ge 27, 3) := by decide +kernel
theorem dX12_makerOf_12 : decode cX12_makerOf 12 = .ok (.aload_n 0, 1) := by decide +kernel
theorem dX12_makerOf_13 : decode cX12_makerOf 13 = .ok (.getfield 13, 3) := by decide +kernel
theorem dX12_makerOf_16 : decode cX12_makerOf 16 = .ok (.iload 4, 2) := by decide +kernel
theorem dX12_makerOf_18 : decode cX12_makerOf 18 = .ok (.iaload, 1) := by decide +kernel
theorem dX12_makerOf_19 : decode cX12_makerOf 19 = .ok (.iload_n 1, 1) := by decide +kernel
theorem dX12_makerOf_20 : decode cX12_makerOf 20 = .ok (.if_icmp .ne 8, 3) := by decide +kernel
theorem dX12_makerOf_23 : decode cX12_makerOf 23 = .ok (.iload 4, 2) := by decide +kernel
theorem dX12_makerOf_25 : decode cX12_makerOf 25 = .ok (.goto 4, 3) := by decide +kernel
theorem dX12_makerOf_28 : decode cX12_makerOf 28 = .ok (.iload_n 3, 1) := by decide +kernel
theorem dX12_makerOf_29 : decode cX12_makerOf 29 = .ok (.istore_n 3, 1) := by decide +kernel
theorem dX12_makerOf_30 : decode cX12_makerOf 30 = .ok (.iinc 4 1, 3) := by decide +kernel
theorem dX12_makerOf_33 : decode cX12_makerOf 33 = .ok (.goto (-27), 3) := by decide +kernel
theorem dX12_makerOf_36 : decode cX12_makerOf 36 = .ok (.iload_n 3, 1) := by decide +kernel
theorem dX12_makerOf_37 : decode cX12_makerOf 37 = .ok (.ireturn, 1) := by decide +kernel
theorem dX12_sourcesOf_0 : decode cX12_sourcesOf 0 = .ok (.iconst 0, 1) := by decide +kernel
theorem dX12_sourcesOf_1 : decode cX12_sourcesOf 1 = .ok (.istore_n 2, 1) := by decide +kernel
theorem dX12_sourcesOf_2 : decode cX12_sourcesOf 2 = .ok (.iconst 0, 1) := by decide +kernel
theorem dX12_sourcesOf_3 : decode cX12_sourcesOf 3 = .ok (.istore_n 3, 1) := by decide +kernel
theorem dX12_sourcesOf_4 : decode cX12_sourcesOf 4 = .ok (.iload_n 3, 1) := by decide +kernel
theorem dX12_sourcesOf_5 : decode cX12_sourcesOf 5 = .ok (.iconst 2, 1) := by decide +kernel
theorem dX12_sourcesOf_6 : decode cX12_sourcesOf 6 = .ok (.if_icmp .ge 68, 3) := by decide +kernel
theorem dX12_sourcesOf_9 : decode cX12_sourcesOf 9 = .ok (.iload_n 3, 1) := by decide +kernel
theorem dX12_sourcesOf_10 : decode cX12_sourcesOf 10 = .ok (.ifCond .ne 12, 3) := by decide +kernel
theorem dX12_sourcesOf_13 : decode cX12_sourcesOf 13 = .ok (.aload_n 0, 1) := by decide +kernel
theorem dX12_sourcesOf_14 : decode cX12_sourcesOf 14 = .ok (.getfield 19, 3) := by decide +kernel
theorem dX12_sourcesOf_17 : decode cX12_sourcesOf 17 = .ok (.iload_n 1, 1) := by decide +kernel
theorem dX12_sourcesOf_18 : decode cX12_sourcesOf 18 = .ok (.iaload, 1) := by decide +kernel
theorem dX12_sourcesOf_19 : decode cX12_sourcesOf 19 = .ok (.goto 9, 3) := by decide +kernel
theorem dX12_sourcesOf_22 : decode cX12_sourcesOf 22 = .ok (.aload_n 0, 1) := by decide +kernel
theorem dX12_sourcesOf_23 : decode cX12_sourcesOf 23 = .ok (.getfield 22, 3) := by decide +kernel
theorem dX12_sourcesOf_26 : decode cX12_sourcesOf 26 = .ok (.iload_n 1, 1) := by decide +kernel
theorem dX12_sourcesOf_27 : decode cX12_sourcesOf 27 = .ok (.iaload, 1) := by decide +kernel
theorem dX12_sourcesOf_28 : decode cX12_sourcesOf 28 = .ok (.istore 4, 2) := by decide +kernel
theorem dX12_sourcesOf_30 : decode cX12_sourcesOf 30 = .ok (.iload 4, 2) := by decide +kernel
theorem dX12_sourcesOf_32 : decode cX12_sourcesOf 32 = .ok (.invokestatic 218, 3) := by decide +kernel
theorem dX12_sourcesOf_35 : decode cX12_sourcesOf 35 = .ok (.ifCond .eq 13, 3) := by decide +kernel
theorem dX12_sourcesOf_38 : decode cX12_sourcesOf 38 = .ok (.aload_n 0, 1) := by decide +kernel
theorem dX12_sourcesOf_39 : decode cX12_sourcesOf 39 = .ok (.iload 4, 2) := by decide +kernel
theorem dX12_sourcesOf_41 : decode cX12_sourcesOf 41 = .ok (.iload_n 1, 1) := by decide +kernel
theorem dX12_sourcesOf_42 : decode cX12_sourcesOf 42 = .ok (.invokevirtual 282, 3) := by decide +kernel
theorem dX12_sourcesOf_45 : decode cX12_sourcesOf 45 = .ok (.goto 5, 3) := by decide +kernel
theorem dX12_sourcesOf_48 : decode cX12_sourcesOf 48 = .ok (.bipush (-6), 2) := by decide +kernel
theorem dX12_sourcesOf_50 : decode cX12_sourcesOf 50 = .ok (.istore 5, 2) := by decide +kernel
theorem dX12_sourcesOf_52 : decode cX12_sourcesOf 52 = .ok (.iload_n 2, 1) := by decide +kernel
theorem dX12_sourcesOf_53 : decode cX12_sourcesOf 53 = .ok (.iload 5, 2) := by decide +kernel
theorem dX12_sourcesOf_55 : decode cX12_sourcesOf 55 = .ok (.ifCond .ge 7, 3) := by decide +kernel
theorem dX12_sourcesOf_58 : decode cX12_sourcesOf 58 = .ok (.iconst 0, 1) := by decide +kernel
theorem dX12_sourcesOf_59 : decode cX12_sourcesOf 59 = .ok (.goto 7, 3) := by decide +kernel
theorem dX12_sourcesOf_62 : decode cX12_sourcesOf 62 = .ok (.iconst 1, 1) := by decide +kernel
theorem dX12_sourcesOf_63 : decode cX12_sourcesOf 63 = .ok (.iload 5, 2) := by decide +kernel
theorem dX12_sourcesOf_65 : decode cX12_sourcesOf 65 = .ok (.ishl, 1) := by decide +kernel
theorem dX12_sourcesOf_66 : decode cX12_sourcesOf 66 = .ok (.ior, 1) := by decide +kernel
theorem dX12_sourcesOf_67 : decode cX12_sourcesOf 67 = .ok (.istore_n 2, 1) := by decide +kernel
theorem dX12_sourcesOf_68 : decode cX12_sourcesOf 68 = .ok (.iinc 3 1, 3) := by decide +kernel
theorem dX12_sourcesOf_71 : decode cX12_sourcesOf 71 = .ok (.goto (-67), 3) := by decide +kernel
theorem dX12_sourcesOf_74 : decode cX12_sourcesOf 74 = .ok (.iload_n 2, 1) := by decide +kernel
theorem dX12_sourcesOf_75 : decode cX12_sourcesOf 75 = .ok (.ireturn, 1) := by decide +kernel
theorem dX12_clashesOf_0 : decode cX12_clashesOf 0 = .ok (.iconst 0, 1) := by decide +kernel
theorem dX12_clashesOf_1 : decode cX12_clashesOf 1 = .ok (.istore_n 2, 1) := by decide +kernel
theorem dX12_clashesOf_2 : decode cX12_clashesOf 2 = .ok (.iconst 0, 1) := by decide +kernel
theorem dX12_clashesOf_3 : decode cX12_clashesOf 3 = .ok (.istore_n 3, 1) := by decide +kernel
theorem dX12_clashesOf_4 : decode cX12_clashesOf 4 = .ok (.iload_n 3, 1) := by decide +kernel
theorem dX12_clashesOf_5 : decode cX12_clashesOf 5 = .ok (.iload_n 1, 1) := by decide +kernel
theorem dX12_clashesOf_6 : decode cX12_clashesOf 6 = .ok (.if_icmp .ge 48, 3) := by decide +kernel
theorem dX12_clashesOf_9 : decode cX12_clashesOf 9 = .ok (.iload_n 2, 1) := by decide +kernel
theorem dX12_clashesOf_10 : decode cX12_clashesOf 10 = .ok (.aload_n 0, 1) := by decide +kernel
theorem dX12_clashesOf_11 : decode cX12_clashesOf 11 = .ok (.getfield 13, 3) := by decide +kernel
theorem dX12_clashesOf_14 : decode cX12_clashesOf 14 = .ok (.iload_n 3, 1) := by decide +kernel
theorem dX12_clashesOf_15 : decode cX12_clashesOf 15 = .ok (.iaload, 1) := by decide +kernel
theorem dX12_clashesOf_16 : decode cX12_clashesOf 16 = .ok (.aload_n 0, 1) := by decide +kernel
theorem dX12_clashesOf_17 : decode cX12_clashesOf 17 = .ok (.getfield 13, 3) := by decide +kernel
theorem dX12_clashesOf_20 : decode cX12_clashesOf 20 = .ok (.iload_n 1, 1) := by decide +kernel
theorem dX12_clashesOf_21 : decode cX12_clashesOf 21 = .ok (.iaload, 1) := by decide +kernel
theorem dX12_clashesOf_22 : decode cX12_clashesOf 22 = .ok (.if_icmp .eq 17, 3) := by decide +kernel
theorem dX12_clashesOf_25 : decode cX12_clashesOf 25 = .ok (.aload_n 0, 1) := by decide +kernel
theorem dX12_clashesOf_26 : decode cX12_clashesOf 26 = .ok (.iload_n 3, 1) := by decide +kernel
theorem dX12_clashesOf_27 : decode cX12_clashesOf 27 = .ok (.aload_n 0, 1) := by decide +kernel
theorem dX12_clashesOf_28 : decode cX12_clashesOf 28 = .ok (.getfield 13, 3) := by decide +kernel
theorem dX12_clashesOf_31 : decode cX12_clashesOf 31 = .ok (.iload_n 1, 1) := by decide +kernel
theorem dX12_clashesOf_32 : decode cX12_clashesOf 32 = .ok (.iaload, 1) := by decide +kernel
theorem dX12_clashesOf_33 : decode cX12_clashesOf 33 = .ok (.invokevirtual 285, 3) := by decide +kernel
theorem dX12_clashesOf_36 : decode cX12_clashesOf 36 = .ok (.ifCond .eq 9, 3) := by decide +kernel
theorem dX12_clashesOf_39 : decode cX12_clashesOf 39 = .ok (.iconst 1, 1) := by decide +kernel
theorem dX12_clashesOf_40 : decode cX12_clashesOf 40 = .ok (.iload_n 3, 1) := by decide +kernel
theorem dX12_clashesOf_41 : decode cX12_clashesOf 41 = .ok (.ishl, 1) := by decide +kernel
theorem dX12_clashesOf_42 : decode cX12_clashesOf 42 = .ok (.goto 4, 3) := by decide +kernel
theorem dX12_clashesOf_45 : decode cX12_clashesOf 45 = .ok (.iconst 0, 1) := by decide +kernel
theorem dX12_clashesOf_46 : decode cX12_clashesOf 46 = .ok (.ior, 1) := by decide +kernel
theorem dX12_clashesOf_47 : decode cX12_clashesOf 47 = .ok (.istore_n 2, 1) := by decide +kernel
theorem dX12_clashesOf_48 : decode cX12_clashesOf 48 = .ok (.iinc 3 1, 3) := by decide +kernel
theorem dX12_clashesOf_51 : decode cX12_clashesOf 51 = .ok (.goto (-47), 3) := by decide +kernel
theorem dX12_clashesOf_54 : decode cX12_clashesOf 54 = .ok (.iload_n 2, 1) := by decide +kernel
theorem dX12_clashesOf_55 : decode cX12_clashesOf 55 = .ok (.ireturn, 1) := by decide +kernel
theorem dX12_behind_0 : decode cX12_behind 0 = .ok (.aload_n 0, 1) := by decide +kernel
theorem dX12_behind_1 : decode cX12_behind 1 = .ok (.iload_n 1, 1) := by decide +kernel
theorem dX12_behind_2 : decode cX12_behind 2 = .ok (.invokevirtual 186, 3) := by decide +kernel
theorem dX12_behind_5 : decode cX12_behind 5 = .ok (.ifCond .eq 17, 3) := by decide +kernel
theorem dX12_behind_8 : decode cX12_behind 8 = .ok (.aload_n 0, 1) := by decide +kernel
theorem dX12_behind_9 : decode cX12_behind 9 = .ok (.iload_n 1, 1) := by decide +kernel
theorem dX12_behind_10 : decode cX12_behind 10 = .ok (.invokevirtual 289, 3) := by decide +kernel
theorem dX12_behind_13 : decode cX12_behind 13 = .ok (.aload_n 0, 1) := by decide +kernel
theorem dX12_behind_14 : decode cX12_behind 14 = .ok (.iload_n 1, 1) := by decide +kernel
theorem dX12_behind_15 : decode cX12_behind 15 = .ok (.invokevirtual 292, 3) := by decide +kernel
theorem dX12_behind_18 : decode cX12_behind 18 = .ok (.ior, 1) := by decide +kernel
theorem dX12_behind_19 : decode cX12_behind 19 = .ok (.goto 4, 3) := by decide +kernel
theorem dX12_behind_22 : decode cX12_behind 22 = .ok (.iconst (-1), 1) := by decide +kernel
theorem dX12_behind_23 : decode cX12_behind 23 = .ok (.ireturn, 1) := by decide +kernel
theorem dX12_findBehind_0 : decode cX12_findBehind 0 = .ok (.iconst 0, 1) := by decide +kernel
theorem dX12_findBehind_1 : decode cX12_findBehind 1 = .ok (.istore_n 1, 1) := by decide +kernel
theorem dX12_findBehind_2 : decode cX12_findBehind 2 = .ok (.iload_n 1, 1) := by decide +kernel
theorem dX12_findBehind_3 : decode cX12_findBehind 3 = .ok (.aload_n 0, 1) := by decide +kernel
theorem dX12_findBehind_4 : decode cX12_findBehind 4 = .ok (.getfield 181, 3) := by decide +kernel
theorem dX12_findBehind_7 : decode cX12_findBehind 7 = .ok (.if_icmp .ge 31, 3) := by decide +kernel
theorem dX12_findBehind_10 : decode cX12_findBehind 10 = .ok (.aload_n 0, 1) := by decide +kernel
theorem dX12_findBehind_11 : decode cX12_findBehind 11 = .ok (.getfield 65, 3) := by decide +kernel
theorem dX12_findBehind_14 : decode cX12_findBehind 14 = .ok (.iload_n 1, 1) := by decide +kernel
theorem dX12_findBehind_15 : decode cX12_findBehind 15 = .ok (.aload_n 0, 1) := by decide +kernel
theorem dX12_findBehind_16 : decode cX12_findBehind 16 = .ok (.iload_n 1, 1) := by decide +kernel
theorem dX12_findBehind_17 : decode cX12_findBehind 17 = .ok (.invokevirtual 289, 3) := by decide +kernel
theorem dX12_findBehind_20 : decode cX12_findBehind 20 = .ok (.iastore, 1) := by decide +kernel
theorem dX12_findBehind_21 : decode cX12_findBehind 21 = .ok (.aload_n 0, 1) := by decide +kernel
theorem dX12_findBehind_22 : decode cX12_findBehind 22 = .ok (.getfield 68, 3) := by decide +kernel
theorem dX12_findBehind_25 : decode cX12_findBehind 25 = .ok (.iload_n 1, 1) := by decide +kernel
theorem dX12_findBehind_26 : decode cX12_findBehind 26 = .ok (.aload_n 0, 1) := by decide +kernel
theorem dX12_findBehind_27 : decode cX12_findBehind 27 = .ok (.iload_n 1, 1) := by decide +kernel
theorem dX12_findBehind_28 : decode cX12_findBehind 28 = .ok (.invokevirtual 292, 3) := by decide +kernel
theorem dX12_findBehind_31 : decode cX12_findBehind 31 = .ok (.iastore, 1) := by decide +kernel
theorem dX12_findBehind_32 : decode cX12_findBehind 32 = .ok (.iinc 1 1, 3) := by decide +kernel
theorem dX12_findBehind_35 : decode cX12_findBehind 35 = .ok (.goto (-33), 3) := by decide +kernel
theorem dX12_findBehind_38 : decode cX12_findBehind 38 = .ok (.return_, 1) := by decide +kernel
theorem dX12_orders_0 : decode cX12_orders 0 = .ok (.aload_n 0, 1) := by decide +kernel
theorem dX12_orders_1 : decode cX12_orders 1 = .ok (.invokevirtual 295, 3) := by decide +kernel
theorem dX12_orders_4 : decode cX12_orders 4 = .ok (.iconst 1, 1) := by decide +kernel
theorem dX12_orders_5 : decode cX12_orders 5 = .ok (.aload_n 0, 1) := by decide +kernel
theorem dX12_orders_6 : decode cX12_orders 6 = .ok (.getfield 181, 3) := by decide +kernel
theorem dX12_orders_9 : decode cX12_orders 9 = .ok (.ishl, 1) := by decide +kernel
theorem dX12_orders_10 : decode cX12_orders 10 = .ok (.istore_n 1, 1) := by decide +kernel
theorem dX12_orders_11 : decode cX12_orders 11 = .ok (.iconst 0, 1) := by decide +kernel
theorem dX12_orders_12 : decode cX12_orders 12 = .ok (.istore_n 2, 1) := by decide +kernel
theorem dX12_orders_13 : decode cX12_orders 13 = .ok (.iload_n 2, 1) := by decide +kernel
theorem dX12_orders_14 : decode cX12_orders 14 = .ok (.iload_n 1, 1) := by decide +kernel
theorem dX12_orders_15 : decode cX12_orders 15 = .ok (.if_icmp .ge 24, 3) := by decide +kernel
theorem dX12_orders_18 : decode cX12_orders 18 = .ok (.aload_n 0, 1) := by decide +kernel
theorem dX12_orders_19 : decode cX12_orders 19 = .ok (.getfield 71, 3) := by decide +kernel
theorem dX12_orders_22 : decode cX12_orders 22 = .ok (.iload_n 2, 1) := by decide +kernel
theorem dX12_orders_23 : decode cX12_orders 23 = .ok (.iload_n 2, 1) := by decide +kernel
theorem dX12_orders_24 : decode cX12_orders 24 = .ok (.ifCond .ne 7, 3) := by decide +kernel
theorem dX12_orders_27 : decode cX12_orders 27 = .ok (.iconst 1, 1) := by decide +kernel
theorem dX12_orders_28 : decode cX12_orders 28 = .ok (.goto 4, 3) := by decide +kernel
theorem dX12_orders_31 : decode cX12_orders 31 = .ok (.iconst 0, 1) := by decide +kernel
theorem dX12_orders_32 : decode cX12_orders 32 = .ok (.iastore, 1) := by decide +kernel
theorem dX12_orders_33 : decode cX12_orders 33 = .ok (.iinc 2 1, 3) := by decide +kernel
theorem dX12_orders_36 : decode cX12_orders 36 = .ok (.goto (-23), 3) := by decide +kernel
theorem dX12_orders_39 : decode cX12_orders 39 = .ok (.iconst 0, 1) := by decide +kernel
theorem dX12_orders_40 : decode cX12_orders 40 = .ok (.istore_n 2, 1) := by decide +kernel
theorem dX12_orders_41 : decode cX12_orders 41 = .ok (.iload_n 2, 1) := by decide +kernel
theorem dX12_orders_42 : decode cX12_orders 42 = .ok (.iload_n 1, 1) := by decide +kernel
theorem dX12_orders_43 : decode cX12_orders 43 = .ok (.if_icmp .ge 97, 3) := by decide +kernel
theorem dX12_orders_46 : decode cX12_orders 46 = .ok (.iconst 0, 1) := by decide +kernel
theorem dX12_orders_47 : decode cX12_orders 47 = .ok (.istore_n 3, 1) := by decide +kernel
theorem dX12_orders_48 : decode cX12_orders 48 = .ok (.iload_n 3, 1) := by decide +kernel
theorem dX12_orders_49 : decode cX12_orders 49 = .ok (.aload_n 0, 1) := by decide +kernel
theorem dX12_orders_50 : decode cX12_orders 50 = .ok (.getfield 181, 3) := by decide +kernel
theorem dX12_orders_53 : decode cX12_orders 53 = .ok (.if_icmp .ge 81, 3) := by decide +kernel
theorem dX12_orders_56 : decode cX12_orders 56 = .ok (.aload_n 0, 1) := by decide +kernel
theorem dX12_orders_57 : decode cX12_orders 57 = .ok (.getfield 71, 3) := by decide +kernel
theorem dX12_orders_60 : decode cX12_orders 60 = .ok (.iload_n 2, 1) := by decide +kernel
theorem dX12_orders_61 : decode cX12_orders 61 = .ok (.iaload, 1) := by decide +kernel
theorem dX12_orders_62 : decode cX12_orders 62 = .ok (.ifCond .le 72, 3) := by decide +kernel
theorem dX12_orders_65 : decode cX12_orders 65 = .ok (.iload_n 2, 1) := by decide +kernel
theorem dX12_orders_66 : decode cX12_orders 66 = .ok (.iload_n 3, 1) := by decide +kernel
theorem dX12_orders_67 : decode cX12_orders 67 = .ok (.ishr, 1) := by decide +kernel
theorem dX12_orders_68 : decode cX12_orders 68 = .ok (.iconst 1, 1) := by decide +kernel
theorem dX12_orders_69 : decode cX12_orders 69 = .ok (.iand, 1) := by decide +kernel
theorem dX12_orders_70 : decode cX12_orders 70 = .ok (.ifCond .ne 27, 3) := by decide +kernel
theorem dX12_orders_73 : decode cX12_orders 73 = .ok (.aload_n 0, 1) := by decide +kernel
theorem dX12_orders_74 : decode cX12_orders 74 = .ok (.getfield 65, 3) := by decide +kernel
theorem dX12_orders_77 : decode cX12_orders 77 = .ok (.iload_n 3, 1) := by decide +kernel
theorem dX12_orders_78 : decode cX12_orders 78 = .ok (.iaload, 1) := by decide +kernel
theorem dX12_orders_79 : decode cX12_orders 79 = .ok (.aload_n 0, 1) := by decide +kernel
theorem dX12_orders_80 : decode cX12_orders 80 = .ok (.getfield 68, 3) := by decide +kernel
theorem dX12_orders_83 : decode cX12_orders 83 = .ok (.iload_n 3, 1) := by decide +kernel
theorem dX12_orders_84 : decode cX12_orders 84 = .ok (.iaload, 1) := by decide +kernel
theorem dX12_orders_85 : decode cX12_orders 85 = .ok (.ior, 1) := by decide +kernel
theorem dX12_orders_86 : decode cX12_orders 86 = .ok (.iload_n 2, 1) := by decide +kernel
theorem dX12_orders_87 : decode cX12_orders 87 = .ok (.iconst (-1), 1) := by decide +kernel
theorem dX12_orders_88 : decode cX12_orders 88 = .ok (.ixor, 1) := by decide +kernel
theorem dX12_orders_89 : decode cX12_orders 89 = .ok (.iand, 1) := by decide +kernel
theorem dX12_orders_90 : decode cX12_orders 90 = .ok (.ifCond .ne 7, 3) := by decide +kernel
theorem dX12_orders_93 : decode cX12_orders 93 = .ok (.iconst 1, 1) := by decide +kernel
theorem dX12_orders_94 : decode cX12_orders 94 = .ok (.goto 4, 3) := by decide +kernel
theorem dX12_orders_97 : decode cX12_orders 97 = .ok (.iconst 0, 1) := by decide +kernel
theorem dX12_orders_98 : decode cX12_orders 98 = .ok (.istore 4, 2) := by decide +kernel
theorem dX12_orders_100 : decode cX12_orders 100 = .ok (.aload_n 0, 1) := by decide +kernel
theorem dX12_orders_101 : decode cX12_orders 101 = .ok (.getfield 71, 3) := by decide +kernel
theorem dX12_orders_104 : decode cX12_orders 104 = .ok (.iload_n 2, 1) := by decide +kernel
theorem dX12_orders_105 : decode cX12_orders 105 = .ok (.iconst 1, 1) := by decide +kernel
theorem dX12_orders_106 : decode cX12_orders 106 = .ok (.iload_n 3, 1) := by decide +kernel
theorem dX12_orders_107 : decode cX12_orders 107 = .ok (.ishl, 1) := by decide +kernel
theorem dX12_orders_108 : decode cX12_orders 108 = .ok (.ior, 1) := by decide +kernel
theorem dX12_orders_109 : decode cX12_orders 109 = .ok (.dup2, 1) := by decide +kernel
theorem dX12_orders_110 : decode cX12_orders 110 = .ok (.iaload, 1) := by decide +kernel
theorem dX12_orders_111 : decode cX12_orders 111 = .ok (.iload 4, 2) := by decide +kernel
theorem dX12_orders_113 : decode cX12_orders 113 = .ok (.ifCond .eq 12, 3) := by decide +kernel
theorem dX12_orders_116 : decode cX12_orders 116 = .ok (.aload_n 0, 1) := by decide +kernel
theorem dX12_orders_117 : decode cX12_orders 117 = .ok (.getfield 71, 3) := by decide +kernel
theorem dX12_orders_120 : decode cX12_orders 120 = .ok (.iload_n 2, 1) := by decide +kernel
theorem dX12_orders_121 : decode cX12_orders 121 = .ok (.iaload, 1) := by decide +kernel
theorem dX12_orders_122 : decode cX12_orders 122 = .ok (.goto 4, 3) := by decide +kernel
theorem dX12_orders_125 : decode cX12_orders 125 = .ok (.iconst 0, 1) := by decide +kernel
theorem dX12_orders_126 : decode cX12_orders 126 = .ok (.iadd, 1) := by decide +kernel
theorem dX12_orders_127 : decode cX12_orders 127 = .ok (.iastore, 1) := by decide +kernel
theorem dX12_orders_128 : decode cX12_orders 128 = .ok (.iinc 3 1, 3) := by decide +kernel
theorem dX12_orders_131 : decode cX12_orders 131 = .ok (.goto (-83), 3) := by decide +kernel
theorem dX12_orders_134 : decode cX12_orders 134 = .ok (.iinc 2 1, 3) := by decide +kernel
theorem dX12_orders_137 : decode cX12_orders 137 = .ok (.goto (-96), 3) := by decide +kernel
theorem dX12_orders_140 : decode cX12_orders 140 = .ok (.aload_n 0, 1) := by decide +kernel
theorem dX12_orders_141 : decode cX12_orders 141 = .ok (.getfield 71, 3) := by decide +kernel
theorem dX12_orders_144 : decode cX12_orders 144 = .ok (.iload_n 1, 1) := by decide +kernel
theorem dX12_orders_145 : decode cX12_orders 145 = .ok (.iconst 1, 1) := by decide +kernel
theorem dX12_orders_146 : decode cX12_orders 146 = .ok (.isub, 1) := by decide +kernel
theorem dX12_orders_147 : decode cX12_orders 147 = .ok (.iaload, 1) := by decide +kernel
theorem dX12_orders_148 : decode cX12_orders 148 = .ok (.ireturn, 1) := by decide +kernel
theorem dX12_set_0 : decode cX12_set 0 = .ok (.iload_n 1, 1) := by decide +kernel
theorem dX12_set_1 : decode cX12_set 1 = .ok (.i2l, 1) := by decide +kernel
theorem dX12_set_2 : decode cX12_set 2 = .ok (.lconst 0, 1) := by decide +kernel
theorem dX12_set_3 : decode cX12_set 3 = .ok (.ldc2_w 277, 3) := by decide +kernel
theorem dX12_set_6 : decode cX12_set 6 = .ok (.invokestatic 125, 3) := by decide +kernel
theorem dX12_set_9 : decode cX12_set 9 = .ok (.ifCond .eq 25, 3) := by decide +kernel
theorem dX12_set_12 : decode cX12_set 12 = .ok (.iload_n 2, 1) := by decide +kernel
theorem dX12_set_13 : decode cX12_set 13 = .ok (.i2l, 1) := by decide +kernel
theorem dX12_set_14 : decode cX12_set 14 = .ok (.lconst 1, 1) := by decide +kernel
theorem dX12_set_15 : decode cX12_set 15 = .ok (.iload_n 1, 1) := by decide +kernel
theorem dX12_set_16 : decode cX12_set 16 = .ok (.ifCond .ne 9, 3) := by decide +kernel
theorem dX12_set_19 : decode cX12_set 19 = .ok (.ldc2_w 123, 3) := by decide +kernel
theorem dX12_set_22 : decode cX12_set 22 = .ok (.goto 6, 3) := by decide +kernel
theorem dX12_set_25 : decode cX12_set 25 = .ok (.ldc2_w 298, 3) := by decide +kernel
theorem dX12_set_28 : decode cX12_set 28 = .ok (.invokestatic 125, 3) := by decide +kernel
theorem dX12_set_31 : decode cX12_set 31 = .ok (.ifCond .ne 6, 3) := by decide +kernel
theorem dX12_set_34 : decode cX12_set 34 = .ok (.bipush (-2), 2) := by decide +kernel
theorem dX12_set_36 : decode cX12_set 36 = .ok (.ireturn, 1) := by decide +kernel
theorem dX12_set_37 : decode cX12_set 37 = .ok (.iload_n 1, 1) := by decide +kernel
theorem dX12_set_38 : decode cX12_set 38 = .ok (.ifCond .ne 10, 3) := by decide +kernel
theorem dX12_set_41 : decode cX12_set 41 = .ok (.aload_n 0, 1) := by decide +kernel
theorem dX12_set_42 : decode cX12_set 42 = .ok (.getfield 120, 3) := by decide +kernel
theorem dX12_set_45 : decode cX12_set 45 = .ok (.goto 11, 3) := by decide +kernel
theorem dX12_set_48 : decode cX12_set 48 = .ok (.aload_n 0, 1) := by decide +kernel
theorem dX12_set_49 : decode cX12_set 49 = .ok (.getfield 28, 3) := by decide +kernel
theorem dX12_set_52 : decode cX12_set 52 = .ok (.iload_n 1, 1) := by decide +kernel
theorem dX12_set_53 : decode cX12_set 53 = .ok (.iconst 1, 1) := by decide +kernel
theorem dX12_set_54 : decode cX12_set 54 = .ok (.isub, 1) := by decide +kernel
theorem dX12_set_55 : decode cX12_set 55 = .ok (.iaload, 1) := by decide +kernel
theorem dX12_set_56 : decode cX12_set 56 = .ok (.istore_n 3, 1) := by decide +kernel
theorem dX12_set_57 : decode cX12_set 57 = .ok (.iload_n 1, 1) := by decide +kernel
theorem dX12_set_58 : decode cX12_set 58 = .ok (.ifCond .ne 11, 3) := by decide +kernel
theorem dX12_set_61 : decode cX12_set 61 = .ok (.aload_n 0, 1) := by decide +kernel
theorem dX12_set_62 : decode cX12_set 62 = .ok (.iload_n 2, 1) := by decide +kernel
theorem dX12_set_63 : decode cX12_set 63 = .ok (.putfield 120, 3) := by decide +kernel
theorem dX12_set_66 : decode cX12_set 66 = .ok (.goto 12, 3) := by decide +kernel
theorem dX12_set_69 : decode cX12_set 69 = .ok (.aload_n 0, 1) := by decide +kernel
theorem dX12_set_70 : decode cX12_set 70 = .ok (.getfield 28, 3) := by decide +kernel
theorem dX12_set_73 : decode cX12_set 73 = .ok (.iload_n 1, 1) := by decide +kernel
theorem dX12_set_74 : decode cX12_set 74 = .ok (.iconst 1, 1) := by decide +kernel
theorem dX12_set_75 : decode cX12_set 75 = .ok (.isub, 1) := by decide +kernel
theorem dX12_set_76 : decode cX12_set 76 = .ok (.iload_n 2, 1) := by decide +kernel
theorem dX12_set_77 : decode cX12_set 77 = .ok (.iastore, 1) := by decide +kernel
theorem dX12_set_78 : decode cX12_set 78 = .ok (.iload_n 3, 1) := by decide +kernel
theorem dX12_set_79 : decode cX12_set 79 = .ok (.ireturn, 1) := by decide +kernel
theorem dX12_delayOf_0 : decode cX12_delayOf 0 = .ok (.aload_n 0, 1) := by decide +kernel
theorem dX12_delayOf_1 : decode cX12_delayOf 1 = .ok (.getfield 16, 3) := by decide +kernel
theorem dX12_delayOf_4 : decode cX12_delayOf 4 = .ok (.iload_n 1, 1) := by decide +kernel
theorem dX12_delayOf_5 : decode cX12_delayOf 5 = .ok (.iaload, 1) := by decide +kernel
theorem dX12_delayOf_6 : decode cX12_delayOf 6 = .ok (.lookupswitch 70 #[(42, 56), (43, 42), (45, 49), (109, 63)], 42) := by decide +kernel
theorem dX12_delayOf_48 : decode cX12_delayOf 48 = .ok (.aload_n 0, 1) := by decide +kernel
theorem dX12_delayOf_49 : decode cX12_delayOf 49 = .ok (.getfield 28, 3) := by decide +kernel
theorem dX12_delayOf_52 : decode cX12_delayOf 52 = .ok (.iconst 0, 1) := by decide +kernel
theorem dX12_delayOf_53 : decode cX12_delayOf 53 = .ok (.iaload, 1) := by decide +kernel
theorem dX12_delayOf_54 : decode cX12_delayOf 54 = .ok (.ireturn, 1) := by decide +kernel
theorem dX12_delayOf_55 : decode cX12_delayOf 55 = .ok (.aload_n 0, 1) := by decide +kernel
theorem dX12_delayOf_56 : decode cX12_delayOf 56 = .ok (.getfield 28, 3) := by decide +kernel
theorem dX12_delayOf_59 : decode cX12_delayOf 59 = .ok (.iconst 1, 1) := by decide +kernel
theorem dX12_delayOf_60 : decode cX12_delayOf 60 = .ok (.iaload, 1) := by decide +kernel
theorem dX12_delayOf_61 : decode cX12_delayOf 61 = .ok (.ireturn, 1) := by decide +kernel
theorem dX12_delayOf_62 : decode cX12_delayOf 62 = .ok (.aload_n 0, 1) := by decide +kernel
theorem dX12_delayOf_63 : decode cX12_delayOf 63 = .ok (.getfield 28, 3) := by decide +kernel
theorem dX12_delayOf_66 : decode cX12_delayOf 66 = .ok (.iconst 2, 1) := by decide +kernel
theorem dX12_delayOf_67 : decode cX12_delayOf 67 = .ok (.iaload, 1) := by decide +kernel
theorem dX12_delayOf_68 : decode cX12_delayOf 68 = .ok (.ireturn, 1) := by decide +kernel
theorem dX12_delayOf_69 : decode cX12_delayOf 69 = .ok (.aload_n 0, 1) := by decide +kernel
theorem dX12_delayOf_70 : decode cX12_delayOf 70 = .ok (.getfield 28, 3) := by decide +kernel
theorem dX12_delayOf_73 : decode cX12_delayOf 73 = .ok (.iconst 3, 1) := by decide +kernel
theorem dX12_delayOf_74 : decode cX12_delayOf 74 = .ok (.iaload, 1) := by decide +kernel
theorem dX12_delayOf_75 : decode cX12_delayOf 75 = .ok (.ireturn, 1) := by decide +kernel
theorem dX12_delayOf_76 : decode cX12_delayOf 76 = .ok (.iconst 1, 1) := by decide +kernel
theorem dX12_delayOf_77 : decode cX12_delayOf 77 = .ok (.ireturn, 1) := by decide +kernel
theorem dX12_layOrder_0 : decode cX12_layOrder 0 = .ok (.iconst 0, 1) := by decide +kernel
theorem dX12_layOrder_1 : decode cX12_layOrder 1 = .ok (.istore_n 1, 1) := by decide +kernel
theorem dX12_layOrder_2 : decode cX12_layOrder 2 = .ok (.iload_n 1, 1) := by decide +kernel
theorem dX12_layOrder_3 : decode cX12_layOrder 3 = .ok (.aload_n 0, 1) := by decide +kernel
theorem dX12_layOrder_4 : decode cX12_layOrder 4 = .ok (.getfield 181, 3) := by decide +kernel
theorem dX12_layOrder_7 : decode cX12_layOrder 7 = .ok (.if_icmp .ge 16, 3) := by decide +kernel
theorem dX12_layOrder_10 : decode cX12_layOrder 10 = .ok (.aload_n 0, 1) := by decide +kernel
theorem dX12_layOrder_11 : decode cX12_layOrder 11 = .ok (.getfield 74, 3) := by decide +kernel
theorem dX12_layOrder_14 : decode cX12_layOrder 14 = .ok (.iload_n 1, 1) := by decide +kernel
theorem dX12_layOrder_15 : decode cX12_layOrder 15 = .ok (.iload_n 1, 1) := by decide +kernel
theorem dX12_layOrder_16 : decode cX12_layOrder 16 = .ok (.iastore, 1) := by decide +kernel
theorem dX12_layOrder_17 : decode cX12_layOrder 17 = .ok (.iinc 1 1, 3) := by decide +kernel
theorem dX12_layOrder_20 : decode cX12_layOrder 20 = .ok (.goto (-18), 3) := by decide +kernel
theorem dX12_layOrder_23 : decode cX12_layOrder 23 = .ok (.return_, 1) := by decide +kernel
theorem dX12_findTicks_0 : decode cX12_findTicks 0 = .ok (.iconst 0, 1) := by decide +kernel
theorem dX12_findTicks_1 : decode cX12_findTicks 1 = .ok (.istore_n 1, 1) := by decide +kernel
theorem dX12_findTicks_2 : decode cX12_findTicks 2 = .ok (.iconst 0, 1) := by decide +kernel
theorem dX12_findTicks_3 : decode cX12_findTicks 3 = .ok (.istore_n 2, 1) := by decide +kernel
theorem dX12_findTicks_4 : decode cX12_findTicks 4 = .ok (.iconst 0, 1) := by decide +kernel
theorem dX12_findTicks_5 : decode cX12_findTicks 5 = .ok (.istore_n 3, 1) := by decide +kernel
theorem dX12_findTicks_6 : decode cX12_findTicks 6 = .ok (.iconst 0, 1) := by decide +kernel
theorem dX12_findTicks_7 : decode cX12_findTicks 7 = .ok (.istore 4, 2) := by decide +kernel
theorem dX12_findTicks_9 : decode cX12_findTicks 9 = .ok (.iload 4, 2) := by decide +kernel
theorem dX12_findTicks_11 : decode cX12_findTicks 11 = .ok (.aload_n 0, 1) := by decide +kernel
theorem dX12_findTicks_12 : decode cX12_findTicks 12 = .ok (.getfield 181, 3) := by decide +kernel
theorem dX12_findTicks_15 : decode cX12_findTicks 15 = .ok (.if_icmp .ge 198, 3) := by decide +kernel
theorem dX12_findTicks_18 : decode cX12_findTicks 18 = .ok (.aload_n 0, 1) := by decide +kernel
theorem dX12_findTicks_19 : decode cX12_findTicks 19 = .ok (.getfield 74, 3) := by decide +kernel
theorem dX12_findTicks_22 : decode cX12_findTicks 22 = .ok (.iload 4, 2) := by decide +kernel
theorem dX12_findTicks_24 : decode cX12_findTicks 24 = .ok (.iaload, 1) := by decide +kernel
theorem dX12_findTicks_25 : decode cX12_findTicks 25 = .ok (.istore 5, 2) := by decide +kernel
theorem dX12_findTicks_27 : decode cX12_findTicks 27 = .ok (.iload_n 1, 1) := by decide +kernel
theorem dX12_findTicks_28 : decode cX12_findTicks 28 = .ok (.istore 6, 2) := by decide +kernel
theorem dX12_findTicks_30 : decode cX12_findTicks 30 = .ok (.iconst 0, 1) := by decide +kernel
theorem dX12_findTicks_31 : decode cX12_findTicks 31 = .ok (.istore 7, 2) := by decide +kernel
theorem dX12_findTicks_33 : decode cX12_findTicks 33 = .ok (.iload 7, 2) := by decide +kernel
theorem dX12_findTicks_35 : decode cX12_findTicks 35 = .ok (.aload_n 0, 1) := by decide +kernel
theorem dX12_findTicks_36 : decode cX12_findTicks 36 = .ok (.getfield 181, 3) := by decide +kernel
theorem dX12_findTicks_39 : decode cX12_findTicks 39 = .ok (.if_icmp .ge 101, 3) := by decide +kernel
theorem dX12_findTicks_42 : decode cX12_findTicks 42 = .ok (.aload_n 0, 1) := by decide +kernel
theorem dX12_findTicks_43 : decode cX12_findTicks 43 = .ok (.getfield 65, 3) := by decide +kernel
theorem dX12_findTicks_46 : decode cX12_findTicks 46 = .ok (.iload 5, 2) := by decide +kernel
theorem dX12_findTicks_48 : decode cX12_findTicks 48 = .ok (.iaload, 1) := by decide +kernel
theorem dX12_findTicks_49 : decode cX12_findTicks 49 = .ok (.iload 7, 2) := by decide +kernel
theorem dX12_findTicks_51 : decode cX12_findTicks 51 = .ok (.ishr, 1) := by decide +kernel
theorem dX12_findTicks_52 : decode cX12_findTicks 52 = .ok (.iconst 1, 1) := by decide +kernel
theorem dX12_findTicks_53 : decode cX12_findTicks 53 = .ok (.iand, 1) := by decide +kernel
theorem dX12_findTicks_54 : decode cX12_findTicks 54 = .ok (.iconst 1, 1) := by decide +kernel
theorem dX12_findTicks_55 : decode cX12_findTicks 55 = .ok (.if_icmp .ne 38, 3) := by decide +kernel
theorem dX12_findTicks_58 : decode cX12_findTicks 58 = .ok (.aload_n 0, 1) := by decide +kernel
theorem dX12_findTicks_59 : decode cX12_findTicks 59 = .ok (.getfield 77, 3) := by decide +kernel
theorem dX12_findTicks_62 : decode cX12_findTicks 62 = .ok (.iload 7, 2) := by decide +kernel
theorem dX12_findTicks_64 : decode cX12_findTicks 64 = .ok (.iaload, 1) := by decide +kernel
theorem dX12_findTicks_65 : decode cX12_findTicks 65 = .ok (.aload_n 0, 1) := by decide +kernel
theorem dX12_findTicks_66 : decode cX12_findTicks 66 = .ok (.iload 7, 2) := by decide +kernel
theorem dX12_findTicks_68 : decode cX12_findTicks 68 = .ok (.invokevirtual 300, 3) := by decide +kernel
theorem dX12_findTicks_71 : decode cX12_findTicks 71 = .ok (.iadd, 1) := by decide +kernel
theorem dX12_findTicks_72 : decode cX12_findTicks 72 = .ok (.iload 6, 2) := by decide +kernel
theorem dX12_findTicks_74 : decode cX12_findTicks 74 = .ok (.if_icmp .le 19, 3) := by decide +kernel
theorem dX12_findTicks_77 : decode cX12_findTicks 77 = .ok (.aload_n 0, 1) := by decide +kernel
theorem dX12_findTicks_78 : decode cX12_findTicks 78 = .ok (.getfield 77, 3) := by decide +kernel
theorem dX12_findTicks_81 : decode cX12_findTicks 81 = .ok (.iload 7, 2) := by decide +kernel
theorem dX12_findTicks_83 : decode cX12_findTicks 83 = .ok (.iaload, 1) := by decide +kernel
theorem dX12_findTicks_84 : decode cX12_findTicks 84 = .ok (.aload_n 0, 1) := by decide +kernel
theorem dX12_findTicks_85 : decode cX12_findTicks 85 = .ok (.iload 7, 2) := by decide +kernel
theorem dX12_findTicks_87 : decode cX12_findTicks 87 = .ok (.invokevirtual 300, 3) := by decide +kernel
theorem dX12_findTicks_90 : decode cX12_findTicks 90 = .ok (.iadd, 1) := by decide +kernel
theorem dX12_findTicks_91 : decode cX12_findTicks 91 = .ok (.istore 6, 2) := by decide +kernel
theorem dX12_findTicks_93 : decode cX12_findTicks 93 = .ok (.aload_n 0, 1) := by decide +kernel
theorem dX12_findTicks_94 : decode cX12_findTicks 94 = .ok (.getfield 68, 3) := by decide +kernel
theorem dX12_findTicks_97 : decode cX12_findTicks 97 = .ok (.iload 5, 2) := by decide +kernel
theorem dX12_findTicks_99 : decode cX12_findTicks 99 = .ok (.iaload, 1) := by decide +kernel
theorem dX12_findTicks_100 : decode cX12_findTicks 100 = .ok (.iload 7, 2) := by decide +kernel
theorem dX12_findTicks_102 : decode cX12_findTicks 102 = .ok (.ishr, 1) := by decide +kernel
theorem dX12_findTicks_103 : decode cX12_findTicks 103 = .ok (.iconst 1, 1) := by decide +kernel
theorem dX12_findTicks_104 : decode cX12_findTicks 104 = .ok (.iand, 1) := by decide +kernel
theorem dX12_findTicks_105 : decode cX12_findTicks 105 = .ok (.iconst 1, 1) := by decide +kernel
theorem dX12_findTicks_106 : decode cX12_findTicks 106 = .ok (.if_icmp .ne 28, 3) := by decide +kernel
theorem dX12_findTicks_109 : decode cX12_findTicks 109 = .ok (.aload_n 0, 1) := by decide +kernel
theorem dX12_findTicks_110 : decode cX12_findTicks 110 = .ok (.getfield 77, 3) := by decide +kernel
theorem dX12_findTicks_113 : decode cX12_findTicks 113 = .ok (.iload 7, 2) := by decide +kernel
theorem dX12_findTicks_115 : decode cX12_findTicks 115 = .ok (.iaload, 1) := by decide +kernel
theorem dX12_findTicks_116 : decode cX12_findTicks 116 = .ok (.iconst 1, 1) := by decide +kernel
theorem dX12_findTicks_117 : decode cX12_findTicks 117 = .ok (.iadd, 1) := by decide +kernel
theorem dX12_findTicks_118 : decode cX12_findTicks 118 = .ok (.iload 6, 2) := by decide +kernel
theorem dX12_findTicks_120 : decode cX12_findTicks 120 = .ok (.if_icmp .le 14, 3) := by decide +kernel
theorem dX12_findTicks_123 : decode cX12_findTicks 123 = .ok (.aload_n 0, 1) := by decide +kernel
theorem dX12_findTicks_124 : decode cX12_findTicks 124 = .ok (.getfield 77, 3) := by decide +kernel
theorem dX12_findTicks_127 : decode cX12_findTicks 127 = .ok (.iload 7, 2) := by decide +kernel
theorem dX12_findTicks_129 : decode cX12_findTicks 129 = .ok (.iaload, 1) := by decide +kernel
theorem dX12_findTicks_130 : decode cX12_findTicks 130 = .ok (.iconst 1, 1) := by decide +kernel
theorem dX12_findTicks_131 : decode cX12_findTicks 131 = .ok (.iadd, 1) := by decide +kernel
theorem dX12_findTicks_132 : decode cX12_findTicks 132 = .ok (.istore 6, 2) := by decide +kernel
theorem dX12_findTicks_134 : decode cX12_findTicks 134 = .ok (.iinc 7 1, 3) := by decide +kernel
theorem dX12_findTicks_137 : decode cX12_findTicks 137 = .ok (.goto (-104), 3) := by decide +kernel
theorem dX12_findTicks_140 : decode cX12_findTicks 140 = .ok (.iload 6, 2) := by decide +kernel
theorem dX12_findTicks_142 : decode cX12_findTicks 142 = .ok (.iload_n 1, 1) := by decide +kernel
theorem dX12_findTicks_143 : decode cX12_findTicks 143 = .ok (.if_icmp .ne 14, 3) := by decide +kernel
theorem dX12_findTicks_146 : decode cX12_findTicks 146 = .ok (.iload_n 2, 1) := by decide +kernel
theorem dX12_findTicks_147 : decode cX12_findTicks 147 = .ok (.aload_n 0, 1) := by decide +kernel
theorem dX12_findTicks_148 : decode cX12_findTicks 148 = .ok (.getfield 120, 3) := by decide +kernel
theorem dX12_findTicks_151 : decode cX12_findTicks 151 = .ok (.if_icmp .ne 6, 3) := by decide +kernel
theorem dX12_findTicks_154 : decode cX12_findTicks 154 = .ok (.iinc 6 1, 3) := by decide +kernel
theorem dX12_findTicks_157 : decode cX12_findTicks 157 = .ok (.iload 6, 2) := by decide +kernel
theorem dX12_findTicks_159 : decode cX12_findTicks 159 = .ok (.iload_n 1, 1) := by decide +kernel
theorem dX12_findTicks_160 : decode cX12_findTicks 160 = .ok (.if_icmp .ne 9, 3) := by decide +kernel
theorem dX12_findTicks_163 : decode cX12_findTicks 163 = .ok (.iload_n 2, 1) := by decide +kernel
theorem dX12_findTicks_164 : decode cX12_findTicks 164 = .ok (.iconst 1, 1) := by decide +kernel
theorem dX12_findTicks_165 : decode cX12_findTicks 165 = .ok (.iadd, 1) := by decide +kernel
theorem dX12_findTicks_166 : decode cX12_findTicks 166 = .ok (.goto 4, 3) := by decide +kernel
theorem dX12_findTicks_169 : decode cX12_findTicks 169 = .ok (.iconst 1, 1) := by decide +kernel
theorem dX12_findTicks_170 : decode cX12_findTicks 170 = .ok (.istore_n 2, 1) := by decide +kernel
theorem dX12_findTicks_171 : decode cX12_findTicks 171 = .ok (.iload 6, 2) := by decide +kernel
theorem dX12_findTicks_173 : decode cX12_findTicks 173 = .ok (.istore_n 1, 1) := by decide +kernel
theorem dX12_findTicks_174 : decode cX12_findTicks 174 = .ok (.aload_n 0, 1) := by decide +kernel
theorem dX12_findTicks_175 : decode cX12_findTicks 175 = .ok (.getfield 77, 3) := by decide +kernel
theorem dX12_findTicks_178 : decode cX12_findTicks 178 = .ok (.iload 5, 2) := by decide +kernel
theorem dX12_findTicks_180 : decode cX12_findTicks 180 = .ok (.iload_n 1, 1) := by decide +kernel
theorem dX12_findTicks_181 : decode cX12_findTicks 181 = .ok (.iastore, 1) := by decide +kernel
theorem dX12_findTicks_182 : decode cX12_findTicks 182 = .ok (.iload_n 1, 1) := by decide +kernel
theorem dX12_findTicks_183 : decode cX12_findTicks 183 = .ok (.aload_n 0, 1) := by decide +kernel
theorem dX12_findTicks_184 : decode cX12_findTicks 184 = .ok (.iload 5, 2) := by decide +kernel
theorem dX12_findTicks_186 : decode cX12_findTicks 186 = .ok (.invokevirtual 300, 3) := by decide +kernel
theorem dX12_findTicks_189 : decode cX12_findTicks 189 = .ok (.iadd, 1) := by decide +kernel
theorem dX12_findTicks_190 : decode cX12_findTicks 190 = .ok (.iload_n 3, 1) := by decide +kernel
theorem dX12_findTicks_191 : decode cX12_findTicks 191 = .ok (.if_icmp .le 14, 3) := by decide +kernel
theorem dX12_findTicks_194 : decode cX12_findTicks 194 = .ok (.iload_n 1, 1) := by decide +kernel
theorem dX12_findTicks_195 : decode cX12_findTicks 195 = .ok (.aload_n 0, 1) := by decide +kernel
theorem dX12_findTicks_196 : decode cX12_findTicks 196 = .ok (.iload 5, 2) := by decide +kernel
theorem dX12_findTicks_198 : decode cX12_findTicks 198 = .ok (.invokevirtual 300, 3) := by decide +kernel
theorem dX12_findTicks_201 : decode cX12_findTicks 201 = .ok (.iadd, 1) := by decide +kernel
theorem dX12_findTicks_202 : decode cX12_findTicks 202 = .ok (.goto 4, 3) := by decide +kernel
theorem dX12_findTicks_205 : decode cX12_findTicks 205 = .ok (.iload_n 3, 1) := by decide +kernel
theorem dX12_findTicks_206 : decode cX12_findTicks 206 = .ok (.istore_n 3, 1) := by decide +kernel
theorem dX12_findTicks_207 : decode cX12_findTicks 207 = .ok (.iinc 4 1, 3) := by decide +kernel
theorem dX12_findTicks_210 : decode cX12_findTicks 210 = .ok (.goto (-201), 3) := by decide +kernel
theorem dX12_findTicks_213 : decode cX12_findTicks 213 = .ok (.iload_n 3, 1) := by decide +kernel
theorem dX12_findTicks_214 : decode cX12_findTicks 214 = .ok (.ireturn, 1) := by decide +kernel
theorem dX12_tick_0 : decode cX12_tick 0 = .ok (.aload_n 0, 1) := by decide +kernel
theorem dX12_tick_1 : decode cX12_tick 1 = .ok (.iload_n 1, 1) := by decide +kernel
theorem dX12_tick_2 : decode cX12_tick 2 = .ok (.invokevirtual 186, 3) := by decide +kernel
theorem dX12_tick_5 : decode cX12_tick 5 = .ok (.ifCond .ne 5, 3) := by decide +kernel
theorem dX12_tick_8 : decode cX12_tick 8 = .ok (.iconst (-1), 1) := by decide +kernel
theorem dX12_tick_9 : decode cX12_tick 9 = .ok (.ireturn, 1) := by decide +kernel
theorem dX12_tick_10 : decode cX12_tick 10 = .ok (.aload_n 0, 1) := by decide +kernel
theorem dX12_tick_11 : decode cX12_tick 11 = .ok (.invokevirtual 295, 3) := by decide +kernel
theorem dX12_tick_14 : decode cX12_tick 14 = .ok (.aload_n 0, 1) := by decide +kernel
theorem dX12_tick_15 : decode cX12_tick 15 = .ok (.invokevirtual 303, 3) := by decide +kernel
theorem dX12_tick_18 : decode cX12_tick 18 = .ok (.aload_n 0, 1) := by decide +kernel
theorem dX12_tick_19 : decode cX12_tick 19 = .ok (.invokevirtual 306, 3) := by decide +kernel
theorem dX12_tick_22 : decode cX12_tick 22 = .ok (.pop, 1) := by decide +kernel
theorem dX12_tick_23 : decode cX12_tick 23 = .ok (.aload_n 0, 1) := by decide +kernel
theorem dX12_tick_24 : decode cX12_tick 24 = .ok (.getfield 77, 3) := by decide +kernel
theorem dX12_tick_27 : decode cX12_tick 27 = .ok (.iload_n 1, 1) := by decide +kernel
theorem dX12_tick_28 : decode cX12_tick 28 = .ok (.iaload, 1) := by decide +kernel
theorem dX12_tick_29 : decode cX12_tick 29 = .ok (.ireturn, 1) := by decide +kernel
theorem dX12_time_0 : decode cX12_time 0 = .ok (.aload_n 0, 1) := by decide +kernel
theorem dX12_time_1 : decode cX12_time 1 = .ok (.invokevirtual 295, 3) := by decide +kernel
theorem dX12_time_4 : decode cX12_time 4 = .ok (.aload_n 0, 1) := by decide +kernel
theorem dX12_time_5 : decode cX12_time 5 = .ok (.invokevirtual 303, 3) := by decide +kernel
theorem dX12_time_8 : decode cX12_time 8 = .ok (.aload_n 0, 1) := by decide +kernel
theorem dX12_time_9 : decode cX12_time 9 = .ok (.invokevirtual 306, 3) := by decide +kernel
theorem dX12_time_12 : decode cX12_time 12 = .ok (.ireturn, 1) := by decide +kernel
theorem dX12_nextOrder_0 : decode cX12_nextOrder 0 = .ok (.aload_n 0, 1) := by decide +kernel
theorem dX12_nextOrder_1 : decode cX12_nextOrder 1 = .ok (.getfield 181, 3) := by decide +kernel
theorem dX12_nextOrder_4 : decode cX12_nextOrder 4 = .ok (.iconst 2, 1) := by decide +kernel
theorem dX12_nextOrder_5 : decode cX12_nextOrder 5 = .ok (.isub, 1) := by decide +kernel
theorem dX12_nextOrder_6 : decode cX12_nextOrder 6 = .ok (.istore_n 1, 1) := by decide +kernel
theorem dX12_nextOrder_7 : decode cX12_nextOrder 7 = .ok (.iload_n 1, 1) := by decide +kernel
theorem dX12_nextOrder_8 : decode cX12_nextOrder 8 = .ok (.ifCond .lt 26, 3) := by decide +kernel
theorem dX12_nextOrder_11 : decode cX12_nextOrder 11 = .ok (.aload_n 0, 1) := by decide +kernel
theorem dX12_nextOrder_12 : decode cX12_nextOrder 12 = .ok (.getfield 74, 3) := by decide +kernel
theorem dX12_nextOrder_15 : decode cX12_nextOrder 15 = .ok (.iload_n 1, 1) := by decide +kernel
theorem dX12_nextOrder_16 : decode cX12_nextOrder 16 = .ok (.iaload, 1) := by decide +kernel
theorem dX12_nextOrder_17 : decode cX12_nextOrder 17 = .ok (.aload_n 0, 1) := by decide +kernel
theorem dX12_nextOrder_18 : decode cX12_nextOrder 18 = .ok (.getfield 74, 3) := by decide +kernel
theorem dX12_nextOrder_21 : decode cX12_nextOrder 21 = .ok (.iload_n 1, 1) := by decide +kernel
theorem dX12_nextOrder_22 : decode cX12_nextOrder 22 = .ok (.iconst 1, 1) := by decide +kernel
theorem dX12_nextOrder_23 : decode cX12_nextOrder 23 = .ok (.iadd, 1) := by decide +kernel
theorem dX12_nextOrder_24 : decode cX12_nextOrder 24 = .ok (.iaload, 1) := by decide +kernel
theorem dX12_nextOrder_25 : decode cX12_nextOrder 25 = .ok (.if_icmp .le 9, 3) := by decide +kernel
theorem dX12_nextOrder_28 : decode cX12_nextOrder 28 = .ok (.iinc 1 (-1), 3) := by decide +kernel
theorem dX12_nextOrder_31 : decode cX12_nextOrder 31 = .ok (.goto (-24), 3) := by decide +kernel
theorem dX12_nextOrder_34 : decode cX12_nextOrder 34 = .ok (.iload_n 1, 1) := by decide +kernel
theorem dX12_nextOrder_35 : decode cX12_nextOrder 35 = .ok (.ifCond .ge 5, 3) := by decide +kernel
theorem dX12_nextOrder_38 : decode cX12_nextOrder 38 = .ok (.iconst 0, 1) := by decide +kernel
theorem dX12_nextOrder_39 : decode cX12_nextOrder 39 = .ok (.ireturn, 1) := by decide +kernel
theorem dX12_nextOrder_40 : decode cX12_nextOrder 40 = .ok (.aload_n 0, 1) := by decide +kernel
theorem dX12_nextOrder_41 : decode cX12_nextOrder 41 = .ok (.getfield 181, 3) := by decide +kernel
theorem dX12_nextOrder_44 : decode cX12_nextOrder 44 = .ok (.iconst 1, 1) := by decide +kernel
theorem dX12_nextOrder_45 : decode cX12_nextOrder 45 = .ok (.isub, 1) := by decide +kernel
theorem dX12_nextOrder_46 : decode cX12_nextOrder 46 = .ok (.istore_n 2, 1) := by decide +kernel
theorem dX12_nextOrder_47 : decode cX12_nextOrder 47 = .ok (.aload_n 0, 1) := by decide +kernel
theorem dX12_nextOrder_48 : decode cX12_nextOrder 48 = .ok (.getfield 74, 3) := by decide +kernel
theorem dX12_nextOrder_51 : decode cX12_nextOrder 51 = .ok (.iload_n 2, 1) := by decide +kernel
theorem dX12_nextOrder_52 : decode cX12_nextOrder 52 = .ok (.iaload, 1) := by decide +kernel
theorem dX12_nextOrder_53 : decode cX12_nextOrder 53 = .ok (.aload_n 0, 1) := by decide +kernel
theorem dX12_nextOrder_54 : decode cX12_nextOrder 54 = .ok (.getfield 74, 3) := by decide +kernel
theorem dX12_nextOrder_57 : decode cX12_nextOrder 57 = .ok (.iload_n 1, 1) := by decide +kernel
theorem dX12_nextOrder_58 : decode cX12_nextOrder 58 = .ok (.iaload, 1) := by decide +kernel
theorem dX12_nextOrder_59 : decode cX12_nextOrder 59 = .ok (.if_icmp .ge 9, 3) := by decide +kernel
theorem dX12_nextOrder_62 : decode cX12_nextOrder 62 = .ok (.iinc 2 (-1), 3) := by decide +kernel
theorem dX12_nextOrder_65 : decode cX12_nextOrder 65 = .ok (.goto (-18), 3) := by decide +kernel
theorem dX12_nextOrder_68 : decode cX12_nextOrder 68 = .ok (.aload_n 0, 1) := by decide +kernel
theorem dX12_nextOrder_69 : decode cX12_nextOrder 69 = .ok (.getfield 74, 3) := by decide +kernel
theorem dX12_nextOrder_72 : decode cX12_nextOrder 72 = .ok (.iload_n 1, 1) := by decide +kernel
theorem dX12_nextOrder_73 : decode cX12_nextOrder 73 = .ok (.iaload, 1) := by decide +kernel
theorem dX12_nextOrder_74 : decode cX12_nextOrder 74 = .ok (.istore_n 3, 1) := by decide +kernel
theorem dX12_nextOrder_75 : decode cX12_nextOrder 75 = .ok (.aload_n 0, 1) := by decide +kernel
theorem dX12_nextOrder_76 : decode cX12_nextOrder 76 = .ok (.getfield 74, 3) := by decide +kernel
theorem dX12_nextOrder_79 : decode cX12_nextOrder 79 = .ok (.iload_n 1, 1) := by decide +kernel
theorem dX12_nextOrder_80 : decode cX12_nextOrder 80 = .ok (.aload_n 0, 1) := by decide +kernel
theorem dX12_nextOrder_81 : decode cX12_nextOrder 81 = .ok (.getfield 74, 3) := by decide +kernel
theorem dX12_nextOrder_84 : decode cX12_nextOrder 84 = .ok (.iload_n 2, 1) := by decide +kernel
theorem dX12_nextOrder_85 : decode cX12_nextOrder 85 = .ok (.iaload, 1) := by decide +kernel
theorem dX12_nextOrder_86 : decode cX12_nextOrder 86 = .ok (.iastore, 1) := by decide +kernel
theorem dX12_nextOrder_87 : decode cX12_nextOrder 87 = .ok (.aload_n 0, 1) := by decide +kernel
theorem dX12_nextOrder_88 : decode cX12_nextOrder 88 = .ok (.getfield 74, 3) := by decide +kernel
theorem dX12_nextOrder_91 : decode cX12_nextOrder 91 = .ok (.iload_n 2, 1) := by decide +kernel
theorem dX12_nextOrder_92 : decode cX12_nextOrder 92 = .ok (.iload_n 3, 1) := by decide +kernel
theorem dX12_nextOrder_93 : decode cX12_nextOrder 93 = .ok (.iastore, 1) := by decide +kernel
theorem dX12_nextOrder_94 : decode cX12_nextOrder 94 = .ok (.iload_n 1, 1) := by decide +kernel
theorem dX12_nextOrder_95 : decode cX12_nextOrder 95 = .ok (.iconst 1, 1) := by decide +kernel
theorem dX12_nextOrder_96 : decode cX12_nextOrder 96 = .ok (.iadd, 1) := by decide +kernel
theorem dX12_nextOrder_97 : decode cX12_nextOrder 97 = .ok (.istore 4, 2) := by decide +kernel
theorem dX12_nextOrder_99 : decode cX12_nextOrder 99 = .ok (.aload_n 0, 1) := by decide +kernel
theorem dX12_nextOrder_100 : decode cX12_nextOrder 100 = .ok (.getfield 181, 3) := by decide +kernel
theorem dX12_nextOrder_103 : decode cX12_nextOrder 103 = .ok (.iconst 1, 1) := by decide +kernel
theorem dX12_nextOrder_104 : decode cX12_nextOrder 104 = .ok (.isub, 1) := by decide +kernel
theorem dX12_nextOrder_105 : decode cX12_nextOrder 105 = .ok (.istore 5, 2) := by decide +kernel
theorem dX12_nextOrder_107 : decode cX12_nextOrder 107 = .ok (.iload 4, 2) := by decide +kernel
theorem dX12_nextOrder_109 : decode cX12_nextOrder 109 = .ok (.iload 5, 2) := by decide +kernel
theorem dX12_nextOrder_111 : decode cX12_nextOrder 111 = .ok (.if_icmp .ge 42, 3) := by decide +kernel
theorem dX12_nextOrder_114 : decode cX12_nextOrder 114 = .ok (.aload_n 0, 1) := by decide +kernel
theorem dX12_nextOrder_115 : decode cX12_nextOrder 115 = .ok (.getfield 74, 3) := by decide +kernel
theorem dX12_nextOrder_118 : decode cX12_nextOrder 118 = .ok (.iload 4, 2) := by decide +kernel
theorem dX12_nextOrder_120 : decode cX12_nextOrder 120 = .ok (.iaload, 1) := by decide +kernel
theorem dX12_nextOrder_121 : decode cX12_nextOrder 121 = .ok (.istore_n 3, 1) := by decide +kernel
theorem dX12_nextOrder_122 : decode cX12_nextOrder 122 = .ok (.aload_n 0, 1) := by decide +kernel
theorem dX12_nextOrder_123 : decode cX12_nextOrder 123 = .ok (.getfield 74, 3) := by decide +kernel
theorem dX12_nextOrder_126 : decode cX12_nextOrder 126 = .ok (.iload 4, 2) := by decide +kernel
theorem dX12_nextOrder_128 : decode cX12_nextOrder 128 = .ok (.aload_n 0, 1) := by decide +kernel
theorem dX12_nextOrder_129 : decode cX12_nextOrder 129 = .ok (.getfield 74, 3) := by decide +kernel
theorem dX12_nextOrder_132 : decode cX12_nextOrder 132 = .ok (.iload 5, 2) := by decide +kernel
theorem dX12_nextOrder_134 : decode cX12_nextOrder 134 = .ok (.iaload, 1) := by decide +kernel
theorem dX12_nextOrder_135 : decode cX12_nextOrder 135 = .ok (.iastore, 1) := by decide +kernel
theorem dX12_nextOrder_136 : decode cX12_nextOrder 136 = .ok (.aload_n 0, 1) := by decide +kernel
theorem dX12_nextOrder_137 : decode cX12_nextOrder 137 = .ok (.getfield 74, 3) := by decide +kernel
theorem dX12_nextOrder_140 : decode cX12_nextOrder 140 = .ok (.iload 5, 2) := by decide +kernel
theorem dX12_nextOrder_142 : decode cX12_nextOrder 142 = .ok (.iload_n 3, 1) := by decide +kernel
theorem dX12_nextOrder_143 : decode cX12_nextOrder 143 = .ok (.iastore, 1) := by decide +kernel
theorem dX12_nextOrder_144 : decode cX12_nextOrder 144 = .ok (.iinc 4 1, 3) := by decide +kernel
theorem dX12_nextOrder_147 : decode cX12_nextOrder 147 = .ok (.iinc 5 (-1), 3) := by decide +kernel
theorem dX12_nextOrder_150 : decode cX12_nextOrder 150 = .ok (.goto (-43), 3) := by decide +kernel
theorem dX12_nextOrder_153 : decode cX12_nextOrder 153 = .ok (.iconst 1, 1) := by decide +kernel
theorem dX12_nextOrder_154 : decode cX12_nextOrder 154 = .ok (.ireturn, 1) := by decide +kernel
theorem dX12_isLawful_0 : decode cX12_isLawful 0 = .ok (.iconst 0, 1) := by decide +kernel
theorem dX12_isLawful_1 : decode cX12_isLawful 1 = .ok (.istore_n 2, 1) := by decide +kernel
theorem dX12_isLawful_2 : decode cX12_isLawful 2 = .ok (.iconst 1, 1) := by decide +kernel
theorem dX12_isLawful_3 : decode cX12_isLawful 3 = .ok (.istore_n 3, 1) := by decide +kernel
theorem dX12_isLawful_4 : decode cX12_isLawful 4 = .ok (.iconst 0, 1) := by decide +kernel
theorem dX12_isLawful_5 : decode cX12_isLawful 5 = .ok (.istore 4, 2) := by decide +kernel
theorem dX12_isLawful_7 : decode cX12_isLawful 7 = .ok (.iload 4, 2) := by decide +kernel
theorem dX12_isLawful_9 : decode cX12_isLawful 9 = .ok (.aload_n 0, 1) := by decide +kernel
theorem dX12_isLawful_10 : decode cX12_isLawful 10 = .ok (.getfield 181, 3) := by decide +kernel
theorem dX12_isLawful_13 : decode cX12_isLawful 13 = .ok (.if_icmp .ge 71, 3) := by decide +kernel
theorem dX12_isLawful_16 : decode cX12_isLawful 16 = .ok (.iload_n 3, 1) := by decide +kernel
theorem dX12_isLawful_17 : decode cX12_isLawful 17 = .ok (.ifCond .eq 67, 3) := by decide +kernel
theorem dX12_isLawful_20 : decode cX12_isLawful 20 = .ok (.aload_n 0, 1) := by decide +kernel
theorem dX12_isLawful_21 : decode cX12_isLawful 21 = .ok (.getfield 74, 3) := by decide +kernel
theorem dX12_isLawful_24 : decode cX12_isLawful 24 = .ok (.iload 4, 2) := by decide +kernel
theorem dX12_isLawful_26 : decode cX12_isLawful 26 = .ok (.iaload, 1) := by decide +kernel
theorem dX12_isLawful_27 : decode cX12_isLawful 27 = .ok (.istore 5, 2) := by decide +kernel
theorem dX12_isLawful_29 : decode cX12_isLawful 29 = .ok (.iload_n 1, 1) := by decide +kernel
theorem dX12_isLawful_30 : decode cX12_isLawful 30 = .ok (.ifCond .eq 21, 3) := by decide +kernel
theorem dX12_isLawful_33 : decode cX12_isLawful 33 = .ok (.aload_n 0, 1) := by decide +kernel
theorem dX12_isLawful_34 : decode cX12_isLawful 34 = .ok (.getfield 65, 3) := by decide +kernel
theorem dX12_isLawful_37 : decode cX12_isLawful 37 = .ok (.iload 5, 2) := by decide +kernel
theorem dX12_isLawful_39 : decode cX12_isLawful 39 = .ok (.iaload, 1) := by decide +kernel
theorem dX12_isLawful_40 : decode cX12_isLawful 40 = .ok (.aload_n 0, 1) := by decide +kernel
theorem dX12_isLawful_41 : decode cX12_isLawful 41 = .ok (.getfield 68, 3) := by decide +kernel
theorem dX12_isLawful_44 : decode cX12_isLawful 44 = .ok (.iload 5, 2) := by decide +kernel
theorem dX12_isLawful_46 : decode cX12_isLawful 46 = .ok (.iaload, 1) := by decide +kernel
theorem dX12_isLawful_47 : decode cX12_isLawful 47 = .ok (.ior, 1) := by decide +kernel
theorem dX12_isLawful_48 : decode cX12_isLawful 48 = .ok (.goto 10, 3) := by decide +kernel
theorem dX12_isLawful_51 : decode cX12_isLawful 51 = .ok (.aload_n 0, 1) := by decide +kernel
theorem dX12_isLawful_52 : decode cX12_isLawful 52 = .ok (.getfield 65, 3) := by decide +kernel
theorem dX12_isLawful_55 : decode cX12_isLawful 55 = .ok (.iload 5, 2) := by decide +kernel
theorem dX12_isLawful_57 : decode cX12_isLawful 57 = .ok (.iaload, 1) := by decide +kernel
theorem dX12_isLawful_58 : decode cX12_isLawful 58 = .ok (.iload_n 2, 1) := by decide +kernel
theorem dX12_isLawful_59 : decode cX12_isLawful 59 = .ok (.iconst (-1), 1) := by decide +kernel
theorem dX12_isLawful_60 : decode cX12_isLawful 60 = .ok (.ixor, 1) := by decide +kernel
theorem dX12_isLawful_61 : decode cX12_isLawful 61 = .ok (.iand, 1) := by decide +kernel
theorem dX12_isLawful_62 : decode cX12_isLawful 62 = .ok (.ifCond .ne 7, 3) := by decide +kernel
theorem dX12_isLawful_65 : decode cX12_isLawful 65 = .ok (.iconst 1, 1) := by decide +kernel
theorem dX12_isLawful_66 : decode cX12_isLawful 66 = .ok (.goto 4, 3) := by decide +kernel
theorem dX12_isLawful_69 : decode cX12_isLawful 69 = .ok (.iconst 0, 1) := by decide +kernel
theorem dX12_isLawful_70 : decode cX12_isLawful 70 = .ok (.istore_n 3, 1) := by decide +kernel
theorem dX12_isLawful_71 : decode cX12_isLawful 71 = .ok (.iload_n 2, 1) := by decide +kernel
theorem dX12_isLawful_72 : decode cX12_isLawful 72 = .ok (.iconst 1, 1) := by decide +kernel
theorem dX12_isLawful_73 : decode cX12_isLawful 73 = .ok (.iload 5, 2) := by decide +kernel
theorem dX12_isLawful_75 : decode cX12_isLawful 75 = .ok (.ishl, 1) := by decide +kernel
theorem dX12_isLawful_76 : decode cX12_isLawful 76 = .ok (.ior, 1) := by decide +kernel
theorem dX12_isLawful_77 : decode cX12_isLawful 77 = .ok (.istore_n 2, 1) := by decide +kernel
theorem dX12_isLawful_78 : decode cX12_isLawful 78 = .ok (.iinc 4 1, 3) := by decide +kernel
theorem dX12_isLawful_81 : decode cX12_isLawful 81 = .ok (.goto (-74), 3) := by decide +kernel
theorem dX12_isLawful_84 : decode cX12_isLawful 84 = .ok (.iload_n 3, 1) := by decide +kernel
theorem dX12_isLawful_85 : decode cX12_isLawful 85 = .ok (.ireturn, 1) := by decide +kernel
theorem dX12_findBest_0 : decode cX12_findBest 0 = .ok (.aload_n 0, 1) := by decide +kernel
theorem dX12_findBest_1 : decode cX12_findBest 1 = .ok (.invokevirtual 295, 3) := by decide +kernel
theorem dX12_findBest_4 : decode cX12_findBest 4 = .ok (.aload_n 0, 1) := by decide +kernel
theorem dX12_findBest_5 : decode cX12_findBest 5 = .ok (.invokevirtual 303, 3) := by decide +kernel
theorem dX12_findBest_8 : decode cX12_findBest 8 = .ok (.bipush (-6), 2) := by decide +kernel
theorem dX12_findBest_10 : decode cX12_findBest 10 = .ok (.istore_n 2, 1) := by decide +kernel
theorem dX12_findBest_11 : decode cX12_findBest 11 = .ok (.iconst 1, 1) := by decide +kernel
theorem dX12_findBest_12 : decode cX12_findBest 12 = .ok (.istore_n 3, 1) := by decide +kernel
theorem dX12_findBest_13 : decode cX12_findBest 13 = .ok (.iload_n 3, 1) := by decide +kernel
theorem dX12_findBest_14 : decode cX12_findBest 14 = .ok (.ifCond .eq 81, 3) := by decide +kernel
theorem dX12_findBest_17 : decode cX12_findBest 17 = .ok (.aload_n 0, 1) := by decide +kernel
theorem dX12_findBest_18 : decode cX12_findBest 18 = .ok (.iload_n 1, 1) := by decide +kernel
theorem dX12_findBest_19 : decode cX12_findBest 19 = .ok (.invokevirtual 309, 3) := by decide +kernel
theorem dX12_findBest_22 : decode cX12_findBest 22 = .ok (.ifCond .eq 65, 3) := by decide +kernel
theorem dX12_findBest_25 : decode cX12_findBest 25 = .ok (.iload_n 1, 1) := by decide +kernel
theorem dX12_findBest_26 : decode cX12_findBest 26 = .ok (.ifCond .eq 10, 3) := by decide +kernel
theorem dX12_findBest_29 : decode cX12_findBest 29 = .ok (.aload_n 0, 1) := by decide +kernel
theorem dX12_findBest_30 : decode cX12_findBest 30 = .ok (.invokevirtual 306, 3) := by decide +kernel
theorem dX12_findBest_33 : decode cX12_findBest 33 = .ok (.goto 7, 3) := by decide +kernel
theorem dX12_findBest_36 : decode cX12_findBest 36 = .ok (.aload_n 0, 1) := by decide +kernel
theorem dX12_findBest_37 : decode cX12_findBest 37 = .ok (.invokevirtual 313, 3) := by decide +kernel
theorem dX12_findBest_40 : decode cX12_findBest 40 = .ok (.istore 4, 2) := by decide +kernel
theorem dX12_findBest_42 : decode cX12_findBest 42 = .ok (.iload_n 2, 1) := by decide +kernel
theorem dX12_findBest_43 : decode cX12_findBest 43 = .ok (.ifCond .lt 9, 3) := by decide +kernel
theorem dX12_findBest_46 : decode cX12_findBest 46 = .ok (.iload 4, 2) := by decide +kernel
theorem dX12_findBest_48 : decode cX12_findBest 48 = .ok (.iload_n 2, 1) := by decide +kernel
theorem dX12_findBest_49 : decode cX12_findBest 49 = .ok (.if_icmp .ge 38, 3) := by decide +kernel
theorem dX12_findBest_52 : decode cX12_findBest 52 = .ok (.iload 4, 2) := by decide +kernel
theorem dX12_findBest_54 : decode cX12_findBest 54 = .ok (.istore_n 2, 1) := by decide +kernel
theorem dX12_findBest_55 : decode cX12_findBest 55 = .ok (.iconst 0, 1) := by decide +kernel
theorem dX12_findBest_56 : decode cX12_findBest 56 = .ok (.istore 5, 2) := by decide +kernel
theorem dX12_findBest_58 : decode cX12_findBest 58 = .ok (.iload 5, 2) := by decide +kernel
theorem dX12_findBest_60 : decode cX12_findBest 60 = .ok (.aload_n 0, 1) := by decide +kernel
theorem dX12_findBest_61 : decode cX12_findBest 61 = .ok (.getfield 181, 3) := by decide +kernel
theorem dX12_findBest_64 : decode cX12_findBest 64 = .ok (.if_icmp .ge 23, 3) := by decide +kernel
theorem dX12_findBest_67 : decode cX12_findBest 67 = .ok (.aload_n 0, 1) := by decide +kernel
theorem dX12_findBest_68 : decode cX12_findBest 68 = .ok (.getfield 80, 3) := by decide +kernel
theorem dX12_findBest_71 : decode cX12_findBest 71 = .ok (.iload 5, 2) := by decide +kernel
theorem dX12_findBest_73 : decode cX12_findBest 73 = .ok (.aload_n 0, 1) := by decide +kernel
theorem dX12_findBest_74 : decode cX12_findBest 74 = .ok (.getfield 74, 3) := by decide +kernel
theorem dX12_findBest_77 : decode cX12_findBest 77 = .ok (.iload 5, 2) := by decide +kernel
theorem dX12_findBest_79 : decode cX12_findBest 79 = .ok (.iaload, 1) := by decide +kernel
theorem dX12_findBest_80 : decode cX12_findBest 80 = .ok (.iastore, 1) := by decide +kernel
theorem dX12_findBest_81 : decode cX12_findBest 81 = .ok (.iinc 5 1, 3) := by decide +kernel
theorem dX12_findBest_84 : decode cX12_findBest 84 = .ok (.goto (-26), 3) := by decide +kernel
theorem dX12_findBest_87 : decode cX12_findBest 87 = .ok (.aload_n 0, 1) := by decide +kernel
theorem dX12_findBest_88 : decode cX12_findBest 88 = .ok (.invokevirtual 316, 3) := by decide +kernel
theorem dX12_findBest_91 : decode cX12_findBest 91 = .ok (.istore_n 3, 1) := by decide +kernel
theorem dX12_findBest_92 : decode cX12_findBest 92 = .ok (.goto (-79), 3) := by decide +kernel
theorem dX12_findBest_95 : decode cX12_findBest 95 = .ok (.iload_n 2, 1) := by decide +kernel
theorem dX12_findBest_96 : decode cX12_findBest 96 = .ok (.ireturn, 1) := by decide +kernel
theorem dX12_bestAt_0 : decode cX12_bestAt 0 = .ok (.aload_n 0, 1) := by decide +kernel
theorem dX12_bestAt_1 : decode cX12_bestAt 1 = .ok (.getfield 181, 3) := by decide +kernel
theorem dX12_bestAt_4 : decode cX12_bestAt 4 = .ok (.bipush 8, 2) := by decide +kernel
theorem dX12_bestAt_6 : decode cX12_bestAt 6 = .ok (.if_icmp .le 6, 3) := by decide +kernel
theorem dX12_bestAt_9 : decode cX12_bestAt 9 = .ok (.bipush (-3), 2) := by decide +kernel
theorem dX12_bestAt_11 : decode cX12_bestAt 11 = .ok (.ireturn, 1) := by decide +kernel
theorem dX12_bestAt_12 : decode cX12_bestAt 12 = .ok (.aload_n 0, 1) := by decide +kernel
theorem dX12_bestAt_13 : decode cX12_bestAt 13 = .ok (.iload_n 2, 1) := by decide +kernel
theorem dX12_bestAt_14 : decode cX12_bestAt 14 = .ok (.invokevirtual 320, 3) := by decide +kernel
theorem dX12_bestAt_17 : decode cX12_bestAt 17 = .ok (.istore_n 3, 1) := by decide +kernel
theorem dX12_bestAt_18 : decode cX12_bestAt 18 = .ok (.iload_n 1, 1) := by decide +kernel
theorem dX12_bestAt_19 : decode cX12_bestAt 19 = .ok (.iconst (-1), 1) := by decide +kernel
theorem dX12_bestAt_20 : decode cX12_bestAt 20 = .ok (.if_icmp .ne 7, 3) := by decide +kernel
theorem dX12_bestAt_23 : decode cX12_bestAt 23 = .ok (.iload_n 3, 1) := by decide +kernel
theorem dX12_bestAt_24 : decode cX12_bestAt 24 = .ok (.goto 22, 3) := by decide +kernel
theorem dX12_bestAt_27 : decode cX12_bestAt 27 = .ok (.aload_n 0, 1) := by decide +kernel
theorem dX12_bestAt_28 : decode cX12_bestAt 28 = .ok (.iload_n 1, 1) := by decide +kernel
theorem dX12_bestAt_29 : decode cX12_bestAt 29 = .ok (.invokevirtual 186, 3) := by decide +kernel
theorem dX12_bestAt_32 : decode cX12_bestAt 32 = .ok (.ifCond .eq 12, 3) := by decide +kernel
theorem dX12_bestAt_35 : decode cX12_bestAt 35 = .ok (.aload_n 0, 1) := by decide +kernel
theorem dX12_bestAt_36 : decode cX12_bestAt 36 = .ok (.getfield 80, 3) := by decide +kernel
theorem dX12_bestAt_39 : decode cX12_bestAt 39 = .ok (.iload_n 1, 1) := by decide +kernel
theorem dX12_bestAt_40 : decode cX12_bestAt 40 = .ok (.iaload, 1) := by decide +kernel
theorem dX12_bestAt_41 : decode cX12_bestAt 41 = .ok (.goto 5, 3) := by decide +kernel
theorem dX12_bestAt_44 : decode cX12_bestAt 44 = .ok (.bipush (-6), 2) := by decide +kernel
theorem dX12_bestAt_46 : decode cX12_bestAt 46 = .ok (.ireturn, 1) := by decide +kernel
theorem dX12_quickest_0 : decode cX12_quickest 0 = .ok (.aload_n 0, 1) := by decide +kernel
theorem dX12_quickest_1 : decode cX12_quickest 1 = .ok (.iload_n 1, 1) := by decide +kernel
theorem dX12_quickest_2 : decode cX12_quickest 2 = .ok (.iconst 1, 1) := by decide +kernel
theorem dX12_quickest_3 : decode cX12_quickest 3 = .ok (.invokevirtual 323, 3) := by decide +kernel
theorem dX12_quickest_6 : decode cX12_quickest 6 = .ok (.ireturn, 1) := by decide +kernel
theorem dX12_valueIn_0 : decode cX12_valueIn 0 = .ok (.aload_n 0, 1) := by decide +kernel
theorem dX12_valueIn_1 : decode cX12_valueIn 1 = .ok (.iload_n 1, 1) := by decide +kernel
theorem dX12_valueIn_2 : decode cX12_valueIn 2 = .ok (.iload_n 2, 1) := by decide +kernel
theorem dX12_valueIn_3 : decode cX12_valueIn 3 = .ok (.invokevirtual 282, 3) := by decide +kernel
theorem dX12_valueIn_6 : decode cX12_valueIn 6 = .ok (.istore_n 3, 1) := by decide +kernel
theorem dX12_valueIn_7 : decode cX12_valueIn 7 = .ok (.iload_n 3, 1) := by decide +kernel
theorem dX12_valueIn_8 : decode cX12_valueIn 8 = .ok (.ifCond .ge 7, 3) := by decide +kernel
theorem dX12_valueIn_11 : decode cX12_valueIn 11 = .ok (.iload_n 1, 1) := by decide +kernel
theorem dX12_valueIn_12 : decode cX12_valueIn 12 = .ok (.goto 6, 3) := by decide +kernel
theorem dX12_valueIn_15 : decode cX12_valueIn 15 = .ok (.iconst 4, 1) := by decide +kernel
theorem dX12_valueIn_16 : decode cX12_valueIn 16 = .ok (.iload_n 3, 1) := by decide +kernel
theorem dX12_valueIn_17 : decode cX12_valueIn 17 = .ok (.iadd, 1) := by decide +kernel
theorem dX12_valueIn_18 : decode cX12_valueIn 18 = .ok (.ireturn, 1) := by decide +kernel
theorem dX12_reads_0 : decode cX12_reads 0 = .ok (.aload_n 0, 1) := by decide +kernel
theorem dX12_reads_1 : decode cX12_reads 1 = .ok (.iload_n 1, 1) := by decide +kernel
theorem dX12_reads_2 : decode cX12_reads 2 = .ok (.invokevirtual 186, 3) := by decide +kernel
theorem dX12_reads_5 : decode cX12_reads 5 = .ok (.ifCond .ne 5, 3) := by decide +kernel
theorem dX12_reads_8 : decode cX12_reads 8 = .ok (.iconst (-1), 1) := by decide +kernel
theorem dX12_reads_9 : decode cX12_reads 9 = .ok (.ireturn, 1) := by decide +kernel
theorem dX12_reads_10 : decode cX12_reads 10 = .ok (.iload_n 2, 1) := by decide +kernel
theorem dX12_reads_11 : decode cX12_reads 11 = .ok (.i2l, 1) := by decide +kernel
theorem dX12_reads_12 : decode cX12_reads 12 = .ok (.lconst 0, 1) := by decide +kernel
theorem dX12_reads_13 : decode cX12_reads 13 = .ok (.lconst 1, 1) := by decide +kernel
theorem dX12_reads_14 : decode cX12_reads 14 = .ok (.invokestatic 125, 3) := by decide +kernel
theorem dX12_reads_17 : decode cX12_reads 17 = .ok (.ifCond .ne 6, 3) := by decide +kernel
theorem dX12_reads_20 : decode cX12_reads 20 = .ok (.bipush (-2), 2) := by decide +kernel
theorem dX12_reads_22 : decode cX12_reads 22 = .ok (.ireturn, 1) := by decide +kernel
theorem dX12_reads_23 : decode cX12_reads 23 = .ok (.iload_n 2, 1) := by decide +kernel
theorem dX12_reads_24 : decode cX12_reads 24 = .ok (.ifCond .ne 12, 3) := by decide +kernel
theorem dX12_reads_27 : decode cX12_reads 27 = .ok (.aload_n 0, 1) := by decide +kernel
theorem dX12_reads_28 : decode cX12_reads 28 = .ok (.getfield 19, 3) := by decide +kernel
theorem dX12_reads_31 : decode cX12_reads 31 = .ok (.iload_n 1, 1) := by decide +kernel
theorem dX12_reads_32 : decode cX12_reads 32 = .ok (.iaload, 1) := by decide +kernel
theorem dX12_reads_33 : decode cX12_reads 33 = .ok (.goto 9, 3) := by decide +kernel
theorem dX12_reads_36 : decode cX12_reads 36 = .ok (.aload_n 0, 1) := by decide +kernel
theorem dX12_reads_37 : decode cX12_reads 37 = .ok (.getfield 22, 3) := by decide +kernel
theorem dX12_reads_40 : decode cX12_reads 40 = .ok (.iload_n 1, 1) := by decide +kernel
theorem dX12_reads_41 : decode cX12_reads 41 = .ok (.iaload, 1) := by decide +kernel
theorem dX12_reads_42 : decode cX12_reads 42 = .ok (.istore_n 3, 1) := by decide +kernel
theorem dX12_reads_43 : decode cX12_reads 43 = .ok (.iload_n 3, 1) := by decide +kernel
theorem dX12_reads_44 : decode cX12_reads 44 = .ok (.invokestatic 218, 3) := by decide +kernel
theorem dX12_reads_47 : decode cX12_reads 47 = .ok (.ifCond .eq 12, 3) := by decide +kernel
theorem dX12_reads_50 : decode cX12_reads 50 = .ok (.aload_n 0, 1) := by decide +kernel
theorem dX12_reads_51 : decode cX12_reads 51 = .ok (.iload_n 3, 1) := by decide +kernel
theorem dX12_reads_52 : decode cX12_reads 52 = .ok (.iload_n 1, 1) := by decide +kernel
theorem dX12_reads_53 : decode cX12_reads 53 = .ok (.invokevirtual 327, 3) := by decide +kernel
theorem dX12_reads_56 : decode cX12_reads 56 = .ok (.goto 5, 3) := by decide +kernel
theorem dX12_reads_59 : decode cX12_reads 59 = .ok (.bipush (-6), 2) := by decide +kernel
theorem dX12_reads_61 : decode cX12_reads 61 = .ok (.ireturn, 1) := by decide +kernel
theorem dX12_holdFrom_0 : decode cX12_holdFrom 0 = .ok (.iload_n 2, 1) := by decide +kernel
theorem dX12_holdFrom_1 : decode cX12_holdFrom 1 = .ok (.istore 4, 2) := by decide +kernel
theorem dX12_holdFrom_3 : decode cX12_holdFrom 3 = .ok (.iload 4, 2) := by decide +kernel
theorem dX12_holdFrom_5 : decode cX12_holdFrom 5 = .ok (.iload_n 3, 1) := by decide +kernel
theorem dX12_holdFrom_6 : decode cX12_holdFrom 6 = .ok (.if_icmp .gt 22, 3) := by decide +kernel
theorem dX12_holdFrom_9 : decode cX12_holdFrom 9 = .ok (.aload_n 0, 1) := by decide +kernel
theorem dX12_holdFrom_10 : decode cX12_holdFrom 10 = .ok (.getfield 83, 3) := by decide +kernel
theorem dX12_holdFrom_13 : decode cX12_holdFrom 13 = .ok (.iload 4, 2) := by decide +kernel
theorem dX12_holdFrom_15 : decode cX12_holdFrom 15 = .ok (.dup2, 1) := by decide +kernel
theorem dX12_holdFrom_16 : decode cX12_holdFrom 16 = .ok (.iaload, 1) := by decide +kernel
theorem dX12_holdFrom_17 : decode cX12_holdFrom 17 = .ok (.iconst 1, 1) := by decide +kernel
theorem dX12_holdFrom_18 : decode cX12_holdFrom 18 = .ok (.iload_n 1, 1) := by decide +kernel
theorem dX12_holdFrom_19 : decode cX12_holdFrom 19 = .ok (.ishl, 1) := by decide +kernel
theorem dX12_holdFrom_20 : decode cX12_holdFrom 20 = .ok (.ior, 1) := by decide +kernel
theorem dX12_holdFrom_21 : decode cX12_holdFrom 21 = .ok (.iastore, 1) := by decide +kernel
theorem dX12_holdFrom_22 : decode cX12_holdFrom 22 = .ok (.iinc 4 1, 3) := by decide +kernel
theorem dX12_holdFrom_25 : decode cX12_holdFrom 25 = .ok (.goto (-22), 3) := by decide +kernel
theorem dX12_holdFrom_28 : decode cX12_holdFrom 28 = .ok (.return_, 1) := by decide +kernel
theorem dX12_findHeld_0 : decode cX12_findHeld 0 = .ok (.iconst 0, 1) := by decide +kernel
theorem dX12_findHeld_1 : decode cX12_findHeld 1 = .ok (.istore_n 1, 1) := by decide +kernel
theorem dX12_findHeld_2 : decode cX12_findHeld 2 = .ok (.iload_n 1, 1) := by decide +kernel
theorem dX12_findHeld_3 : decode cX12_findHeld 3 = .ok (.aload_n 0, 1) := by decide +kernel
theorem dX12_findHeld_4 : decode cX12_findHeld 4 = .ok (.getfield 181, 3) := by decide +kernel
theorem dX12_findHeld_7 : decode cX12_findHeld 7 = .ok (.if_icmp .gt 16, 3) := by decide +kernel
theorem dX12_findHeld_10 : decode cX12_findHeld 10 = .ok (.aload_n 0, 1) := by decide +kernel
theorem dX12_findHeld_11 : decode cX12_findHeld 11 = .ok (.getfield 83, 3) := by decide +kernel
theorem dX12_findHeld_14 : decode cX12_findHeld 14 = .ok (.iload_n 1, 1) := by decide +kernel
theorem dX12_findHeld_15 : decode cX12_findHeld 15 = .ok (.iconst 0, 1) := by decide +kernel
theorem dX12_findHeld_16 : decode cX12_findHeld 16 = .ok (.iastore, 1) := by decide +kernel
theorem dX12_findHeld_17 : decode cX12_findHeld 17 = .ok (.iinc 1 1, 3) := by decide +kernel
theorem dX12_findHeld_20 : decode cX12_findHeld 20 = .ok (.goto (-18), 3) := by decide +kernel
theorem dX12_findHeld_23 : decode cX12_findHeld 23 = .ok (.iconst 0, 1) := by decide +kernel
theorem dX12_findHeld_24 : decode cX12_findHeld 24 = .ok (.istore_n 1, 1) := by decide +kernel
theorem dX12_findHeld_25 : decode cX12_findHeld 25 = .ok (.iload_n 1, 1) := by decide +kernel
theorem dX12_findHeld_26 : decode cX12_findHeld 26 = .ok (.aload_n 0, 1) := by decide +kernel
theorem dX12_findHeld_27 : decode cX12_findHeld 27 = .ok (.getfield 181, 3) := by decide +kernel
theorem dX12_findHeld_30 : decode cX12_findHeld 30 = .ok (.if_icmp .ge 21, 3) := by decide +kernel
theorem dX12_findHeld_33 : decode cX12_findHeld 33 = .ok (.aload_n 0, 1) := by decide +kernel
theorem dX12_findHeld_34 : decode cX12_findHeld 34 = .ok (.getfield 86, 3) := by decide +kernel
theorem dX12_findHeld_37 : decode cX12_findHeld 37 = .ok (.aload_n 0, 1) := by decide +kernel
theorem dX12_findHeld_38 : decode cX12_findHeld 38 = .ok (.getfield 74, 3) := by decide +kernel
theorem dX12_findHeld_41 : decode cX12_findHeld 41 = .ok (.iload_n 1, 1) := by decide +kernel
theorem dX12_findHeld_42 : decode cX12_findHeld 42 = .ok (.iaload, 1) := by decide +kernel
theorem dX12_findHeld_43 : decode cX12_findHeld 43 = .ok (.iload_n 1, 1) := by decide +kernel
theorem dX12_findHeld_44 : decode cX12_findHeld 44 = .ok (.iastore, 1) := by decide +kernel
theorem dX12_findHeld_45 : decode cX12_findHeld 45 = .ok (.iinc 1 1, 3) := by decide +kernel
theorem dX12_findHeld_48 : decode cX12_findHeld 48 = .ok (.goto (-23), 3) := by decide +kernel
theorem dX12_findHeld_51 : decode cX12_findHeld 51 = .ok (.iconst 0, 1) := by decide +kernel
theorem dX12_findHeld_52 : decode cX12_findHeld 52 = .ok (.istore_n 1, 1) := by decide +kernel
theorem dX12_findHeld_53 : decode cX12_findHeld 53 = .ok (.iload_n 1, 1) := by decide +kernel
theorem dX12_findHeld_54 : decode cX12_findHeld 54 = .ok (.iconst 4, 1) := by decide +kernel
theorem dX12_findHeld_55 : decode cX12_findHeld 55 = .ok (.aload_n 0, 1) := by decide +kernel
theorem dX12_findHeld_56 : decode cX12_findHeld 56 = .ok (.getfield 181, 3) := by decide +kernel
theorem dX12_findHeld_59 : decode cX12_findHeld 59 = .ok (.iadd, 1) := by decide +kernel
theorem dX12_findHeld_60 : decode cX12_findHeld 60 = .ok (.if_icmp .ge 173, 3) := by decide +kernel
theorem dX12_findHeld_63 : decode cX12_findHeld 63 = .ok (.iload_n 1, 1) := by decide +kernel
theorem dX12_findHeld_64 : decode cX12_findHeld 64 = .ok (.iconst 4, 1) := by decide +kernel
theorem dX12_findHeld_65 : decode cX12_findHeld 65 = .ok (.if_icmp .ge 7, 3) := by decide +kernel
theorem dX12_findHeld_68 : decode cX12_findHeld 68 = .ok (.iconst 0, 1) := by decide +kernel
theorem dX12_findHeld_69 : decode cX12_findHeld 69 = .ok (.goto 13, 3) := by decide +kernel
theorem dX12_findHeld_72 : decode cX12_findHeld 72 = .ok (.aload_n 0, 1) := by decide +kernel
theorem dX12_findHeld_73 : decode cX12_findHeld 73 = .ok (.getfield 86, 3) := by decide +kernel
theorem dX12_findHeld_76 : decode cX12_findHeld 76 = .ok (.iload_n 1, 1) := by decide +kernel
theorem dX12_findHeld_77 : decode cX12_findHeld 77 = .ok (.iconst 4, 1) := by decide +kernel
theorem dX12_findHeld_78 : decode cX12_findHeld 78 = .ok (.isub, 1) := by decide +kernel
theorem dX12_findHeld_79 : decode cX12_findHeld 79 = .ok (.iaload, 1) := by decide +kernel
theorem dX12_findHeld_80 : decode cX12_findHeld 80 = .ok (.iconst 1, 1) := by decide +kernel
theorem dX12_findHeld_81 : decode cX12_findHeld 81 = .ok (.iadd, 1) := by decide +kernel
theorem dX12_findHeld_82 : decode cX12_findHeld 82 = .ok (.istore_n 2, 1) := by decide +kernel
theorem dX12_findHeld_83 : decode cX12_findHeld 83 = .ok (.iload_n 1, 1) := by decide +kernel
theorem dX12_findHeld_84 : decode cX12_findHeld 84 = .ok (.iconst 4, 1) := by decide +kernel
theorem dX12_findHeld_85 : decode cX12_findHeld 85 = .ok (.if_icmp .ge 7, 3) := by decide +kernel
theorem dX12_findHeld_88 : decode cX12_findHeld 88 = .ok (.iconst (-1), 1) := by decide +kernel
theorem dX12_findHeld_89 : decode cX12_findHeld 89 = .ok (.goto 4, 3) := by decide +kernel
theorem dX12_findHeld_92 : decode cX12_findHeld 92 = .ok (.iload_n 2, 1) := by decide +kernel
theorem dX12_findHeld_93 : decode cX12_findHeld 93 = .ok (.istore_n 3, 1) := by decide +kernel
theorem dX12_findHeld_94 : decode cX12_findHeld 94 = .ok (.iconst 0, 1) := by decide +kernel
theorem dX12_findHeld_95 : decode cX12_findHeld 95 = .ok (.istore 4, 2) := by decide +kernel
theorem dX12_findHeld_97 : decode cX12_findHeld 97 = .ok (.iload 4, 2) := by decide +kernel
theorem dX12_findHeld_99 : decode cX12_findHeld 99 = .ok (.aload_n 0, 1) := by decide +kernel
theorem dX12_findHeld_100 : decode cX12_findHeld 100 = .ok (.getfield 181, 3) := by decide +kernel
theorem dX12_findHeld_103 : decode cX12_findHeld 103 = .ok (.if_icmp .ge 66, 3) := by decide +kernel
theorem dX12_findHeld_106 : decode cX12_findHeld 106 = .ok (.aload_n 0, 1) := by decide +kernel
theorem dX12_findHeld_107 : decode cX12_findHeld 107 = .ok (.iload 4, 2) := by decide +kernel
theorem dX12_findHeld_109 : decode cX12_findHeld 109 = .ok (.iconst 0, 1) := by decide +kernel
theorem dX12_findHeld_110 : decode cX12_findHeld 110 = .ok (.invokevirtual 330, 3) := by decide +kernel
theorem dX12_findHeld_113 : decode cX12_findHeld 113 = .ok (.iload_n 1, 1) := by decide +kernel
theorem dX12_findHeld_114 : decode cX12_findHeld 114 = .ok (.if_icmp .eq 14, 3) := by decide +kernel
theorem dX12_findHeld_117 : decode cX12_findHeld 117 = .ok (.aload_n 0, 1) := by decide +kernel
theorem dX12_findHeld_118 : decode cX12_findHeld 118 = .ok (.iload 4, 2) := by decide +kernel
theorem dX12_findHeld_120 : decode cX12_findHeld 120 = .ok (.iconst 1, 1) := by decide +kernel
theorem dX12_findHeld_121 : decode cX12_findHeld 121 = .ok (.invokevirtual 330, 3) := by decide +kernel
theorem dX12_findHeld_124 : decode cX12_findHeld 124 = .ok (.iload_n 1, 1) := by decide +kernel
theorem dX12_findHeld_125 : decode cX12_findHeld 125 = .ok (.if_icmp .ne 7, 3) := by decide +kernel
theorem dX12_findHeld_128 : decode cX12_findHeld 128 = .ok (.iconst 1, 1) := by decide +kernel
theorem dX12_findHeld_129 : decode cX12_findHeld 129 = .ok (.goto 4, 3) := by decide +kernel
theorem dX12_findHeld_132 : decode cX12_findHeld 132 = .ok (.iconst 0, 1) := by decide +kernel
theorem dX12_findHeld_133 : decode cX12_findHeld 133 = .ok (.istore 5, 2) := by decide +kernel
theorem dX12_findHeld_135 : decode cX12_findHeld 135 = .ok (.iload 5, 2) := by decide +kernel
theorem dX12_findHeld_137 : decode cX12_findHeld 137 = .ok (.ifCond .eq 24, 3) := by decide +kernel
theorem dX12_findHeld_140 : decode cX12_findHeld 140 = .ok (.aload_n 0, 1) := by decide +kernel
theorem dX12_findHeld_141 : decode cX12_findHeld 141 = .ok (.getfield 86, 3) := by decide +kernel
theorem dX12_findHeld_144 : decode cX12_findHeld 144 = .ok (.iload 4, 2) := by decide +kernel
theorem dX12_findHeld_146 : decode cX12_findHeld 146 = .ok (.iaload, 1) := by decide +kernel
theorem dX12_findHeld_147 : decode cX12_findHeld 147 = .ok (.iload_n 3, 1) := by decide +kernel
theorem dX12_findHeld_148 : decode cX12_findHeld 148 = .ok (.if_icmp .le 13, 3) := by decide +kernel
theorem dX12_findHeld_151 : decode cX12_findHeld 151 = .ok (.aload_n 0, 1) := by decide +kernel
theorem dX12_findHeld_152 : decode cX12_findHeld 152 = .ok (.getfield 86, 3) := by decide +kernel
theorem dX12_findHeld_155 : decode cX12_findHeld 155 = .ok (.iload 4, 2) := by decide +kernel
theorem dX12_findHeld_157 : decode cX12_findHeld 157 = .ok (.iaload, 1) := by decide +kernel
theorem dX12_findHeld_158 : decode cX12_findHeld 158 = .ok (.goto 4, 3) := by decide +kernel
theorem dX12_findHeld_161 : decode cX12_findHeld 161 = .ok (.iload_n 3, 1) := by decide +kernel
theorem dX12_findHeld_162 : decode cX12_findHeld 162 = .ok (.istore_n 3, 1) := by decide +kernel
theorem dX12_findHeld_163 : decode cX12_findHeld 163 = .ok (.iinc 4 1, 3) := by decide +kernel
theorem dX12_findHeld_166 : decode cX12_findHeld 166 = .ok (.goto (-69), 3) := by decide +kernel
theorem dX12_findHeld_169 : decode cX12_findHeld 169 = .ok (.iconst 0, 1) := by decide +kernel
theorem dX12_findHeld_170 : decode cX12_findHeld 170 = .ok (.istore 4, 2) := by decide +kernel
theorem dX12_findHeld_172 : decode cX12_findHeld 172 = .ok (.iload 4, 2) := by decide +kernel
theorem dX12_findHeld_174 : decode cX12_findHeld 174 = .ok (.iconst 4, 1) := by decide +kernel
theorem dX12_findHeld_175 : decode cX12_findHeld 175 = .ok (.if_icmp .ge 45, 3) := by decide +kernel
theorem dX12_findHeld_178 : decode cX12_findHeld 178 = .ok (.aload_n 0, 1) := by decide +kernel
theorem dX12_findHeld_179 : decode cX12_findHeld 179 = .ok (.getfield 116, 3) := by decide +kernel
theorem dX12_findHeld_182 : decode cX12_findHeld 182 = .ok (.iload 4, 2) := by decide +kernel
theorem dX12_findHeld_184 : decode cX12_findHeld 184 = .ok (.ishr, 1) := by decide +kernel
theorem dX12_findHeld_185 : decode cX12_findHeld 185 = .ok (.iconst 1, 1) := by decide +kernel
theorem dX12_findHeld_186 : decode cX12_findHeld 186 = .ok (.iand, 1) := by decide +kernel
theorem dX12_findHeld_187 : decode cX12_findHeld 187 = .ok (.iconst 1, 1) := by decide +kernel
theorem dX12_findHeld_188 : decode cX12_findHeld 188 = .ok (.if_icmp .ne 24, 3) := by decide +kernel
theorem dX12_findHeld_191 : decode cX12_findHeld 191 = .ok (.aload_n 0, 1) := by decide +kernel
theorem dX12_findHeld_192 : decode cX12_findHeld 192 = .ok (.iload 4, 2) := by decide +kernel
theorem dX12_findHeld_194 : decode cX12_findHeld 194 = .ok (.aload_n 0, 1) := by decide +kernel
theorem dX12_findHeld_195 : decode cX12_findHeld 195 = .ok (.getfield 181, 3) := by decide +kernel
theorem dX12_findHeld_198 : decode cX12_findHeld 198 = .ok (.invokevirtual 327, 3) := by decide +kernel
theorem dX12_findHeld_201 : decode cX12_findHeld 201 = .ok (.iload_n 1, 1) := by decide +kernel
theorem dX12_findHeld_202 : decode cX12_findHeld 202 = .ok (.if_icmp .ne 10, 3) := by decide +kernel
theorem dX12_findHeld_205 : decode cX12_findHeld 205 = .ok (.aload_n 0, 1) := by decide +kernel
theorem dX12_findHeld_206 : decode cX12_findHeld 206 = .ok (.getfield 181, 3) := by decide +kernel
theorem dX12_findHeld_209 : decode cX12_findHeld 209 = .ok (.goto 4, 3) := by decide +kernel
theorem dX12_findHeld_212 : decode cX12_findHeld 212 = .ok (.iload_n 3, 1) := by decide +kernel
theorem dX12_findHeld_213 : decode cX12_findHeld 213 = .ok (.istore_n 3, 1) := by decide +kernel
theorem dX12_findHeld_214 : decode cX12_findHeld 214 = .ok (.iinc 4 1, 3) := by decide +kernel
theorem dX12_findHeld_217 : decode cX12_findHeld 217 = .ok (.goto (-45), 3) := by decide +kernel
theorem dX12_findHeld_220 : decode cX12_findHeld 220 = .ok (.aload_n 0, 1) := by decide +kernel
theorem dX12_findHeld_221 : decode cX12_findHeld 221 = .ok (.iload_n 1, 1) := by decide +kernel
theorem dX12_findHeld_222 : decode cX12_findHeld 222 = .ok (.iload_n 2, 1) := by decide +kernel
theorem dX12_findHeld_223 : decode cX12_findHeld 223 = .ok (.iload_n 3, 1) := by decide +kernel
theorem dX12_findHeld_224 : decode cX12_findHeld 224 = .ok (.invokevirtual 333, 3) := by decide +kernel
theorem dX12_findHeld_227 : decode cX12_findHeld 227 = .ok (.iinc 1 1, 3) := by decide +kernel
theorem dX12_findHeld_230 : decode cX12_findHeld 230 = .ok (.goto (-177), 3) := by decide +kernel
theorem dX12_findHeld_233 : decode cX12_findHeld 233 = .ok (.return_, 1) := by decide +kernel
theorem dX12_widthOf_0 : decode cX12_widthOf 0 = .ok (.aload_n 0, 1) := by decide +kernel
theorem dX12_widthOf_1 : decode cX12_widthOf 1 = .ok (.invokevirtual 337, 3) := by decide +kernel
theorem dX12_widthOf_4 : decode cX12_widthOf 4 = .ok (.iconst 0, 1) := by decide +kernel
theorem dX12_widthOf_5 : decode cX12_widthOf 5 = .ok (.istore_n 1, 1) := by decide +kernel
theorem dX12_widthOf_6 : decode cX12_widthOf 6 = .ok (.iconst 0, 1) := by decide +kernel
theorem dX12_widthOf_7 : decode cX12_widthOf 7 = .ok (.istore_n 2, 1) := by decide +kernel
theorem dX12_widthOf_8 : decode cX12_widthOf 8 = .ok (.iload_n 2, 1) := by decide +kernel
theorem dX12_widthOf_9 : decode cX12_widthOf 9 = .ok (.aload_n 0, 1) := by decide +kernel
theorem dX12_widthOf_10 : decode cX12_widthOf 10 = .ok (.getfield 181, 3) := by decide +kernel
theorem dX12_widthOf_13 : decode cX12_widthOf 13 = .ok (.if_icmp .gt 36, 3) := by decide +kernel
theorem dX12_widthOf_16 : decode cX12_widthOf 16 = .ok (.aload_n 0, 1) := by decide +kernel
theorem dX12_widthOf_17 : decode cX12_widthOf 17 = .ok (.getfield 83, 3) := by decide +kernel
theorem dX12_widthOf_20 : decode cX12_widthOf 20 = .ok (.iload_n 2, 1) := by decide +kernel
theorem dX12_widthOf_21 : decode cX12_widthOf 21 = .ok (.iaload, 1) := by decide +kernel
theorem dX12_widthOf_22 : decode cX12_widthOf 22 = .ok (.invokestatic 340, 3) := by decide +kernel
theorem dX12_widthOf_25 : decode cX12_widthOf 25 = .ok (.iload_n 1, 1) := by decide +kernel
theorem dX12_widthOf_26 : decode cX12_widthOf 26 = .ok (.if_icmp .le 15, 3) := by decide +kernel
theorem dX12_widthOf_29 : decode cX12_widthOf 29 = .ok (.aload_n 0, 1) := by decide +kernel
theorem dX12_widthOf_30 : decode cX12_widthOf 30 = .ok (.getfield 83, 3) := by decide +kernel
theorem dX12_widthOf_33 : decode cX12_widthOf 33 = .ok (.iload_n 2, 1) := by decide +kernel
theorem dX12_widthOf_34 : decode cX12_widthOf 34 = .ok (.iaload, 1) := by decide +kernel
theorem dX12_widthOf_35 : decode cX12_widthOf 35 = .ok (.invokestatic 340, 3) := by decide +kernel
theorem dX12_widthOf_38 : decode cX12_widthOf 38 = .ok (.goto 4, 3) := by decide +kernel
theorem dX12_widthOf_41 : decode cX12_widthOf 41 = .ok (.iload_n 1, 1) := by decide +kernel
theorem dX12_widthOf_42 : decode cX12_widthOf 42 = .ok (.istore_n 1, 1) := by decide +kernel
theorem dX12_widthOf_43 : decode cX12_widthOf 43 = .ok (.iinc 2 1, 3) := by decide +kernel
theorem dX12_widthOf_46 : decode cX12_widthOf 46 = .ok (.goto (-38), 3) := by decide +kernel
theorem dX12_widthOf_49 : decode cX12_widthOf 49 = .ok (.iload_n 1, 1) := by decide +kernel
theorem dX12_widthOf_50 : decode cX12_widthOf 50 = .ok (.ireturn, 1) := by decide +kernel
theorem dX12_held_0 : decode cX12_held 0 = .ok (.aload_n 0, 1) := by decide +kernel
theorem dX12_held_1 : decode cX12_held 1 = .ok (.iload_n 1, 1) := by decide +kernel
theorem dX12_held_2 : decode cX12_held 2 = .ok (.invokevirtual 205, 3) := by decide +kernel
theorem dX12_held_5 : decode cX12_held 5 = .ok (.ifCond .ne 5, 3) := by decide +kernel
theorem dX12_held_8 : decode cX12_held 8 = .ok (.iconst (-1), 1) := by decide +kernel
theorem dX12_held_9 : decode cX12_held 9 = .ok (.ireturn, 1) := by decide +kernel
theorem dX12_held_10 : decode cX12_held 10 = .ok (.aload_n 0, 1) := by decide +kernel
theorem dX12_held_11 : decode cX12_held 11 = .ok (.invokevirtual 303, 3) := by decide +kernel
theorem dX12_held_14 : decode cX12_held 14 = .ok (.aload_n 0, 1) := by decide +kernel
theorem dX12_held_15 : decode cX12_held 15 = .ok (.invokevirtual 337, 3) := by decide +kernel
theorem dX12_held_18 : decode cX12_held 18 = .ok (.aload_n 0, 1) := by decide +kernel
theorem dX12_held_19 : decode cX12_held 19 = .ok (.getfield 83, 3) := by decide +kernel
theorem dX12_held_22 : decode cX12_held 22 = .ok (.iload_n 1, 1) := by decide +kernel
theorem dX12_held_23 : decode cX12_held 23 = .ok (.iaload, 1) := by decide +kernel
theorem dX12_held_24 : decode cX12_held 24 = .ok (.ireturn, 1) := by decide +kernel
theorem dX12_width_0 : decode cX12_width 0 = .ok (.aload_n 0, 1) := by decide +kernel
theorem dX12_width_1 : decode cX12_width 1 = .ok (.invokevirtual 303, 3) := by decide +kernel
theorem dX12_width_4 : decode cX12_width 4 = .ok (.aload_n 0, 1) := by decide +kernel
theorem dX12_width_5 : decode cX12_width 5 = .ok (.invokevirtual 313, 3) := by decide +kernel
theorem dX12_width_8 : decode cX12_width 8 = .ok (.ireturn, 1) := by decide +kernel
theorem dX12_fewest_0 : decode cX12_fewest 0 = .ok (.aload_n 0, 1) := by decide +kernel
theorem dX12_fewest_1 : decode cX12_fewest 1 = .ok (.iload_n 1, 1) := by decide +kernel
theorem dX12_fewest_2 : decode cX12_fewest 2 = .ok (.iconst 0, 1) := by decide +kernel
theorem dX12_fewest_3 : decode cX12_fewest 3 = .ok (.invokevirtual 323, 3) := by decide +kernel
theorem dX12_fewest_6 : decode cX12_fewest 6 = .ok (.ireturn, 1) := by decide +kernel
theorem dX12_readingsOf_0 : decode cX12_readingsOf 0 = .ok (.iconst 0, 1) := by decide +kernel
theorem dX12_readingsOf_1 : decode cX12_readingsOf 1 = .ok (.istore_n 2, 1) := by decide +kernel
theorem dX12_readingsOf_2 : decode cX12_readingsOf 2 = .ok (.iconst 0, 1) := by decide +kernel
theorem dX12_readingsOf_3 : decode cX12_readingsOf 3 = .ok (.istore_n 3, 1) := by decide +kernel
theorem dX12_readingsOf_4 : decode cX12_readingsOf 4 = .ok (.iload_n 3, 1) := by decide +kernel
theorem dX12_readingsOf_5 : decode cX12_readingsOf 5 = .ok (.aload_n 0, 1) := by decide +kernel
theorem dX12_readingsOf_6 : decode cX12_readingsOf 6 = .ok (.getfield 181, 3) := by decide +kernel
theorem dX12_readingsOf_9 : decode cX12_readingsOf 9 = .ok (.if_icmp .ge 51, 3) := by decide +kernel
theorem dX12_readingsOf_12 : decode cX12_readingsOf 12 = .ok (.iconst 0, 1) := by decide +kernel
theorem dX12_readingsOf_13 : decode cX12_readingsOf 13 = .ok (.istore 4, 2) := by decide +kernel
theorem dX12_readingsOf_15 : decode cX12_readingsOf 15 = .ok (.iload 4, 2) := by decide +kernel
theorem dX12_readingsOf_17 : decode cX12_readingsOf 17 = .ok (.iconst 2, 1) := by decide +kernel
theorem dX12_readingsOf_18 : decode cX12_readingsOf 18 = .ok (.if_icmp .ge 36, 3) := by decide +kernel
theorem dX12_readingsOf_21 : decode cX12_readingsOf 21 = .ok (.aload_n 0, 1) := by decide +kernel
theorem dX12_readingsOf_22 : decode cX12_readingsOf 22 = .ok (.iload_n 3, 1) := by decide +kernel
theorem dX12_readingsOf_23 : decode cX12_readingsOf 23 = .ok (.iload 4, 2) := by decide +kernel
theorem dX12_readingsOf_25 : decode cX12_readingsOf 25 = .ok (.invokevirtual 330, 3) := by decide +kernel
theorem dX12_readingsOf_28 : decode cX12_readingsOf 28 = .ok (.istore 5, 2) := by decide +kernel
theorem dX12_readingsOf_30 : decode cX12_readingsOf 30 = .ok (.iload_n 2, 1) := by decide +kernel
theorem dX12_readingsOf_31 : decode cX12_readingsOf 31 = .ok (.iload 5, 2) := by decide +kernel
theorem dX12_readingsOf_33 : decode cX12_readingsOf 33 = .ok (.ifCond .lt 12, 3) := by decide +kernel
theorem dX12_readingsOf_36 : decode cX12_readingsOf 36 = .ok (.iload_n 1, 1) := by decide +kernel
theorem dX12_readingsOf_37 : decode cX12_readingsOf 37 = .ok (.iload 5, 2) := by decide +kernel
theorem dX12_readingsOf_39 : decode cX12_readingsOf 39 = .ok (.ishr, 1) := by decide +kernel
theorem dX12_readingsOf_40 : decode cX12_readingsOf 40 = .ok (.iconst 1, 1) := by decide +kernel
theorem dX12_readingsOf_41 : decode cX12_readingsOf 41 = .ok (.iand, 1) := by decide +kernel
theorem dX12_readingsOf_42 : decode cX12_readingsOf 42 = .ok (.goto 4, 3) := by decide +kernel
theorem dX12_readingsOf_45 : decode cX12_readingsOf 45 = .ok (.iconst 0, 1) := by decide +kernel
theorem dX12_readingsOf_46 : decode cX12_readingsOf 46 = .ok (.iadd, 1) := by decide +kernel
theorem dX12_readingsOf_47 : decode cX12_readingsOf 47 = .ok (.istore_n 2, 1) := by decide +kernel
theorem dX12_readingsOf_48 : decode cX12_readingsOf 48 = .ok (.iinc 4 1, 3) := by decide +kernel
theorem dX12_readingsOf_51 : decode cX12_readingsOf 51 = .ok (.goto (-36), 3) := by decide +kernel
theorem dX12_readingsOf_54 : decode cX12_readingsOf 54 = .ok (.iinc 3 1, 3) := by decide +kernel
theorem dX12_readingsOf_57 : decode cX12_readingsOf 57 = .ok (.goto (-53), 3) := by decide +kernel
theorem dX12_readingsOf_60 : decode cX12_readingsOf 60 = .ok (.iload_n 2, 1) := by decide +kernel
theorem dX12_readingsOf_61 : decode cX12_readingsOf 61 = .ok (.ireturn, 1) := by decide +kernel
theorem dX12_spill_0 : decode cX12_spill 0 = .ok (.iload_n 1, 1) := by decide +kernel
theorem dX12_spill_1 : decode cX12_spill 1 = .ok (.i2l, 1) := by decide +kernel
theorem dX12_spill_2 : decode cX12_spill 2 = .ok (.lconst 1, 1) := by decide +kernel
theorem dX12_spill_3 : decode cX12_spill 3 = .ok (.ldc2_w 343, 3) := by decide +kernel
theorem dX12_spill_6 : decode cX12_spill 6 = .ok (.invokestatic 125, 3) := by decide +kernel
theorem dX12_spill_9 : decode cX12_spill 9 = .ok (.ifCond .ne 6, 3) := by decide +kernel
theorem dX12_spill_12 : decode cX12_spill 12 = .ok (.bipush (-2), 2) := by decide +kernel
theorem dX12_spill_14 : decode cX12_spill 14 = .ok (.ireturn, 1) := by decide +kernel
theorem dX12_spill_15 : decode cX12_spill 15 = .ok (.aload_n 0, 1) := by decide +kernel
theorem dX12_spill_16 : decode cX12_spill 16 = .ok (.invokevirtual 303, 3) := by decide +kernel
theorem dX12_spill_19 : decode cX12_spill 19 = .ok (.aload_n 0, 1) := by decide +kernel
theorem dX12_spill_20 : decode cX12_spill 20 = .ok (.invokevirtual 337, 3) := by decide +kernel
theorem dX12_spill_23 : decode cX12_spill 23 = .ok (.bipush (-6), 2) := by decide +kernel
theorem dX12_spill_25 : decode cX12_spill 25 = .ok (.istore_n 2, 1) := by decide +kernel
theorem dX12_spill_26 : decode cX12_spill 26 = .ok (.iconst 0, 1) := by decide +kernel
theorem dX12_spill_27 : decode cX12_spill 27 = .ok (.istore_n 3, 1) := by decide +kernel
theorem dX12_spill_28 : decode cX12_spill 28 = .ok (.iconst 0, 1) := by decide +kernel
theorem dX12_spill_29 : decode cX12_spill 29 = .ok (.istore 4, 2) := by decide +kernel
theorem dX12_spill_31 : decode cX12_spill 31 = .ok (.iload 4, 2) := by decide +kernel
theorem dX12_spill_33 : decode cX12_spill 33 = .ok (.iconst 1, 1) := by decide +kernel
theorem dX12_spill_34 : decode cX12_spill 34 = .ok (.iconst 4, 1) := by decide +kernel
theorem dX12_spill_35 : decode cX12_spill 35 = .ok (.aload_n 0, 1) := by decide +kernel
theorem dX12_spill_36 : decode cX12_spill 36 = .ok (.getfield 181, 3) := by decide +kernel
theorem dX12_spill_39 : decode cX12_spill 39 = .ok (.iadd, 1) := by decide +kernel
theorem dX12_spill_40 : decode cX12_spill 40 = .ok (.ishl, 1) := by decide +kernel
theorem dX12_spill_41 : decode cX12_spill 41 = .ok (.if_icmp .ge 122, 3) := by decide +kernel
theorem dX12_spill_44 : decode cX12_spill 44 = .ok (.iload_n 2, 1) := by decide +kernel
theorem dX12_spill_45 : decode cX12_spill 45 = .ok (.ifCond .lt 15, 3) := by decide +kernel
theorem dX12_spill_48 : decode cX12_spill 48 = .ok (.iload 4, 2) := by decide +kernel
theorem dX12_spill_50 : decode cX12_spill 50 = .ok (.invokestatic 340, 3) := by decide +kernel
theorem dX12_spill_53 : decode cX12_spill 53 = .ok (.iload_n 2, 1) := by decide +kernel
theorem dX12_spill_54 : decode cX12_spill 54 = .ok (.invokestatic 340, 3) := by decide +kernel
theorem dX12_spill_57 : decode cX12_spill 57 = .ok (.if_icmp .gt 7, 3) := by decide +kernel
theorem dX12_spill_60 : decode cX12_spill 60 = .ok (.iconst 1, 1) := by decide +kernel
theorem dX12_spill_61 : decode cX12_spill 61 = .ok (.goto 4, 3) := by decide +kernel
theorem dX12_spill_64 : decode cX12_spill 64 = .ok (.iconst 0, 1) := by decide +kernel
theorem dX12_spill_65 : decode cX12_spill 65 = .ok (.istore 5, 2) := by decide +kernel
theorem dX12_spill_67 : decode cX12_spill 67 = .ok (.iconst 0, 1) := by decide +kernel
theorem dX12_spill_68 : decode cX12_spill 68 = .ok (.istore 6, 2) := by decide +kernel
theorem dX12_spill_70 : decode cX12_spill 70 = .ok (.iload 6, 2) := by decide +kernel
theorem dX12_spill_72 : decode cX12_spill 72 = .ok (.aload_n 0, 1) := by decide +kernel
theorem dX12_spill_73 : decode cX12_spill 73 = .ok (.getfield 181, 3) := by decide +kernel
theorem dX12_spill_76 : decode cX12_spill 76 = .ok (.if_icmp .gt 40, 3) := by decide +kernel
theorem dX12_spill_79 : decode cX12_spill 79 = .ok (.iload 5, 2) := by decide +kernel
theorem dX12_spill_81 : decode cX12_spill 81 = .ok (.ifCond .eq 35, 3) := by decide +kernel
theorem dX12_spill_84 : decode cX12_spill 84 = .ok (.aload_n 0, 1) := by decide +kernel
theorem dX12_spill_85 : decode cX12_spill 85 = .ok (.getfield 83, 3) := by decide +kernel
theorem dX12_spill_88 : decode cX12_spill 88 = .ok (.iload 6, 2) := by decide +kernel
theorem dX12_spill_90 : decode cX12_spill 90 = .ok (.iaload, 1) := by decide +kernel
theorem dX12_spill_91 : decode cX12_spill 91 = .ok (.iload 4, 2) := by decide +kernel
theorem dX12_spill_93 : decode cX12_spill 93 = .ok (.iconst (-1), 1) := by decide +kernel
theorem dX12_spill_94 : decode cX12_spill 94 = .ok (.ixor, 1) := by decide +kernel
theorem dX12_spill_95 : decode cX12_spill 95 = .ok (.iand, 1) := by decide +kernel
theorem dX12_spill_96 : decode cX12_spill 96 = .ok (.invokestatic 340, 3) := by decide +kernel
theorem dX12_spill_99 : decode cX12_spill 99 = .ok (.iload_n 1, 1) := by decide +kernel
theorem dX12_spill_100 : decode cX12_spill 100 = .ok (.if_icmp .gt 7, 3) := by decide +kernel
theorem dX12_spill_103 : decode cX12_spill 103 = .ok (.iconst 1, 1) := by decide +kernel
theorem dX12_spill_104 : decode cX12_spill 104 = .ok (.goto 4, 3) := by decide +kernel
theorem dX12_spill_107 : decode cX12_spill 107 = .ok (.iconst 0, 1) := by decide +kernel
theorem dX12_spill_108 : decode cX12_spill 108 = .ok (.istore 5, 2) := by decide +kernel
theorem dX12_spill_110 : decode cX12_spill 110 = .ok (.iinc 6 1, 3) := by decide +kernel
theorem dX12_spill_113 : decode cX12_spill 113 = .ok (.goto (-43), 3) := by decide +kernel
theorem dX12_spill_116 : decode cX12_spill 116 = .ok (.iload 5, 2) := by decide +kernel
theorem dX12_spill_118 : decode cX12_spill 118 = .ok (.ifCond .eq 39, 3) := by decide +kernel
theorem dX12_spill_121 : decode cX12_spill 121 = .ok (.aload_n 0, 1) := by decide +kernel
theorem dX12_spill_122 : decode cX12_spill 122 = .ok (.iload 4, 2) := by decide +kernel
theorem dX12_spill_124 : decode cX12_spill 124 = .ok (.invokevirtual 345, 3) := by decide +kernel
theorem dX12_spill_127 : decode cX12_spill 127 = .ok (.istore 6, 2) := by decide +kernel
theorem dX12_spill_129 : decode cX12_spill 129 = .ok (.iload_n 2, 1) := by decide +kernel
