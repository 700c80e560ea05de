theorem dX12_sortOf_33 : decode cX12_sortOf 33 = .ok (.aload_n 0, 1) := by decide +kernel
theorem dX12_sortOf_34 : decode cX12_sortOf 34 = .ok (.getfield 233, 3) := by decide +kernel
theorem dX12_sortOf_37 : decode cX12_sortOf 37 = .ok (.iastore, 1) := by decide +kernel
theorem dX12_sortOf_38 : decode cX12_sortOf 38 = .ok (.aload_n 0, 1) := by decide +kernel
theorem dX12_sortOf_39 : decode cX12_sortOf 39 = .ok (.dup, 1) := by decide +kernel
theorem dX12_sortOf_40 : decode cX12_sortOf 40 = .ok (.getfield 233, 3) := by decide +kernel
theorem dX12_sortOf_43 : decode cX12_sortOf 43 = .ok (.iconst 1, 1) := by decide +kernel
theorem dX12_sortOf_44 : decode cX12_sortOf 44 = .ok (.iadd, 1) := by decide +kernel
theorem dX12_sortOf_45 : decode cX12_sortOf 45 = .ok (.putfield 233, 3) := by decide +kernel
theorem dX12_sortOf_48 : decode cX12_sortOf 48 = .ok (.aload_n 0, 1) := by decide +kernel
theorem dX12_sortOf_49 : decode cX12_sortOf 49 = .ok (.getfield 40, 3) := by decide +kernel
theorem dX12_sortOf_52 : decode cX12_sortOf 52 = .ok (.iload_n 1, 1) := by decide +kernel
theorem dX12_sortOf_53 : decode cX12_sortOf 53 = .ok (.bipush 10, 2) := by decide +kernel
theorem dX12_sortOf_55 : decode cX12_sortOf 55 = .ok (.isub, 1) := by decide +kernel
theorem dX12_sortOf_56 : decode cX12_sortOf 56 = .ok (.iaload, 1) := by decide +kernel
theorem dX12_sortOf_57 : decode cX12_sortOf 57 = .ok (.ireturn, 1) := by decide +kernel
theorem dX12_madeOf_0 : decode cX12_madeOf 0 = .ok (.iconst 0, 1) := by decide +kernel
theorem dX12_madeOf_1 : decode cX12_madeOf 1 = .ok (.istore 4, 2) := by decide +kernel
theorem dX12_madeOf_3 : decode cX12_madeOf 3 = .ok (.iload 4, 2) := by decide +kernel
theorem dX12_madeOf_5 : decode cX12_madeOf 5 = .ok (.aload_n 0, 1) := by decide +kernel
theorem dX12_madeOf_6 : decode cX12_madeOf 6 = .ok (.getfield 236, 3) := by decide +kernel
theorem dX12_madeOf_9 : decode cX12_madeOf 9 = .ok (.if_icmp .ge 102, 3) := by decide +kernel
theorem dX12_madeOf_12 : decode cX12_madeOf 12 = .ok (.aload_n 0, 1) := by decide +kernel
theorem dX12_madeOf_13 : decode cX12_madeOf 13 = .ok (.getfield 46, 3) := by decide +kernel
theorem dX12_madeOf_16 : decode cX12_madeOf 16 = .ok (.iload 4, 2) := by decide +kernel
theorem dX12_madeOf_18 : decode cX12_madeOf 18 = .ok (.iaload, 1) := by decide +kernel
theorem dX12_madeOf_19 : decode cX12_madeOf 19 = .ok (.iload_n 2, 1) := by decide +kernel
theorem dX12_madeOf_20 : decode cX12_madeOf 20 = .ok (.if_icmp .ne 18, 3) := by decide +kernel
theorem dX12_madeOf_23 : decode cX12_madeOf 23 = .ok (.aload_n 0, 1) := by decide +kernel
theorem dX12_madeOf_24 : decode cX12_madeOf 24 = .ok (.getfield 49, 3) := by decide +kernel
theorem dX12_madeOf_27 : decode cX12_madeOf 27 = .ok (.iload 4, 2) := by decide +kernel
theorem dX12_madeOf_29 : decode cX12_madeOf 29 = .ok (.iaload, 1) := by decide +kernel
theorem dX12_madeOf_30 : decode cX12_madeOf 30 = .ok (.iload_n 3, 1) := by decide +kernel
theorem dX12_madeOf_31 : decode cX12_madeOf 31 = .ok (.if_icmp .ne 7, 3) := by decide +kernel
theorem dX12_madeOf_34 : decode cX12_madeOf 34 = .ok (.iconst 1, 1) := by decide +kernel
theorem dX12_madeOf_35 : decode cX12_madeOf 35 = .ok (.goto 4, 3) := by decide +kernel
theorem dX12_madeOf_38 : decode cX12_madeOf 38 = .ok (.iconst 0, 1) := by decide +kernel
theorem dX12_madeOf_39 : decode cX12_madeOf 39 = .ok (.istore 5, 2) := by decide +kernel
theorem dX12_madeOf_41 : decode cX12_madeOf 41 = .ok (.iload_n 1, 1) := by decide +kernel
theorem dX12_madeOf_42 : decode cX12_madeOf 42 = .ok (.bipush 45, 2) := by decide +kernel
theorem dX12_madeOf_44 : decode cX12_madeOf 44 = .ok (.if_icmp .eq 29, 3) := by decide +kernel
theorem dX12_madeOf_47 : decode cX12_madeOf 47 = .ok (.aload_n 0, 1) := by decide +kernel
theorem dX12_madeOf_48 : decode cX12_madeOf 48 = .ok (.getfield 46, 3) := by decide +kernel
theorem dX12_madeOf_51 : decode cX12_madeOf 51 = .ok (.iload 4, 2) := by decide +kernel
theorem dX12_madeOf_53 : decode cX12_madeOf 53 = .ok (.iaload, 1) := by decide +kernel
theorem dX12_madeOf_54 : decode cX12_madeOf 54 = .ok (.iload_n 3, 1) := by decide +kernel
theorem dX12_madeOf_55 : decode cX12_madeOf 55 = .ok (.if_icmp .ne 18, 3) := by decide +kernel
theorem dX12_madeOf_58 : decode cX12_madeOf 58 = .ok (.aload_n 0, 1) := by decide +kernel
theorem dX12_madeOf_59 : decode cX12_madeOf 59 = .ok (.getfield 49, 3) := by decide +kernel
theorem dX12_madeOf_62 : decode cX12_madeOf 62 = .ok (.iload 4, 2) := by decide +kernel
theorem dX12_madeOf_64 : decode cX12_madeOf 64 = .ok (.iaload, 1) := by decide +kernel
theorem dX12_madeOf_65 : decode cX12_madeOf 65 = .ok (.iload_n 2, 1) := by decide +kernel
theorem dX12_madeOf_66 : decode cX12_madeOf 66 = .ok (.if_icmp .ne 7, 3) := by decide +kernel
theorem dX12_madeOf_69 : decode cX12_madeOf 69 = .ok (.iconst 1, 1) := by decide +kernel
theorem dX12_madeOf_70 : decode cX12_madeOf 70 = .ok (.goto 4, 3) := by decide +kernel
theorem dX12_madeOf_73 : decode cX12_madeOf 73 = .ok (.iconst 0, 1) := by decide +kernel
theorem dX12_madeOf_74 : decode cX12_madeOf 74 = .ok (.istore 6, 2) := by decide +kernel
theorem dX12_madeOf_76 : decode cX12_madeOf 76 = .ok (.aload_n 0, 1) := by decide +kernel
theorem dX12_madeOf_77 : decode cX12_madeOf 77 = .ok (.getfield 43, 3) := by decide +kernel
theorem dX12_madeOf_80 : decode cX12_madeOf 80 = .ok (.iload 4, 2) := by decide +kernel
theorem dX12_madeOf_82 : decode cX12_madeOf 82 = .ok (.iaload, 1) := by decide +kernel
theorem dX12_madeOf_83 : decode cX12_madeOf 83 = .ok (.iload_n 1, 1) := by decide +kernel
theorem dX12_madeOf_84 : decode cX12_madeOf 84 = .ok (.if_icmp .ne 21, 3) := by decide +kernel
theorem dX12_madeOf_87 : decode cX12_madeOf 87 = .ok (.iload 5, 2) := by decide +kernel
theorem dX12_madeOf_89 : decode cX12_madeOf 89 = .ok (.ifCond .ne 8, 3) := by decide +kernel
theorem dX12_madeOf_92 : decode cX12_madeOf 92 = .ok (.iload 6, 2) := by decide +kernel
theorem dX12_madeOf_94 : decode cX12_madeOf 94 = .ok (.ifCond .eq 11, 3) := by decide +kernel
theorem dX12_madeOf_97 : decode cX12_madeOf 97 = .ok (.aload_n 0, 1) := by decide +kernel
theorem dX12_madeOf_98 : decode cX12_madeOf 98 = .ok (.getfield 52, 3) := by decide +kernel
theorem dX12_madeOf_101 : decode cX12_madeOf 101 = .ok (.iload 4, 2) := by decide +kernel
theorem dX12_madeOf_103 : decode cX12_madeOf 103 = .ok (.iaload, 1) := by decide +kernel
theorem dX12_madeOf_104 : decode cX12_madeOf 104 = .ok (.ireturn, 1) := by decide +kernel
theorem dX12_madeOf_105 : decode cX12_madeOf 105 = .ok (.iinc 4 1, 3) := by decide +kernel
theorem dX12_madeOf_108 : decode cX12_madeOf 108 = .ok (.goto (-105), 3) := by decide +kernel
theorem dX12_madeOf_111 : decode cX12_madeOf 111 = .ok (.aload_n 0, 1) := by decide +kernel
theorem dX12_madeOf_112 : decode cX12_madeOf 112 = .ok (.getfield 43, 3) := by decide +kernel
theorem dX12_madeOf_115 : decode cX12_madeOf 115 = .ok (.aload_n 0, 1) := by decide +kernel
theorem dX12_madeOf_116 : decode cX12_madeOf 116 = .ok (.getfield 236, 3) := by decide +kernel
theorem dX12_madeOf_119 : decode cX12_madeOf 119 = .ok (.iload_n 1, 1) := by decide +kernel
theorem dX12_madeOf_120 : decode cX12_madeOf 120 = .ok (.iastore, 1) := by decide +kernel
theorem dX12_madeOf_121 : decode cX12_madeOf 121 = .ok (.aload_n 0, 1) := by decide +kernel
theorem dX12_madeOf_122 : decode cX12_madeOf 122 = .ok (.getfield 46, 3) := by decide +kernel
theorem dX12_madeOf_125 : decode cX12_madeOf 125 = .ok (.aload_n 0, 1) := by decide +kernel
theorem dX12_madeOf_126 : decode cX12_madeOf 126 = .ok (.getfield 236, 3) := by decide +kernel
theorem dX12_madeOf_129 : decode cX12_madeOf 129 = .ok (.iload_n 2, 1) := by decide +kernel
theorem dX12_madeOf_130 : decode cX12_madeOf 130 = .ok (.iastore, 1) := by decide +kernel
theorem dX12_madeOf_131 : decode cX12_madeOf 131 = .ok (.aload_n 0, 1) := by decide +kernel
theorem dX12_madeOf_132 : decode cX12_madeOf 132 = .ok (.getfield 49, 3) := by decide +kernel
theorem dX12_madeOf_135 : decode cX12_madeOf 135 = .ok (.aload_n 0, 1) := by decide +kernel
theorem dX12_madeOf_136 : decode cX12_madeOf 136 = .ok (.getfield 236, 3) := by decide +kernel
theorem dX12_madeOf_139 : decode cX12_madeOf 139 = .ok (.iload_n 3, 1) := by decide +kernel
theorem dX12_madeOf_140 : decode cX12_madeOf 140 = .ok (.iastore, 1) := by decide +kernel
theorem dX12_madeOf_141 : decode cX12_madeOf 141 = .ok (.aload_n 0, 1) := by decide +kernel
theorem dX12_madeOf_142 : decode cX12_madeOf 142 = .ok (.getfield 52, 3) := by decide +kernel
theorem dX12_madeOf_145 : decode cX12_madeOf 145 = .ok (.aload_n 0, 1) := by decide +kernel
theorem dX12_madeOf_146 : decode cX12_madeOf 146 = .ok (.getfield 236, 3) := by decide +kernel
theorem dX12_madeOf_149 : decode cX12_madeOf 149 = .ok (.aload_n 0, 1) := by decide +kernel
theorem dX12_madeOf_150 : decode cX12_madeOf 150 = .ok (.getfield 233, 3) := by decide +kernel
theorem dX12_madeOf_153 : decode cX12_madeOf 153 = .ok (.iastore, 1) := by decide +kernel
theorem dX12_madeOf_154 : decode cX12_madeOf 154 = .ok (.aload_n 0, 1) := by decide +kernel
theorem dX12_madeOf_155 : decode cX12_madeOf 155 = .ok (.dup, 1) := by decide +kernel
theorem dX12_madeOf_156 : decode cX12_madeOf 156 = .ok (.getfield 236, 3) := by decide +kernel
theorem dX12_madeOf_159 : decode cX12_madeOf 159 = .ok (.iconst 1, 1) := by decide +kernel
theorem dX12_madeOf_160 : decode cX12_madeOf 160 = .ok (.iadd, 1) := by decide +kernel
theorem dX12_madeOf_161 : decode cX12_madeOf 161 = .ok (.putfield 236, 3) := by decide +kernel
theorem dX12_madeOf_164 : decode cX12_madeOf 164 = .ok (.aload_n 0, 1) := by decide +kernel
theorem dX12_madeOf_165 : decode cX12_madeOf 165 = .ok (.dup, 1) := by decide +kernel
theorem dX12_madeOf_166 : decode cX12_madeOf 166 = .ok (.getfield 233, 3) := by decide +kernel
theorem dX12_madeOf_169 : decode cX12_madeOf 169 = .ok (.iconst 1, 1) := by decide +kernel
theorem dX12_madeOf_170 : decode cX12_madeOf 170 = .ok (.iadd, 1) := by decide +kernel
theorem dX12_madeOf_171 : decode cX12_madeOf 171 = .ok (.putfield 233, 3) := by decide +kernel
theorem dX12_madeOf_174 : decode cX12_madeOf 174 = .ok (.aload_n 0, 1) := by decide +kernel
theorem dX12_madeOf_175 : decode cX12_madeOf 175 = .ok (.getfield 233, 3) := by decide +kernel
theorem dX12_madeOf_178 : decode cX12_madeOf 178 = .ok (.iconst 1, 1) := by decide +kernel
theorem dX12_madeOf_179 : decode cX12_madeOf 179 = .ok (.isub, 1) := by decide +kernel
theorem dX12_madeOf_180 : decode cX12_madeOf 180 = .ok (.ireturn, 1) := by decide +kernel
theorem dX12_beginSorts_0 : decode cX12_beginSorts 0 = .ok (.iconst 0, 1) := by decide +kernel
theorem dX12_beginSorts_1 : decode cX12_beginSorts 1 = .ok (.istore_n 1, 1) := by decide +kernel
theorem dX12_beginSorts_2 : decode cX12_beginSorts 2 = .ok (.iload_n 1, 1) := by decide +kernel
theorem dX12_beginSorts_3 : decode cX12_beginSorts 3 = .ok (.iconst 4, 1) := by decide +kernel
theorem dX12_beginSorts_4 : decode cX12_beginSorts 4 = .ok (.if_icmp .ge 16, 3) := by decide +kernel
theorem dX12_beginSorts_7 : decode cX12_beginSorts 7 = .ok (.aload_n 0, 1) := by decide +kernel
theorem dX12_beginSorts_8 : decode cX12_beginSorts 8 = .ok (.getfield 37, 3) := by decide +kernel
theorem dX12_beginSorts_11 : decode cX12_beginSorts 11 = .ok (.iload_n 1, 1) := by decide +kernel
theorem dX12_beginSorts_12 : decode cX12_beginSorts 12 = .ok (.iload_n 1, 1) := by decide +kernel
theorem dX12_beginSorts_13 : decode cX12_beginSorts 13 = .ok (.iastore, 1) := by decide +kernel
theorem dX12_beginSorts_14 : decode cX12_beginSorts 14 = .ok (.iinc 1 1, 3) := by decide +kernel
theorem dX12_beginSorts_17 : decode cX12_beginSorts 17 = .ok (.goto (-15), 3) := by decide +kernel
theorem dX12_beginSorts_20 : decode cX12_beginSorts 20 = .ok (.iconst 0, 1) := by decide +kernel
theorem dX12_beginSorts_21 : decode cX12_beginSorts 21 = .ok (.istore_n 1, 1) := by decide +kernel
theorem dX12_beginSorts_22 : decode cX12_beginSorts 22 = .ok (.iload_n 1, 1) := by decide +kernel
theorem dX12_beginSorts_23 : decode cX12_beginSorts 23 = .ok (.bipush 8, 2) := by decide +kernel
theorem dX12_beginSorts_25 : decode cX12_beginSorts 25 = .ok (.if_icmp .ge 17, 3) := by decide +kernel
theorem dX12_beginSorts_28 : decode cX12_beginSorts 28 = .ok (.aload_n 0, 1) := by decide +kernel
theorem dX12_beginSorts_29 : decode cX12_beginSorts 29 = .ok (.getfield 40, 3) := by decide +kernel
theorem dX12_beginSorts_32 : decode cX12_beginSorts 32 = .ok (.iload_n 1, 1) := by decide +kernel
theorem dX12_beginSorts_33 : decode cX12_beginSorts 33 = .ok (.bipush (-6), 2) := by decide +kernel
theorem dX12_beginSorts_35 : decode cX12_beginSorts 35 = .ok (.iastore, 1) := by decide +kernel
theorem dX12_beginSorts_36 : decode cX12_beginSorts 36 = .ok (.iinc 1 1, 3) := by decide +kernel
theorem dX12_beginSorts_39 : decode cX12_beginSorts 39 = .ok (.goto (-17), 3) := by decide +kernel
theorem dX12_beginSorts_42 : decode cX12_beginSorts 42 = .ok (.aload_n 0, 1) := by decide +kernel
theorem dX12_beginSorts_43 : decode cX12_beginSorts 43 = .ok (.iconst 0, 1) := by decide +kernel
theorem dX12_beginSorts_44 : decode cX12_beginSorts 44 = .ok (.putfield 236, 3) := by decide +kernel
theorem dX12_beginSorts_47 : decode cX12_beginSorts 47 = .ok (.aload_n 0, 1) := by decide +kernel
theorem dX12_beginSorts_48 : decode cX12_beginSorts 48 = .ok (.iconst 4, 1) := by decide +kernel
theorem dX12_beginSorts_49 : decode cX12_beginSorts 49 = .ok (.putfield 233, 3) := by decide +kernel
theorem dX12_beginSorts_52 : decode cX12_beginSorts 52 = .ok (.return_, 1) := by decide +kernel
set_option maxRecDepth 20000 in
theorem ggX12_sortMade_X12_sortOf : GoodIn wsX12_sortMade wsX12_sortOf := goodIn_r _ [8, 9, 10, 11, 21, 22, 23, 24, 25, 26, 27, 28, 29, 30, 31, 32, 33, 34, 35, 36, 37, 38, 39, 40, 41, 42, 43, 44, 45, 46, 47, 48, 49, 50, 51, 52, 53, 54, 55, 56, 57, 58, 59, 60, 61, 62, 63, 64, 65, 66, 67, 68] (by decide +kernel) (by decide +kernel)
set_option maxRecDepth 20000 in
theorem gX12_sortMade_X12_sortOf : GoodIn wsX12_sortMade (wsV RX12 239 RX12 yX12_sortOf wsX12_sortOf) := goodIn_app (goodIn_of _ (by decide +kernel)) ggX12_sortMade_X12_sortOf
set_option maxRecDepth 20000 in
theorem ggX12_sortMade_X12_madeOf : GoodIn wsX12_sortMade wsX12_madeOf := goodIn_r _ [15, 16, 17, 18, 19, 20, 11, 21, 22, 23, 24, 25, 26, 27, 28, 29, 30, 31, 32, 33, 34, 35, 36, 37, 38, 39, 40, 41, 42, 43, 44, 45, 46, 47, 48, 49, 50, 51, 52, 53, 54, 55, 56, 57, 58, 59, 60, 61, 62, 63, 64, 65, 66, 67, 68] (by decide +kernel) (by decide +kernel)
set_option maxRecDepth 20000 in
theorem gX12_sortMade_X12_madeOf : GoodIn wsX12_sortMade (wsV RX12 242 RX12 yX12_madeOf wsX12_madeOf) := goodIn_app (goodIn_of _ (by decide +kernel)) ggX12_sortMade_X12_madeOf
theorem dX12_sortMade_0 : decode cX12_sortMade 0 = .ok (.aload_n 0, 1) := by decide +kernel
theorem dX12_sortMade_1 : decode cX12_sortMade 1 = .ok (.aload_n 0, 1) := by decide +kernel
theorem dX12_sortMade_2 : decode cX12_sortMade 2 = .ok (.getfield 19, 3) := by decide +kernel
theorem dX12_sortMade_5 : decode cX12_sortMade 5 = .ok (.iload_n 1, 1) := by decide +kernel
theorem dX12_sortMade_6 : decode cX12_sortMade 6 = .ok (.iaload, 1) := by decide +kernel
theorem dX12_sortMade_7 : decode cX12_sortMade 7 = .ok (.invokevirtual 239, 3) := by decide +kernel
theorem dX12_sortMade_10 : decode cX12_sortMade 10 = .ok (.istore_n 2, 1) := by decide +kernel
theorem dX12_sortMade_11 : decode cX12_sortMade 11 = .ok (.aload_n 0, 1) := by decide +kernel
theorem dX12_sortMade_12 : decode cX12_sortMade 12 = .ok (.getfield 16, 3) := by decide +kernel
theorem dX12_sortMade_15 : decode cX12_sortMade 15 = .ok (.iload_n 1, 1) := by decide +kernel
theorem dX12_sortMade_16 : decode cX12_sortMade 16 = .ok (.iaload, 1) := by decide +kernel
theorem dX12_sortMade_17 : decode cX12_sortMade 17 = .ok (.bipush (-6), 2) := by decide +kernel
theorem dX12_sortMade_19 : decode cX12_sortMade 19 = .ok (.if_icmp .ne 5, 3) := by decide +kernel
theorem dX12_sortMade_22 : decode cX12_sortMade 22 = .ok (.iload_n 2, 1) := by decide +kernel
theorem dX12_sortMade_23 : decode cX12_sortMade 23 = .ok (.ireturn, 1) := by decide +kernel
theorem dX12_sortMade_24 : decode cX12_sortMade 24 = .ok (.aload_n 0, 1) := by decide +kernel
theorem dX12_sortMade_25 : decode cX12_sortMade 25 = .ok (.aload_n 0, 1) := by decide +kernel
theorem dX12_sortMade_26 : decode cX12_sortMade 26 = .ok (.getfield 22, 3) := by decide +kernel
theorem dX12_sortMade_29 : decode cX12_sortMade 29 = .ok (.iload_n 1, 1) := by decide +kernel
theorem dX12_sortMade_30 : decode cX12_sortMade 30 = .ok (.iaload, 1) := by decide +kernel
theorem dX12_sortMade_31 : decode cX12_sortMade 31 = .ok (.invokevirtual 239, 3) := by decide +kernel
theorem dX12_sortMade_34 : decode cX12_sortMade 34 = .ok (.istore_n 3, 1) := by decide +kernel
theorem dX12_sortMade_35 : decode cX12_sortMade 35 = .ok (.aload_n 0, 1) := by decide +kernel
theorem dX12_sortMade_36 : decode cX12_sortMade 36 = .ok (.aload_n 0, 1) := by decide +kernel
theorem dX12_sortMade_37 : decode cX12_sortMade 37 = .ok (.getfield 16, 3) := by decide +kernel
theorem dX12_sortMade_40 : decode cX12_sortMade 40 = .ok (.iload_n 1, 1) := by decide +kernel
theorem dX12_sortMade_41 : decode cX12_sortMade 41 = .ok (.iaload, 1) := by decide +kernel
theorem dX12_sortMade_42 : decode cX12_sortMade 42 = .ok (.iload_n 2, 1) := by decide +kernel
theorem dX12_sortMade_43 : decode cX12_sortMade 43 = .ok (.iload_n 3, 1) := by decide +kernel
theorem dX12_sortMade_44 : decode cX12_sortMade 44 = .ok (.invokevirtual 242, 3) := by decide +kernel
theorem dX12_sortMade_47 : decode cX12_sortMade 47 = .ok (.ireturn, 1) := by decide +kernel
set_option maxRecDepth 20000 in
theorem ggX12_laySorts_X12_beginSorts : GoodIn wsX12_laySorts wsX12_beginSorts := goodIn_r _ [7, 1, 8, 9, 10, 30, 31, 32, 33, 34, 35, 36, 37, 38, 39, 40, 41, 42, 43, 44, 45, 46, 47, 48, 49, 50, 51, 52, 53, 54, 55, 56, 57, 58, 59, 60, 61, 62, 63, 64, 65, 66, 67, 68, 69, 70, 71, 72, 73, 74, 75, 76, 77] (by decide +kernel) (by decide +kernel)
set_option maxRecDepth 20000 in
theorem gX12_laySorts_X12_beginSorts : GoodIn wsX12_laySorts (wsV RX12 245 RX12 yX12_beginSorts wsX12_beginSorts) := goodIn_app (goodIn_of _ (by decide +kernel)) ggX12_laySorts_X12_beginSorts
set_option maxRecDepth 20000 in
theorem ggX12_laySorts_X12_sortMade : GoodIn wsX12_laySorts wsX12_sortMade := goodIn_r _ [14, 15, 16, 17, 18, 19, 20, 6, 21, 1, 8, 10, 22, 23, 24, 25, 9, 26, 27, 28, 29, 30, 31, 32, 33, 34, 35, 36, 37, 38, 39, 40, 41, 42, 43, 44, 45, 46, 47, 48, 49, 50, 51, 52, 53, 54, 55, 56, 57, 58, 59, 60, 61, 62, 63, 64, 65, 66, 67, 68, 69, 70, 71, 72, 73, 74, 75, 76, 77] (by decide +kernel) (by decide +kernel)
set_option maxRecDepth 20000 in
theorem gX12_laySorts_X12_sortMade : GoodIn wsX12_laySorts (wsV RX12 248 RX12 yX12_sortMade wsX12_sortMade) := goodIn_app (goodIn_of _ (by decide +kernel)) ggX12_laySorts_X12_sortMade
theorem dX12_laySorts_0 : decode cX12_laySorts 0 = .ok (.aload_n 0, 1) := by decide +kernel
theorem dX12_laySorts_1 : decode cX12_laySorts 1 = .ok (.invokevirtual 245, 3) := by decide +kernel
theorem dX12_laySorts_4 : decode cX12_laySorts 4 = .ok (.iconst 0, 1) := by decide +kernel
theorem dX12_laySorts_5 : decode cX12_laySorts 5 = .ok (.istore_n 2, 1) := by decide +kernel
theorem dX12_laySorts_6 : decode cX12_laySorts 6 = .ok (.iload_n 2, 1) := by decide +kernel
theorem dX12_laySorts_7 : decode cX12_laySorts 7 = .ok (.iload_n 1, 1) := by decide +kernel
theorem dX12_laySorts_8 : decode cX12_laySorts 8 = .ok (.if_icmp .ge 25, 3) := by decide +kernel
theorem dX12_laySorts_11 : decode cX12_laySorts 11 = .ok (.aload_n 0, 1) := by decide +kernel
theorem dX12_laySorts_12 : decode cX12_laySorts 12 = .ok (.getfield 37, 3) := by decide +kernel
theorem dX12_laySorts_15 : decode cX12_laySorts 15 = .ok (.aload_n 0, 1) := by decide +kernel
theorem dX12_laySorts_16 : decode cX12_laySorts 16 = .ok (.getfield 13, 3) := by decide +kernel
theorem dX12_laySorts_19 : decode cX12_laySorts 19 = .ok (.iload_n 2, 1) := by decide +kernel
theorem dX12_laySorts_20 : decode cX12_laySorts 20 = .ok (.iaload, 1) := by decide +kernel
theorem dX12_laySorts_21 : decode cX12_laySorts 21 = .ok (.aload_n 0, 1) := by decide +kernel
theorem dX12_laySorts_22 : decode cX12_laySorts 22 = .ok (.iload_n 2, 1) := by decide +kernel
theorem dX12_laySorts_23 : decode cX12_laySorts 23 = .ok (.invokevirtual 248, 3) := by decide +kernel
theorem dX12_laySorts_26 : decode cX12_laySorts 26 = .ok (.iastore, 1) := by decide +kernel
theorem dX12_laySorts_27 : decode cX12_laySorts 27 = .ok (.iinc 2 1, 3) := by decide +kernel
theorem dX12_laySorts_30 : decode cX12_laySorts 30 = .ok (.goto (-24), 3) := by decide +kernel
theorem dX12_laySorts_33 : decode cX12_laySorts 33 = .ok (.return_, 1) := by decide +kernel
set_option maxRecDepth 20000 in
theorem ggX12_sort_X12_isPlace : GoodIn wsX12_sort wsX12_isPlace := goodIn_r _ [6, 7, 8, 9, 5, 10, 46, 47, 48, 49, 50, 51, 52, 53, 54, 55, 56, 57, 58, 59, 60, 61, 62, 63, 64, 65, 66, 67, 68, 69, 70, 71, 72, 73, 74, 75, 76, 77, 78, 79, 80, 81, 82, 83, 84, 85, 86, 87, 88, 89, 90, 91, 92, 93] (by decide +kernel) (by decide +kernel)
set_option maxRecDepth 20000 in
theorem gX12_sort_X12_isPlace : GoodIn wsX12_sort (wsV RX12 205 RX12 yX12_isPlace wsX12_isPlace) := goodIn_app (goodIn_of _ (by decide +kernel)) ggX12_sort_X12_isPlace
set_option maxRecDepth 20000 in
theorem ggX12_sort_X12_isRegister : GoodIn wsX12_sort wsX12_isRegister := goodIn_r _ [13, 14, 8, 9, 5, 10] (by decide +kernel) (by decide +kernel)
set_option maxRecDepth 20000 in
theorem gX12_sort_X12_isRegister : GoodIn wsX12_sort (va_wsS RX12 218 yX12_isRegister wsX12_isRegister) := goodIn_app (goodIn_of _ (by decide +kernel)) ggX12_sort_X12_isRegister
set_option maxRecDepth 20000 in
theorem ggX12_sort_X12_laySorts : GoodIn wsX12_sort wsX12_laySorts := goodIn_r _ [18, 1, 19, 20, 21, 22, 5, 23, 24, 25, 26, 27, 28, 29, 30, 31, 32, 33, 34, 35, 36, 37, 38, 39, 40, 41, 42, 43, 44, 45, 46, 47, 48, 49, 50, 51, 52, 53, 54, 55, 56, 57, 58, 59, 60, 61, 62, 63, 64, 65, 66, 67, 68, 69, 70, 71, 72, 73, 74, 75, 76, 77, 78, 79, 80, 81, 82, 83, 84, 85, 86, 87, 88, 89, 90, 91, 92, 93] (by decide +kernel) (by decide +kernel)
set_option maxRecDepth 20000 in
theorem gX12_sort_X12_laySorts : GoodIn wsX12_sort (wsV RX12 251 RX12 yX12_laySorts wsX12_laySorts) := goodIn_app (goodIn_of _ (by decide +kernel)) ggX12_sort_X12_laySorts
theorem dX12_sort_0 : decode cX12_sort 0 = .ok (.aload_n 0, 1) := by decide +kernel
theorem dX12_sort_1 : decode cX12_sort 1 = .ok (.iload_n 1, 1) := by decide +kernel
theorem dX12_sort_2 : decode cX12_sort 2 = .ok (.invokevirtual 205, 3) := by decide +kernel
theorem dX12_sort_5 : decode cX12_sort 5 = .ok (.ifCond .eq 10, 3) := by decide +kernel
theorem dX12_sort_8 : decode cX12_sort 8 = .ok (.iload_n 2, 1) := by decide +kernel
theorem dX12_sort_9 : decode cX12_sort 9 = .ok (.invokestatic 218, 3) := by decide +kernel
theorem dX12_sort_12 : decode cX12_sort 12 = .ok (.ifCond .ne 5, 3) := by decide +kernel
theorem dX12_sort_15 : decode cX12_sort 15 = .ok (.iconst (-1), 1) := by decide +kernel
theorem dX12_sort_16 : decode cX12_sort 16 = .ok (.ireturn, 1) := by decide +kernel
theorem dX12_sort_17 : decode cX12_sort 17 = .ok (.aload_n 0, 1) := by decide +kernel
theorem dX12_sort_18 : decode cX12_sort 18 = .ok (.iload_n 1, 1) := by decide +kernel
theorem dX12_sort_19 : decode cX12_sort 19 = .ok (.invokevirtual 251, 3) := by decide +kernel
theorem dX12_sort_22 : decode cX12_sort 22 = .ok (.aload_n 0, 1) := by decide +kernel
theorem dX12_sort_23 : decode cX12_sort 23 = .ok (.getfield 37, 3) := by decide +kernel
theorem dX12_sort_26 : decode cX12_sort 26 = .ok (.iload_n 2, 1) := by decide +kernel
theorem dX12_sort_27 : decode cX12_sort 27 = .ok (.iaload, 1) := by decide +kernel
theorem dX12_sort_28 : decode cX12_sort 28 = .ok (.ireturn, 1) := by decide +kernel
set_option maxRecDepth 20000 in
theorem ggX12_holderOf_X12_laySorts : GoodIn wsX12_holderOf wsX12_laySorts := goodIn_r _ [6, 1, 7, 8, 9, 10, 5, 11, 12, 13, 14, 15, 16, 17, 18, 19, 20, 21, 22, 23, 24, 25, 26, 27, 28, 29, 30, 31, 32, 33, 34, 35, 36, 37, 38, 39, 40, 41, 42, 43, 44, 45, 46, 47, 48, 49, 50, 51, 52, 53, 54, 55, 56, 57, 58, 59, 60, 61, 62, 63, 64, 65, 66, 67, 68, 69, 70, 71, 72, 73, 74, 75, 76, 77, 78, 79, 80, 81] (by decide +kernel) (by decide +kernel)
set_option maxRecDepth 20000 in
theorem gX12_holderOf_X12_laySorts : GoodIn wsX12_holderOf (wsV RX12 251 RX12 yX12_laySorts wsX12_laySorts) := goodIn_app (goodIn_of _ (by decide +kernel)) ggX12_holderOf_X12_laySorts
set_option maxRecDepth 20000 in
theorem ggX12_holderOf_X12_sortMade : GoodIn wsX12_holderOf wsX12_sortMade := goodIn_r _ [18, 19, 20, 21, 22, 23, 24, 5, 25, 1, 12, 14, 26, 27, 28, 29, 13, 30, 31, 32, 33, 34, 35, 36, 37, 38, 39, 40, 41, 42, 43, 44, 45, 46, 47, 48, 49, 50, 51, 52, 53, 54, 55, 56, 57, 58, 59, 60, 61, 62, 63, 64, 65, 66, 67, 68, 69, 70, 71, 72, 73, 74, 75, 76, 77, 78, 79, 80, 81] (by decide +kernel) (by decide +kernel)
set_option maxRecDepth 20000 in
theorem gX12_holderOf_X12_sortMade : GoodIn wsX12_holderOf (wsV RX12 248 RX12 yX12_sortMade wsX12_sortMade) := goodIn_app (goodIn_of _ (by decide +kernel)) ggX12_holderOf_X12_sortMade
theorem dX12_holderOf_0 : decode cX12_holderOf 0 = .ok (.aload_n 0, 1) := by decide +kernel
theorem dX12_holderOf_1 : decode cX12_holderOf 1 = .ok (.iload_n 1, 1) := by decide +kernel
theorem dX12_holderOf_2 : decode cX12_holderOf 2 = .ok (.invokevirtual 251, 3) := by decide +kernel
theorem dX12_holderOf_5 : decode cX12_holderOf 5 = .ok (.aload_n 0, 1) := by decide +kernel
theorem dX12_holderOf_6 : decode cX12_holderOf 6 = .ok (.iload_n 1, 1) := by decide +kernel
theorem dX12_holderOf_7 : decode cX12_holderOf 7 = .ok (.invokevirtual 248, 3) := by decide +kernel
theorem dX12_holderOf_10 : decode cX12_holderOf 10 = .ok (.istore_n 2, 1) := by decide +kernel
theorem dX12_holderOf_11 : decode cX12_holderOf 11 = .ok (.bipush (-6), 2) := by decide +kernel
theorem dX12_holderOf_13 : decode cX12_holderOf 13 = .ok (.istore_n 3, 1) := by decide +kernel
theorem dX12_holderOf_14 : decode cX12_holderOf 14 = .ok (.iconst 3, 1) := by decide +kernel
theorem dX12_holderOf_15 : decode cX12_holderOf 15 = .ok (.istore 4, 2) := by decide +kernel
theorem dX12_holderOf_17 : decode cX12_holderOf 17 = .ok (.iload 4, 2) := by decide +kernel
theorem dX12_holderOf_19 : decode cX12_holderOf 19 = .ok (.ifCond .lt 27, 3) := by decide +kernel
theorem dX12_holderOf_22 : decode cX12_holderOf 22 = .ok (.aload_n 0, 1) := by decide +kernel
theorem dX12_holderOf_23 : decode cX12_holderOf 23 = .ok (.getfield 37, 3) := by decide +kernel
theorem dX12_holderOf_26 : decode cX12_holderOf 26 = .ok (.iload 4, 2) := by decide +kernel
theorem dX12_holderOf_28 : decode cX12_holderOf 28 = .ok (.iaload, 1) := by decide +kernel
theorem dX12_holderOf_29 : decode cX12_holderOf 29 = .ok (.iload_n 2, 1) := by decide +kernel
theorem dX12_holderOf_30 : decode cX12_holderOf 30 = .ok (.if_icmp .ne 8, 3) := by decide +kernel
theorem dX12_holderOf_33 : decode cX12_holderOf 33 = .ok (.iload 4, 2) := by decide +kernel
theorem dX12_holderOf_35 : decode cX12_holderOf 35 = .ok (.goto 4, 3) := by decide +kernel
theorem dX12_holderOf_38 : decode cX12_holderOf 38 = .ok (.iload_n 3, 1) := by decide +kernel
theorem dX12_holderOf_39 : decode cX12_holderOf 39 = .ok (.istore_n 3, 1) := by decide +kernel
theorem dX12_holderOf_40 : decode cX12_holderOf 40 = .ok (.iinc 4 (-1), 3) := by decide +kernel
theorem dX12_holderOf_43 : decode cX12_holderOf 43 = .ok (.goto (-26), 3) := by decide +kernel
theorem dX12_holderOf_46 : decode cX12_holderOf 46 = .ok (.iload_n 3, 1) := by decide +kernel
theorem dX12_holderOf_47 : decode cX12_holderOf 47 = .ok (.ireturn, 1) := by decide +kernel
set_option maxRecDepth 20000 in
theorem ggX12_bad_X12_in : GoodIn wsX12_bad wsX12_in := goodIn_r _ [5] (by decide +kernel) (by decide +kernel)
set_option maxRecDepth 20000 in
theorem gX12_bad_X12_in : GoodIn wsX12_bad (va_wsS RX12 125 yX12_in wsX12_in) := goodIn_app (goodIn_of _ (by decide +kernel)) ggX12_bad_X12_in
set_option maxRecDepth 20000 in
theorem ggX12_bad_X12_isDead : GoodIn wsX12_bad wsX12_isDead := goodIn_r _ [9, 10, 11, 12, 13, 4, 14, 15, 1, 16, 17, 18, 19, 20, 21, 22, 23, 24, 2, 3, 5, 58, 59, 60, 61, 62, 63, 64, 65, 66, 67, 68, 69, 70, 71, 72, 73, 74, 75, 76, 77, 78, 79, 80, 81, 82, 83, 84, 85, 86, 87, 88, 89, 90, 91, 92, 93, 94, 95, 96, 97, 98, 99, 100, 101, 102, 103, 104, 105] (by decide +kernel) (by decide +kernel)
set_option maxRecDepth 20000 in
theorem gX12_bad_X12_isDead : GoodIn wsX12_bad (wsV RX12 255 RX12 yX12_isDead wsX12_isDead) := goodIn_app (goodIn_of _ (by decide +kernel)) ggX12_bad_X12_isDead
set_option maxRecDepth 20000 in
theorem ggX12_bad_X12_holderOf : GoodIn wsX12_bad wsX12_holderOf := goodIn_r _ [28, 29, 30, 31, 32, 4, 33, 10, 34, 35, 36, 37, 38, 39, 40, 41, 42, 43, 44, 16, 45, 17, 46, 47, 48, 49, 50, 51, 52, 53, 54, 55, 56, 57, 58, 59, 60, 61, 62, 63, 64, 65, 66, 67, 68, 69, 70, 71, 72, 73, 74, 75, 76, 77, 78, 79, 80, 81, 82, 83, 84, 85, 86, 87, 88, 89, 90, 91, 92, 93, 94, 95, 96, 97, 98, 99, 100, 101, 102, 103, 104, 105] (by decide +kernel) (by decide +kernel)
set_option maxRecDepth 20000 in
theorem gX12_bad_X12_holderOf : GoodIn wsX12_bad (wsV RX12 258 RX12 yX12_holderOf wsX12_holderOf) := goodIn_app (goodIn_of _ (by decide +kernel)) ggX12_bad_X12_holderOf
theorem dX12_bad_0 : decode cX12_bad 0 = .ok (.iload_n 1, 1) := by decide +kernel
theorem dX12_bad_1 : decode cX12_bad 1 = .ok (.i2l, 1) := by decide +kernel
theorem dX12_bad_2 : decode cX12_bad 2 = .ok (.lconst 0, 1) := by decide +kernel
theorem dX12_bad_3 : decode cX12_bad 3 = .ok (.lconst 1, 1) := by decide +kernel
theorem dX12_bad_4 : decode cX12_bad 4 = .ok (.invokestatic 125, 3) := by decide +kernel
theorem dX12_bad_7 : decode cX12_bad 7 = .ok (.ifCond .ne 6, 3) := by decide +kernel
theorem dX12_bad_10 : decode cX12_bad 10 = .ok (.bipush (-2), 2) := by decide +kernel
theorem dX12_bad_12 : decode cX12_bad 12 = .ok (.ireturn, 1) := by decide +kernel
theorem dX12_bad_13 : decode cX12_bad 13 = .ok (.iconst 0, 1) := by decide +kernel
theorem dX12_bad_14 : decode cX12_bad 14 = .ok (.istore_n 2, 1) := by decide +kernel
theorem dX12_bad_15 : decode cX12_bad 15 = .ok (.iconst 0, 1) := by decide +kernel
theorem dX12_bad_16 : decode cX12_bad 16 = .ok (.istore_n 3, 1) := by decide +kernel
theorem dX12_bad_17 : decode cX12_bad 17 = .ok (.iload_n 3, 1) := by decide +kernel
theorem dX12_bad_18 : decode cX12_bad 18 = .ok (.aload_n 0, 1) := by decide +kernel
theorem dX12_bad_19 : decode cX12_bad 19 = .ok (.getfield 181, 3) := by decide +kernel
theorem dX12_bad_22 : decode cX12_bad 22 = .ok (.if_icmp .ge 42, 3) := by decide +kernel
theorem dX12_bad_25 : decode cX12_bad 25 = .ok (.iload_n 2, 1) := by decide +kernel
theorem dX12_bad_26 : decode cX12_bad 26 = .ok (.iload_n 1, 1) := by decide +kernel
theorem dX12_bad_27 : decode cX12_bad 27 = .ok (.ifCond .ne 14, 3) := by decide +kernel
theorem dX12_bad_30 : decode cX12_bad 30 = .ok (.aload_n 0, 1) := by decide +kernel
theorem dX12_bad_31 : decode cX12_bad 31 = .ok (.iload_n 3, 1) := by decide +kernel
theorem dX12_bad_32 : decode cX12_bad 32 = .ok (.invokevirtual 255, 3) := by decide +kernel
theorem dX12_bad_35 : decode cX12_bad 35 = .ok (.ifCond .eq 20, 3) := by decide +kernel
theorem dX12_bad_38 : decode cX12_bad 38 = .ok (.goto 11, 3) := by decide +kernel
theorem dX12_bad_41 : decode cX12_bad 41 = .ok (.aload_n 0, 1) := by decide +kernel
theorem dX12_bad_42 : decode cX12_bad 42 = .ok (.iload_n 3, 1) := by decide +kernel
theorem dX12_bad_43 : decode cX12_bad 43 = .ok (.invokevirtual 258, 3) := by decide +kernel
theorem dX12_bad_46 : decode cX12_bad 46 = .ok (.ifCond .lt 9, 3) := by decide +kernel
theorem dX12_bad_49 : decode cX12_bad 49 = .ok (.iconst 1, 1) := by decide +kernel
theorem dX12_bad_50 : decode cX12_bad 50 = .ok (.iload_n 3, 1) := by decide +kernel
theorem dX12_bad_51 : decode cX12_bad 51 = .ok (.ishl, 1) := by decide +kernel
theorem dX12_bad_52 : decode cX12_bad 52 = .ok (.goto 4, 3) := by decide +kernel
theorem dX12_bad_55 : decode cX12_bad 55 = .ok (.iconst 0, 1) := by decide +kernel
theorem dX12_bad_56 : decode cX12_bad 56 = .ok (.ior, 1) := by decide +kernel
theorem dX12_bad_57 : decode cX12_bad 57 = .ok (.istore_n 2, 1) := by decide +kernel
theorem dX12_bad_58 : decode cX12_bad 58 = .ok (.iinc 3 1, 3) := by decide +kernel
theorem dX12_bad_61 : decode cX12_bad 61 = .ok (.goto (-44), 3) := by decide +kernel
theorem dX12_bad_64 : decode cX12_bad 64 = .ok (.iload_n 2, 1) := by decide +kernel
theorem dX12_bad_65 : decode cX12_bad 65 = .ok (.ireturn, 1) := by decide +kernel
set_option maxRecDepth 20000 in
theorem ggX12_knownAs_X12_knownOf : GoodIn wsX12_knownAs wsX12_knownOf := goodIn_r _ [5, 6, 7, 8, 9, 10, 11, 12, 13, 4, 14, 15, 16, 17, 18, 19, 20, 21, 22, 23, 24, 25, 26, 27, 28, 29, 30, 31, 32, 33, 34, 35, 36, 37, 38, 39, 40, 41, 42, 43, 44, 45, 46, 47, 48, 49, 50, 51, 52, 53, 54, 55, 56, 57, 58, 59, 60, 61, 62, 63, 64, 65] (by decide +kernel) (by decide +kernel)
set_option maxRecDepth 20000 in
theorem gX12_knownAs_X12_knownOf : GoodIn wsX12_knownAs (wsV RX12 230 RX12 yX12_knownOf wsX12_knownOf) := goodIn_app (goodIn_of _ (by decide +kernel)) ggX12_knownAs_X12_knownOf
theorem dX12_knownAs_0 : decode cX12_knownAs 0 = .ok (.iload_n 1, 1) := by decide +kernel
theorem dX12_knownAs_1 : decode cX12_knownAs 1 = .ok (.bipush (-6), 2) := by decide +kernel
theorem dX12_knownAs_3 : decode cX12_knownAs 3 = .ok (.if_icmp .ne 8, 3) := by decide +kernel
theorem dX12_knownAs_6 : decode cX12_knownAs 6 = .ok (.bipush (-6), 2) := by decide +kernel
theorem dX12_knownAs_8 : decode cX12_knownAs 8 = .ok (.goto 9, 3) := by decide +kernel
theorem dX12_knownAs_11 : decode cX12_knownAs 11 = .ok (.aload_n 0, 1) := by decide +kernel
theorem dX12_knownAs_12 : decode cX12_knownAs 12 = .ok (.iload_n 1, 1) := by decide +kernel
theorem dX12_knownAs_13 : decode cX12_knownAs 13 = .ok (.iload_n 2, 1) := by decide +kernel
theorem dX12_knownAs_14 : decode cX12_knownAs 14 = .ok (.invokevirtual 230, 3) := by decide +kernel
theorem dX12_knownAs_17 : decode cX12_knownAs 17 = .ok (.istore_n 3, 1) := by decide +kernel
theorem dX12_knownAs_18 : decode cX12_knownAs 18 = .ok (.iload_n 3, 1) := by decide +kernel
theorem dX12_knownAs_19 : decode cX12_knownAs 19 = .ok (.ifCond .ge 7, 3) := by decide +kernel
theorem dX12_knownAs_22 : decode cX12_knownAs 22 = .ok (.iload_n 1, 1) := by decide +kernel
theorem dX12_knownAs_23 : decode cX12_knownAs 23 = .ok (.goto 7, 3) := by decide +kernel
theorem dX12_knownAs_26 : decode cX12_knownAs 26 = .ok (.bipush 10, 2) := by decide +kernel
theorem dX12_knownAs_28 : decode cX12_knownAs 28 = .ok (.iload_n 3, 1) := by decide +kernel
theorem dX12_knownAs_29 : decode cX12_knownAs 29 = .ok (.iadd, 1) := by decide +kernel
theorem dX12_knownAs_30 : decode cX12_knownAs 30 = .ok (.ireturn, 1) := by decide +kernel
set_option maxRecDepth 20000 in
theorem ggX12_mendKnown_X12_knownAs : GoodIn wsX12_mendKnown wsX12_knownAs := goodIn_r _ [10, 11, 12, 13, 9, 14, 15, 3, 16, 5, 17, 18, 19, 20, 21, 22, 23, 24, 25, 26, 27, 28, 29, 30, 31, 32, 33, 34, 35, 36, 37, 38, 39, 40, 41, 42, 43, 44, 45, 46, 47, 48, 49, 50, 51, 52, 53, 54, 55, 56, 57, 58, 59, 60, 61, 62, 63, 64, 65, 66, 67, 68, 69, 70, 71, 72] (by decide +kernel) (by decide +kernel)
set_option maxRecDepth 20000 in
theorem gX12_mendKnown_X12_knownAs : GoodIn wsX12_mendKnown (wsV RX12 261 RX12 yX12_knownAs wsX12_knownAs) := goodIn_app (goodIn_of _ (by decide +kernel)) ggX12_mendKnown_X12_knownAs
theorem dX12_mendKnown_0 : decode cX12_mendKnown 0 = .ok (.iconst 0, 1) := by decide +kernel
theorem dX12_mendKnown_1 : decode cX12_mendKnown 1 = .ok (.istore_n 1, 1) := by decide +kernel
theorem dX12_mendKnown_2 : decode cX12_mendKnown 2 = .ok (.iconst 0, 1) := by decide +kernel
theorem dX12_mendKnown_3 : decode cX12_mendKnown 3 = .ok (.istore_n 2, 1) := by decide +kernel
theorem dX12_mendKnown_4 : decode cX12_mendKnown 4 = .ok (.iload_n 2, 1) := by decide +kernel
theorem dX12_mendKnown_5 : decode cX12_mendKnown 5 = .ok (.aload_n 0, 1) := by decide +kernel
theorem dX12_mendKnown_6 : decode cX12_mendKnown 6 = .ok (.getfield 181, 3) := by decide +kernel
theorem dX12_mendKnown_9 : decode cX12_mendKnown 9 = .ok (.if_icmp .ge 43, 3) := by decide +kernel
theorem dX12_mendKnown_12 : decode cX12_mendKnown 12 = .ok (.aload_n 0, 1) := by decide +kernel
theorem dX12_mendKnown_13 : decode cX12_mendKnown 13 = .ok (.getfield 55, 3) := by decide +kernel
theorem dX12_mendKnown_16 : decode cX12_mendKnown 16 = .ok (.iload_n 2, 1) := by decide +kernel
theorem dX12_mendKnown_17 : decode cX12_mendKnown 17 = .ok (.aload_n 0, 1) := by decide +kernel
theorem dX12_mendKnown_18 : decode cX12_mendKnown 18 = .ok (.aload_n 0, 1) := by decide +kernel
theorem dX12_mendKnown_19 : decode cX12_mendKnown 19 = .ok (.getfield 19, 3) := by decide +kernel
theorem dX12_mendKnown_22 : decode cX12_mendKnown 22 = .ok (.iload_n 2, 1) := by decide +kernel
theorem dX12_mendKnown_23 : decode cX12_mendKnown 23 = .ok (.iaload, 1) := by decide +kernel
theorem dX12_mendKnown_24 : decode cX12_mendKnown 24 = .ok (.iload_n 2, 1) := by decide +kernel
theorem dX12_mendKnown_25 : decode cX12_mendKnown 25 = .ok (.invokevirtual 261, 3) := by decide +kernel
theorem dX12_mendKnown_28 : decode cX12_mendKnown 28 = .ok (.iastore, 1) := by decide +kernel
theorem dX12_mendKnown_29 : decode cX12_mendKnown 29 = .ok (.aload_n 0, 1) := by decide +kernel
theorem dX12_mendKnown_30 : decode cX12_mendKnown 30 = .ok (.getfield 58, 3) := by decide +kernel
theorem dX12_mendKnown_33 : decode cX12_mendKnown 33 = .ok (.iload_n 2, 1) := by decide +kernel
theorem dX12_mendKnown_34 : decode cX12_mendKnown 34 = .ok (.aload_n 0, 1) := by decide +kernel
theorem dX12_mendKnown_35 : decode cX12_mendKnown 35 = .ok (.aload_n 0, 1) := by decide +kernel
theorem dX12_mendKnown_36 : decode cX12_mendKnown 36 = .ok (.getfield 22, 3) := by decide +kernel
theorem dX12_mendKnown_39 : decode cX12_mendKnown 39 = .ok (.iload_n 2, 1) := by decide +kernel
theorem dX12_mendKnown_40 : decode cX12_mendKnown 40 = .ok (.iaload, 1) := by decide +kernel
theorem dX12_mendKnown_41 : decode cX12_mendKnown 41 = .ok (.iload_n 2, 1) := by decide +kernel
theorem dX12_mendKnown_42 : decode cX12_mendKnown 42 = .ok (.invokevirtual 261, 3) := by decide +kernel
theorem dX12_mendKnown_45 : decode cX12_mendKnown 45 = .ok (.iastore, 1) := by decide +kernel
theorem dX12_mendKnown_46 : decode cX12_mendKnown 46 = .ok (.iinc 2 1, 3) := by decide +kernel
theorem dX12_mendKnown_49 : decode cX12_mendKnown 49 = .ok (.goto (-45), 3) := by decide +kernel
theorem dX12_mendKnown_52 : decode cX12_mendKnown 52 = .ok (.iconst 0, 1) := by decide +kernel
theorem dX12_mendKnown_53 : decode cX12_mendKnown 53 = .ok (.istore_n 2, 1) := by decide +kernel
theorem dX12_mendKnown_54 : decode cX12_mendKnown 54 = .ok (.iload_n 2, 1) := by decide +kernel
theorem dX12_mendKnown_55 : decode cX12_mendKnown 55 = .ok (.aload_n 0, 1) := by decide +kernel
theorem dX12_mendKnown_56 : decode cX12_mendKnown 56 = .ok (.getfield 181, 3) := by decide +kernel
theorem dX12_mendKnown_59 : decode cX12_mendKnown 59 = .ok (.if_icmp .ge 71, 3) := by decide +kernel
theorem dX12_mendKnown_62 : decode cX12_mendKnown 62 = .ok (.iload_n 1, 1) := by decide +kernel
theorem dX12_mendKnown_63 : decode cX12_mendKnown 63 = .ok (.aload_n 0, 1) := by decide +kernel
theorem dX12_mendKnown_64 : decode cX12_mendKnown 64 = .ok (.getfield 55, 3) := by decide +kernel
theorem dX12_mendKnown_67 : decode cX12_mendKnown 67 = .ok (.iload_n 2, 1) := by decide +kernel
theorem dX12_mendKnown_68 : decode cX12_mendKnown 68 = .ok (.iaload, 1) := by decide +kernel
theorem dX12_mendKnown_69 : decode cX12_mendKnown 69 = .ok (.aload_n 0, 1) := by decide +kernel
theorem dX12_mendKnown_70 : decode cX12_mendKnown 70 = .ok (.getfield 19, 3) := by decide +kernel
theorem dX12_mendKnown_73 : decode cX12_mendKnown 73 = .ok (.iload_n 2, 1) := by decide +kernel
theorem dX12_mendKnown_74 : decode cX12_mendKnown 74 = .ok (.iaload, 1) := by decide +kernel
theorem dX12_mendKnown_75 : decode cX12_mendKnown 75 = .ok (.if_icmp .ne 18, 3) := by decide +kernel
theorem dX12_mendKnown_78 : decode cX12_mendKnown 78 = .ok (.aload_n 0, 1) := by decide +kernel
theorem dX12_mendKnown_79 : decode cX12_mendKnown 79 = .ok (.getfield 58, 3) := by decide +kernel
theorem dX12_mendKnown_82 : decode cX12_mendKnown 82 = .ok (.iload_n 2, 1) := by decide +kernel
theorem dX12_mendKnown_83 : decode cX12_mendKnown 83 = .ok (.iaload, 1) := by decide +kernel
theorem dX12_mendKnown_84 : decode cX12_mendKnown 84 = .ok (.aload_n 0, 1) := by decide +kernel
theorem dX12_mendKnown_85 : decode cX12_mendKnown 85 = .ok (.getfield 22, 3) := by decide +kernel
theorem dX12_mendKnown_88 : decode cX12_mendKnown 88 = .ok (.iload_n 2, 1) := by decide +kernel
theorem dX12_mendKnown_89 : decode cX12_mendKnown 89 = .ok (.iaload, 1) := by decide +kernel
theorem dX12_mendKnown_90 : decode cX12_mendKnown 90 = .ok (.if_icmp .eq 7, 3) := by decide +kernel
theorem dX12_mendKnown_93 : decode cX12_mendKnown 93 = .ok (.iconst 1, 1) := by decide +kernel
theorem dX12_mendKnown_94 : decode cX12_mendKnown 94 = .ok (.goto 4, 3) := by decide +kernel
theorem dX12_mendKnown_97 : decode cX12_mendKnown 97 = .ok (.iconst 0, 1) := by decide +kernel
theorem dX12_mendKnown_98 : decode cX12_mendKnown 98 = .ok (.iadd, 1) := by decide +kernel
theorem dX12_mendKnown_99 : decode cX12_mendKnown 99 = .ok (.istore_n 1, 1) := by decide +kernel
theorem dX12_mendKnown_100 : decode cX12_mendKnown 100 = .ok (.aload_n 0, 1) := by decide +kernel
theorem dX12_mendKnown_101 : decode cX12_mendKnown 101 = .ok (.getfield 19, 3) := by decide +kernel
theorem dX12_mendKnown_104 : decode cX12_mendKnown 104 = .ok (.iload_n 2, 1) := by decide +kernel
theorem dX12_mendKnown_105 : decode cX12_mendKnown 105 = .ok (.aload_n 0, 1) := by decide +kernel
theorem dX12_mendKnown_106 : decode cX12_mendKnown 106 = .ok (.getfield 55, 3) := by decide +kernel
theorem dX12_mendKnown_109 : decode cX12_mendKnown 109 = .ok (.iload_n 2, 1) := by decide +kernel
theorem dX12_mendKnown_110 : decode cX12_mendKnown 110 = .ok (.iaload, 1) := by decide +kernel
theorem dX12_mendKnown_111 : decode cX12_mendKnown 111 = .ok (.iastore, 1) := by decide +kernel
theorem dX12_mendKnown_112 : decode cX12_mendKnown 112 = .ok (.aload_n 0, 1) := by decide +kernel
theorem dX12_mendKnown_113 : decode cX12_mendKnown 113 = .ok (.getfield 22, 3) := by decide +kernel
theorem dX12_mendKnown_116 : decode cX12_mendKnown 116 = .ok (.iload_n 2, 1) := by decide +kernel
theorem dX12_mendKnown_117 : decode cX12_mendKnown 117 = .ok (.aload_n 0, 1) := by decide +kernel
theorem dX12_mendKnown_118 : decode cX12_mendKnown 118 = .ok (.getfield 58, 3) := by decide +kernel
theorem dX12_mendKnown_121 : decode cX12_mendKnown 121 = .ok (.iload_n 2, 1) := by decide +kernel
theorem dX12_mendKnown_122 : decode cX12_mendKnown 122 = .ok (.iaload, 1) := by decide +kernel
theorem dX12_mendKnown_123 : decode cX12_mendKnown 123 = .ok (.iastore, 1) := by decide +kernel
theorem dX12_mendKnown_124 : decode cX12_mendKnown 124 = .ok (.iinc 2 1, 3) := by decide +kernel
theorem dX12_mendKnown_127 : decode cX12_mendKnown 127 = .ok (.goto (-73), 3) := by decide +kernel
theorem dX12_mendKnown_130 : decode cX12_mendKnown 130 = .ok (.iload_n 1, 1) := by decide +kernel
theorem dX12_mendKnown_131 : decode cX12_mendKnown 131 = .ok (.ireturn, 1) := by decide +kernel
set_option maxRecDepth 20000 in
theorem ggX12_mendDigits_X12_acted : GoodIn wsX12_mendDigits wsX12_acted := goodIn_r _ [8] (by decide +kernel) (by decide +kernel)
set_option maxRecDepth 20000 in
theorem gX12_mendDigits_X12_acted : GoodIn wsX12_mendDigits (va_wsS RX12 195 yX12_acted wsX12_acted) := goodIn_app (goodIn_of _ (by decide +kernel)) ggX12_mendDigits_X12_acted
theorem dX12_mendDigits_0 : decode cX12_mendDigits 0 = .ok (.iconst 0, 1) := by decide +kernel
theorem dX12_mendDigits_1 : decode cX12_mendDigits 1 = .ok (.istore_n 1, 1) := by decide +kernel
theorem dX12_mendDigits_2 : decode cX12_mendDigits 2 = .ok (.iconst 0, 1) := by decide +kernel
theorem dX12_mendDigits_3 : decode cX12_mendDigits 3 = .ok (.istore_n 2, 1) := by decide +kernel
theorem dX12_mendDigits_4 : decode cX12_mendDigits 4 = .ok (.iload_n 2, 1) := by decide +kernel
theorem dX12_mendDigits_5 : decode cX12_mendDigits 5 = .ok (.aload_n 0, 1) := by decide +kernel
theorem dX12_mendDigits_6 : decode cX12_mendDigits 6 = .ok (.getfield 181, 3) := by decide +kernel
theorem dX12_mendDigits_9 : decode cX12_mendDigits 9 = .ok (.if_icmp .ge 97, 3) := by decide +kernel
theorem dX12_mendDigits_12 : decode cX12_mendDigits 12 = .ok (.aload_n 0, 1) := by decide +kernel
theorem dX12_mendDigits_13 : decode cX12_mendDigits 13 = .ok (.getfield 16, 3) := by decide +kernel
theorem dX12_mendDigits_16 : decode cX12_mendDigits 16 = .ok (.iload_n 2, 1) := by decide +kernel
theorem dX12_mendDigits_17 : decode cX12_mendDigits 17 = .ok (.iaload, 1) := by decide +kernel
theorem dX12_mendDigits_18 : decode cX12_mendDigits 18 = .ok (.bipush (-6), 2) := by decide +kernel
theorem dX12_mendDigits_20 : decode cX12_mendDigits 20 = .ok (.if_icmp .eq 80, 3) := by decide +kernel
theorem dX12_mendDigits_23 : decode cX12_mendDigits 23 = .ok (.aload_n 0, 1) := by decide +kernel
theorem dX12_mendDigits_24 : decode cX12_mendDigits 24 = .ok (.getfield 19, 3) := by decide +kernel
theorem dX12_mendDigits_27 : decode cX12_mendDigits 27 = .ok (.iload_n 2, 1) := by decide +kernel
theorem dX12_mendDigits_28 : decode cX12_mendDigits 28 = .ok (.iaload, 1) := by decide +kernel
theorem dX12_mendDigits_29 : decode cX12_mendDigits 29 = .ok (.bipush 10, 2) := by decide +kernel
theorem dX12_mendDigits_31 : decode cX12_mendDigits 31 = .ok (.if_icmp .lt 69, 3) := by decide +kernel
theorem dX12_mendDigits_34 : decode cX12_mendDigits 34 = .ok (.aload_n 0, 1) := by decide +kernel
theorem dX12_mendDigits_35 : decode cX12_mendDigits 35 = .ok (.getfield 22, 3) := by decide +kernel
theorem dX12_mendDigits_38 : decode cX12_mendDigits 38 = .ok (.iload_n 2, 1) := by decide +kernel
theorem dX12_mendDigits_39 : decode cX12_mendDigits 39 = .ok (.iaload, 1) := by decide +kernel
theorem dX12_mendDigits_40 : decode cX12_mendDigits 40 = .ok (.bipush 10, 2) := by decide +kernel
theorem dX12_mendDigits_42 : decode cX12_mendDigits 42 = .ok (.if_icmp .lt 58, 3) := by decide +kernel
theorem dX12_mendDigits_45 : decode cX12_mendDigits 45 = .ok (.aload_n 0, 1) := by decide +kernel
theorem dX12_mendDigits_46 : decode cX12_mendDigits 46 = .ok (.getfield 19, 3) := by decide +kernel
theorem dX12_mendDigits_49 : decode cX12_mendDigits 49 = .ok (.iload_n 2, 1) := by decide +kernel
theorem dX12_mendDigits_50 : decode cX12_mendDigits 50 = .ok (.bipush 10, 2) := by decide +kernel
theorem dX12_mendDigits_52 : decode cX12_mendDigits 52 = .ok (.aload_n 0, 1) := by decide +kernel
theorem dX12_mendDigits_53 : decode cX12_mendDigits 53 = .ok (.getfield 16, 3) := by decide +kernel
theorem dX12_mendDigits_56 : decode cX12_mendDigits 56 = .ok (.iload_n 2, 1) := by decide +kernel
theorem dX12_mendDigits_57 : decode cX12_mendDigits 57 = .ok (.iaload, 1) := by decide +kernel
theorem dX12_mendDigits_58 : decode cX12_mendDigits 58 = .ok (.aload_n 0, 1) := by decide +kernel
theorem dX12_mendDigits_59 : decode cX12_mendDigits 59 = .ok (.getfield 19, 3) := by decide +kernel
theorem dX12_mendDigits_62 : decode cX12_mendDigits 62 = .ok (.iload_n 2, 1) := by decide +kernel
theorem dX12_mendDigits_63 : decode cX12_mendDigits 63 = .ok (.iaload, 1) := by decide +kernel
theorem dX12_mendDigits_64 : decode cX12_mendDigits 64 = .ok (.bipush 10, 2) := by decide +kernel
theorem dX12_mendDigits_66 : decode cX12_mendDigits 66 = .ok (.isub, 1) := by decide +kernel
theorem dX12_mendDigits_67 : decode cX12_mendDigits 67 = .ok (.aload_n 0, 1) := by decide +kernel
theorem dX12_mendDigits_68 : decode cX12_mendDigits 68 = .ok (.getfield 22, 3) := by decide +kernel
theorem dX12_mendDigits_71 : decode cX12_mendDigits 71 = .ok (.iload_n 2, 1) := by decide +kernel
theorem dX12_mendDigits_72 : decode cX12_mendDigits 72 = .ok (.iaload, 1) := by decide +kernel
theorem dX12_mendDigits_73 : decode cX12_mendDigits 73 = .ok (.bipush 10, 2) := by decide +kernel
theorem dX12_mendDigits_75 : decode cX12_mendDigits 75 = .ok (.isub, 1) := by decide +kernel
theorem dX12_mendDigits_76 : decode cX12_mendDigits 76 = .ok (.invokestatic 195, 3) := by decide +kernel
theorem dX12_mendDigits_79 : decode cX12_mendDigits 79 = .ok (.iadd, 1) := by decide +kernel
theorem dX12_mendDigits_80 : decode cX12_mendDigits 80 = .ok (.iastore, 1) := by decide +kernel
theorem dX12_mendDigits_81 : decode cX12_mendDigits 81 = .ok (.aload_n 0, 1) := by decide +kernel
theorem dX12_mendDigits_82 : decode cX12_mendDigits 82 = .ok (.getfield 16, 3) := by decide +kernel
theorem dX12_mendDigits_85 : decode cX12_mendDigits 85 = .ok (.iload_n 2, 1) := by decide +kernel
theorem dX12_mendDigits_86 : decode cX12_mendDigits 86 = .ok (.bipush (-6), 2) := by decide +kernel
theorem dX12_mendDigits_88 : decode cX12_mendDigits 88 = .ok (.iastore, 1) := by decide +kernel
theorem dX12_mendDigits_89 : decode cX12_mendDigits 89 = .ok (.aload_n 0, 1) := by decide +kernel
theorem dX12_mendDigits_90 : decode cX12_mendDigits 90 = .ok (.getfield 22, 3) := by decide +kernel
theorem dX12_mendDigits_93 : decode cX12_mendDigits 93 = .ok (.iload_n 2, 1) := by decide +kernel
theorem dX12_mendDigits_94 : decode cX12_mendDigits 94 = .ok (.bipush (-6), 2) := by decide +kernel
theorem dX12_mendDigits_96 : decode cX12_mendDigits 96 = .ok (.iastore, 1) := by decide +kernel
theorem dX12_mendDigits_97 : decode cX12_mendDigits 97 = .ok (.iinc 1 1, 3) := by decide +kernel
theorem dX12_mendDigits_100 : decode cX12_mendDigits 100 = .ok (.iinc 2 1, 3) := by decide +kernel
theorem dX12_mendDigits_103 : decode cX12_mendDigits 103 = .ok (.goto (-99), 3) := by decide +kernel
theorem dX12_mendDigits_106 : decode cX12_mendDigits 106 = .ok (.iload_n 1, 1) := by decide +kernel
theorem dX12_mendDigits_107 : decode cX12_mendDigits 107 = .ok (.ireturn, 1) := by decide +kernel
set_option maxRecDepth 20000 in
theorem ggX12_mendNeedless_X12_holderOf : GoodIn wsX12_mendNeedless wsX12_holderOf := goodIn_r _ [10, 11, 12, 13, 14, 9, 15, 16, 17, 18, 19, 20, 21, 22, 23, 24, 25, 26, 27, 4, 3, 5, 28, 29, 30, 31, 32, 33, 34, 35, 36, 37, 38, 39, 40, 41, 42, 43, 44, 45, 46, 47, 48, 49, 50, 51, 52, 53, 54, 55, 56, 57, 58, 59, 60, 61, 62, 63, 64, 65, 66, 67, 68, 69, 70, 71, 72, 73, 74, 75, 76, 77, 78, 79, 80, 81, 82, 83, 84, 85, 86, 87] (by decide +kernel) (by decide +kernel)
set_option maxRecDepth 20000 in
theorem gX12_mendNeedless_X12_holderOf : GoodIn wsX12_mendNeedless (wsV RX12 258 RX12 yX12_holderOf wsX12_holderOf) := goodIn_app (goodIn_of _ (by decide +kernel)) ggX12_mendNeedless_X12_holderOf
theorem dX12_mendNeedless_0 : decode cX12_mendNeedless 0 = .ok (.iconst 0, 1) := by decide +kernel
theorem dX12_mendNeedless_1 : decode cX12_mendNeedless 1 = .ok (.istore_n 1, 1) := by decide +kernel
theorem dX12_mendNeedless_2 : decode cX12_mendNeedless 2 = .ok (.iconst 0, 1) := by decide +kernel
theorem dX12_mendNeedless_3 : decode cX12_mendNeedless 3 = .ok (.istore_n 2, 1) := by decide +kernel
theorem dX12_mendNeedless_4 : decode cX12_mendNeedless 4 = .ok (.iload_n 2, 1) := by decide +kernel
theorem dX12_mendNeedless_5 : decode cX12_mendNeedless 5 = .ok (.aload_n 0, 1) := by decide +kernel
theorem dX12_mendNeedless_6 : decode cX12_mendNeedless 6 = .ok (.getfield 181, 3) := by decide +kernel
theorem dX12_mendNeedless_9 : decode cX12_mendNeedless 9 = .ok (.if_icmp .ge 36, 3) := by decide +kernel
theorem dX12_mendNeedless_12 : decode cX12_mendNeedless 12 = .ok (.aload_n 0, 1) := by decide +kernel
theorem dX12_mendNeedless_13 : decode cX12_mendNeedless 13 = .ok (.getfield 55, 3) := by decide +kernel
theorem dX12_mendNeedless_16 : decode cX12_mendNeedless 16 = .ok (.iload_n 2, 1) := by decide +kernel
theorem dX12_mendNeedless_17 : decode cX12_mendNeedless 17 = .ok (.aload_n 0, 1) := by decide +kernel
theorem dX12_mendNeedless_18 : decode cX12_mendNeedless 18 = .ok (.getfield 16, 3) := by decide +kernel
theorem dX12_mendNeedless_21 : decode cX12_mendNeedless 21 = .ok (.iload_n 2, 1) := by decide +kernel
theorem dX12_mendNeedless_22 : decode cX12_mendNeedless 22 = .ok (.iaload, 1) := by decide +kernel
theorem dX12_mendNeedless_23 : decode cX12_mendNeedless 23 = .ok (.bipush (-6), 2) := by decide +kernel
theorem dX12_mendNeedless_25 : decode cX12_mendNeedless 25 = .ok (.if_icmp .ne 8, 3) := by decide +kernel
theorem dX12_mendNeedless_28 : decode cX12_mendNeedless 28 = .ok (.bipush (-6), 2) := by decide +kernel
theorem dX12_mendNeedless_30 : decode cX12_mendNeedless 30 = .ok (.goto 8, 3) := by decide +kernel
theorem dX12_mendNeedless_33 : decode cX12_mendNeedless 33 = .ok (.aload_n 0, 1) := by decide +kernel
theorem dX12_mendNeedless_34 : decode cX12_mendNeedless 34 = .ok (.iload_n 2, 1) := by decide +kernel
theorem dX12_mendNeedless_35 : decode cX12_mendNeedless 35 = .ok (.invokevirtual 258, 3) := by decide +kernel
theorem dX12_mendNeedless_38 : decode cX12_mendNeedless 38 = .ok (.iastore, 1) := by decide +kernel
theorem dX12_mendNeedless_39 : decode cX12_mendNeedless 39 = .ok (.iinc 2 1, 3) := by decide +kernel
theorem dX12_mendNeedless_42 : decode cX12_mendNeedless 42 = .ok (.goto (-38), 3) := by decide +kernel
theorem dX12_mendNeedless_45 : decode cX12_mendNeedless 45 = .ok (.iconst 0, 1) := by decide +kernel
theorem dX12_mendNeedless_46 : decode cX12_mendNeedless 46 = .ok (.istore_n 2, 1) := by decide +kernel
theorem dX12_mendNeedless_47 : decode cX12_mendNeedless 47 = .ok (.iload_n 2, 1) := by decide +kernel
theorem dX12_mendNeedless_48 : decode cX12_mendNeedless 48 = .ok (.aload_n 0, 1) := by decide +kernel
theorem dX12_mendNeedless_49 : decode cX12_mendNeedless 49 = .ok (.getfield 181, 3) := by decide +kernel
theorem dX12_mendNeedless_52 : decode cX12_mendNeedless 52 = .ok (.if_icmp .ge 49, 3) := by decide +kernel
theorem dX12_mendNeedless_55 : decode cX12_mendNeedless 55 = .ok (.aload_n 0, 1) := by decide +kernel
theorem dX12_mendNeedless_56 : decode cX12_mendNeedless 56 = .ok (.getfield 55, 3) := by decide +kernel
theorem dX12_mendNeedless_59 : decode cX12_mendNeedless 59 = .ok (.iload_n 2, 1) := by decide +kernel
theorem dX12_mendNeedless_60 : decode cX12_mendNeedless 60 = .ok (.iaload, 1) := by decide +kernel
theorem dX12_mendNeedless_61 : decode cX12_mendNeedless 61 = .ok (.ifCond .lt 34, 3) := by decide +kernel
theorem dX12_mendNeedless_64 : decode cX12_mendNeedless 64 = .ok (.aload_n 0, 1) := by decide +kernel
theorem dX12_mendNeedless_65 : decode cX12_mendNeedless 65 = .ok (.getfield 16, 3) := by decide +kernel
theorem dX12_mendNeedless_68 : decode cX12_mendNeedless 68 = .ok (.iload_n 2, 1) := by decide +kernel
theorem dX12_mendNeedless_69 : decode cX12_mendNeedless 69 = .ok (.bipush (-6), 2) := by decide +kernel
theorem dX12_mendNeedless_71 : decode cX12_mendNeedless 71 = .ok (.iastore, 1) := by decide +kernel
theorem dX12_mendNeedless_72 : decode cX12_mendNeedless 72 = .ok (.aload_n 0, 1) := by decide +kernel
theorem dX12_mendNeedless_73 : decode cX12_mendNeedless 73 = .ok (.getfield 19, 3) := by decide +kernel
theorem dX12_mendNeedless_76 : decode cX12_mendNeedless 76 = .ok (.iload_n 2, 1) := by decide +kernel
theorem dX12_mendNeedless_77 : decode cX12_mendNeedless 77 = .ok (.aload_n 0, 1) := by decide +kernel
theorem dX12_mendNeedless_78 : decode cX12_mendNeedless 78 = .ok (.getfield 55, 3) := by decide +kernel
theorem dX12_mendNeedless_81 : decode cX12_mendNeedless 81 = .ok (.iload_n 2, 1) := by decide +kernel
theorem dX12_mendNeedless_82 : decode cX12_mendNeedless 82 = .ok (.iaload, 1) := by decide +kernel
theorem dX12_mendNeedless_83 : decode cX12_mendNeedless 83 = .ok (.iastore, 1) := by decide +kernel
theorem dX12_mendNeedless_84 : decode cX12_mendNeedless 84 = .ok (.aload_n 0, 1) := by decide +kernel
theorem dX12_mendNeedless_85 : decode cX12_mendNeedless 85 = .ok (.getfield 22, 3) := by decide +kernel
theorem dX12_mendNeedless_88 : decode cX12_mendNeedless 88 = .ok (.iload_n 2, 1) := by decide +kernel
theorem dX12_mendNeedless_89 : decode cX12_mendNeedless 89 = .ok (.bipush (-6), 2) := by decide +kernel
theorem dX12_mendNeedless_91 : decode cX12_mendNeedless 91 = .ok (.iastore, 1) := by decide +kernel
theorem dX12_mendNeedless_92 : decode cX12_mendNeedless 92 = .ok (.iinc 1 1, 3) := by decide +kernel
theorem dX12_mendNeedless_95 : decode cX12_mendNeedless 95 = .ok (.iinc 2 1, 3) := by decide +kernel
theorem dX12_mendNeedless_98 : decode cX12_mendNeedless 98 = .ok (.goto (-51), 3) := by decide +kernel
theorem dX12_mendNeedless_101 : decode cX12_mendNeedless 101 = .ok (.iload_n 1, 1) := by decide +kernel
theorem dX12_mendNeedless_102 : decode cX12_mendNeedless 102 = .ok (.ireturn, 1) := by decide +kernel
set_option maxRecDepth 20000 in
theorem ggX12_mendDead_X12_isDead : GoodIn wsX12_mendDead wsX12_isDead := goodIn_r _ [11, 5, 12, 13, 14, 10, 15, 16, 1, 4, 6, 17, 18, 19, 20, 21, 22, 23, 24, 25, 26, 27, 28, 29, 30, 31, 32, 33, 34, 35, 36, 37, 38, 39, 40, 41, 42, 43, 44, 45, 46, 47, 48, 49, 50, 51, 52, 53, 54, 55, 56, 57, 58, 59, 60, 61, 62, 63, 64, 65, 66, 67, 68, 69, 70, 71, 72, 73, 74] (by decide +kernel) (by decide +kernel)
set_option maxRecDepth 20000 in
theorem gX12_mendDead_X12_isDead : GoodIn wsX12_mendDead (wsV RX12 255 RX12 yX12_isDead wsX12_isDead) := goodIn_app (goodIn_of _ (by decide +kernel)) ggX12_mendDead_X12_isDead
theorem dX12_mendDead_0 : decode cX12_mendDead 0 = .ok (.iconst 0, 1) := by decide +kernel
theorem dX12_mendDead_1 : decode cX12_mendDead 1 = .ok (.istore_n 1, 1) := by decide +kernel
theorem dX12_mendDead_2 : decode cX12_mendDead 2 = .ok (.iload_n 1, 1) := by decide +kernel
theorem dX12_mendDead_3 : decode cX12_mendDead 3 = .ok (.aload_n 0, 1) := by decide +kernel
theorem dX12_mendDead_4 : decode cX12_mendDead 4 = .ok (.getfield 181, 3) := by decide +kernel
theorem dX12_mendDead_7 : decode cX12_mendDead 7 = .ok (.if_icmp .ge 54, 3) := by decide +kernel
theorem dX12_mendDead_10 : decode cX12_mendDead 10 = .ok (.aload_n 0, 1) := by decide +kernel
theorem dX12_mendDead_11 : decode cX12_mendDead 11 = .ok (.getfield 61, 3) := by decide +kernel
theorem dX12_mendDead_14 : decode cX12_mendDead 14 = .ok (.iload_n 1, 1) := by decide +kernel
theorem dX12_mendDead_15 : decode cX12_mendDead 15 = .ok (.aload_n 0, 1) := by decide +kernel
theorem dX12_mendDead_16 : decode cX12_mendDead 16 = .ok (.iload_n 1, 1) := by decide +kernel
theorem dX12_mendDead_17 : decode cX12_mendDead 17 = .ok (.invokevirtual 255, 3) := by decide +kernel
theorem dX12_mendDead_20 : decode cX12_mendDead 20 = .ok (.ifCond .ne 29, 3) := by decide +kernel
theorem dX12_mendDead_23 : decode cX12_mendDead 23 = .ok (.aload_n 0, 1) := by decide +kernel
theorem dX12_mendDead_24 : decode cX12_mendDead 24 = .ok (.getfield 16, 3) := by decide +kernel
theorem dX12_mendDead_27 : decode cX12_mendDead 27 = .ok (.iload_n 1, 1) := by decide +kernel
theorem dX12_mendDead_28 : decode cX12_mendDead 28 = .ok (.iaload, 1) := by decide +kernel
theorem dX12_mendDead_29 : decode cX12_mendDead 29 = .ok (.bipush (-6), 2) := by decide +kernel
theorem dX12_mendDead_31 : decode cX12_mendDead 31 = .ok (.if_icmp .ne 22, 3) := by decide +kernel
theorem dX12_mendDead_34 : decode cX12_mendDead 34 = .ok (.aload_n 0, 1) := by decide +kernel
theorem dX12_mendDead_35 : decode cX12_mendDead 35 = .ok (.getfield 19, 3) := by decide +kernel
theorem dX12_mendDead_38 : decode cX12_mendDead 38 = .ok (.iload_n 1, 1) := by decide +kernel
theorem dX12_mendDead_39 : decode cX12_mendDead 39 = .ok (.iaload, 1) := by decide +kernel
theorem dX12_mendDead_40 : decode cX12_mendDead 40 = .ok (.aload_n 0, 1) := by decide +kernel
theorem dX12_mendDead_41 : decode cX12_mendDead 41 = .ok (.getfield 13, 3) := by decide +kernel
theorem dX12_mendDead_44 : decode cX12_mendDead 44 = .ok (.iload_n 1, 1) := by decide +kernel
theorem dX12_mendDead_45 : decode cX12_mendDead 45 = .ok (.iaload, 1) := by decide +kernel
theorem dX12_mendDead_46 : decode cX12_mendDead 46 = .ok (.if_icmp .ne 7, 3) := by decide +kernel
theorem dX12_mendDead_49 : decode cX12_mendDead 49 = .ok (.iconst 1, 1) := by decide +kernel
theorem dX12_mendDead_50 : decode cX12_mendDead 50 = .ok (.goto 4, 3) := by decide +kernel
theorem dX12_mendDead_53 : decode cX12_mendDead 53 = .ok (.iconst 0, 1) := by decide +kernel
theorem dX12_mendDead_54 : decode cX12_mendDead 54 = .ok (.bastore, 1) := by decide +kernel
theorem dX12_mendDead_55 : decode cX12_mendDead 55 = .ok (.iinc 1 1, 3) := by decide +kernel
theorem dX12_mendDead_58 : decode cX12_mendDead 58 = .ok (.goto (-56), 3) := by decide +kernel
theorem dX12_mendDead_61 : decode cX12_mendDead 61 = .ok (.iconst 0, 1) := by decide +kernel
theorem dX12_mendDead_62 : decode cX12_mendDead 62 = .ok (.istore_n 1, 1) := by decide +kernel
theorem dX12_mendDead_63 : decode cX12_mendDead 63 = .ok (.iconst 0, 1) := by decide +kernel
theorem dX12_mendDead_64 : decode cX12_mendDead 64 = .ok (.istore_n 2, 1) := by decide +kernel
theorem dX12_mendDead_65 : decode cX12_mendDead 65 = .ok (.iload_n 2, 1) := by decide +kernel
theorem dX12_mendDead_66 : decode cX12_mendDead 66 = .ok (.aload_n 0, 1) := by decide +kernel
theorem dX12_mendDead_67 : decode cX12_mendDead 67 = .ok (.getfield 181, 3) := by decide +kernel
theorem dX12_mendDead_70 : decode cX12_mendDead 70 = .ok (.if_icmp .ge 69, 3) := by decide +kernel
theorem dX12_mendDead_73 : decode cX12_mendDead 73 = .ok (.aload_n 0, 1) := by decide +kernel
theorem dX12_mendDead_74 : decode cX12_mendDead 74 = .ok (.getfield 61, 3) := by decide +kernel
theorem dX12_mendDead_77 : decode cX12_mendDead 77 = .ok (.iload_n 2, 1) := by decide +kernel
theorem dX12_mendDead_78 : decode cX12_mendDead 78 = .ok (.baload, 1) := by decide +kernel
theorem dX12_mendDead_79 : decode cX12_mendDead 79 = .ok (.ifCond .ne 54, 3) := by decide +kernel
theorem dX12_mendDead_82 : decode cX12_mendDead 82 = .ok (.aload_n 0, 1) := by decide +kernel
theorem dX12_mendDead_83 : decode cX12_mendDead 83 = .ok (.getfield 13, 3) := by decide +kernel
theorem dX12_mendDead_86 : decode cX12_mendDead 86 = .ok (.iload_n 1, 1) := by decide +kernel
theorem dX12_mendDead_87 : decode cX12_mendDead 87 = .ok (.aload_n 0, 1) := by decide +kernel
theorem dX12_mendDead_88 : decode cX12_mendDead 88 = .ok (.getfield 13, 3) := by decide +kernel
theorem dX12_mendDead_91 : decode cX12_mendDead 91 = .ok (.iload_n 2, 1) := by decide +kernel
theorem dX12_mendDead_92 : decode cX12_mendDead 92 = .ok (.iaload, 1) := by decide +kernel
theorem dX12_mendDead_93 : decode cX12_mendDead 93 = .ok (.iastore, 1) := by decide +kernel
theorem dX12_mendDead_94 : decode cX12_mendDead 94 = .ok (.aload_n 0, 1) := by decide +kernel
theorem dX12_mendDead_95 : decode cX12_mendDead 95 = .ok (.getfield 16, 3) := by decide +kernel
theorem dX12_mendDead_98 : decode cX12_mendDead 98 = .ok (.iload_n 1, 1) := by decide +kernel
theorem dX12_mendDead_99 : decode cX12_mendDead 99 = .ok (.aload_n 0, 1) := by decide +kernel
theorem dX12_mendDead_100 : decode cX12_mendDead 100 = .ok (.getfield 16, 3) := by decide +kernel
theorem dX12_mendDead_103 : decode cX12_mendDead 103 = .ok (.iload_n 2, 1) := by decide +kernel
theorem dX12_mendDead_104 : decode cX12_mendDead 104 = .ok (.iaload, 1) := by decide +kernel
theorem dX12_mendDead_105 : decode cX12_mendDead 105 = .ok (.iastore, 1) := by decide +kernel
theorem dX12_mendDead_106 : decode cX12_mendDead 106 = .ok (.aload_n 0, 1) := by decide +kernel
theorem dX12_mendDead_107 : decode cX12_mendDead 107 = .ok (.getfield 19, 3) := by decide +kernel
theorem dX12_mendDead_110 : decode cX12_mendDead 110 = .ok (.iload_n 1, 1) := by decide +kernel
theorem dX12_mendDead_111 : decode cX12_mendDead 111 = .ok (.aload_n 0, 1) := by decide +kernel
theorem dX12_mendDead_112 : decode cX12_mendDead 112 = .ok (.getfield 19, 3) := by decide +kernel
theorem dX12_mendDead_115 : decode cX12_mendDead 115 = .ok (.iload_n 2, 1) := by decide +kernel
theorem dX12_mendDead_116 : decode cX12_mendDead 116 = .ok (.iaload, 1) := by decide +kernel
theorem dX12_mendDead_117 : decode cX12_mendDead 117 = .ok (.iastore, 1) := by decide +kernel
theorem dX12_mendDead_118 : decode cX12_mendDead 118 = .ok (.aload_n 0, 1) := by decide +kernel
theorem dX12_mendDead_119 : decode cX12_mendDead 119 = .ok (.getfield 22, 3) := by decide +kernel
theorem dX12_mendDead_122 : decode cX12_mendDead 122 = .ok (.iload_n 1, 1) := by decide +kernel
theorem dX12_mendDead_123 : decode cX12_mendDead 123 = .ok (.aload_n 0, 1) := by decide +kernel
theorem dX12_mendDead_124 : decode cX12_mendDead 124 = .ok (.getfield 22, 3) := by decide +kernel
theorem dX12_mendDead_127 : decode cX12_mendDead 127 = .ok (.iload_n 2, 1) := by decide +kernel
theorem dX12_mendDead_128 : decode cX12_mendDead 128 = .ok (.iaload, 1) := by decide +kernel
theorem dX12_mendDead_129 : decode cX12_mendDead 129 = .ok (.iastore, 1) := by decide +kernel
theorem dX12_mendDead_130 : decode cX12_mendDead 130 = .ok (.iinc 1 1, 3) := by decide +kernel
theorem dX12_mendDead_133 : decode cX12_mendDead 133 = .ok (.iinc 2 1, 3) := by decide +kernel
theorem dX12_mendDead_136 : decode cX12_mendDead 136 = .ok (.goto (-71), 3) := by decide +kernel
theorem dX12_mendDead_139 : decode cX12_mendDead 139 = .ok (.aload_n 0, 1) := by decide +kernel
theorem dX12_mendDead_140 : decode cX12_mendDead 140 = .ok (.getfield 181, 3) := by decide +kernel
theorem dX12_mendDead_143 : decode cX12_mendDead 143 = .ok (.iload_n 1, 1) := by decide +kernel
theorem dX12_mendDead_144 : decode cX12_mendDead 144 = .ok (.isub, 1) := by decide +kernel
theorem dX12_mendDead_145 : decode cX12_mendDead 145 = .ok (.istore_n 2, 1) := by decide +kernel
theorem dX12_mendDead_146 : decode cX12_mendDead 146 = .ok (.aload_n 0, 1) := by decide +kernel
theorem dX12_mendDead_147 : decode cX12_mendDead 147 = .ok (.iload_n 1, 1) := by decide +kernel
theorem dX12_mendDead_148 : decode cX12_mendDead 148 = .ok (.putfield 181, 3) := by decide +kernel
theorem dX12_mendDead_151 : decode cX12_mendDead 151 = .ok (.iload_n 2, 1) := by decide +kernel
theorem dX12_mendDead_152 : decode cX12_mendDead 152 = .ok (.ireturn, 1) := by decide +kernel
set_option maxRecDepth 20000 in
theorem ggX12_mendBy_X12_mendKnown : GoodIn wsX12_mendBy wsX12_mendKnown := goodIn_r _ [5, 6, 7, 8, 9, 10, 11, 12, 13, 4, 14, 15, 16, 17, 18, 19, 20, 21, 22, 23, 24, 25, 26, 27, 28, 93, 94, 95, 96, 97, 98, 99, 100, 101, 102, 103, 104, 105, 106, 107, 108, 109, 110, 111, 112, 113, 114, 115, 116, 117, 118, 119, 120, 121, 122, 123, 124, 125, 126, 127, 128, 129, 130, 131, 132, 133, 134, 135, 136, 137, 138, 139, 140] (by decide +kernel) (by decide +kernel)
set_option maxRecDepth 20000 in
theorem gX12_mendBy_X12_mendKnown : GoodIn wsX12_mendBy (wsV RX12 264 RX12 yX12_mendKnown wsX12_mendKnown) := goodIn_app (goodIn_of _ (by decide +kernel)) ggX12_mendBy_X12_mendKnown
set_option maxRecDepth 20000 in
theorem ggX12_mendBy_X12_mendDigits : GoodIn wsX12_mendBy wsX12_mendDigits := goodIn_r _ [32, 6, 20, 8, 10, 26, 27, 4, 28, 93, 94, 95, 96, 97, 98, 99, 100, 101, 102, 103, 104, 105, 106, 107, 108, 109, 110, 111, 112, 113, 114, 115, 116, 117, 118, 119, 120, 121, 122, 123, 124, 125, 126, 127, 128, 129, 130, 131, 132, 133, 134, 135, 136, 137, 138, 139, 140] (by decide +kernel) (by decide +kernel)
set_option maxRecDepth 20000 in
theorem gX12_mendBy_X12_mendDigits : GoodIn wsX12_mendBy (wsV RX12 268 RX12 yX12_mendDigits wsX12_mendDigits) := goodIn_app (goodIn_of _ (by decide +kernel)) ggX12_mendBy_X12_mendDigits
set_option maxRecDepth 20000 in
theorem ggX12_mendBy_X12_mendNeedless : GoodIn wsX12_mendBy wsX12_mendNeedless := goodIn_r _ [36, 6, 7, 20, 8, 10, 37, 38, 39, 4, 40, 41, 42, 43, 44, 45, 21, 46, 47, 48, 49, 50, 51, 52, 53, 54, 55, 56, 57, 58, 59, 60, 61, 62, 63, 64, 65, 66, 67, 68, 93, 94, 95, 96, 97, 98, 99, 100, 101, 102, 103, 104, 105, 106, 107, 108, 109, 110, 111, 112, 113, 114, 115, 116, 117, 118, 119, 120, 121, 122, 123, 124, 125, 126, 127, 128, 129, 130, 131, 132, 133, 134, 135, 136, 137, 138, 139, 140] (by decide +kernel) (by decide +kernel)
set_option maxRecDepth 20000 in
theorem gX12_mendBy_X12_mendNeedless : GoodIn wsX12_mendBy (wsV RX12 271 RX12 yX12_mendNeedless wsX12_mendNeedless) := goodIn_app (goodIn_of _ (by decide +kernel)) ggX12_mendBy_X12_mendNeedless
set_option maxRecDepth 20000 in
theorem ggX12_mendBy_X12_mendDead : GoodIn wsX12_mendBy wsX12_mendDead := goodIn_r _ [72, 6, 73, 20, 8, 21, 10, 74, 75, 76, 4, 77, 78, 79, 80, 81, 82, 83, 84, 85, 86, 87, 88, 89, 90, 91, 92, 93, 94, 95, 96, 97, 98, 99, 100, 101, 102, 103, 104, 105, 106, 107, 108, 109, 110, 111, 112, 113, 114, 115, 116, 117, 118, 119, 120, 121, 122, 123, 124, 125, 126, 127, 128, 129, 130, 131, 132, 133, 134, 135, 136, 137, 138, 139, 140] (by decide +kernel) (by decide +kernel)
set_option maxRecDepth 20000 in
theorem gX12_mendBy_X12_mendDead : GoodIn wsX12_mendBy (wsV RX12 274 RX12 yX12_mendDead wsX12_mendDead) := goodIn_app (goodIn_of _ (by decide +kernel)) ggX12_mendBy_X12_mendDead
theorem dX12_mendBy_0 : decode cX12_mendBy 0 = .ok (.iload_n 1, 1) := by decide +kernel
theorem dX12_mendBy_1 : decode cX12_mendBy 1 = .ok (.tableswitch 42 1 3 #[27, 32, 37], 27) := by decide +kernel
theorem dX12_mendBy_28 : decode cX12_mendBy 28 = .ok (.aload_n 0, 1) := by decide +kernel
theorem dX12_mendBy_29 : decode cX12_mendBy 29 = .ok (.invokevirtual 264, 3) := by decide +kernel
theorem dX12_mendBy_32 : decode cX12_mendBy 32 = .ok (.ireturn, 1) := by decide +kernel
theorem dX12_mendBy_33 : decode cX12_mendBy 33 = .ok (.aload_n 0, 1) := by decide +kernel
theorem dX12_mendBy_34 : decode cX12_mendBy 34 = .ok (.invokevirtual 268, 3) := by decide +kernel
theorem dX12_mendBy_37 : decode cX12_mendBy 37 = .ok (.ireturn, 1) := by decide +kernel
theorem dX12_mendBy_38 : decode cX12_mendBy 38 = .ok (.aload_n 0, 1) := by decide +kernel
theorem dX12_mendBy_39 : decode cX12_mendBy 39 = .ok (.invokevirtual 271, 3) := by decide +kernel
theorem dX12_mendBy_42 : decode cX12_mendBy 42 = .ok (.ireturn, 1) := by decide +kernel
theorem dX12_mendBy_43 : decode cX12_mendBy 43 = .ok (.aload_n 0, 1) := by decide +kernel
theorem dX12_mendBy_44 : decode cX12_mendBy 44 = .ok (.invokevirtual 274, 3) := by decide +kernel
theorem dX12_mendBy_47 : decode cX12_mendBy 47 = .ok (.ireturn, 1) := by decide +kernel
set_option maxRecDepth 20000 in
theorem ggX12_mend_X12_in : GoodIn wsX12_mend wsX12_in := goodIn_r _ [5] (by decide +kernel) (by decide +kernel)
set_option maxRecDepth 20000 in
theorem gX12_mend_X12_in : GoodIn wsX12_mend (va_wsS RX12 125 yX12_in wsX12_in) := goodIn_app (goodIn_of _ (by decide +kernel)) ggX12_mend_X12_in
set_option maxRecDepth 20000 in
theorem ggX12_mend_X12_mendBy : GoodIn wsX12_mend wsX12_mendBy := goodIn_r _ [9, 10, 11, 12, 4, 13, 14, 15, 16, 17, 18, 19, 20, 21, 22, 23, 24, 25, 26, 27, 28, 29, 30, 31, 32, 33, 34, 35, 36, 37, 38, 39, 40, 41, 42, 43, 44, 45, 46, 47, 48, 49, 50, 51, 52, 53, 54, 55, 56, 57, 58, 59, 60, 61, 62, 63, 64, 65, 66, 67, 68, 69, 70, 71, 72, 73, 74, 75, 76, 77, 78, 79, 80, 81, 82, 83, 84, 85, 86, 87, 88, 89, 90, 91, 92, 93, 94, 95, 96, 97, 2, 3, 5, 98, 99, 100, 101, 102, 103, 104, 105, 106, 107, 108, 109, 110, 111, 112, 113, 114, 115, 116, 117, 118, 119, 120, 121, 122, 123, 124, 125, 126, 127, 128, 129, 130, 131, 132, 133, 134, 135, 136, 137, 138, 139, 140, 141, 142, 143, 144, 145] (by decide +kernel) (by decide +kernel)
set_option maxRecDepth 20000 in
theorem gX12_mend_X12_mendBy : GoodIn wsX12_mend (wsV RX12 279 RX12 yX12_mendBy wsX12_mendBy) := goodIn_app (goodIn_of _ (by decide +kernel)) ggX12_mend_X12_mendBy
theorem dX12_mend_0 : decode cX12_mend 0 = .ok (.iload_n 1, 1) := by decide +kernel
theorem dX12_mend_1 : decode cX12_mend 1 = .ok (.i2l, 1) := by decide +kernel
theorem dX12_mend_2 : decode cX12_mend 2 = .ok (.lconst 1, 1) := by decide +kernel
theorem dX12_mend_3 : decode cX12_mend 3 = .ok (.ldc2_w 277, 3) := by decide +kernel
theorem dX12_mend_6 : decode cX12_mend 6 = .ok (.invokestatic 125, 3) := by decide +kernel
theorem dX12_mend_9 : decode cX12_mend 9 = .ok (.ifCond .eq 11, 3) := by decide +kernel
theorem dX12_mend_12 : decode cX12_mend 12 = .ok (.aload_n 0, 1) := by decide +kernel
theorem dX12_mend_13 : decode cX12_mend 13 = .ok (.iload_n 1, 1) := by decide +kernel
theorem dX12_mend_14 : decode cX12_mend 14 = .ok (.invokevirtual 279, 3) := by decide +kernel
theorem dX12_mend_17 : decode cX12_mend 17 = .ok (.goto 5, 3) := by decide +kernel
theorem dX12_mend_20 : decode cX12_mend 20 = .ok (.bipush (-2), 2) := by decide +kernel
theorem dX12_mend_22 : decode cX12_mend 22 = .ok (.ireturn, 1) := by decide +kernel
set_option maxRecDepth 20000 in
theorem ggX12_clean_X12_mendBy : GoodIn wsX12_clean wsX12_mendBy := goodIn_r _ [6, 7, 8, 9, 5, 10, 1, 11, 12, 13, 14, 15, 16, 17, 18, 19, 20, 21, 22, 23, 24, 25, 26, 27, 28, 29, 30, 31, 32, 33, 34, 35, 36, 37, 38, 39, 40, 41, 42, 43, 44, 45, 46, 47, 48, 49, 50, 51, 52, 53, 54, 55, 56, 57, 58, 59, 60, 61, 62, 63, 64, 65, 66, 67, 68, 69, 70, 71, 72, 73, 74, 75, 76, 77, 78, 79, 80, 81, 82, 83, 84, 85, 86, 87, 88, 89, 90, 91, 92, 93, 94, 95, 96, 97, 98, 99, 100, 101, 102, 103, 104, 105, 106, 107, 108, 109, 110, 111, 112, 113, 114, 115, 116, 117, 118, 119, 120, 121, 122, 123, 124, 125, 126, 127, 128, 129, 130, 131, 132, 133, 134, 135, 136, 137, 138, 139, 140, 141, 142, 143, 144] (by decide +kernel) (by decide +kernel)
set_option maxRecDepth 20000 in
theorem gX12_clean_X12_mendBy : GoodIn wsX12_clean (wsV RX12 279 RX12 yX12_mendBy wsX12_mendBy) := goodIn_app (goodIn_of _ (by decide +kernel)) ggX12_clean_X12_mendBy
theorem dX12_clean_0 : decode cX12_clean 0 = .ok (.iconst 1, 1) := by decide +kernel
theorem dX12_clean_1 : decode cX12_clean 1 = .ok (.istore_n 1, 1) := by decide +kernel
theorem dX12_clean_2 : decode cX12_clean 2 = .ok (.iload_n 1, 1) := by decide +kernel
theorem dX12_clean_3 : decode cX12_clean 3 = .ok (.ifCond .le 29, 3) := by decide +kernel
theorem dX12_clean_6 : decode cX12_clean 6 = .ok (.iconst 0, 1) := by decide +kernel
theorem dX12_clean_7 : decode cX12_clean 7 = .ok (.istore_n 1, 1) := by decide +kernel
theorem dX12_clean_8 : decode cX12_clean 8 = .ok (.iconst 1, 1) := by decide +kernel
theorem dX12_clean_9 : decode cX12_clean 9 = .ok (.istore_n 2, 1) := by decide +kernel
theorem dX12_clean_10 : decode cX12_clean 10 = .ok (.iload_n 2, 1) := by decide +kernel
theorem dX12_clean_11 : decode cX12_clean 11 = .ok (.iconst 4, 1) := by decide +kernel
theorem dX12_clean_12 : decode cX12_clean 12 = .ok (.if_icmp .gt 17, 3) := by decide +kernel
theorem dX12_clean_15 : decode cX12_clean 15 = .ok (.iload_n 1, 1) := by decide +kernel
theorem dX12_clean_16 : decode cX12_clean 16 = .ok (.aload_n 0, 1) := by decide +kernel
theorem dX12_clean_17 : decode cX12_clean 17 = .ok (.iload_n 2, 1) := by decide +kernel
theorem dX12_clean_18 : decode cX12_clean 18 = .ok (.invokevirtual 279, 3) := by decide +kernel
theorem dX12_clean_21 : decode cX12_clean 21 = .ok (.iadd, 1) := by decide +kernel
theorem dX12_clean_22 : decode cX12_clean 22 = .ok (.istore_n 1, 1) := by decide +kernel
theorem dX12_clean_23 : decode cX12_clean 23 = .ok (.iinc 2 1, 3) := by decide +kernel
theorem dX12_clean_26 : decode cX12_clean 26 = .ok (.goto (-16), 3) := by decide +kernel
theorem dX12_clean_29 : decode cX12_clean 29 = .ok (.goto (-27), 3) := by decide +kernel
theorem dX12_clean_32 : decode cX12_clean 32 = .ok (.aload_n 0, 1) := by decide +kernel
theorem dX12_clean_33 : decode cX12_clean 33 = .ok (.getfield 181, 3) := by decide +kernel
theorem dX12_clean_36 : decode cX12_clean 36 = .ok (.ireturn, 1) := by decide +kernel
theorem dX12_doesRead_0 : decode cX12_doesRead 0 = .ok (.aload_n 0, 1) := by decide +kernel
theorem dX12_doesRead_1 : decode cX12_doesRead 1 = .ok (.getfield 19, 3) := by decide +kernel
theorem dX12_doesRead_4 : decode cX12_doesRead 4 = .ok (.iload_n 1, 1) := by decide +kernel
theorem dX12_doesRead_5 : decode cX12_doesRead 5 = .ok (.iaload, 1) := by decide +kernel
theorem dX12_doesRead_6 : decode cX12_doesRead 6 = .ok (.iload_n 2, 1) := by decide +kernel
theorem dX12_doesRead_7 : decode cX12_doesRead 7 = .ok (.if_icmp .eq 13, 3) := by decide +kernel
theorem dX12_doesRead_10 : decode cX12_doesRead 10 = .ok (.aload_n 0, 1) := by decide +kernel
theorem dX12_doesRead_11 : decode cX12_doesRead 11 = .ok (.getfield 22, 3) := by decide +kernel
theorem dX12_doesRead_14 : decode cX12_doesRead 14 = .ok (.iload_n 1, 1) := by decide +kernel
theorem dX12_doesRead_15 : decode cX12_doesRead 15 = .ok (.iaload, 1) := by decide +kernel
theorem dX12_doesRead_16 : decode cX12_doesRead 16 = .ok (.iload_n 2, 1) := by decide +kernel
theorem dX12_doesRead_17 : decode cX12_doesRead 17 = .ok (.if_icmp .ne 7, 3) := by decide +kernel
theorem dX12_doesRead_20 : decode cX12_doesRead 20 = .ok (.iconst 1, 1) := by decide +kernel
theorem dX12_doesRead_21 : decode cX12_doesRead 21 = .ok (.goto 4, 3) := by decide +kernel
theorem dX12_doesRead_24 : decode cX12_doesRead 24 = .ok (.iconst 0, 1) := by decide +kernel
theorem dX12_doesRead_25 : decode cX12_doesRead 25 = .ok (.ireturn, 1) := by decide +kernel
theorem dX12_makerOf_0 : decode cX12_makerOf 0 = .ok (.bipush (-6), 2) := by decide +kernel
theorem dX12_makerOf_2 : decode cX12_makerOf 2 = .ok (.istore_n 3, 1) := by decide +kernel
theorem dX12_makerOf_3 : decode cX12_makerOf 3 = .ok (.iconst 0, 1) := by decide +kernel
theorem dX12_makerOf_4 : decode cX12_makerOf 4 = .ok (.istore 4, 2) := by decide +kernel
theorem dX12_makerOf_6 : decode cX12_makerOf 6 = .ok (.iload 4, 2) := by decide +kernel
theorem dX12_makerOf_8 : decode cX12_makerOf 8 = .ok (.iload_n 2, 1) := by decide +kernel
theorem dX12_makerOf_9 : decode cX12_makerOf 9 = .ok (.if_icmp .ge 27, 3) := by decide +kernel
theorem dX12_makerOf_12 : decode cX12_makerOf 12 = .ok (.aload_n 0, 1) := by decide +kernel
theorem dX12_makerOf_13 : decode cX12_makerOf 13 = .ok (.getfield 13, 3) := by decide +kernel
theorem dX12_makerOf_16 : decode cX12_makerOf 16 = .ok (.iload 4, 2) := by decide +kernel
theorem dX12_makerOf_18 : decode cX12_makerOf 18 = .ok (.iaload, 1) := by decide +kernel
theorem dX12_makerOf_19 : decode cX12_makerOf 19 = .ok (.iload_n 1, 1) := by decide +kernel
theorem dX12_makerOf_20 : decode cX12_makerOf 20 = .ok (.if_icmp .ne 8, 3) := by decide +kernel
theorem dX12_makerOf_23 : decode cX12_makerOf 23 = .ok (.iload 4, 2) := by decide +kernel
theorem dX12_makerOf_25 : decode cX12_makerOf 25 = .ok (.goto 4, 3) := by decide +kernel
theorem dX12_makerOf_28 : decode cX12_makerOf 28 = .ok (.iload_n 3, 1) := by decide +kernel
theorem dX12_makerOf_29 : decode cX12_makerOf 29 = .ok (.istore_n 3, 1) := by decide +kernel
theorem dX12_makerOf_30 : decode cX12_makerOf 30 = .ok (.iinc 4 1, 3) := by decide +kernel
theorem dX12_makerOf_33 : decode cX12_makerOf 33 = .ok (.goto (-27), 3) := by decide +kernel
theorem dX12_makerOf_36 : decode cX12_makerOf 36 = .ok (.iload_n 3, 1) := by decide +kernel
theorem dX12_makerOf_37 : decode cX12_makerOf 37 = .ok (.ireturn, 1) := by decide +kernel
set_option maxRecDepth 20000 in
theorem ggX12_sourcesOf_X12_isRegister : GoodIn wsX12_sourcesOf wsX12_isRegister := goodIn_r _ [6, 7, 8, 9, 5, 10] (by decide +kernel) (by decide +kernel)
set_option maxRecDepth 20000 in
theorem gX12_sourcesOf_X12_isRegister : GoodIn wsX12_sourcesOf (va_wsS RX12 218 yX12_isRegister wsX12_isRegister) := goodIn_app (goodIn_of _ (by decide +kernel)) ggX12_sourcesOf_X12_isRegister
set_option maxRecDepth 20000 in
theorem ggX12_sourcesOf_X12_makerOf : GoodIn wsX12_sourcesOf wsX12_makerOf := goodIn_r _ [14, 15, 16, 17, 18, 19, 20, 21, 22, 23, 24, 25, 26, 27, 28, 29, 30, 31, 32, 33, 34, 35, 36, 37, 38, 39, 40, 41, 42, 43, 44, 45, 46, 47, 48, 49, 50, 51, 52, 53, 54, 55, 56, 57, 58, 59, 60, 61, 62, 63] (by decide +kernel) (by decide +kernel)
set_option maxRecDepth 20000 in
theorem gX12_sourcesOf_X12_makerOf : GoodIn wsX12_sourcesOf (wsV RX12 282 RX12 yX12_makerOf wsX12_makerOf) := goodIn_app (goodIn_of _ (by decide +kernel)) ggX12_sourcesOf_X12_makerOf
theorem dX12_sourcesOf_0 : decode cX12_sourcesOf 0 = .ok (.iconst 0, 1) := by decide +kernel
theorem dX12_sourcesOf_1 : decode cX12_sourcesOf 1 = .ok (.istore_n 2, 1) := by decide +kernel
theorem dX12_sourcesOf_2 : decode cX12_sourcesOf 2 = .ok (.iconst 0, 1) := by decide +kernel
theorem dX12_sourcesOf_3 : decode cX12_sourcesOf 3 = .ok (.istore_n 3, 1) := by decide +kernel
theorem dX12_sourcesOf_4 : decode cX12_sourcesOf 4 = .ok (.iload_n 3, 1) := by decide +kernel
theorem dX12_sourcesOf_5 : decode cX12_sourcesOf 5 = .ok (.iconst 2, 1) := by decide +kernel
theorem dX12_sourcesOf_6 : decode cX12_sourcesOf 6 = .ok (.if_icmp .ge 68, 3) := by decide +kernel
theorem dX12_sourcesOf_9 : decode cX12_sourcesOf 9 = .ok (.iload_n 3, 1) := by decide +kernel
theorem dX12_sourcesOf_10 : decode cX12_sourcesOf 10 = .ok (.ifCond .ne 12, 3) := by decide +kernel
theorem dX12_sourcesOf_13 : decode cX12_sourcesOf 13 = .ok (.aload_n 0, 1) := by decide +kernel
theorem dX12_sourcesOf_14 : decode cX12_sourcesOf 14 = .ok (.getfield 19, 3) := by decide +kernel
theorem dX12_sourcesOf_17 : decode cX12_sourcesOf 17 = .ok (.iload_n 1, 1) := by decide +kernel
theorem dX12_sourcesOf_18 : decode cX12_sourcesOf 18 = .ok (.iaload, 1) := by decide +kernel
theorem dX12_sourcesOf_19 : decode cX12_sourcesOf 19 = .ok (.goto 9, 3) := by decide +kernel
theorem dX12_sourcesOf_22 : decode cX12_sourcesOf 22 = .ok (.aload_n 0, 1) := by decide +kernel
theorem dX12_sourcesOf_23 : decode cX12_sourcesOf 23 = .ok (.getfield 22, 3) := by decide +kernel
theorem dX12_sourcesOf_26 : decode cX12_sourcesOf 26 = .ok (.iload_n 1, 1) := by decide +kernel
theorem dX12_sourcesOf_27 : decode cX12_sourcesOf 27 = .ok (.iaload, 1) := by decide +kernel
theorem dX12_sourcesOf_28 : decode cX12_sourcesOf 28 = .ok (.istore 4, 2) := by decide +kernel
theorem dX12_sourcesOf_30 : decode cX12_sourcesOf 30 = .ok (.iload 4, 2) := by decide +kernel
theorem dX12_sourcesOf_32 : decode cX12_sourcesOf 32 = .ok (.invokestatic 218, 3) := by decide +kernel
theorem dX12_sourcesOf_35 : decode cX12_sourcesOf 35 = .ok (.ifCond .eq 13, 3) := by decide +kernel
theorem dX12_sourcesOf_38 : decode cX12_sourcesOf 38 = .ok (.aload_n 0, 1) := by decide +kernel
theorem dX12_sourcesOf_39 : decode cX12_sourcesOf 39 = .ok (.iload 4, 2) := by decide +kernel
theorem dX12_sourcesOf_41 : decode cX12_sourcesOf 41 = .ok (.iload_n 1, 1) := by decide +kernel
theorem dX12_sourcesOf_42 : decode cX12_sourcesOf 42 = .ok (.invokevirtual 282, 3) := by decide +kernel
theorem dX12_sourcesOf_45 : decode cX12_sourcesOf 45 = .ok (.goto 5, 3) := by decide +kernel
theorem dX12_sourcesOf_48 : decode cX12_sourcesOf 48 = .ok (.bipush (-6), 2) := by decide +kernel
theorem dX12_sourcesOf_50 : decode cX12_sourcesOf 50 = .ok (.istore 5, 2) := by decide +kernel
theorem dX12_sourcesOf_52 : decode cX12_sourcesOf 52 = .ok (.iload_n 2, 1) := by decide +kernel
theorem dX12_sourcesOf_53 : decode cX12_sourcesOf 53 = .ok (.iload 5, 2) := by decide +kernel
theorem dX12_sourcesOf_55 : decode cX12_sourcesOf 55 = .ok (.ifCond .ge 7, 3) := by decide +kernel
theorem dX12_sourcesOf_58 : decode cX12_sourcesOf 58 = .ok (.iconst 0, 1) := by decide +kernel
theorem dX12_sourcesOf_59 : decode cX12_sourcesOf 59 = .ok (.goto 7, 3) := by decide +kernel
theorem dX12_sourcesOf_62 : decode cX12_sourcesOf 62 = .ok (.iconst 1, 1) := by decide +kernel
theorem dX12_sourcesOf_63 : decode cX12_sourcesOf 63 = .ok (.iload 5, 2) := by decide +kernel
theorem dX12_sourcesOf_65 : decode cX12_sourcesOf 65 = .ok (.ishl, 1) := by decide +kernel
theorem dX12_sourcesOf_66 : decode cX12_sourcesOf 66 = .ok (.ior, 1) := by decide +kernel
theorem dX12_sourcesOf_67 : decode cX12_sourcesOf 67 = .ok (.istore_n 2, 1) := by decide +kernel
theorem dX12_sourcesOf_68 : decode cX12_sourcesOf 68 = .ok (.iinc 3 1, 3) := by decide +kernel
theorem dX12_sourcesOf_71 : decode cX12_sourcesOf 71 = .ok (.goto (-67), 3) := by decide +kernel
theorem dX12_sourcesOf_74 : decode cX12_sourcesOf 74 = .ok (.iload_n 2, 1) := by decide +kernel
theorem dX12_sourcesOf_75 : decode cX12_sourcesOf 75 = .ok (.ireturn, 1) := by decide +kernel
set_option maxRecDepth 20000 in
theorem ggX12_clashesOf_X12_doesRead : GoodIn wsX12_clashesOf wsX12_doesRead := goodIn_r _ [6, 7, 8, 9, 10, 11, 12, 13, 14, 15, 16, 17, 18, 19, 20, 21, 22, 23, 24, 25, 26, 27, 28, 29, 30, 31, 32, 33, 34, 35, 36, 37, 38, 39, 40, 41, 42, 43, 44, 45, 46, 47, 48, 49, 50, 51, 52, 53, 54, 55, 56] (by decide +kernel) (by decide +kernel)
set_option maxRecDepth 20000 in
theorem gX12_clashesOf_X12_doesRead : GoodIn wsX12_clashesOf (wsV RX12 285 RX12 yX12_doesRead wsX12_doesRead) := goodIn_app (goodIn_of _ (by decide +kernel)) ggX12_clashesOf_X12_doesRead
theorem dX12_clashesOf_0 : decode cX12_clashesOf 0 = .ok (.iconst 0, 1) := by decide +kernel
theorem dX12_clashesOf_1 : decode cX12_clashesOf 1 = .ok (.istore_n 2, 1) := by decide +kernel
theorem dX12_clashesOf_2 : decode cX12_clashesOf 2 = .ok (.iconst 0, 1) := by decide +kernel
theorem dX12_clashesOf_3 : decode cX12_clashesOf 3 = .ok (.istore_n 3, 1) := by decide +kernel
theorem dX12_clashesOf_4 : decode cX12_clashesOf 4 = .ok (.iload_n 3, 1) := by decide +kernel
theorem dX12_clashesOf_5 : decode cX12_clashesOf 5 = .ok (.iload_n 1, 1) := by decide +kernel
theorem dX12_clashesOf_6 : decode cX12_clashesOf 6 = .ok (.if_icmp .ge 48, 3) := by decide +kernel
theorem dX12_clashesOf_9 : decode cX12_clashesOf 9 = .ok (.iload_n 2, 1) := by decide +kernel
theorem dX12_clashesOf_10 : decode cX12_clashesOf 10 = .ok (.aload_n 0, 1) := by decide +kernel
theorem dX12_clashesOf_11 : decode cX12_clashesOf 11 = .ok (.getfield 13, 3) := by decide +kernel
theorem dX12_clashesOf_14 : decode cX12_clashesOf 14 = .ok (.iload_n 3, 1) := by decide +kernel
theorem dX12_clashesOf_15 : decode cX12_clashesOf 15 = .ok (.iaload, 1) := by decide +kernel
theorem dX12_clashesOf_16 : decode cX12_clashesOf 16 = .ok (.aload_n 0, 1) := by decide +kernel
theorem dX12_clashesOf_17 : decode cX12_clashesOf 17 = .ok (.getfield 13, 3) := by decide +kernel
theorem dX12_clashesOf_20 : decode cX12_clashesOf 20 = .ok (.iload_n 1, 1) := by decide +kernel
theorem dX12_clashesOf_21 : decode cX12_clashesOf 21 = .ok (.iaload, 1) := by decide +kernel
theorem dX12_clashesOf_22 : decode cX12_clashesOf 22 = .ok (.if_icmp .eq 17, 3) := by decide +kernel
theorem dX12_clashesOf_25 : decode cX12_clashesOf 25 = .ok (.aload_n 0, 1) := by decide +kernel
theorem dX12_clashesOf_26 : decode cX12_clashesOf 26 = .ok (.iload_n 3, 1) := by decide +kernel
theorem dX12_clashesOf_27 : decode cX12_clashesOf 27 = .ok (.aload_n 0, 1) := by decide +kernel
theorem dX12_clashesOf_28 : decode cX12_clashesOf 28 = .ok (.getfield 13, 3) := by decide +kernel
theorem dX12_clashesOf_31 : decode cX12_clashesOf 31 = .ok (.iload_n 1, 1) := by decide +kernel
theorem dX12_clashesOf_32 : decode cX12_clashesOf 32 = .ok (.iaload, 1) := by decide +kernel
theorem dX12_clashesOf_33 : decode cX12_clashesOf 33 = .ok (.invokevirtual 285, 3) := by decide +kernel
theorem dX12_clashesOf_36 : decode cX12_clashesOf 36 = .ok (.ifCond .eq 9, 3) := by decide +kernel
theorem dX12_clashesOf_39 : decode cX12_clashesOf 39 = .ok (.iconst 1, 1) := by decide +kernel
theorem dX12_clashesOf_40 : decode cX12_clashesOf 40 = .ok (.iload_n 3, 1) := by decide +kernel
theorem dX12_clashesOf_41 : decode cX12_clashesOf 41 = .ok (.ishl, 1) := by decide +kernel
theorem dX12_clashesOf_42 : decode cX12_clashesOf 42 = .ok (.goto 4, 3) := by decide +kernel
theorem dX12_clashesOf_45 : decode cX12_clashesOf 45 = .ok (.iconst 0, 1) := by decide +kernel
theorem dX12_clashesOf_46 : decode cX12_clashesOf 46 = .ok (.ior, 1) := by decide +kernel
theorem dX12_clashesOf_47 : decode cX12_clashesOf 47 = .ok (.istore_n 2, 1) := by decide +kernel
theorem dX12_clashesOf_48 : decode cX12_clashesOf 48 = .ok (.iinc 3 1, 3) := by decide +kernel
theorem dX12_clashesOf_51 : decode cX12_clashesOf 51 = .ok (.goto (-47), 3) := by decide +kernel
theorem dX12_clashesOf_54 : decode cX12_clashesOf 54 = .ok (.iload_n 2, 1) := by decide +kernel
theorem dX12_clashesOf_55 : decode cX12_clashesOf 55 = .ok (.ireturn, 1) := by decide +kernel
set_option maxRecDepth 20000 in
theorem ggX12_behind_X12_isStep : GoodIn wsX12_behind wsX12_isStep := goodIn_r _ [5, 6, 7, 8, 4, 9, 33, 34, 35, 36, 37, 38, 39, 40, 41, 42, 43, 44, 45, 46, 47, 48, 49, 50, 51, 52, 53, 54, 55, 56, 57, 58, 59, 60, 61, 62, 63, 64, 65, 66, 67, 68, 69, 70, 71, 72, 73, 74, 75, 76, 77, 78, 79, 80] (by decide +kernel) (by decide +kernel)
set_option maxRecDepth 20000 in
theorem gX12_behind_X12_isStep : GoodIn wsX12_behind (wsV RX12 186 RX12 yX12_isStep wsX12_isStep) := goodIn_app (goodIn_of _ (by decide +kernel)) ggX12_behind_X12_isStep
set_option maxRecDepth 20000 in
theorem ggX12_behind_X12_sourcesOf : GoodIn wsX12_behind wsX12_sourcesOf := goodIn_r _ [13, 14, 15, 16, 17, 4, 18, 19, 7, 8, 9, 20, 21, 22, 23, 24, 33, 34, 35, 36, 37, 38, 39, 40, 41, 42, 43, 44, 45, 46, 47, 48, 49, 50, 51, 52, 53, 54, 55, 56, 57, 58, 59, 60, 61, 62, 63, 64, 65, 66, 67, 68, 69, 70, 71, 72, 73, 74, 75, 76, 77, 78, 79, 80] (by decide +kernel) (by decide +kernel)
set_option maxRecDepth 20000 in
theorem gX12_behind_X12_sourcesOf : GoodIn wsX12_behind (wsV RX12 289 RX12 yX12_sourcesOf wsX12_sourcesOf) := goodIn_app (goodIn_of _ (by decide +kernel)) ggX12_behind_X12_sourcesOf
set_option maxRecDepth 20000 in
theorem ggX12_behind_X12_clashesOf : GoodIn wsX12_behind wsX12_clashesOf := goodIn_r _ [28, 24, 29, 30, 31, 4, 32, 14, 15, 33, 34, 35, 36, 37, 38, 39, 40, 41, 42, 43, 44, 45, 46, 47, 48, 49, 50, 51, 52, 53, 54, 55, 56, 57, 58, 59, 60, 61, 62, 63, 64, 65, 66, 67, 68, 69, 70, 71, 72, 73, 74, 75, 76, 77, 78, 79, 80] (by decide +kernel) (by decide +kernel)
set_option maxRecDepth 20000 in
theorem gX12_behind_X12_clashesOf : GoodIn wsX12_behind (wsV RX12 292 RX12 yX12_clashesOf wsX12_clashesOf) := goodIn_app (goodIn_of _ (by decide +kernel)) ggX12_behind_X12_clashesOf
theorem dX12_behind_0 : decode cX12_behind 0 = .ok (.aload_n 0, 1) := by decide +kernel
theorem dX12_behind_1 : decode cX12_behind 1 = .ok (.iload_n 1, 1) := by decide +kernel
theorem dX12_behind_2 : decode cX12_behind 2 = .ok (.invokevirtual 186, 3) := by decide +kernel
theorem dX12_behind_5 : decode cX12_behind 5 = .ok (.ifCond .eq 17, 3) := by decide +kernel
theorem dX12_behind_8 : decode cX12_behind 8 = .ok (.aload_n 0, 1) := by decide +kernel
theorem dX12_behind_9 : decode cX12_behind 9 = .ok (.iload_n 1, 1) := by decide +kernel
theorem dX12_behind_10 : decode cX12_behind 10 = .ok (.invokevirtual 289, 3) := by decide +kernel
theorem dX12_behind_13 : decode cX12_behind 13 = .ok (.aload_n 0, 1) := by decide +kernel
theorem dX12_behind_14 : decode cX12_behind 14 = .ok (.iload_n 1, 1) := by decide +kernel
theorem dX12_behind_15 : decode cX12_behind 15 = .ok (.invokevirtual 292, 3) := by decide +kernel
theorem dX12_behind_18 : decode cX12_behind 18 = .ok (.ior, 1) := by decide +kernel
theorem dX12_behind_19 : decode cX12_behind 19 = .ok (.goto 4, 3) := by decide +kernel
theorem dX12_behind_22 : decode cX12_behind 22 = .ok (.iconst (-1), 1) := by decide +kernel
theorem dX12_behind_23 : decode cX12_behind 23 = .ok (.ireturn, 1) := by decide +kernel
set_option maxRecDepth 20000 in
theorem ggX12_findBehind_X12_sourcesOf : GoodIn wsX12_findBehind wsX12_sourcesOf := goodIn_r _ [8, 9, 10, 11, 12, 7, 13, 14, 15, 16, 17, 18, 19, 20, 21, 22, 31, 32, 33, 34, 35, 36, 37, 38, 39, 40, 41, 42, 43, 44, 45, 46, 47, 48, 49, 50, 51, 52, 53, 54, 55, 56, 57, 58, 59, 60, 61, 62, 63, 64, 65, 66, 67, 68, 69, 70, 71, 72, 73, 74, 75, 76, 77, 78] (by decide +kernel) (by decide +kernel)
set_option maxRecDepth 20000 in
theorem gX12_findBehind_X12_sourcesOf : GoodIn wsX12_findBehind (wsV RX12 289 RX12 yX12_sourcesOf wsX12_sourcesOf) := goodIn_app (goodIn_of _ (by decide +kernel)) ggX12_findBehind_X12_sourcesOf
set_option maxRecDepth 20000 in
theorem ggX12_findBehind_X12_clashesOf : GoodIn wsX12_findBehind wsX12_clashesOf := goodIn_r _ [26, 22, 27, 28, 29, 7, 30, 9, 10, 31, 32, 33, 34, 35, 36, 37, 38, 39, 40, 41, 42, 43, 44, 45, 46, 47, 48, 49, 50, 51, 52, 53, 54, 55, 56, 57, 58, 59, 60, 61, 62, 63, 64, 65, 66, 67, 68, 69, 70, 71, 72, 73, 74, 75, 76, 77, 78] (by decide +kernel) (by decide +kernel)
set_option maxRecDepth 20000 in
theorem gX12_findBehind_X12_clashesOf : GoodIn wsX12_findBehind (wsV RX12 292 RX12 yX12_clashesOf wsX12_clashesOf) := goodIn_app (goodIn_of _ (by decide +kernel)) ggX12_findBehind_X12_clashesOf
theorem dX12_findBehind_0 : decode cX12_findBehind 0 = .ok (.iconst 0, 1) := by decide +kernel
theorem dX12_findBehind_1 : decode cX12_findBehind 1 = .ok (.istore_n 1, 1) := by decide +kernel
theorem dX12_findBehind_2 : decode cX12_findBehind 2 = .ok (.iload_n 1, 1) := by decide +kernel
theorem dX12_findBehind_3 : decode cX12_findBehind 3 = .ok (.aload_n 0, 1) := by decide +kernel
theorem dX12_findBehind_4 : decode cX12_findBehind 4 = .ok (.getfield 181, 3) := by decide +kernel
theorem dX12_findBehind_7 : decode cX12_findBehind 7 = .ok (.if_icmp .ge 31, 3) := by decide +kernel
theorem dX12_findBehind_10 : decode cX12_findBehind 10 = .ok (.aload_n 0, 1) := by decide +kernel
theorem dX12_findBehind_11 : decode cX12_findBehind 11 = .ok (.getfield 65, 3) := by decide +kernel
theorem dX12_findBehind_14 : decode cX12_findBehind 14 = .ok (.iload_n 1, 1) := by decide +kernel
theorem dX12_findBehind_15 : decode cX12_findBehind 15 = .ok (.aload_n 0, 1) := by decide +kernel
theorem dX12_findBehind_16 : decode cX12_findBehind 16 = .ok (.iload_n 1, 1) := by decide +kernel
theorem dX12_findBehind_17 : decode cX12_findBehind 17 = .ok (.invokevirtual 289, 3) := by decide +kernel
theorem dX12_findBehind_20 : decode cX12_findBehind 20 = .ok (.iastore, 1) := by decide +kernel
theorem dX12_findBehind_21 : decode cX12_findBehind 21 = .ok (.aload_n 0, 1) := by decide +kernel
theorem dX12_findBehind_22 : decode cX12_findBehind 22 = .ok (.getfield 68, 3) := by decide +kernel
theorem dX12_findBehind_25 : decode cX12_findBehind 25 = .ok (.iload_n 1, 1) := by decide +kernel
theorem dX12_findBehind_26 : decode cX12_findBehind 26 = .ok (.aload_n 0, 1) := by decide +kernel
theorem dX12_findBehind_27 : decode cX12_findBehind 27 = .ok (.iload_n 1, 1) := by decide +kernel
theorem dX12_findBehind_28 : decode cX12_findBehind 28 = .ok (.invokevirtual 292, 3) := by decide +kernel
theorem dX12_findBehind_31 : decode cX12_findBehind 31 = .ok (.iastore, 1) := by decide +kernel
theorem dX12_findBehind_32 : decode cX12_findBehind 32 = .ok (.iinc 1 1, 3) := by decide +kernel
theorem dX12_findBehind_35 : decode cX12_findBehind 35 = .ok (.goto (-33), 3) := by decide +kernel
theorem dX12_findBehind_38 : decode cX12_findBehind 38 = .ok (.return_, 1) := by decide +kernel
set_option maxRecDepth 20000 in
theorem ggX12_orders_X12_findBehind : GoodIn wsX12_orders wsX12_findBehind := goodIn_r _ [9, 1, 3, 4, 10, 11, 12, 8, 13, 14, 15, 16, 17, 18, 19, 20, 21, 22, 23, 24, 25, 26, 27, 28, 29, 30, 31, 32, 33, 34, 35, 36, 37, 38, 39, 40, 41, 42, 43, 44, 45, 46, 47, 48, 49, 50, 51, 52, 53, 54, 55, 56, 57, 58, 59, 60, 61, 62, 63, 64, 65, 66, 67, 68, 69, 70, 71, 72, 73, 74, 75, 76, 77, 78, 79, 80, 81, 82, 83] (by decide +kernel) (by decide +kernel)
set_option maxRecDepth 20000 in
theorem gX12_orders_X12_findBehind : GoodIn wsX12_orders (wsV RX12 295 RX12 yX12_findBehind wsX12_findBehind) := goodIn_app (goodIn_of _ (by decide +kernel)) ggX12_orders_X12_findBehind
theorem dX12_orders_0 : decode cX12_orders 0 = .ok (.aload_n 0, 1) := by decide +kernel
theorem dX12_orders_1 : decode cX12_orders 1 = .ok (.invokevirtual 295, 3) := by decide +kernel
theorem dX12_orders_4 : decode cX12_orders 4 = .ok (.iconst 1, 1) := by decide +kernel
theorem dX12_orders_5 : decode cX12_orders 5 = .ok (.aload_n 0, 1) := by decide +kernel
theorem dX12_orders_6 : decode cX12_orders 6 = .ok (.getfield 181, 3) := by decide +kernel
theorem dX12_orders_9 : decode cX12_orders 9 = .ok (.ishl, 1) := by decide +kernel
theorem dX12_orders_10 : decode cX12_orders 10 = .ok (.istore_n 1, 1) := by decide +kernel
theorem dX12_orders_11 : decode cX12_orders 11 = .ok (.iconst 0, 1) := by decide +kernel
theorem dX12_orders_12 : decode cX12_orders 12 = .ok (.istore_n 2, 1) := by decide +kernel
theorem dX12_orders_13 : decode cX12_orders 13 = .ok (.iload_n 2, 1) := by decide +kernel
theorem dX12_orders_14 : decode cX12_orders 14 = .ok (.iload_n 1, 1) := by decide +kernel
theorem dX12_orders_15 : decode cX12_orders 15 = .ok (.if_icmp .ge 24, 3) := by decide +kernel
theorem dX12_orders_18 : decode cX12_orders 18 = .ok (.aload_n 0, 1) := by decide +kernel
theorem dX12_orders_19 : decode cX12_orders 19 = .ok (.getfield 71, 3) := by decide +kernel
theorem dX12_orders_22 : decode cX12_orders 22 = .ok (.iload_n 2, 1) := by decide +kernel
theorem dX12_orders_23 : decode cX12_orders 23 = .ok (.iload_n 2, 1) := by decide +kernel
theorem dX12_orders_24 : decode cX12_orders 24 = .ok (.ifCond .ne 7, 3) := by decide +kernel
theorem dX12_orders_27 : decode cX12_orders 27 = .ok (.iconst 1, 1) := by decide +kernel
theorem dX12_orders_28 : decode cX12_orders 28 = .ok (.goto 4, 3) := by decide +kernel
theorem dX12_orders_31 : decode cX12_orders 31 = .ok (.iconst 0, 1) := by decide +kernel
theorem dX12_orders_32 : decode cX12_orders 32 = .ok (.iastore, 1) := by decide +kernel
theorem dX12_orders_33 : decode cX12_orders 33 = .ok (.iinc 2 1, 3) := by decide +kernel
theorem dX12_orders_36 : decode cX12_orders 36 = .ok (.goto (-23), 3) := by decide +kernel
theorem dX12_orders_39 : decode cX12_orders 39 = .ok (.iconst 0, 1) := by decide +kernel
theorem dX12_orders_40 : decode cX12_orders 40 = .ok (.istore_n 2, 1) := by decide +kernel
theorem dX12_orders_41 : decode cX12_orders 41 = .ok (.iload_n 2, 1) := by decide +kernel
theorem dX12_orders_42 : decode cX12_orders 42 = .ok (.iload_n 1, 1) := by decide +kernel
theorem dX12_orders_43 : decode cX12_orders 43 = .ok (.if_icmp .ge 97, 3) := by decide +kernel
theorem dX12_orders_46 : decode cX12_orders 46 = .ok (.iconst 0, 1) := by decide +kernel
theorem dX12_orders_47 : decode cX12_orders 47 = .ok (.istore_n 3, 1) := by decide +kernel
theorem dX12_orders_48 : decode cX12_orders 48 = .ok (.iload_n 3, 1) := by decide +kernel
theorem dX12_orders_49 : decode cX12_orders 49 = .ok (.aload_n 0, 1) := by decide +kernel
theorem dX12_orders_50 : decode cX12_orders 50 = .ok (.getfield 181, 3) := by decide +kernel
theorem dX12_orders_53 : decode cX12_orders 53 = .ok (.if_icmp .ge 81, 3) := by decide +kernel
theorem dX12_orders_56 : decode cX12_orders 56 = .ok (.aload_n 0, 1) := by decide +kernel
theorem dX12_orders_57 : decode cX12_orders 57 = .ok (.getfield 71, 3) := by decide +kernel
theorem dX12_orders_60 : decode cX12_orders 60 = .ok (.iload_n 2, 1) := by decide +kernel
theorem dX12_orders_61 : decode cX12_orders 61 = .ok (.iaload, 1) := by decide +kernel
theorem dX12_orders_62 : decode cX12_orders 62 = .ok (.ifCond .le 72, 3) := by decide +kernel
theorem dX12_orders_65 : decode cX12_orders 65 = .ok (.iload_n 2, 1) := by decide +kernel
theorem dX12_orders_66 : decode cX12_orders 66 = .ok (.iload_n 3, 1) := by decide +kernel
theorem dX12_orders_67 : decode cX12_orders 67 = .ok (.ishr, 1) := by decide +kernel
theorem dX12_orders_68 : decode cX12_orders 68 = .ok (.iconst 1, 1) := by decide +kernel
theorem dX12_orders_69 : decode cX12_orders 69 = .ok (.iand, 1) := by decide +kernel
theorem dX12_orders_70 : decode cX12_orders 70 = .ok (.ifCond .ne 27, 3) := by decide +kernel
theorem dX12_orders_73 : decode cX12_orders 73 = .ok (.aload_n 0, 1) := by decide +kernel
theorem dX12_orders_74 : decode cX12_orders 74 = .ok (.getfield 65, 3) := by decide +kernel
theorem dX12_orders_77 : decode cX12_orders 77 = .ok (.iload_n 3, 1) := by decide +kernel
theorem dX12_orders_78 : decode cX12_orders 78 = .ok (.iaload, 1) := by decide +kernel
theorem dX12_orders_79 : decode cX12_orders 79 = .ok (.aload_n 0, 1) := by decide +kernel
theorem dX12_orders_80 : decode cX12_orders 80 = .ok (.getfield 68, 3) := by decide +kernel
theorem dX12_orders_83 : decode cX12_orders 83 = .ok (.iload_n 3, 1) := by decide +kernel
theorem dX12_orders_84 : decode cX12_orders 84 = .ok (.iaload, 1) := by decide +kernel
theorem dX12_orders_85 : decode cX12_orders 85 = .ok (.ior, 1) := by decide +kernel
theorem dX12_orders_86 : decode cX12_orders 86 = .ok (.iload_n 2, 1) := by decide +kernel
theorem dX12_orders_87 : decode cX12_orders 87 = .ok (.iconst (-1), 1) := by decide +kernel
theorem dX12_orders_88 : decode cX12_orders 88 = .ok (.ixor, 1) := by decide +kernel
theorem dX12_orders_89 : decode cX12_orders 89 = .ok (.iand, 1) := by decide +kernel
theorem dX12_orders_90 : decode cX12_orders 90 = .ok (.ifCond .ne 7, 3) := by decide +kernel
theorem dX12_orders_93 : decode cX12_orders 93 = .ok (.iconst 1, 1) := by decide +kernel
theorem dX12_orders_94 : decode cX12_orders 94 = .ok (.goto 4, 3) := by decide +kernel
theorem dX12_orders_97 : decode cX12_orders 97 = .ok (.iconst 0, 1) := by decide +kernel
theorem dX12_orders_98 : decode cX12_orders 98 = .ok (.istore 4, 2) := by decide +kernel
theorem dX12_orders_100 : decode cX12_orders 100 = .ok (.aload_n 0, 1) := by decide +kernel
theorem dX12_orders_101 : decode cX12_orders 101 = .ok (.getfield 71, 3) := by decide +kernel
theorem dX12_orders_104 : decode cX12_orders 104 = .ok (.iload_n 2, 1) := by decide +kernel
theorem dX12_orders_105 : decode cX12_orders 105 = .ok (.iconst 1, 1) := by decide +kernel
theorem dX12_orders_106 : decode cX12_orders 106 = .ok (.iload_n 3, 1) := by decide +kernel
theorem dX12_orders_107 : decode cX12_orders 107 = .ok (.ishl, 1) := by decide +kernel
theorem dX12_orders_108 : decode cX12_orders 108 = .ok (.ior, 1) := by decide +kernel
theorem dX12_orders_109 : decode cX12_orders 109 = .ok (.dup2, 1) := by decide +kernel
theorem dX12_orders_110 : decode cX12_orders 110 = .ok (.iaload, 1) := by decide +kernel
theorem dX12_orders_111 : decode cX12_orders 111 = .ok (.iload 4, 2) := by decide +kernel
theorem dX12_orders_113 : decode cX12_orders 113 = .ok (.ifCond .eq 12, 3) := by decide +kernel
theorem dX12_orders_116 : decode cX12_orders 116 = .ok (.aload_n 0, 1) := by decide +kernel
theorem dX12_orders_117 : decode cX12_orders 117 = .ok (.getfield 71, 3) := by decide +kernel
theorem dX12_orders_120 : decode cX12_orders 120 = .ok (.iload_n 2, 1) := by decide +kernel
theorem dX12_orders_121 : decode cX12_orders 121 = .ok (.iaload, 1) := by decide +kernel
theorem dX12_orders_122 : decode cX12_orders 122 = .ok (.goto 4, 3) := by decide +kernel
theorem dX12_orders_125 : decode cX12_orders 125 = .ok (.iconst 0, 1) := by decide +kernel
theorem dX12_orders_126 : decode cX12_orders 126 = .ok (.iadd, 1) := by decide +kernel
theorem dX12_orders_127 : decode cX12_orders 127 = .ok (.iastore, 1) := by decide +kernel
theorem dX12_orders_128 : decode cX12_orders 128 = .ok (.iinc 3 1, 3) := by decide +kernel
theorem dX12_orders_131 : decode cX12_orders 131 = .ok (.goto (-83), 3) := by decide +kernel
theorem dX12_orders_134 : decode cX12_orders 134 = .ok (.iinc 2 1, 3) := by decide +kernel
theorem dX12_orders_137 : decode cX12_orders 137 = .ok (.goto (-96), 3) := by decide +kernel
theorem dX12_orders_140 : decode cX12_orders 140 = .ok (.aload_n 0, 1) := by decide +kernel
theorem dX12_orders_141 : decode cX12_orders 141 = .ok (.getfield 71, 3) := by decide +kernel
theorem dX12_orders_144 : decode cX12_orders 144 = .ok (.iload_n 1, 1) := by decide +kernel
theorem dX12_orders_145 : decode cX12_orders 145 = .ok (.iconst 1, 1) := by decide +kernel
theorem dX12_orders_146 : decode cX12_orders 146 = .ok (.isub, 1) := by decide +kernel
theorem dX12_orders_147 : decode cX12_orders 147 = .ok (.iaload, 1) := by decide +kernel
theorem dX12_orders_148 : decode cX12_orders 148 = .ok (.ireturn, 1) := by decide +kernel
set_option maxRecDepth 20000 in
theorem ggX12_set_X12_in : GoodIn wsX12_set wsX12_in := goodIn_r _ [9] (by decide +kernel) (by decide +kernel)
set_option maxRecDepth 20000 in
theorem gX12_set_X12_in : GoodIn wsX12_set (va_wsS RX12 125 yX12_in wsX12_in) := goodIn_app (goodIn_of _ (by decide +kernel)) ggX12_set_X12_in
theorem dX12_set_0 : decode cX12_set 0 = .ok (.iload_n 1, 1) := by decide +kernel
theorem dX12_set_1 : decode cX12_set 1 = .ok (.i2l, 1) := by decide +kernel
theorem dX12_set_2 : decode cX12_set 2 = .ok (.lconst 0, 1) := by decide +kernel
theorem dX12_set_3 : decode cX12_set 3 = .ok (.ldc2_w 277, 3) := by decide +kernel
theorem dX12_set_6 : decode cX12_set 6 = .ok (.invokestatic 125, 3) := by decide +kernel
theorem dX12_set_9 : decode cX12_set 9 = .ok (.ifCond .eq 25, 3) := by decide +kernel
theorem dX12_set_12 : decode cX12_set 12 = .ok (.iload_n 2, 1) := by decide +kernel
theorem dX12_set_13 : decode cX12_set 13 = .ok (.i2l, 1) := by decide +kernel
theorem dX12_set_14 : decode cX12_set 14 = .ok (.lconst 1, 1) := by decide +kernel
theorem dX12_set_15 : decode cX12_set 15 = .ok (.iload_n 1, 1) := by decide +kernel
theorem dX12_set_16 : decode cX12_set 16 = .ok (.ifCond .ne 9, 3) := by decide +kernel
theorem dX12_set_19 : decode cX12_set 19 = .ok (.ldc2_w 123, 3) := by decide +kernel
theorem dX12_set_22 : decode cX12_set 22 = .ok (.goto 6, 3) := by decide +kernel
theorem dX12_set_25 : decode cX12_set 25 = .ok (.ldc2_w 298, 3) := by decide +kernel
theorem dX12_set_28 : decode cX12_set 28 = .ok (.invokestatic 125, 3) := by decide +kernel
theorem dX12_set_31 : decode cX12_set 31 = .ok (.ifCond .ne 6, 3) := by decide +kernel
theorem dX12_set_34 : decode cX12_set 34 = .ok (.bipush (-2), 2) := by decide +kernel
theorem dX12_set_36 : decode cX12_set 36 = .ok (.ireturn, 1) := by decide +kernel
theorem dX12_set_37 : decode cX12_set 37 = .ok (.iload_n 1, 1) := by decide +kernel
theorem dX12_set_38 : decode cX12_set 38 = .ok (.ifCond .ne 10, 3) := by decide +kernel
theorem dX12_set_41 : decode cX12_set 41 = .ok (.aload_n 0, 1) := by decide +kernel
theorem dX12_set_42 : decode cX12_set 42 = .ok (.getfield 120, 3) := by decide +kernel
theorem dX12_set_45 : decode cX12_set 45 = .ok (.goto 11, 3) := by decide +kernel
theorem dX12_set_48 : decode cX12_set 48 = .ok (.aload_n 0, 1) := by decide +kernel
theorem dX12_set_49 : decode cX12_set 49 = .ok (.getfield 28, 3) := by decide +kernel
theorem dX12_set_52 : decode cX12_set 52 = .ok (.iload_n 1, 1) := by decide +kernel
theorem dX12_set_53 : decode cX12_set 53 = .ok (.iconst 1, 1) := by decide +kernel
theorem dX12_set_54 : decode cX12_set 54 = .ok (.isub, 1) := by decide +kernel
theorem dX12_set_55 : decode cX12_set 55 = .ok (.iaload, 1) := by decide +kernel
theorem dX12_set_56 : decode cX12_set 56 = .ok (.istore_n 3, 1) := by decide +kernel
theorem dX12_set_57 : decode cX12_set 57 = .ok (.iload_n 1, 1) := by decide +kernel
theorem dX12_set_58 : decode cX12_set 58 = .ok (.ifCond .ne 11, 3) := by decide +kernel
theorem dX12_set_61 : decode cX12_set 61 = .ok (.aload_n 0, 1) := by decide +kernel
theorem dX12_set_62 : decode cX12_set 62 = .ok (.iload_n 2, 1) := by decide +kernel
theorem dX12_set_63 : decode cX12_set 63 = .ok (.putfield 120, 3) := by decide +kernel
theorem dX12_set_66 : decode cX12_set 66 = .ok (.goto 12, 3) := by decide +kernel
theorem dX12_set_69 : decode cX12_set 69 = .ok (.aload_n 0, 1) := by decide +kernel
theorem dX12_set_70 : decode cX12_set 70 = .ok (.getfield 28, 3) := by decide +kernel
theorem dX12_set_73 : decode cX12_set 73 = .ok (.iload_n 1, 1) := by decide +kernel
theorem dX12_set_74 : decode cX12_set 74 = .ok (.iconst 1, 1) := by decide +kernel
theorem dX12_set_75 : decode cX12_set 75 = .ok (.isub, 1) := by decide +kernel
theorem dX12_set_76 : decode cX12_set 76 = .ok (.iload_n 2, 1) := by decide +kernel
theorem dX12_set_77 : decode cX12_set 77 = .ok (.iastore, 1) := by decide +kernel
theorem dX12_set_78 : decode cX12_set 78 = .ok (.iload_n 3, 1) := by decide +kernel
theorem dX12_set_79 : decode cX12_set 79 = .ok (.ireturn, 1) := by decide +kernel
theorem dX12_delayOf_0 : decode cX12_delayOf 0 = .ok (.aload_n 0, 1) := by decide +kernel
theorem dX12_delayOf_1 : decode cX12_delayOf 1 = .ok (.getfield 16, 3) := by decide +kernel
theorem dX12_delayOf_4 : decode cX12_delayOf 4 = .ok (.iload_n 1, 1) := by decide +kernel
theorem dX12_delayOf_5 : decode cX12_delayOf 5 = .ok (.iaload, 1) := by decide +kernel
theorem dX12_delayOf_6 : decode cX12_delayOf 6 = .ok (.lookupswitch 70 #[(42, 56), (43, 42), (45, 49), (109, 63)], 42) := by decide +kernel
theorem dX12_delayOf_48 : decode cX12_delayOf 48 = .ok (.aload_n 0, 1) := by decide +kernel
theorem dX12_delayOf_49 : decode cX12_delayOf 49 = .ok (.getfield 28, 3) := by decide +kernel
theorem dX12_delayOf_52 : decode cX12_delayOf 52 = .ok (.iconst 0, 1) := by decide +kernel
theorem dX12_delayOf_53 : decode cX12_delayOf 53 = .ok (.iaload, 1) := by decide +kernel
theorem dX12_delayOf_54 : decode cX12_delayOf 54 = .ok (.ireturn, 1) := by decide +kernel
theorem dX12_delayOf_55 : decode cX12_delayOf 55 = .ok (.aload_n 0, 1) := by decide +kernel
theorem dX12_delayOf_56 : decode cX12_delayOf 56 = .ok (.getfield 28, 3) := by decide +kernel
theorem dX12_delayOf_59 : decode cX12_delayOf 59 = .ok (.iconst 1, 1) := by decide +kernel
theorem dX12_delayOf_60 : decode cX12_delayOf 60 = .ok (.iaload, 1) := by decide +kernel
theorem dX12_delayOf_61 : decode cX12_delayOf 61 = .ok (.ireturn, 1) := by decide +kernel
theorem dX12_delayOf_62 : decode cX12_delayOf 62 = .ok (.aload_n 0, 1) := by decide +kernel
theorem dX12_delayOf_63 : decode cX12_delayOf 63 = .ok (.getfield 28, 3) := by decide +kernel
theorem dX12_delayOf_66 : decode cX12_delayOf 66 = .ok (.iconst 2, 1) := by decide +kernel
theorem dX12_delayOf_67 : decode cX12_delayOf 67 = .ok (.iaload, 1) := by decide +kernel
theorem dX12_delayOf_68 : decode cX12_delayOf 68 = .ok (.ireturn, 1) := by decide +kernel
theorem dX12_delayOf_69 : decode cX12_delayOf 69 = .ok (.aload_n 0, 1) := by decide +kernel
theorem dX12_delayOf_70 : decode cX12_delayOf 70 = .ok (.getfield 28, 3) := by decide +kernel
theorem dX12_delayOf_73 : decode cX12_delayOf 73 = .ok (.iconst 3, 1) := by decide +kernel
theorem dX12_delayOf_74 : decode cX12_delayOf 74 = .ok (.iaload, 1) := by decide +kernel
theorem dX12_delayOf_75 : decode cX12_delayOf 75 = .ok (.ireturn, 1) := by decide +kernel
theorem dX12_delayOf_76 : decode cX12_delayOf 76 = .ok (.iconst 1, 1) := by decide +kernel
theorem dX12_delayOf_77 : decode cX12_delayOf 77 = .ok (.ireturn, 1) := by decide +kernel
theorem dX12_layOrder_0 : decode cX12_layOrder 0 = .ok (.iconst 0, 1) := by decide +kernel
theorem dX12_layOrder_1 : decode cX12_layOrder 1 = .ok (.istore_n 1, 1) := by decide +kernel
theorem dX12_layOrder_2 : decode cX12_layOrder 2 = .ok (.iload_n 1, 1) := by decide +kernel
theorem dX12_layOrder_3 : decode cX12_layOrder 3 = .ok (.aload_n 0, 1) := by decide +kernel
theorem dX12_layOrder_4 : decode cX12_layOrder 4 = .ok (.getfield 181, 3) := by decide +kernel
theorem dX12_layOrder_7 : decode cX12_layOrder 7 = .ok (.if_icmp .ge 16, 3) := by decide +kernel
theorem dX12_layOrder_10 : decode cX12_layOrder 10 = .ok (.aload_n 0, 1) := by decide +kernel
theorem dX12_layOrder_11 : decode cX12_layOrder 11 = .ok (.getfield 74, 3) := by decide +kernel
theorem dX12_layOrder_14 : decode cX12_layOrder 14 = .ok (.iload_n 1, 1) := by decide +kernel
theorem dX12_layOrder_15 : decode cX12_layOrder 15 = .ok (.iload_n 1, 1) := by decide +kernel
theorem dX12_layOrder_16 : decode cX12_layOrder 16 = .ok (.iastore, 1) := by decide +kernel
theorem dX12_layOrder_17 : decode cX12_layOrder 17 = .ok (.iinc 1 1, 3) := by decide +kernel
theorem dX12_layOrder_20 : decode cX12_layOrder 20 = .ok (.goto (-18), 3) := by decide +kernel
theorem dX12_layOrder_23 : decode cX12_layOrder 23 = .ok (.return_, 1) := by decide +kernel
set_option maxRecDepth 20000 in
theorem ggX12_findTicks_X12_delayOf : GoodIn wsX12_findTicks wsX12_delayOf := goodIn_r _ [11, 12, 13, 14, 15, 16, 17, 18, 19, 20, 21, 22, 23, 24, 25, 26, 27, 28, 29, 30, 31, 32, 33, 34, 35, 36, 37, 38, 39, 40, 41, 42, 43, 44, 45, 46, 47, 48, 49, 50, 51, 52, 53, 54, 55, 56, 57, 58, 59, 60, 61] (by decide +kernel) (by decide +kernel)
set_option maxRecDepth 20000 in
theorem gX12_findTicks_X12_delayOf : GoodIn wsX12_findTicks (wsV RX12 300 RX12 yX12_delayOf wsX12_delayOf) := goodIn_app (goodIn_of _ (by decide +kernel)) ggX12_findTicks_X12_delayOf
theorem dX12_findTicks_0 : decode cX12_findTicks 0 = .ok (.iconst 0, 1) := by decide +kernel
theorem dX12_findTicks_1 : decode cX12_findTicks 1 = .ok (.istore_n 1, 1) := by decide +kernel
theorem dX12_findTicks_2 : decode cX12_findTicks 2 = .ok (.iconst 0, 1) := by decide +kernel
theorem dX12_findTicks_3 : decode cX12_findTicks 3 = .ok (.istore_n 2, 1) := by decide +kernel
theorem dX12_findTicks_4 : decode cX12_findTicks 4 = .ok (.iconst 0, 1) := by decide +kernel
theorem dX12_findTicks_5 : decode cX12_findTicks 5 = .ok (.istore_n 3, 1) := by decide +kernel
theorem dX12_findTicks_6 : decode cX12_findTicks 6 = .ok (.iconst 0, 1) := by decide +kernel
theorem dX12_findTicks_7 : decode cX12_findTicks 7 = .ok (.istore 4, 2) := by decide +kernel
theorem dX12_findTicks_9 : decode cX12_findTicks 9 = .ok (.iload 4, 2) := by decide +kernel
theorem dX12_findTicks_11 : decode cX12_findTicks 11 = .ok (.aload_n 0, 1) := by decide +kernel
theorem dX12_findTicks_12 : decode cX12_findTicks 12 = .ok (.getfield 181, 3) := by decide +kernel
theorem dX12_findTicks_15 : decode cX12_findTicks 15 = .ok (.if_icmp .ge 198, 3) := by decide +kernel
theorem dX12_findTicks_18 : decode cX12_findTicks 18 = .ok (.aload_n 0, 1) := by decide +kernel
theorem dX12_findTicks_19 : decode cX12_findTicks 19 = .ok (.getfield 74, 3) := by decide +kernel
theorem dX12_findTicks_22 : decode cX12_findTicks 22 = .ok (.iload 4, 2) := by decide +kernel
theorem dX12_findTicks_24 : decode cX12_findTicks 24 = .ok (.iaload, 1) := by decide +kernel
theorem dX12_findTicks_25 : decode cX12_findTicks 25 = .ok (.istore 5, 2) := by decide +kernel
theorem dX12_findTicks_27 : decode cX12_findTicks 27 = .ok (.iload_n 1, 1) := by decide +kernel
theorem dX12_findTicks_28 : decode cX12_findTicks 28 = .ok (.istore 6, 2) := by decide +kernel
theorem dX12_findTicks_30 : decode cX12_findTicks 30 = .ok (.iconst 0, 1) := by decide +kernel
theorem dX12_findTicks_31 : decode cX12_findTicks 31 = .ok (.istore 7, 2) := by decide +kernel
theorem dX12_findTicks_33 : decode cX12_findTicks 33 = .ok (.iload 7, 2) := by decide +kernel
theorem dX12_findTicks_35 : decode cX12_findTicks 35 = .ok (.aload_n 0, 1) := by decide +kernel
theorem dX12_findTicks_36 : decode cX12_findTicks 36 = .ok (.getfield 181, 3) := by decide +kernel
theorem dX12_findTicks_39 : decode cX12_findTicks 39 = .ok (.if_icmp .ge 101, 3) := by decide +kernel
theorem dX12_findTicks_42 : decode cX12_findTicks 42 = .ok (.aload_n 0, 1) := by decide +kernel
theorem dX12_findTicks_43 : decode cX12_findTicks 43 = .ok (.getfield 65, 3) := by decide +kernel
theorem dX12_findTicks_46 : decode cX12_findTicks 46 = .ok (.iload 5, 2) := by decide +kernel
theorem dX12_findTicks_48 : decode cX12_findTicks 48 = .ok (.iaload, 1) := by decide +kernel
theorem dX12_findTicks_49 : decode cX12_findTicks 49 = .ok (.iload 7, 2) := by decide +kernel
theorem dX12_findTicks_51 : decode cX12_findTicks 51 = .ok (.ishr, 1) := by decide +kernel
theorem dX12_findTicks_52 : decode cX12_findTicks 52 = .ok (.iconst 1, 1) := by decide +kernel
theorem dX12_findTicks_53 : decode cX12_findTicks 53 = .ok (.iand, 1) := by decide +kernel
theorem dX12_findTicks_54 : decode cX12_findTicks 54 = .ok (.iconst 1, 1) := by decide +kernel
theorem dX12_findTicks_55 : decode cX12_findTicks 55 = .ok (.if_icmp .ne 38, 3) := by decide +kernel
theorem dX12_findTicks_58 : decode cX12_findTicks 58 = .ok (.aload_n 0, 1) := by decide +kernel
theorem dX12_findTicks_59 : decode cX12_findTicks 59 = .ok (.getfield 77, 3) := by decide +kernel
theorem dX12_findTicks_62 : decode cX12_findTicks 62 = .ok (.iload 7, 2) := by decide +kernel
theorem dX12_findTicks_64 : decode cX12_findTicks 64 = .ok (.iaload, 1) := by decide +kernel
theorem dX12_findTicks_65 : decode cX12_findTicks 65 = .ok (.aload_n 0, 1) := by decide +kernel
theorem dX12_findTicks_66 : decode cX12_findTicks 66 = .ok (.iload 7, 2) := by decide +kernel
theorem dX12_findTicks_68 : decode cX12_findTicks 68 = .ok (.invokevirtual 300, 3) := by decide +kernel
theorem dX12_findTicks_71 : decode cX12_findTicks 71 = .ok (.iadd, 1) := by decide +kernel
theorem dX12_findTicks_72 : decode cX12_findTicks 72 = .ok (.iload 6, 2) := by decide +kernel
theorem dX12_findTicks_74 : decode cX12_findTicks 74 = .ok (.if_icmp .le 19, 3) := by decide +kernel
theorem dX12_findTicks_77 : decode cX12_findTicks 77 = .ok (.aload_n 0, 1) := by decide +kernel
theorem dX12_findTicks_78 : decode cX12_findTicks 78 = .ok (.getfield 77, 3) := by decide +kernel
theorem dX12_findTicks_81 : decode cX12_findTicks 81 = .ok (.iload 7, 2) := by decide +kernel
theorem dX12_findTicks_83 : decode cX12_findTicks 83 = .ok (.iaload, 1) := by decide +kernel
theorem dX12_findTicks_84 : decode cX12_findTicks 84 = .ok (.aload_n 0, 1) := by decide +kernel
theorem dX12_findTicks_85 : decode cX12_findTicks 85 = .ok (.iload 7, 2) := by decide +kernel
theorem dX12_findTicks_87 : decode cX12_findTicks 87 = .ok (.invokevirtual 300, 3) := by decide +kernel
theorem dX12_findTicks_90 : decode cX12_findTicks 90 = .ok (.iadd, 1) := by decide +kernel
theorem dX12_findTicks_91 : decode cX12_findTicks 91 = .ok (.istore 6, 2) := by decide +kernel
theorem dX12_findTicks_93 : decode cX12_findTicks 93 = .ok (.aload_n 0, 1) := by decide +kernel
theorem dX12_findTicks_94 : decode cX12_findTicks 94 = .ok (.getfield 68, 3) := by decide +kernel
theorem dX12_findTicks_97 : decode cX12_findTicks 97 = .ok (.iload 5, 2) := by decide +kernel
theorem dX12_findTicks_99 : decode cX12_findTicks 99 = .ok (.iaload, 1) := by decide +kernel
theorem dX12_findTicks_100 : decode cX12_findTicks 100 = .ok (.iload 7, 2) := by decide +kernel
theorem dX12_findTicks_102 : decode cX12_findTicks 102 = .ok (.ishr, 1) := by decide +kernel
theorem dX12_findTicks_103 : decode cX12_findTicks 103 = .ok (.iconst 1, 1) := by decide +kernel
theorem dX12_findTicks_104 : decode cX12_findTicks 104 = .ok (.iand, 1) := by decide +kernel
theorem dX12_findTicks_105 : decode cX12_findTicks 105 = .ok (.iconst 1, 1) := by decide +kernel
theorem dX12_findTicks_106 : decode cX12_findTicks 106 = .ok (.if_icmp .ne 28, 3) := by decide +kernel
theorem dX12_findTicks_109 : decode cX12_findTicks 109 = .ok (.aload_n 0, 1) := by decide +kernel
theorem dX12_findTicks_110 : decode cX12_findTicks 110 = .ok (.getfield 77, 3) := by decide +kernel
theorem dX12_findTicks_113 : decode cX12_findTicks 113 = .ok (.iload 7, 2) := by decide +kernel
theorem dX12_findTicks_115 : decode cX12_findTicks 115 = .ok (.iaload, 1) := by decide +kernel
theorem dX12_findTicks_116 : decode cX12_findTicks 116 = .ok (.iconst 1, 1) := by decide +kernel
theorem dX12_findTicks_117 : decode cX12_findTicks 117 = .ok (.iadd, 1) := by decide +kernel
theorem dX12_findTicks_118 : decode cX12_findTicks 118 = .ok (.iload 6, 2) := by decide +kernel
theorem dX12_findTicks_120 : decode cX12_findTicks 120 = .ok (.if_icmp .le 14, 3) := by decide +kernel
theorem dX12_findTicks_123 : decode cX12_findTicks 123 = .ok (.aload_n 0, 1) := by decide +kernel
theorem dX12_findTicks_124 : decode cX12_findTicks 124 = .ok (.getfield 77, 3) := by decide +kernel
theorem dX12_findTicks_127 : decode cX12_findTicks 127 = .ok (.iload 7, 2) := by decide +kernel
theorem dX12_findTicks_129 : decode cX12_findTicks 129 = .ok (.iaload, 1) := by decide +kernel
theorem dX12_findTicks_130 : decode cX12_findTicks 130 = .ok (.iconst 1, 1) := by decide +kernel
theorem dX12_findTicks_131 : decode cX12_findTicks 131 = .ok (.iadd, 1) := by decide +kernel
theorem dX12_findTicks_132 : decode cX12_findTicks 132 = .ok (.istore 6, 2) := by decide +kernel
theorem dX12_findTicks_134 : decode cX12_findTicks 134 = .ok (.iinc 7 1, 3) := by decide +kernel
theorem dX12_findTicks_137 : decode cX12_findTicks 137 = .ok (.goto (-104), 3) := by decide +kernel
theorem dX12_findTicks_140 : decode cX12_findTicks 140 = .ok (.iload 6, 2) := by decide +kernel
theorem dX12_findTicks_142 : decode cX12_findTicks 142 = .ok (.iload_n 1, 1) := by decide +kernel
theorem dX12_findTicks_143 : decode cX12_findTicks 143 = .ok (.if_icmp .ne 14, 3) := by decide +kernel
theorem dX12_findTicks_146 : decode cX12_findTicks 146 = .ok (.iload_n 2, 1) := by decide +kernel
theorem dX12_findTicks_147 : decode cX12_findTicks 147 = .ok (.aload_n 0, 1) := by decide +kernel
theorem dX12_findTicks_148 : decode cX12_findTicks 148 = .ok (.getfield 120, 3) := by decide +kernel
theorem dX12_findTicks_151 : decode cX12_findTicks 151 = .ok (.if_icmp .ne 6, 3) := by decide +kernel
theorem dX12_findTicks_154 : decode cX12_findTicks 154 = .ok (.iinc 6 1, 3) := by decide +kernel
theorem dX12_findTicks_157 : decode cX12_findTicks 157 = .ok (.iload 6, 2) := by decide +kernel
theorem dX12_findTicks_159 : decode cX12_findTicks 159 = .ok (.iload_n 1, 1) := by decide +kernel
theorem dX12_findTicks_160 : decode cX12_findTicks 160 = .ok (.if_icmp .ne 9, 3) := by decide +kernel
theorem dX12_findTicks_163 : decode cX12_findTicks 163 = .ok (.iload_n 2, 1) := by decide +kernel
theorem dX12_findTicks_164 : decode cX12_findTicks 164 = .ok (.iconst 1, 1) := by decide +kernel
theorem dX12_findTicks_165 : decode cX12_findTicks 165 = .ok (.iadd, 1) := by decide +kernel
theorem dX12_findTicks_166 : decode cX12_findTicks 166 = .ok (.goto 4, 3) := by decide +kernel
theorem dX12_findTicks_169 : decode cX12_findTicks 169 = .ok (.iconst 1, 1) := by decide +kernel
theorem dX12_findTicks_170 : decode cX12_findTicks 170 = .ok (.istore_n 2, 1) := by decide +kernel
theorem dX12_findTicks_171 : decode cX12_findTicks 171 = .ok (.iload 6, 2) := by decide +kernel
theorem dX12_findTicks_173 : decode cX12_findTicks 173 = .ok (.istore_n 1, 1) := by decide +kernel
theorem dX12_findTicks_174 : decode cX12_findTicks 174 = .ok (.aload_n 0, 1) := by decide +kernel
theorem dX12_findTicks_175 : decode cX12_findTicks 175 = .ok (.getfield 77, 3) := by decide +kernel
theorem dX12_findTicks_178 : decode cX12_findTicks 178 = .ok (.iload 5, 2) := by decide +kernel
theorem dX12_findTicks_180 : decode cX12_findTicks 180 = .ok (.iload_n 1, 1) := by decide +kernel
theorem dX12_findTicks_181 : decode cX12_findTicks 181 = .ok (.iastore, 1) := by decide +kernel
theorem dX12_findTicks_182 : decode cX12_findTicks 182 = .ok (.iload_n 1, 1) := by decide +kernel
theorem dX12_findTicks_183 : decode cX12_findTicks 183 = .ok (.aload_n 0, 1) := by decide +kernel
theorem dX12_findTicks_184 : decode cX12_findTicks 184 = .ok (.iload 5, 2) := by decide +kernel
theorem dX12_findTicks_186 : decode cX12_findTicks 186 = .ok (.invokevirtual 300, 3) := by decide +kernel
theorem dX12_findTicks_189 : decode cX12_findTicks 189 = .ok (.iadd, 1) := by decide +kernel
theorem dX12_findTicks_190 : decode cX12_findTicks 190 = .ok (.iload_n 3, 1) := by decide +kernel
theorem dX12_findTicks_191 : decode cX12_findTicks 191 = .ok (.if_icmp .le 14, 3) := by decide +kernel
theorem dX12_findTicks_194 : decode cX12_findTicks 194 = .ok (.iload_n 1, 1) := by decide +kernel
theorem dX12_findTicks_195 : decode cX12_findTicks 195 = .ok (.aload_n 0, 1) := by decide +kernel
theorem dX12_findTicks_196 : decode cX12_findTicks 196 = .ok (.iload 5, 2) := by decide +kernel
theorem dX12_findTicks_198 : decode cX12_findTicks 198 = .ok (.invokevirtual 300, 3) := by decide +kernel
theorem dX12_findTicks_201 : decode cX12_findTicks 201 = .ok (.iadd, 1) := by decide +kernel
theorem dX12_findTicks_202 : decode cX12_findTicks 202 = .ok (.goto 4, 3) := by decide +kernel
theorem dX12_findTicks_205 : decode cX12_findTicks 205 = .ok (.iload_n 3, 1) := by decide +kernel
theorem dX12_findTicks_206 : decode cX12_findTicks 206 = .ok (.istore_n 3, 1) := by decide +kernel
theorem dX12_findTicks_207 : decode cX12_findTicks 207 = .ok (.iinc 4 1, 3) := by decide +kernel
theorem dX12_findTicks_210 : decode cX12_findTicks 210 = .ok (.goto (-201), 3) := by decide +kernel
theorem dX12_findTicks_213 : decode cX12_findTicks 213 = .ok (.iload_n 3, 1) := by decide +kernel
theorem dX12_findTicks_214 : decode cX12_findTicks 214 = .ok (.ireturn, 1) := by decide +kernel
set_option maxRecDepth 20000 in
theorem ggX12_tick_X12_isStep : GoodIn wsX12_tick wsX12_isStep := goodIn_r _ [6, 7, 8, 9, 5, 10, 56, 57, 58, 59, 60, 61, 62, 63, 64, 65, 66, 67, 68, 69, 70, 71, 72, 73, 74, 75, 76, 77, 78, 79, 80, 81, 82, 83, 84, 85, 86, 87, 88, 89, 90, 91, 92, 93, 94, 95, 96, 97, 98, 99, 100, 101, 102, 103] (by decide +kernel) (by decide +kernel)
set_option maxRecDepth 20000 in
theorem gX12_tick_X12_isStep : GoodIn wsX12_tick (wsV RX12 186 RX12 yX12_isStep wsX12_isStep) := goodIn_app (goodIn_of _ (by decide +kernel)) ggX12_tick_X12_isStep
set_option maxRecDepth 20000 in
theorem ggX12_tick_X12_findBehind : GoodIn wsX12_tick wsX12_findBehind := goodIn_r _ [14, 7, 15, 16, 17, 18, 19, 5, 20, 21, 22, 23, 24, 25, 26, 8, 9, 10, 27, 28, 29, 30, 31, 32, 33, 34, 35, 36, 37, 38, 39, 56, 57, 58, 59, 60, 61, 62, 63, 64, 65, 66, 67, 68, 69, 70, 71, 72, 73, 74, 75, 76, 77, 78, 79, 80, 81, 82, 83, 84, 85, 86, 87, 88, 89, 90, 91, 92, 93, 94, 95, 96, 97, 98, 99, 100, 101, 102, 103] (by decide +kernel) (by decide +kernel)
set_option maxRecDepth 20000 in
theorem gX12_tick_X12_findBehind : GoodIn wsX12_tick (wsV RX12 295 RX12 yX12_findBehind wsX12_findBehind) := goodIn_app (goodIn_of _ (by decide +kernel)) ggX12_tick_X12_findBehind
set_option maxRecDepth 20000 in
theorem ggX12_tick_X12_layOrder : GoodIn wsX12_tick wsX12_layOrder := goodIn_r _ [43, 7, 44, 56, 57, 58, 59, 60, 61, 62, 63, 64, 65, 66, 67, 68, 69, 70, 71, 72, 73, 74, 75, 76, 77, 78, 79, 80, 81, 82, 83, 84, 85, 86, 87, 88, 89, 90, 91, 92, 93, 94, 95, 96, 97, 98, 99, 100, 101, 102, 103] (by decide +kernel) (by decide +kernel)
set_option maxRecDepth 20000 in
theorem gX12_tick_X12_layOrder : GoodIn wsX12_tick (wsV RX12 303 RX12 yX12_layOrder wsX12_layOrder) := goodIn_app (goodIn_of _ (by decide +kernel)) ggX12_tick_X12_layOrder
set_option maxRecDepth 20000 in
theorem ggX12_tick_X12_findTicks : GoodIn wsX12_tick wsX12_findTicks := goodIn_r _ [48, 7, 44, 15, 1, 16, 49, 50, 51, 52, 5, 53, 54, 55, 56, 57, 58, 59, 60, 61, 62, 63, 64, 65, 66, 67, 68, 69, 70, 71, 72, 73, 74, 75, 76, 77, 78, 79, 80, 81, 82, 83, 84, 85, 86, 87, 88, 89, 90, 91, 92, 93, 94, 95, 96, 97, 98, 99, 100, 101, 102, 103] (by decide +kernel) (by decide +kernel)
set_option maxRecDepth 20000 in
theorem gX12_tick_X12_findTicks : GoodIn wsX12_tick (wsV RX12 306 RX12 yX12_findTicks wsX12_findTicks) := goodIn_app (goodIn_of _ (by decide +kernel)) ggX12_tick_X12_findTicks
theorem dX12_tick_0 : decode cX12_tick 0 = .ok (.aload_n 0, 1) := by decide +kernel
theorem dX12_tick_1 : decode cX12_tick 1 = .ok (.iload_n 1, 1) := by decide +kernel
theorem dX12_tick_2 : decode cX12_tick 2 = .ok (.invokevirtual 186, 3) := by decide +kernel
theorem dX12_tick_5 : decode cX12_tick 5 = .ok (.ifCond .ne 5, 3) := by decide +kernel
theorem dX12_tick_8 : decode cX12_tick 8 = .ok (.iconst (-1), 1) := by decide +kernel
theorem dX12_tick_9 : decode cX12_tick 9 = .ok (.ireturn, 1) := by decide +kernel
theorem dX12_tick_10 : decode cX12_tick 10 = .ok (.aload_n 0, 1) := by decide +kernel
theorem dX12_tick_11 : decode cX12_tick 11 = .ok (.invokevirtual 295, 3) := by decide +kernel
theorem dX12_tick_14 : decode cX12_tick 14 = .ok (.aload_n 0, 1) := by decide +kernel
theorem dX12_tick_15 : decode cX12_tick 15 = .ok (.invokevirtual 303, 3) := by decide +kernel
theorem dX12_tick_18 : decode cX12_tick 18 = .ok (.aload_n 0, 1) := by decide +kernel
theorem dX12_tick_19 : decode cX12_tick 19 = .ok (.invokevirtual 306, 3) := by decide +kernel
theorem dX12_tick_22 : decode cX12_tick 22 = .ok (.pop, 1) := by decide +kernel
theorem dX12_tick_23 : decode cX12_tick 23 = .ok (.aload_n 0, 1) := by decide +kernel
theorem dX12_tick_24 : decode cX12_tick 24 = .ok (.getfield 77, 3) := by decide +kernel
theorem dX12_tick_27 : decode cX12_tick 27 = .ok (.iload_n 1, 1) := by decide +kernel
theorem dX12_tick_28 : decode cX12_tick 28 = .ok (.iaload, 1) := by decide +kernel
theorem dX12_tick_29 : decode cX12_tick 29 = .ok (.ireturn, 1) := by decide +kernel
set_option maxRecDepth 20000 in
theorem ggX12_time_X12_findBehind : GoodIn wsX12_time wsX12_findBehind := goodIn_r _ [5, 6, 7, 8, 9, 10, 11, 4, 12, 13, 14, 15, 16, 17, 18, 19, 20, 21, 22, 23, 24, 25, 26, 27, 28, 29, 30, 31, 32, 33, 34, 52, 53, 54, 55, 56, 57, 58, 59, 60, 61, 62, 63, 64, 65, 66, 67, 68, 69, 70, 71, 72, 73, 74, 75, 76, 77, 78, 79, 80, 81, 82, 83, 84, 85, 86, 87, 88, 89, 90, 91, 92, 93, 94, 95, 96, 97, 98, 99] (by decide +kernel) (by decide +kernel)
set_option maxRecDepth 20000 in
theorem gX12_time_X12_findBehind : GoodIn wsX12_time (wsV RX12 295 RX12 yX12_findBehind wsX12_findBehind) := goodIn_app (goodIn_of _ (by decide +kernel)) ggX12_time_X12_findBehind
set_option maxRecDepth 20000 in
theorem ggX12_time_X12_layOrder : GoodIn wsX12_time wsX12_layOrder := goodIn_r _ [38, 6, 39, 52, 53, 54, 55, 56, 57, 58, 59, 60, 61, 62, 63, 64, 65, 66, 67, 68, 69, 70, 71, 72, 73, 74, 75, 76, 77, 78, 79, 80, 81, 82, 83, 84, 85, 86, 87, 88, 89, 90, 91, 92, 93, 94, 95, 96, 97, 98, 99] (by decide +kernel) (by decide +kernel)
set_option maxRecDepth 20000 in
theorem gX12_time_X12_layOrder : GoodIn wsX12_time (wsV RX12 303 RX12 yX12_layOrder wsX12_layOrder) := goodIn_app (goodIn_of _ (by decide +kernel)) ggX12_time_X12_layOrder
set_option maxRecDepth 20000 in
theorem ggX12_time_X12_findTicks : GoodIn wsX12_time wsX12_findTicks := goodIn_r _ [43, 6, 39, 7, 44, 8, 45, 46, 47, 48, 4, 49, 50, 51, 52, 53, 54, 55, 56, 57, 58, 59, 60, 61, 62, 63, 64, 65, 66, 67, 68, 69, 70, 71, 72, 73, 74, 75, 76, 77, 78, 79, 80, 81, 82, 83, 84, 85, 86, 87, 88, 89, 90, 91, 92, 93, 94, 95, 96, 97, 98, 99] (by decide +kernel) (by decide +kernel)
set_option maxRecDepth 20000 in
theorem gX12_time_X12_findTicks : GoodIn wsX12_time (wsV RX12 306 RX12 yX12_findTicks wsX12_findTicks) := goodIn_app (goodIn_of _ (by decide +kernel)) ggX12_time_X12_findTicks
theorem dX12_time_0 : decode cX12_time 0 = .ok (.aload_n 0, 1) := by decide +kernel
theorem dX12_time_1 : decode cX12_time 1 = .ok (.invokevirtual 295, 3) := by decide +kernel
theorem dX12_time_4 : decode cX12_time 4 = .ok (.aload_n 0, 1) := by decide +kernel
theorem dX12_time_5 : decode cX12_time 5 = .ok (.invokevirtual 303, 3) := by decide +kernel
theorem dX12_time_8 : decode cX12_time 8 = .ok (.aload_n 0, 1) := by decide +kernel
theorem dX12_time_9 : decode cX12_time 9 = .ok (.invokevirtual 306, 3) := by decide +kernel
theorem dX12_time_12 : decode cX12_time 12 = .ok (.ireturn, 1) := by decide +kernel
theorem dX12_nextOrder_0 : decode cX12_nextOrder 0 = .ok (.aload_n 0, 1) := by decide +kernel
theorem dX12_nextOrder_1 : decode cX12_nextOrder 1 = .ok (.getfield 181, 3) := by decide +kernel
theorem dX12_nextOrder_4 : decode cX12_nextOrder 4 = .ok (.iconst 2, 1) := by decide +kernel
theorem dX12_nextOrder_5 : decode cX12_nextOrder 5 = .ok (.isub, 1) := by decide +kernel
theorem dX12_nextOrder_6 : decode cX12_nextOrder 6 = .ok (.istore_n 1, 1) := by decide +kernel
theorem dX12_nextOrder_7 : decode cX12_nextOrder 7 = .ok (.iload_n 1, 1) := by decide +kernel
theorem dX12_nextOrder_8 : decode cX12_nextOrder 8 = .ok (.ifCond .lt 26, 3) := by decide +kernel
theorem dX12_nextOrder_11 : decode cX12_nextOrder 11 = .ok (.aload_n 0, 1) := by decide +kernel
theorem dX12_nextOrder_12 : decode cX12_nextOrder 12 = .ok (.getfield 74, 3) := by decide +kernel
theorem dX12_nextOrder_15 : decode cX12_nextOrder 15 = .ok (.iload_n 1, 1) := by decide +kernel
theorem dX12_nextOrder_16 : decode cX12_nextOrder 16 = .ok (.iaload, 1) := by decide +kernel
theorem dX12_nextOrder_17 : decode cX12_nextOrder 17 = .ok (.aload_n 0, 1) := by decide +kernel
theorem dX12_nextOrder_18 : decode cX12_nextOrder 18 = .ok (.getfield 74, 3) := by decide +kernel
theorem dX12_nextOrder_21 : decode cX12_nextOrder 21 = .ok (.iload_n 1, 1) := by decide +kernel
theorem dX12_nextOrder_22 : decode cX12_nextOrder 22 = .ok (.iconst 1, 1) := by decide +kernel
theorem dX12_nextOrder_23 : decode cX12_nextOrder 23 = .ok (.iadd, 1) := by decide +kernel
theorem dX12_nextOrder_24 : decode cX12_nextOrder 24 = .ok (.iaload, 1) := by decide +kernel
theorem dX12_nextOrder_25 : decode cX12_nextOrder 25 = .ok (.if_icmp .le 9, 3) := by decide +kernel
theorem dX12_nextOrder_28 : decode cX12_nextOrder 28 = .ok (.iinc 1 (-1), 3) := by decide +kernel
theorem dX12_nextOrder_31 : decode cX12_nextOrder 31 = .ok (.goto (-24), 3) := by decide +kernel
theorem dX12_nextOrder_34 : decode cX12_nextOrder 34 = .ok (.iload_n 1, 1) := by decide +kernel
theorem dX12_nextOrder_35 : decode cX12_nextOrder 35 = .ok (.ifCond .ge 5, 3) := by decide +kernel
theorem dX12_nextOrder_38 : decode cX12_nextOrder 38 = .ok (.iconst 0, 1) := by decide +kernel
theorem dX12_nextOrder_39 : decode cX12_nextOrder 39 = .ok (.ireturn, 1) := by decide +kernel
theorem dX12_nextOrder_40 : decode cX12_nextOrder 40 = .ok (.aload_n 0, 1) := by decide +kernel
theorem dX12_nextOrder_41 : decode cX12_nextOrder 41 = .ok (.getfield 181, 3) := by decide +kernel
theorem dX12_nextOrder_44 : decode cX12_nextOrder 44 = .ok (.iconst 1, 1) := by decide +kernel
theorem dX12_nextOrder_45 : decode cX12_nextOrder 45 = .ok (.isub, 1) := by decide +kernel
theorem dX12_nextOrder_46 : decode cX12_nextOrder 46 = .ok (.istore_n 2, 1) := by decide +kernel
theorem dX12_nextOrder_47 : decode cX12_nextOrder 47 = .ok (.aload_n 0, 1) := by decide +kernel
theorem dX12_nextOrder_48 : decode cX12_nextOrder 48 = .ok (.getfield 74, 3) := by decide +kernel
theorem dX12_nextOrder_51 : decode cX12_nextOrder 51 = .ok (.iload_n 2, 1) := by decide +kernel
theorem dX12_nextOrder_52 : decode cX12_nextOrder 52 = .ok (.iaload, 1) := by decide +kernel
theorem dX12_nextOrder_53 : decode cX12_nextOrder 53 = .ok (.aload_n 0, 1) := by decide +kernel
theorem dX12_nextOrder_54 : decode cX12_nextOrder 54 = .ok (.getfield 74, 3) := by decide +kernel
theorem dX12_nextOrder_57 : decode cX12_nextOrder 57 = .ok (.iload_n 1, 1) := by decide +kernel
theorem dX12_nextOrder_58 : decode cX12_nextOrder 58 = .ok (.iaload, 1) := by decide +kernel
theorem dX12_nextOrder_59 : decode cX12_nextOrder 59 = .ok (.if_icmp .ge 9, 3) := by decide +kernel
theorem dX12_nextOrder_62 : decode cX12_nextOrder 62 = .ok (.iinc 2 (-1), 3) := by decide +kernel
theorem dX12_nextOrder_65 : decode cX12_nextOrder 65 = .ok (.goto (-18), 3) := by decide +kernel
theorem dX12_nextOrder_68 : decode cX12_nextOrder 68 = .ok (.aload_n 0, 1) := by decide +kernel
theorem dX12_nextOrder_69 : decode cX12_nextOrder 69 = .ok (.getfield 74, 3) := by decide +kernel
theorem dX12_nextOrder_72 : decode cX12_nextOrder 72 = .ok (.iload_n 1, 1) := by decide +kernel
theorem dX12_nextOrder_73 : decode cX12_nextOrder 73 = .ok (.iaload, 1) := by decide +kernel
theorem dX12_nextOrder_74 : decode cX12_nextOrder 74 = .ok (.istore_n 3, 1) := by decide +kernel
theorem dX12_nextOrder_75 : decode cX12_nextOrder 75 = .ok (.aload_n 0, 1) := by decide +kernel
theorem dX12_nextOrder_76 : decode cX12_nextOrder 76 = .ok (.getfield 74, 3) := by decide +kernel
theorem dX12_nextOrder_79 : decode cX12_nextOrder 79 = .ok (.iload_n 1, 1) := by decide +kernel
theorem dX12_nextOrder_80 : decode cX12_nextOrder 80 = .ok (.aload_n 0, 1) := by decide +kernel
theorem dX12_nextOrder_81 : decode cX12_nextOrder 81 = .ok (.getfield 74, 3) := by decide +kernel
theorem dX12_nextOrder_84 : decode cX12_nextOrder 84 = .ok (.iload_n 2, 1) := by decide +kernel
theorem dX12_nextOrder_85 : decode cX12_nextOrder 85 = .ok (.iaload, 1) := by decide +kernel
theorem dX12_nextOrder_86 : decode cX12_nextOrder 86 = .ok (.iastore, 1) := by decide +kernel
theorem dX12_nextOrder_87 : decode cX12_nextOrder 87 = .ok (.aload_n 0, 1) := by decide +kernel
theorem dX12_nextOrder_88 : decode cX12_nextOrder 88 = .ok (.getfield 74, 3) := by decide +kernel
theorem dX12_nextOrder_91 : decode cX12_nextOrder 91 = .ok (.iload_n 2, 1) := by decide +kernel
theorem dX12_nextOrder_92 : decode cX12_nextOrder 92 = .ok (.iload_n 3, 1) := by decide +kernel
theorem dX12_nextOrder_93 : decode cX12_nextOrder 93 = .ok (.iastore, 1) := by decide +kernel
theorem dX12_nextOrder_94 : decode cX12_nextOrder 94 = .ok (.iload_n 1, 1) := by decide +kernel
theorem dX12_nextOrder_95 : decode cX12_nextOrder 95 = .ok (.iconst 1, 1) := by decide +kernel
theorem dX12_nextOrder_96 : decode cX12_nextOrder 96 = .ok (.iadd, 1) := by decide +kernel
theorem dX12_nextOrder_97 : decode cX12_nextOrder 97 = .ok (.istore 4, 2) := by decide +kernel
theorem dX12_nextOrder_99 : decode cX12_nextOrder 99 = .ok (.aload_n 0, 1) := by decide +kernel
theorem dX12_nextOrder_100 : decode cX12_nextOrder 100 = .ok (.getfield 181, 3) := by decide +kernel
theorem dX12_nextOrder_103 : decode cX12_nextOrder 103 = .ok (.iconst 1, 1) := by decide +kernel
theorem dX12_nextOrder_104 : decode cX12_nextOrder 104 = .ok (.isub, 1) := by decide +kernel
theorem dX12_nextOrder_105 : decode cX12_nextOrder 105 = .ok (.istore 5, 2) := by decide +kernel
theorem dX12_nextOrder_107 : decode cX12_nextOrder 107 = .ok (.iload 4, 2) := by decide +kernel
theorem dX12_nextOrder_109 : decode cX12_nextOrder 109 = .ok (.iload 5, 2) := by decide +kernel
theorem dX12_nextOrder_111 : decode cX12_nextOrder 111 = .ok (.if_icmp .ge 42, 3) := by decide +kernel
theorem dX12_nextOrder_114 : decode cX12_nextOrder 114 = .ok (.aload_n 0, 1) := by decide +kernel
theorem dX12_nextOrder_115 : decode cX12_nextOrder 115 = .ok (.getfield 74, 3) := by decide +kernel
theorem dX12_nextOrder_118 : decode cX12_nextOrder 118 = .ok (.iload 4, 2) := by decide +kernel
theorem dX12_nextOrder_120 : decode cX12_nextOrder 120 = .ok (.iaload, 1) := by decide +kernel
theorem dX12_nextOrder_121 : decode cX12_nextOrder 121 = .ok (.istore_n 3, 1) := by decide +kernel
theorem dX12_nextOrder_122 : decode cX12_nextOrder 122 = .ok (.aload_n 0, 1) := by decide +kernel
theorem dX12_nextOrder_123 : decode cX12_nextOrder 123 = .ok (.getfield 74, 3) := by decide +kernel
theorem dX12_nextOrder_126 : decode cX12_nextOrder 126 = .ok (.iload 4, 2) := by decide +kernel
theorem dX12_nextOrder_128 : decode cX12_nextOrder 128 = .ok (.aload_n 0, 1) := by decide +kernel
theorem dX12_nextOrder_129 : decode cX12_nextOrder 129 = .ok (.getfield 74, 3) := by decide +kernel
theorem dX12_nextOrder_132 : decode cX12_nextOrder 132 = .ok (.iload 5, 2) := by decide +kernel
theorem dX12_nextOrder_134 : decode cX12_nextOrder 134 = .ok (.iaload, 1) := by decide +kernel
theorem dX12_nextOrder_135 : decode cX12_nextOrder 135 = .ok (.iastore, 1) := by decide +kernel
theorem dX12_nextOrder_136 : decode cX12_nextOrder 136 = .ok (.aload_n 0, 1) := by decide +kernel
theorem dX12_nextOrder_137 : decode cX12_nextOrder 137 = .ok (.getfield 74, 3) := by decide +kernel
theorem dX12_nextOrder_140 : decode cX12_nextOrder 140 = .ok (.iload 5, 2) := by decide +kernel
theorem dX12_nextOrder_142 : decode cX12_nextOrder 142 = .ok (.iload_n 3, 1) := by decide +kernel
theorem dX12_nextOrder_143 : decode cX12_nextOrder 143 = .ok (.iastore, 1) := by decide +kernel
theorem dX12_nextOrder_144 : decode cX12_nextOrder 144 = .ok (.iinc 4 1, 3) := by decide +kernel
theorem dX12_nextOrder_147 : decode cX12_nextOrder 147 = .ok (.iinc 5 (-1), 3) := by decide +kernel
theorem dX12_nextOrder_150 : decode cX12_nextOrder 150 = .ok (.goto (-43), 3) := by decide +kernel
theorem dX12_nextOrder_153 : decode cX12_nextOrder 153 = .ok (.iconst 1, 1) := by decide +kernel
theorem dX12_nextOrder_154 : decode cX12_nextOrder 154 = .ok (.ireturn, 1) := by decide +kernel
theorem dX12_isLawful_0 : decode cX12_isLawful 0 = .ok (.iconst 0, 1) := by decide +kernel
theorem dX12_isLawful_1 : decode cX12_isLawful 1 = .ok (.istore_n 2, 1) := by decide +kernel
theorem dX12_isLawful_2 : decode cX12_isLawful 2 = .ok (.iconst 1, 1) := by decide +kernel
theorem dX12_isLawful_3 : decode cX12_isLawful 3 = .ok (.istore_n 3, 1) := by decide +kernel
theorem dX12_isLawful_4 : decode cX12_isLawful 4 = .ok (.iconst 0, 1) := by decide +kernel
theorem dX12_isLawful_5 : decode cX12_isLawful 5 = .ok (.istore 4, 2) := by decide +kernel
theorem dX12_isLawful_7 : decode cX12_isLawful 7 = .ok (.iload 4, 2) := by decide +kernel
theorem dX12_isLawful_9 : decode cX12_isLawful 9 = .ok (.aload_n 0, 1) := by decide +kernel
theorem dX12_isLawful_10 : decode cX12_isLawful 10 = .ok (.getfield 181, 3) := by decide +kernel
theorem dX12_isLawful_13 : decode cX12_isLawful 13 = .ok (.if_icmp .ge 71, 3) := by decide +kernel
theorem dX12_isLawful_16 : decode cX12_isLawful 16 = .ok (.iload_n 3, 1) := by decide +kernel
theorem dX12_isLawful_17 : decode cX12_isLawful 17 = .ok (.ifCond .eq 67, 3) := by decide +kernel
theorem dX12_isLawful_20 : decode cX12_isLawful 20 = .ok (.aload_n 0, 1) := by decide +kernel
theorem dX12_isLawful_21 : decode cX12_isLawful 21 = .ok (.getfield 74, 3) := by decide +kernel
theorem dX12_isLawful_24 : decode cX12_isLawful 24 = .ok (.iload 4, 2) := by decide +kernel
theorem dX12_isLawful_26 : decode cX12_isLawful 26 = .ok (.iaload, 1) := by decide +kernel
theorem dX12_isLawful_27 : decode cX12_isLawful 27 = .ok (.istore 5, 2) := by decide +kernel
theorem dX12_isLawful_29 : decode cX12_isLawful 29 = .ok (.iload_n 1, 1) := by decide +kernel
theorem dX12_isLawful_30 : decode cX12_isLawful 30 = .ok (.ifCond .eq 21, 3) := by decide +kernel
theorem dX12_isLawful_33 : decode cX12_isLawful 33 = .ok (.aload_n 0, 1) := by decide +kernel
theorem dX12_isLawful_34 : decode cX12_isLawful 34 = .ok (.getfield 65, 3) := by decide +kernel
theorem dX12_isLawful_37 : decode cX12_isLawful 37 = .ok (.iload 5, 2) := by decide +kernel
theorem dX12_isLawful_39 : decode cX12_isLawful 39 = .ok (.iaload, 1) := by decide +kernel
theorem dX12_isLawful_40 : decode cX12_isLawful 40 = .ok (.aload_n 0, 1) := by decide +kernel
theorem dX12_isLawful_41 : decode cX12_isLawful 41 = .ok (.getfield 68, 3) := by decide +kernel
theorem dX12_isLawful_44 : decode cX12_isLawful 44 = .ok (.iload 5, 2) := by decide +kernel
theorem dX12_isLawful_46 : decode cX12_isLawful 46 = .ok (.iaload, 1) := by decide +kernel
theorem dX12_isLawful_47 : decode cX12_isLawful 47 = .ok (.ior, 1) := by decide +kernel
theorem dX12_isLawful_48 : decode cX12_isLawful 48 = .ok (.goto 10, 3) := by decide +kernel
theorem dX12_isLawful_51 : decode cX12_isLawful 51 = .ok (.aload_n 0, 1) := by decide +kernel
theorem dX12_isLawful_52 : decode cX12_isLawful 52 = .ok (.getfield 65, 3) := by decide +kernel
theorem dX12_isLawful_55 : decode cX12_isLawful 55 = .ok (.iload 5, 2) := by decide +kernel
theorem dX12_isLawful_57 : decode cX12_isLawful 57 = .ok (.iaload, 1) := by decide +kernel
theorem dX12_isLawful_58 : decode cX12_isLawful 58 = .ok (.iload_n 2, 1) := by decide +kernel
theorem dX12_isLawful_59 : decode cX12_isLawful 59 = .ok (.iconst (-1), 1) := by decide +kernel
theorem dX12_isLawful_60 : decode cX12_isLawful 60 = .ok (.ixor, 1) := by decide +kernel
theorem dX12_isLawful_61 : decode cX12_isLawful 61 = .ok (.iand, 1) := by decide +kernel
theorem dX12_isLawful_62 : decode cX12_isLawful 62 = .ok (.ifCond .ne 7, 3) := by decide +kernel
theorem dX12_isLawful_65 : decode cX12_isLawful 65 = .ok (.iconst 1, 1) := by decide +kernel
theorem dX12_isLawful_66 : decode cX12_isLawful 66 = .ok (.goto 4, 3) := by decide +kernel
theorem dX12_isLawful_69 : decode cX12_isLawful 69 = .ok (.iconst 0, 1) := by decide +kernel
theorem dX12_isLawful_70 : decode cX12_isLawful 70 = .ok (.istore_n 3, 1) := by decide +kernel
theorem dX12_isLawful_71 : decode cX12_isLawful 71 = .ok (.iload_n 2, 1) := by decide +kernel
theorem dX12_isLawful_72 : decode cX12_isLawful 72 = .ok (.iconst 1, 1) := by decide +kernel
theorem dX12_isLawful_73 : decode cX12_isLawful 73 = .ok (.iload 5, 2) := by decide +kernel
theorem dX12_isLawful_75 : decode cX12_isLawful 75 = .ok (.ishl, 1) := by decide +kernel
theorem dX12_isLawful_76 : decode cX12_isLawful 76 = .ok (.ior, 1) := by decide +kernel
theorem dX12_isLawful_77 : decode cX12_isLawful 77 = .ok (.istore_n 2, 1) := by decide +kernel
theorem dX12_isLawful_78 : decode cX12_isLawful 78 = .ok (.iinc 4 1, 3) := by decide +kernel
theorem dX12_isLawful_81 : decode cX12_isLawful 81 = .ok (.goto (-74), 3) := by decide +kernel
theorem dX12_isLawful_84 : decode cX12_isLawful 84 = .ok (.iload_n 3, 1) := by decide +kernel
theorem dX12_isLawful_85 : decode cX12_isLawful 85 = .ok (.ireturn, 1) := by decide +kernel
set_option maxRecDepth 20000 in
theorem ggX12_findBest_X12_findBehind : GoodIn wsX12_findBest wsX12_findBehind := goodIn_r _ [8, 1, 9, 10, 11, 12, 13, 7, 14, 15, 16, 17, 18, 19, 20, 21, 22, 23, 24, 25, 26, 27, 28, 29, 30, 31, 32, 33, 34, 35, 36, 91, 92, 93, 94, 95, 96, 97, 98, 99, 100, 101, 102, 103, 104, 105, 106, 107, 108, 109, 110, 111, 112, 113, 114, 115, 116, 117, 118, 119, 120, 121, 122, 123, 124, 125, 126, 127, 128, 129, 130, 131, 132, 133, 134, 135, 136, 137, 138] (by decide +kernel) (by decide +kernel)
set_option maxRecDepth 20000 in
theorem gX12_findBest_X12_findBehind : GoodIn wsX12_findBest (wsV RX12 295 RX12 yX12_findBehind wsX12_findBehind) := goodIn_app (goodIn_of _ (by decide +kernel)) ggX12_findBest_X12_findBehind
set_option maxRecDepth 20000 in
theorem ggX12_findBest_X12_layOrder : GoodIn wsX12_findBest wsX12_layOrder := goodIn_r _ [40, 1, 3, 91, 92, 93, 94, 95, 96, 97, 98, 99, 100, 101, 102, 103, 104, 105, 106, 107, 108, 109, 110, 111, 112, 113, 114, 115, 116, 117, 118, 119, 120, 121, 122, 123, 124, 125, 126, 127, 128, 129, 130, 131, 132, 133, 134, 135, 136, 137, 138] (by decide +kernel) (by decide +kernel)
set_option maxRecDepth 20000 in
theorem gX12_findBest_X12_layOrder : GoodIn wsX12_findBest (wsV RX12 303 RX12 yX12_layOrder wsX12_layOrder) := goodIn_app (goodIn_of _ (by decide +kernel)) ggX12_findBest_X12_layOrder
set_option maxRecDepth 20000 in
theorem ggX12_findBest_X12_isLawful : GoodIn wsX12_findBest wsX12_isLawful := goodIn_r _ [44, 1, 3, 9, 10, 91, 92, 93, 94, 95, 96, 97, 98, 99, 100, 101, 102, 103, 104, 105, 106, 107, 108, 109, 110, 111, 112, 113, 114, 115, 116, 117, 118, 119, 120, 121, 122, 123, 124, 125, 126, 127, 128, 129, 130, 131, 132, 133, 134, 135, 136, 137, 138] (by decide +kernel) (by decide +kernel)
set_option maxRecDepth 20000 in
theorem gX12_findBest_X12_isLawful : GoodIn wsX12_findBest (wsV RX12 309 RX12 yX12_isLawful wsX12_isLawful) := goodIn_app (goodIn_of _ (by decide +kernel)) ggX12_findBest_X12_isLawful
set_option maxRecDepth 20000 in
theorem ggX12_findBest_X12_findTicks : GoodIn wsX12_findBest wsX12_findTicks := goodIn_r _ [48, 1, 3, 9, 49, 10, 50, 51, 52, 53, 7, 54, 55, 56, 91, 92, 93, 94, 95, 96, 97, 98, 99, 100, 101, 102, 103, 104, 105, 106, 107, 108, 109, 110, 111, 112, 113, 114, 115, 116, 117, 118, 119, 120, 121, 122, 123, 124, 125, 126, 127, 128, 129, 130, 131, 132, 133, 134, 135, 136, 137, 138] (by decide +kernel) (by decide +kernel)
set_option maxRecDepth 20000 in
theorem gX12_findBest_X12_findTicks : GoodIn wsX12_findBest (wsV RX12 306 RX12 yX12_findTicks wsX12_findTicks) := goodIn_app (goodIn_of _ (by decide +kernel)) ggX12_findBest_X12_findTicks
set_option maxRecDepth 20000 in
theorem ggX12_findBest_X12_widthOf : GoodIn wsX12_findBest wsX12_widthOf := goodIn_r _ [60, 1, 61, 62, 63, 64, 7, 65, 66, 3, 67, 68, 69, 70, 71, 15, 16, 72, 73, 74, 75, 21, 22, 23, 17, 18, 19, 20, 76, 77, 78, 79, 24, 25, 26, 27, 28, 80, 81, 82, 83, 84, 85, 86, 91, 92, 93, 94, 95, 96, 97, 98, 99, 100, 101, 102, 103, 104, 105, 106, 107, 108, 109, 110, 111, 112, 113, 114, 115, 116, 117, 118, 119, 120, 121, 122, 123, 124, 125, 126, 127, 128, 129, 130, 131, 132, 133, 134, 135, 136, 137, 138] (by decide +kernel) (by decide +kernel)
set_option maxRecDepth 20000 in
theorem gX12_findBest_X12_widthOf : GoodIn wsX12_findBest (wsV RX12 313 RX12 yX12_widthOf wsX12_widthOf) := goodIn_app (goodIn_of _ (by decide +kernel)) ggX12_findBest_X12_widthOf
set_option maxRecDepth 20000 in
theorem ggX12_findBest_X12_nextOrder : GoodIn wsX12_findBest wsX12_nextOrder := goodIn_r _ [90, 1, 3, 91, 92, 93, 94, 95, 96, 97, 98, 99, 100, 101, 102, 103, 104, 105, 106, 107, 108, 109, 110, 111, 112, 113, 114, 115, 116, 117, 118, 119, 120, 121, 122, 123, 124, 125, 126, 127, 128, 129, 130, 131, 132, 133, 134, 135, 136, 137, 138] (by decide +kernel) (by decide +kernel)
set_option maxRecDepth 20000 in
theorem gX12_findBest_X12_nextOrder : GoodIn wsX12_findBest (wsV RX12 316 RX12 yX12_nextOrder wsX12_nextOrder) := goodIn_app (goodIn_of _ (by decide +kernel)) ggX12_findBest_X12_nextOrder
theorem dX12_findBest_0 : decode cX12_findBest 0 = .ok (.aload_n 0, 1) := by decide +kernel
theorem dX12_findBest_1 : decode cX12_findBest 1 = .ok (.invokevirtual 295, 3) := by decide +kernel
theorem dX12_findBest_4 : decode cX12_findBest 4 = .ok (.aload_n 0, 1) := by decide +kernel
theorem dX12_findBest_5 : decode cX12_findBest 5 = .ok (.invokevirtual 303, 3) := by decide +kernel
theorem dX12_findBest_8 : decode cX12_findBest 8 = .ok (.bipush (-6), 2) := by decide +kernel
theorem dX12_findBest_10 : decode cX12_findBest 10 = .ok (.istore_n 2, 1) := by decide +kernel
theorem dX12_findBest_11 : decode cX12_findBest 11 = .ok (.iconst 1, 1) := by decide +kernel
theorem dX12_findBest_12 : decode cX12_findBest 12 = .ok (.istore_n 3, 1) := by decide +kernel
theorem dX12_findBest_13 : decode cX12_findBest 13 = .ok (.iload_n 3, 1) := by decide +kernel
theorem dX12_findBest_14 : decode cX12_findBest 14 = .ok (.ifCond .eq 81, 3) := by decide +kernel
theorem dX12_findBest_17 : decode cX12_findBest 17 = .ok (.aload_n 0, 1) := by decide +kernel
theorem dX12_findBest_18 : decode cX12_findBest 18 = .ok (.iload_n 1, 1) := by decide +kernel
theorem dX12_findBest_19 : decode cX12_findBest 19 = .ok (.invokevirtual 309, 3) := by decide +kernel
theorem dX12_findBest_22 : decode cX12_findBest 22 = .ok (.ifCond .eq 65, 3) := by decide +kernel
theorem dX12_findBest_25 : decode cX12_findBest 25 = .ok (.iload_n 1, 1) := by decide +kernel
theorem dX12_findBest_26 : decode cX12_findBest 26 = .ok (.ifCond .eq 10, 3) := by decide +kernel
theorem dX12_findBest_29 : decode cX12_findBest 29 = .ok (.aload_n 0, 1) := by decide +kernel
theorem dX12_findBest_30 : decode cX12_findBest 30 = .ok (.invokevirtual 306, 3) := by decide +kernel
theorem dX12_findBest_33 : decode cX12_findBest 33 = .ok (.goto 7, 3) := by decide +kernel
theorem dX12_findBest_36 : decode cX12_findBest 36 = .ok (.aload_n 0, 1) := by decide +kernel
theorem dX12_findBest_37 : decode cX12_findBest 37 = .ok (.invokevirtual 313, 3) := by decide +kernel
theorem dX12_findBest_40 : decode cX12_findBest 40 = .ok (.istore 4, 2) := by decide +kernel
theorem dX12_findBest_42 : decode cX12_findBest 42 = .ok (.iload_n 2, 1) := by decide +kernel
theorem dX12_findBest_43 : decode cX12_findBest 43 = .ok (.ifCond .lt 9, 3) := by decide +kernel
theorem dX12_findBest_46 : decode cX12_findBest 46 = .ok (.iload 4, 2) := by decide +kernel
theorem dX12_findBest_48 : decode cX12_findBest 48 = .ok (.iload_n 2, 1) := by decide +kernel
theorem dX12_findBest_49 : decode cX12_findBest 49 = .ok (.if_icmp .ge 38, 3) := by decide +kernel
theorem dX12_findBest_52 : decode cX12_findBest 52 = .ok (.iload 4, 2) := by decide +kernel
theorem dX12_findBest_54 : decode cX12_findBest 54 = .ok (.istore_n 2, 1) := by decide +kernel
theorem dX12_findBest_55 : decode cX12_findBest 55 = .ok (.iconst 0, 1) := by decide +kernel
theorem dX12_findBest_56 : decode cX12_findBest 56 = .ok (.istore 5, 2) := by decide +kernel
theorem dX12_findBest_58 : decode cX12_findBest 58 = .ok (.iload 5, 2) := by decide +kernel
theorem dX12_findBest_60 : decode cX12_findBest 60 = .ok (.aload_n 0, 1) := by decide +kernel
theorem dX12_findBest_61 : decode cX12_findBest 61 = .ok (.getfield 181, 3) := by decide +kernel
theorem dX12_findBest_64 : decode cX12_findBest 64 = .ok (.if_icmp .ge 23, 3) := by decide +kernel
theorem dX12_findBest_67 : decode cX12_findBest 67 = .ok (.aload_n 0, 1) := by decide +kernel
theorem dX12_findBest_68 : decode cX12_findBest 68 = .ok (.getfield 80, 3) := by decide +kernel
theorem dX12_findBest_71 : decode cX12_findBest 71 = .ok (.iload 5, 2) := by decide +kernel
theorem dX12_findBest_73 : decode cX12_findBest 73 = .ok (.aload_n 0, 1) := by decide +kernel
theorem dX12_findBest_74 : decode cX12_findBest 74 = .ok (.getfield 74, 3) := by decide +kernel
theorem dX12_findBest_77 : decode cX12_findBest 77 = .ok (.iload 5, 2) := by decide +kernel
theorem dX12_findBest_79 : decode cX12_findBest 79 = .ok (.iaload, 1) := by decide +kernel
theorem dX12_findBest_80 : decode cX12_findBest 80 = .ok (.iastore, 1) := by decide +kernel
theorem dX12_findBest_81 : decode cX12_findBest 81 = .ok (.iinc 5 1, 3) := by decide +kernel
theorem dX12_findBest_84 : decode cX12_findBest 84 = .ok (.goto (-26), 3) := by decide +kernel
theorem dX12_findBest_87 : decode cX12_findBest 87 = .ok (.aload_n 0, 1) := by decide +kernel
theorem dX12_findBest_88 : decode cX12_findBest 88 = .ok (.invokevirtual 316, 3) := by decide +kernel
theorem dX12_findBest_91 : decode cX12_findBest 91 = .ok (.istore_n 3, 1) := by decide +kernel
theorem dX12_findBest_92 : decode cX12_findBest 92 = .ok (.goto (-79), 3) := by decide +kernel
theorem dX12_findBest_95 : decode cX12_findBest 95 = .ok (.iload_n 2, 1) := by decide +kernel
theorem dX12_findBest_96 : decode cX12_findBest 96 = .ok (.ireturn, 1) := by decide +kernel
set_option maxRecDepth 20000 in
theorem ggX12_bestAt_X12_findBest : GoodIn wsX12_bestAt wsX12_findBest := goodIn_r _ [7, 1, 2, 8, 9, 10, 11, 6, 12, 13, 14, 15, 16, 17, 18, 19, 20, 21, 22, 23, 24, 25, 26, 27, 28, 29, 30, 31, 32, 33, 34, 35, 36, 37, 38, 39, 40, 41, 42, 43, 44, 45, 46, 47, 48, 49, 50, 51, 52, 53, 54, 55, 56, 57, 58, 59, 60, 61, 62, 63, 64, 65, 66, 67, 68, 69, 70, 71, 72, 73, 74, 75, 76, 77, 78, 79, 80, 81, 82, 83, 84, 85, 86, 87, 88, 89, 90, 91, 92, 93, 94, 95, 96, 97, 98, 99, 100, 101, 102, 103, 104, 105, 106, 107, 108, 109, 110, 111, 112, 113, 114, 115, 116, 117, 118, 119, 120, 121, 122, 123, 124, 125, 126, 127, 128, 129, 130, 131, 132, 133, 134, 135, 136, 137, 138, 139, 140, 141, 142] (by decide +kernel) (by decide +kernel)
set_option maxRecDepth 20000 in
theorem gX12_bestAt_X12_findBest : GoodIn wsX12_bestAt (wsV RX12 320 RX12 yX12_findBest wsX12_findBest) := goodIn_app (goodIn_of _ (by decide +kernel)) ggX12_bestAt_X12_findBest
set_option maxRecDepth 20000 in
theorem ggX12_bestAt_X12_isStep : GoodIn wsX12_bestAt wsX12_isStep := goodIn_r _ [79, 1, 25, 26, 6, 27, 95, 96, 97, 98, 99, 100, 101, 102, 103, 104, 105, 106, 107, 108, 109, 110, 111, 112, 113, 114, 115, 116, 117, 118, 119, 120, 121, 122, 123, 124, 125, 126, 127, 128, 129, 130, 131, 132, 133, 134, 135, 136, 137, 138, 139, 140, 141, 142] (by decide +kernel) (by decide +kernel)
set_option maxRecDepth 20000 in
theorem gX12_bestAt_X12_isStep : GoodIn wsX12_bestAt (wsV RX12 186 RX12 yX12_isStep wsX12_isStep) := goodIn_app (goodIn_of _ (by decide +kernel)) ggX12_bestAt_X12_isStep
theorem dX12_bestAt_0 : decode cX12_bestAt 0 = .ok (.aload_n 0, 1) := by decide +kernel
theorem dX12_bestAt_1 : decode cX12_bestAt 1 = .ok (.getfield 181, 3) := by decide +kernel
theorem dX12_bestAt_4 : decode cX12_bestAt 4 = .ok (.bipush 8, 2) := by decide +kernel
theorem dX12_bestAt_6 : decode cX12_bestAt 6 = .ok (.if_icmp .le 6, 3) := by decide +kernel
theorem dX12_bestAt_9 : decode cX12_bestAt 9 = .ok (.bipush (-3), 2) := by decide +kernel
theorem dX12_bestAt_11 : decode cX12_bestAt 11 = .ok (.ireturn, 1) := by decide +kernel
theorem dX12_bestAt_12 : decode cX12_bestAt 12 = .ok (.aload_n 0, 1) := by decide +kernel
theorem dX12_bestAt_13 : decode cX12_bestAt 13 = .ok (.iload_n 2, 1) := by decide +kernel
theorem dX12_bestAt_14 : decode cX12_bestAt 14 = .ok (.invokevirtual 320, 3) := by decide +kernel
theorem dX12_bestAt_17 : decode cX12_bestAt 17 = .ok (.istore_n 3, 1) := by decide +kernel
theorem dX12_bestAt_18 : decode cX12_bestAt 18 = .ok (.iload_n 1, 1) := by decide +kernel
theorem dX12_bestAt_19 : decode cX12_bestAt 19 = .ok (.iconst (-1), 1) := by decide +kernel
theorem dX12_bestAt_20 : decode cX12_bestAt 20 = .ok (.if_icmp .ne 7, 3) := by decide +kernel
theorem dX12_bestAt_23 : decode cX12_bestAt 23 = .ok (.iload_n 3, 1) := by decide +kernel
theorem dX12_bestAt_24 : decode cX12_bestAt 24 = .ok (.goto 22, 3) := by decide +kernel
theorem dX12_bestAt_27 : decode cX12_bestAt 27 = .ok (.aload_n 0, 1) := by decide +kernel
theorem dX12_bestAt_28 : decode cX12_bestAt 28 = .ok (.iload_n 1, 1) := by decide +kernel
theorem dX12_bestAt_29 : decode cX12_bestAt 29 = .ok (.invokevirtual 186, 3) := by decide +kernel
theorem dX12_bestAt_32 : decode cX12_bestAt 32 = .ok (.ifCond .eq 12, 3) := by decide +kernel
theorem dX12_bestAt_35 : decode cX12_bestAt 35 = .ok (.aload_n 0, 1) := by decide +kernel
theorem dX12_bestAt_36 : decode cX12_bestAt 36 = .ok (.getfield 80, 3) := by decide +kernel
theorem dX12_bestAt_39 : decode cX12_bestAt 39 = .ok (.iload_n 1, 1) := by decide +kernel
theorem dX12_bestAt_40 : decode cX12_bestAt 40 = .ok (.iaload, 1) := by decide +kernel
theorem dX12_bestAt_41 : decode cX12_bestAt 41 = .ok (.goto 5, 3) := by decide +kernel
theorem dX12_bestAt_44 : decode cX12_bestAt 44 = .ok (.bipush (-6), 2) := by decide +kernel
theorem dX12_bestAt_46 : decode cX12_bestAt 46 = .ok (.ireturn, 1) := by decide +kernel
set_option maxRecDepth 20000 in
theorem ggX12_quickest_X12_bestAt : GoodIn wsX12_quickest wsX12_bestAt := goodIn_r _ [5, 6, 7, 8, 9, 10, 4, 11, 12, 13, 14, 15, 16, 17, 18, 19, 20, 21, 22, 23, 24, 25, 26, 27, 28, 29, 30, 31, 32, 33, 34, 35, 36, 37, 38, 39, 40, 41, 42, 43, 44, 45, 46, 47, 48, 49, 50, 51, 52, 53, 54, 55, 56, 57, 58, 59, 60, 61, 62, 63, 64, 65, 66, 67, 68, 69, 70, 71, 72, 73, 74, 75, 76, 77, 78, 79, 80, 81, 82, 83, 84, 85, 86, 87, 88, 89, 90, 91, 92, 93, 94, 95, 96, 97, 98, 99, 100, 101, 102, 103, 104, 105, 106, 107, 108, 109, 110, 111, 112, 113, 114, 115, 116, 117, 118, 119, 120, 121, 122, 123, 124, 125, 126, 127, 128, 129, 130, 131, 132, 133, 134, 135, 136, 137, 138, 139, 140, 141, 142, 143, 144, 145, 146] (by decide +kernel) (by decide +kernel)
set_option maxRecDepth 20000 in
theorem gX12_quickest_X12_bestAt : GoodIn wsX12_quickest (wsV RX12 323 RX12 yX12_bestAt wsX12_bestAt) := goodIn_app (goodIn_of _ (by decide +kernel)) ggX12_quickest_X12_bestAt
theorem dX12_quickest_0 : decode cX12_quickest 0 = .ok (.aload_n 0, 1) := by decide +kernel
theorem dX12_quickest_1 : decode cX12_quickest 1 = .ok (.iload_n 1, 1) := by decide +kernel
theorem dX12_quickest_2 : decode cX12_quickest 2 = .ok (.iconst 1, 1) := by decide +kernel
theorem dX12_quickest_3 : decode cX12_quickest 3 = .ok (.invokevirtual 323, 3) := by decide +kernel
theorem dX12_quickest_6 : decode cX12_quickest 6 = .ok (.ireturn, 1) := by decide +kernel
set_option maxRecDepth 20000 in
theorem ggX12_valueIn_X12_makerOf : GoodIn wsX12_valueIn wsX12_makerOf := goodIn_r _ [5, 6, 7, 8, 9, 10, 11, 12, 13, 14, 15, 16, 17, 18, 19, 20, 21, 22, 23, 24, 25, 26, 27, 28, 29, 30, 31, 32, 33, 34, 35, 36, 37, 38, 39, 40, 41, 42, 43, 44, 45, 46, 47, 48, 49, 50, 51, 52, 53, 54] (by decide +kernel) (by decide +kernel)
set_option maxRecDepth 20000 in
theorem gX12_valueIn_X12_makerOf : GoodIn wsX12_valueIn (wsV RX12 282 RX12 yX12_makerOf wsX12_makerOf) := goodIn_app (goodIn_of _ (by decide +kernel)) ggX12_valueIn_X12_makerOf
theorem dX12_valueIn_0 : decode cX12_valueIn 0 = .ok (.aload_n 0, 1) := by decide +kernel
theorem dX12_valueIn_1 : decode cX12_valueIn 1 = .ok (.iload_n 1, 1) := by decide +kernel
theorem dX12_valueIn_2 : decode cX12_valueIn 2 = .ok (.iload_n 2, 1) := by decide +kernel
theorem dX12_valueIn_3 : decode cX12_valueIn 3 = .ok (.invokevirtual 282, 3) := by decide +kernel
theorem dX12_valueIn_6 : decode cX12_valueIn 6 = .ok (.istore_n 3, 1) := by decide +kernel
theorem dX12_valueIn_7 : decode cX12_valueIn 7 = .ok (.iload_n 3, 1) := by decide +kernel
theorem dX12_valueIn_8 : decode cX12_valueIn 8 = .ok (.ifCond .ge 7, 3) := by decide +kernel
theorem dX12_valueIn_11 : decode cX12_valueIn 11 = .ok (.iload_n 1, 1) := by decide +kernel
theorem dX12_valueIn_12 : decode cX12_valueIn 12 = .ok (.goto 6, 3) := by decide +kernel
theorem dX12_valueIn_15 : decode cX12_valueIn 15 = .ok (.iconst 4, 1) := by decide +kernel
theorem dX12_valueIn_16 : decode cX12_valueIn 16 = .ok (.iload_n 3, 1) := by decide +kernel
theorem dX12_valueIn_17 : decode cX12_valueIn 17 = .ok (.iadd, 1) := by decide +kernel
theorem dX12_valueIn_18 : decode cX12_valueIn 18 = .ok (.ireturn, 1) := by decide +kernel
set_option maxRecDepth 20000 in
theorem ggX12_reads_X12_isStep : GoodIn wsX12_reads wsX12_isStep := goodIn_r _ [7, 8, 9, 10, 6, 11, 25, 26, 27, 28, 29, 30, 31, 32, 33, 34, 35, 36, 37, 38, 39, 40, 41, 42, 43, 44, 45, 46, 47, 48, 49, 50, 51, 52, 53, 54, 55, 56, 57, 58, 59, 60, 61, 62, 63, 64, 65, 66, 67, 68, 69, 70, 71, 72] (by decide +kernel) (by decide +kernel)
set_option maxRecDepth 20000 in
theorem gX12_reads_X12_isStep : GoodIn wsX12_reads (wsV RX12 186 RX12 yX12_isStep wsX12_isStep) := goodIn_app (goodIn_of _ (by decide +kernel)) ggX12_reads_X12_isStep
set_option maxRecDepth 20000 in
theorem ggX12_reads_X12_in : GoodIn wsX12_reads wsX12_in := goodIn_r _ [11] (by decide +kernel) (by decide +kernel)
set_option maxRecDepth 20000 in
theorem gX12_reads_X12_in : GoodIn wsX12_reads (va_wsS RX12 125 yX12_in wsX12_in) := goodIn_app (goodIn_of _ (by decide +kernel)) ggX12_reads_X12_in
set_option maxRecDepth 20000 in
theorem ggX12_reads_X12_isRegister : GoodIn wsX12_reads wsX12_isRegister := goodIn_r _ [14, 15, 9, 10, 6, 11] (by decide +kernel) (by decide +kernel)
set_option maxRecDepth 20000 in
theorem gX12_reads_X12_isRegister : GoodIn wsX12_reads (va_wsS RX12 218 yX12_isRegister wsX12_isRegister) := goodIn_app (goodIn_of _ (by decide +kernel)) ggX12_reads_X12_isRegister
set_option maxRecDepth 20000 in
theorem ggX12_reads_X12_valueIn : GoodIn wsX12_reads wsX12_valueIn := goodIn_r _ [19, 20, 21, 22, 6, 23, 24, 25, 26, 27, 28, 29, 30, 31, 32, 33, 34, 35, 36, 37, 38, 39, 40, 41, 42, 43, 44, 45, 46, 47, 48, 49, 50, 51, 52, 53, 54, 55, 56, 57, 58, 59, 60, 61, 62, 63, 64, 65, 66, 67, 68, 69, 70, 71, 72] (by decide +kernel) (by decide +kernel)
set_option maxRecDepth 20000 in
theorem gX12_reads_X12_valueIn : GoodIn wsX12_reads (wsV RX12 327 RX12 yX12_valueIn wsX12_valueIn) := goodIn_app (goodIn_of _ (by decide +kernel)) ggX12_reads_X12_valueIn
theorem dX12_reads_0 : decode cX12_reads 0 = .ok (.aload_n 0, 1) := by decide +kernel
theorem dX12_reads_1 : decode cX12_reads 1 = .ok (.iload_n 1, 1) := by decide +kernel
theorem dX12_reads_2 : decode cX12_reads 2 = .ok (.invokevirtual 186, 3) := by decide +kernel
theorem dX12_reads_5 : decode cX12_reads 5 = .ok (.ifCond .ne 5, 3) := by decide +kernel
theorem dX12_reads_8 : decode cX12_reads 8 = .ok (.iconst (-1), 1) := by decide +kernel
theorem dX12_reads_9 : decode cX12_reads 9 = .ok (.ireturn, 1) := by decide +kernel
theorem dX12_reads_10 : decode cX12_reads 10 = .ok (.iload_n 2, 1) := by decide +kernel
theorem dX12_reads_11 : decode cX12_reads 11 = .ok (.i2l, 1) := by decide +kernel
theorem dX12_reads_12 : decode cX12_reads 12 = .ok (.lconst 0, 1) := by decide +kernel
theorem dX12_reads_13 : decode cX12_reads 13 = .ok (.lconst 1, 1) := by decide +kernel
theorem dX12_reads_14 : decode cX12_reads 14 = .ok (.invokestatic 125, 3) := by decide +kernel
theorem dX12_reads_17 : decode cX12_reads 17 = .ok (.ifCond .ne 6, 3) := by decide +kernel
theorem dX12_reads_20 : decode cX12_reads 20 = .ok (.bipush (-2), 2) := by decide +kernel
theorem dX12_reads_22 : decode cX12_reads 22 = .ok (.ireturn, 1) := by decide +kernel
theorem dX12_reads_23 : decode cX12_reads 23 = .ok (.iload_n 2, 1) := by decide +kernel
theorem dX12_reads_24 : decode cX12_reads 24 = .ok (.ifCond .ne 12, 3) := by decide +kernel
theorem dX12_reads_27 : decode cX12_reads 27 = .ok (.aload_n 0, 1) := by decide +kernel
theorem dX12_reads_28 : decode cX12_reads 28 = .ok (.getfield 19, 3) := by decide +kernel
theorem dX12_reads_31 : decode cX12_reads 31 = .ok (.iload_n 1, 1) := by decide +kernel
theorem dX12_reads_32 : decode cX12_reads 32 = .ok (.iaload, 1) := by decide +kernel
theorem dX12_reads_33 : decode cX12_reads 33 = .ok (.goto 9, 3) := by decide +kernel
theorem dX12_reads_36 : decode cX12_reads 36 = .ok (.aload_n 0, 1) := by decide +kernel
theorem dX12_reads_37 : decode cX12_reads 37 = .ok (.getfield 22, 3) := by decide +kernel
theorem dX12_reads_40 : decode cX12_reads 40 = .ok (.iload_n 1, 1) := by decide +kernel
theorem dX12_reads_41 : decode cX12_reads 41 = .ok (.iaload, 1) := by decide +kernel
theorem dX12_reads_42 : decode cX12_reads 42 = .ok (.istore_n 3, 1) := by decide +kernel
theorem dX12_reads_43 : decode cX12_reads 43 = .ok (.iload_n 3, 1) := by decide +kernel
theorem dX12_reads_44 : decode cX12_reads 44 = .ok (.invokestatic 218, 3) := by decide +kernel
theorem dX12_reads_47 : decode cX12_reads 47 = .ok (.ifCond .eq 12, 3) := by decide +kernel
theorem dX12_reads_50 : decode cX12_reads 50 = .ok (.aload_n 0, 1) := by decide +kernel
theorem dX12_reads_51 : decode cX12_reads 51 = .ok (.iload_n 3, 1) := by decide +kernel
theorem dX12_reads_52 : decode cX12_reads 52 = .ok (.iload_n 1, 1) := by decide +kernel
theorem dX12_reads_53 : decode cX12_reads 53 = .ok (.invokevirtual 327, 3) := by decide +kernel
theorem dX12_reads_56 : decode cX12_reads 56 = .ok (.goto 5, 3) := by decide +kernel
theorem dX12_reads_59 : decode cX12_reads 59 = .ok (.bipush (-6), 2) := by decide +kernel
theorem dX12_reads_61 : decode cX12_reads 61 = .ok (.ireturn, 1) := by decide +kernel
theorem dX12_holdFrom_0 : decode cX12_holdFrom 0 = .ok (.iload_n 2, 1) := by decide +kernel
theorem dX12_holdFrom_1 : decode cX12_holdFrom 1 = .ok (.istore 4, 2) := by decide +kernel
theorem dX12_holdFrom_3 : decode cX12_holdFrom 3 = .ok (.iload 4, 2) := by decide +kernel
theorem dX12_holdFrom_5 : decode cX12_holdFrom 5 = .ok (.iload_n 3, 1) := by decide +kernel
theorem dX12_holdFrom_6 : decode cX12_holdFrom 6 = .ok (.if_icmp .gt 22, 3) := by decide +kernel
theorem dX12_holdFrom_9 : decode cX12_holdFrom 9 = .ok (.aload_n 0, 1) := by decide +kernel
theorem dX12_holdFrom_10 : decode cX12_holdFrom 10 = .ok (.getfield 83, 3) := by decide +kernel
theorem dX12_holdFrom_13 : decode cX12_holdFrom 13 = .ok (.iload 4, 2) := by decide +kernel
theorem dX12_holdFrom_15 : decode cX12_holdFrom 15 = .ok (.dup2, 1) := by decide +kernel
theorem dX12_holdFrom_16 : decode cX12_holdFrom 16 = .ok (.iaload, 1) := by decide +kernel
theorem dX12_holdFrom_17 : decode cX12_holdFrom 17 = .ok (.iconst 1, 1) := by decide +kernel
theorem dX12_holdFrom_18 : decode cX12_holdFrom 18 = .ok (.iload_n 1, 1) := by decide +kernel
theorem dX12_holdFrom_19 : decode cX12_holdFrom 19 = .ok (.ishl, 1) := by decide +kernel
theorem dX12_holdFrom_20 : decode cX12_holdFrom 20 = .ok (.ior, 1) := by decide +kernel
theorem dX12_holdFrom_21 : decode cX12_holdFrom 21 = .ok (.iastore, 1) := by decide +kernel
theorem dX12_holdFrom_22 : decode cX12_holdFrom 22 = .ok (.iinc 4 1, 3) := by decide +kernel
theorem dX12_holdFrom_25 : decode cX12_holdFrom 25 = .ok (.goto (-22), 3) := by decide +kernel
theorem dX12_holdFrom_28 : decode cX12_holdFrom 28 = .ok (.return_, 1) := by decide +kernel
set_option maxRecDepth 20000 in
theorem ggX12_findHeld_X12_reads : GoodIn wsX12_findHeld wsX12_reads := goodIn_r _ [10, 11, 12, 13, 14, 15, 9, 16, 1, 17, 18, 19, 20, 21, 22, 23, 24, 25, 26, 27, 28, 29, 30, 31, 32, 37, 38, 39, 40, 41, 42, 43, 44, 45, 46, 47, 48, 49, 50, 51, 52, 53, 54, 55, 56, 57, 58, 59, 60, 61, 62, 63, 64, 65, 66, 67, 68, 69, 70, 71, 72, 73, 74, 75, 76, 77, 78, 79, 80, 81, 82, 83, 84] (by decide +kernel) (by decide +kernel)
set_option maxRecDepth 20000 in
theorem gX12_findHeld_X12_reads : GoodIn wsX12_findHeld (wsV RX12 330 RX12 yX12_reads wsX12_reads) := goodIn_app (goodIn_of _ (by decide +kernel)) ggX12_findHeld_X12_reads
set_option maxRecDepth 20000 in
theorem ggX12_findHeld_X12_valueIn : GoodIn wsX12_findHeld wsX12_valueIn := goodIn_r _ [27, 28, 29, 30, 9, 31, 32, 37, 38, 39, 40, 41, 42, 43, 44, 45, 46, 47, 48, 49, 50, 51, 52, 53, 54, 55, 56, 57, 58, 59, 60, 61, 62, 63, 64, 65, 66, 67, 68, 69, 70, 71, 72, 73, 74, 75, 76, 77, 78, 79, 80, 81, 82, 83, 84] (by decide +kernel) (by decide +kernel)
set_option maxRecDepth 20000 in
theorem gX12_findHeld_X12_valueIn : GoodIn wsX12_findHeld (wsV RX12 327 RX12 yX12_valueIn wsX12_valueIn) := goodIn_app (goodIn_of _ (by decide +kernel)) ggX12_findHeld_X12_valueIn
set_option maxRecDepth 20000 in
theorem ggX12_findHeld_X12_holdFrom : GoodIn wsX12_findHeld wsX12_holdFrom := goodIn_r _ [36, 2, 37, 38, 39, 40, 41, 42, 43, 44, 45, 46, 47, 48, 49, 50, 51, 52, 53, 54, 55, 56, 57, 58, 59, 60, 61, 62, 63, 64, 65, 66, 67, 68, 69, 70, 71, 72, 73, 74, 75, 76, 77, 78, 79, 80, 81, 82, 83, 84] (by decide +kernel) (by decide +kernel)
set_option maxRecDepth 20000 in
theorem gX12_findHeld_X12_holdFrom : GoodIn wsX12_findHeld (wsV RX12 333 RX12 yX12_holdFrom wsX12_holdFrom) := goodIn_app (goodIn_of _ (by decide +kernel)) ggX12_findHeld_X12_holdFrom
theorem dX12_findHeld_0 : decode cX12_findHeld 0 = .ok (.iconst 0, 1) := by decide +kernel
theorem dX12_findHeld_1 : decode cX12_findHeld 1 = .ok (.istore_n 1, 1) := by decide +kernel
theorem dX12_findHeld_2 : decode cX12_findHeld 2 = .ok (.iload_n 1, 1) := by decide +kernel
theorem dX12_findHeld_3 : decode cX12_findHeld 3 = .ok (.aload_n 0, 1) := by decide +kernel
theorem dX12_findHeld_4 : decode cX12_findHeld 4 = .ok (.getfield 181, 3) := by decide +kernel
theorem dX12_findHeld_7 : decode cX12_findHeld 7 = .ok (.if_icmp .gt 16, 3) := by decide +kernel
theorem dX12_findHeld_10 : decode cX12_findHeld 10 = .ok (.aload_n 0, 1) := by decide +kernel
theorem dX12_findHeld_11 : decode cX12_findHeld 11 = .ok (.getfield 83, 3) := by decide +kernel
theorem dX12_findHeld_14 : decode cX12_findHeld 14 = .ok (.iload_n 1, 1) := by decide +kernel
theorem dX12_findHeld_15 : decode cX12_findHeld 15 = .ok (.iconst 0, 1) := by decide +kernel
theorem dX12_findHeld_16 : decode cX12_findHeld 16 = .ok (.iastore, 1) := by decide +kernel
theorem dX12_findHeld_17 : decode cX12_findHeld 17 = .ok (.iinc 1 1, 3) := by decide +kernel
theorem dX12_findHeld_20 : decode cX12_findHeld 20 = .ok (.goto (-18), 3) := by decide +kernel
theorem dX12_findHeld_23 : decode cX12_findHeld 23 = .ok (.iconst 0, 1) := by decide +kernel
theorem dX12_findHeld_24 : decode cX12_findHeld 24 = .ok (.istore_n 1, 1) := by decide +kernel
theorem dX12_findHeld_25 : decode cX12_findHeld 25 = .ok (.iload_n 1, 1) := by decide +kernel
theorem dX12_findHeld_26 : decode cX12_findHeld 26 = .ok (.aload_n 0, 1) := by decide +kernel
theorem dX12_findHeld_27 : decode cX12_findHeld 27 = .ok (.getfield 181, 3) := by decide +kernel
theorem dX12_findHeld_30 : decode cX12_findHeld 30 = .ok (.if_icmp .ge 21, 3) := by decide +kernel
theorem dX12_findHeld_33 : decode cX12_findHeld 33 = .ok (.aload_n 0, 1) := by decide +kernel
theorem dX12_findHeld_34 : decode cX12_findHeld 34 = .ok (.getfield 86, 3) := by decide +kernel
theorem dX12_findHeld_37 : decode cX12_findHeld 37 = .ok (.aload_n 0, 1) := by decide +kernel
theorem dX12_findHeld_38 : decode cX12_findHeld 38 = .ok (.getfield 74, 3) := by decide +kernel
theorem dX12_findHeld_41 : decode cX12_findHeld 41 = .ok (.iload_n 1, 1) := by decide +kernel
theorem dX12_findHeld_42 : decode cX12_findHeld 42 = .ok (.iaload, 1) := by decide +kernel
theorem dX12_findHeld_43 : decode cX12_findHeld 43 = .ok (.iload_n 1, 1) := by decide +kernel
theorem dX12_findHeld_44 : decode cX12_findHeld 44 = .ok (.iastore, 1) := by decide +kernel
theorem dX12_findHeld_45 : decode cX12_findHeld 45 = .ok (.iinc 1 1, 3) := by decide +kernel
theorem dX12_findHeld_48 : decode cX12_findHeld 48 = .ok (.goto (-23), 3) := by decide +kernel
theorem dX12_findHeld_51 : decode cX12_findHeld 51 = .ok (.iconst 0, 1) := by decide +kernel
theorem dX12_findHeld_52 : decode cX12_findHeld 52 = .ok (.istore_n 1, 1) := by decide +kernel
theorem dX12_findHeld_53 : decode cX12_findHeld 53 = .ok (.iload_n 1, 1) := by decide +kernel
theorem dX12_findHeld_54 : decode cX12_findHeld 54 = .ok (.iconst 4, 1) := by decide +kernel
theorem dX12_findHeld_55 : decode cX12_findHeld 55 = .ok (.aload_n 0, 1) := by decide +kernel
theorem dX12_findHeld_56 : decode cX12_findHeld 56 = .ok (.getfield 181, 3) := by decide +kernel
theorem dX12_findHeld_59 : decode cX12_findHeld 59 = .ok (.iadd, 1) := by decide +kernel
theorem dX12_findHeld_60 : decode cX12_findHeld 60 = .ok (.if_icmp .ge 173, 3) := by decide +kernel
theorem dX12_findHeld_63 : decode cX12_findHeld 63 = .ok (.iload_n 1, 1) := by decide +kernel
theorem dX12_findHeld_64 : decode cX12_findHeld 64 = .ok (.iconst 4, 1) := by decide +kernel
theorem dX12_findHeld_65 : decode cX12_findHeld 65 = .ok (.if_icmp .ge 7, 3) := by decide +kernel
theorem dX12_findHeld_68 : decode cX12_findHeld 68 = .ok (.iconst 0, 1) := by decide +kernel
theorem dX12_findHeld_69 : decode cX12_findHeld 69 = .ok (.goto 13, 3) := by decide +kernel
theorem dX12_findHeld_72 : decode cX12_findHeld 72 = .ok (.aload_n 0, 1) := by decide +kernel
theorem dX12_findHeld_73 : decode cX12_findHeld 73 = .ok (.getfield 86, 3) := by decide +kernel
theorem dX12_findHeld_76 : decode cX12_findHeld 76 = .ok (.iload_n 1, 1) := by decide +kernel
theorem dX12_findHeld_77 : decode cX12_findHeld 77 = .ok (.iconst 4, 1) := by decide +kernel
theorem dX12_findHeld_78 : decode cX12_findHeld 78 = .ok (.isub, 1) := by decide +kernel
theorem dX12_findHeld_79 : decode cX12_findHeld 79 = .ok (.iaload, 1) := by decide +kernel
theorem dX12_findHeld_80 : decode cX12_findHeld 80 = .ok (.iconst 1, 1) := by decide +kernel
theorem dX12_findHeld_81 : decode cX12_findHeld 81 = .ok (.iadd, 1) := by decide +kernel
theorem dX12_findHeld_82 : decode cX12_findHeld 82 = .ok (.istore_n 2, 1) := by decide +kernel
theorem dX12_findHeld_83 : decode cX12_findHeld 83 = .ok (.iload_n 1, 1) := by decide +kernel
theorem dX12_findHeld_84 : decode cX12_findHeld 84 = .ok (.iconst 4, 1) := by decide +kernel
theorem dX12_findHeld_85 : decode cX12_findHeld 85 = .ok (.if_icmp .ge 7, 3) := by decide +kernel
theorem dX12_findHeld_88 : decode cX12_findHeld 88 = .ok (.iconst (-1), 1) := by decide +kernel
theorem dX12_findHeld_89 : decode cX12_findHeld 89 = .ok (.goto 4, 3) := by decide +kernel
theorem dX12_findHeld_92 : decode cX12_findHeld 92 = .ok (.iload_n 2, 1) := by decide +kernel
theorem dX12_findHeld_93 : decode cX12_findHeld 93 = .ok (.istore_n 3, 1) := by decide +kernel
theorem dX12_findHeld_94 : decode cX12_findHeld 94 = .ok (.iconst 0, 1) := by decide +kernel
theorem dX12_findHeld_95 : decode cX12_findHeld 95 = .ok (.istore 4, 2) := by decide +kernel
theorem dX12_findHeld_97 : decode cX12_findHeld 97 = .ok (.iload 4, 2) := by decide +kernel
theorem dX12_findHeld_99 : decode cX12_findHeld 99 = .ok (.aload_n 0, 1) := by decide +kernel
theorem dX12_findHeld_100 : decode cX12_findHeld 100 = .ok (.getfield 181, 3) := by decide +kernel
theorem dX12_findHeld_103 : decode cX12_findHeld 103 = .ok (.if_icmp .ge 66, 3) := by decide +kernel
theorem dX12_findHeld_106 : decode cX12_findHeld 106 = .ok (.aload_n 0, 1) := by decide +kernel
theorem dX12_findHeld_107 : decode cX12_findHeld 107 = .ok (.iload 4, 2) := by decide +kernel
theorem dX12_findHeld_109 : decode cX12_findHeld 109 = .ok (.iconst 0, 1) := by decide +kernel
theorem dX12_findHeld_110 : decode cX12_findHeld 110 = .ok (.invokevirtual 330, 3) := by decide +kernel
theorem dX12_findHeld_113 : decode cX12_findHeld 113 = .ok (.iload_n 1, 1) := by decide +kernel
theorem dX12_findHeld_114 : decode cX12_findHeld 114 = .ok (.if_icmp .eq 14, 3) := by decide +kernel
theorem dX12_findHeld_117 : decode cX12_findHeld 117 = .ok (.aload_n 0, 1) := by decide +kernel
theorem dX12_findHeld_118 : decode cX12_findHeld 118 = .ok (.iload 4, 2) := by decide +kernel
theorem dX12_findHeld_120 : decode cX12_findHeld 120 = .ok (.iconst 1, 1) := by decide +kernel
theorem dX12_findHeld_121 : decode cX12_findHeld 121 = .ok (.invokevirtual 330, 3) := by decide +kernel
theorem dX12_findHeld_124 : decode cX12_findHeld 124 = .ok (.iload_n 1, 1) := by decide +kernel
theorem dX12_findHeld_125 : decode cX12_findHeld 125 = .ok (.if_icmp .ne 7, 3) := by decide +kernel
theorem dX12_findHeld_128 : decode cX12_findHeld 128 = .ok (.iconst 1, 1) := by decide +kernel
theorem dX12_findHeld_129 : decode cX12_findHeld 129 = .ok (.goto 4, 3) := by decide +kernel
theorem dX12_findHeld_132 : decode cX12_findHeld 132 = .ok (.iconst 0, 1) := by decide +kernel
theorem dX12_findHeld_133 : decode cX12_findHeld 133 = .ok (.istore 5, 2) := by decide +kernel
theorem dX12_findHeld_135 : decode cX12_findHeld 135 = .ok (.iload 5, 2) := by decide +kernel
theorem dX12_findHeld_137 : decode cX12_findHeld 137 = .ok (.ifCond .eq 24, 3) := by decide +kernel
theorem dX12_findHeld_140 : decode cX12_findHeld 140 = .ok (.aload_n 0, 1) := by decide +kernel
theorem dX12_findHeld_141 : decode cX12_findHeld 141 = .ok (.getfield 86, 3) := by decide +kernel
theorem dX12_findHeld_144 : decode cX12_findHeld 144 = .ok (.iload 4, 2) := by decide +kernel
theorem dX12_findHeld_146 : decode cX12_findHeld 146 = .ok (.iaload, 1) := by decide +kernel
theorem dX12_findHeld_147 : decode cX12_findHeld 147 = .ok (.iload_n 3, 1) := by decide +kernel
theorem dX12_findHeld_148 : decode cX12_findHeld 148 = .ok (.if_icmp .le 13, 3) := by decide +kernel
theorem dX12_findHeld_151 : decode cX12_findHeld 151 = .ok (.aload_n 0, 1) := by decide +kernel
theorem dX12_findHeld_152 : decode cX12_findHeld 152 = .ok (.getfield 86, 3) := by decide +kernel
theorem dX12_findHeld_155 : decode cX12_findHeld 155 = .ok (.iload 4, 2) := by decide +kernel
theorem dX12_findHeld_157 : decode cX12_findHeld 157 = .ok (.iaload, 1) := by decide +kernel
theorem dX12_findHeld_158 : decode cX12_findHeld 158 = .ok (.goto 4, 3) := by decide +kernel
theorem dX12_findHeld_161 : decode cX12_findHeld 161 = .ok (.iload_n 3, 1) := by decide +kernel
theorem dX12_findHeld_162 : decode cX12_findHeld 162 = .ok (.istore_n 3, 1) := by decide +kernel
theorem dX12_findHeld_163 : decode cX12_findHeld 163 = .ok (.iinc 4 1, 3) := by decide +kernel
theorem dX12_findHeld_166 : decode cX12_findHeld 166 = .ok (.goto (-69), 3) := by decide +kernel
theorem dX12_findHeld_169 : decode cX12_findHeld 169 = .ok (.iconst 0, 1) := by decide +kernel
theorem dX12_findHeld_170 : decode cX12_findHeld 170 = .ok (.istore 4, 2) := by decide +kernel
theorem dX12_findHeld_172 : decode cX12_findHeld 172 = .ok (.iload 4, 2) := by decide +kernel
theorem dX12_findHeld_174 : decode cX12_findHeld 174 = .ok (.iconst 4, 1) := by decide +kernel
theorem dX12_findHeld_175 : decode cX12_findHeld 175 = .ok (.if_icmp .ge 45, 3) := by decide +kernel
theorem dX12_findHeld_178 : decode cX12_findHeld 178 = .ok (.aload_n 0, 1) := by decide +kernel
theorem dX12_findHeld_179 : decode cX12_findHeld 179 = .ok (.getfield 116, 3) := by decide +kernel
theorem dX12_findHeld_182 : decode cX12_findHeld 182 = .ok (.iload 4, 2) := by decide +kernel
theorem dX12_findHeld_184 : decode cX12_findHeld 184 = .ok (.ishr, 1) := by decide +kernel
theorem dX12_findHeld_185 : decode cX12_findHeld 185 = .ok (.iconst 1, 1) := by decide +kernel
theorem dX12_findHeld_186 : decode cX12_findHeld 186 = .ok (.iand, 1) := by decide +kernel
theorem dX12_findHeld_187 : decode cX12_findHeld 187 = .ok (.iconst 1, 1) := by decide +kernel
theorem dX12_findHeld_188 : decode cX12_findHeld 188 = .ok (.if_icmp .ne 24, 3) := by decide +kernel
theorem dX12_findHeld_191 : decode cX12_findHeld 191 = .ok (.aload_n 0, 1) := by decide +kernel
theorem dX12_findHeld_192 : decode cX12_findHeld 192 = .ok (.iload 4, 2) := by decide +kernel
theorem dX12_findHeld_194 : decode cX12_findHeld 194 = .ok (.aload_n 0, 1) := by decide +kernel
theorem dX12_findHeld_195 : decode cX12_findHeld 195 = .ok (.getfield 181, 3) := by decide +kernel
theorem dX12_findHeld_198 : decode cX12_findHeld 198 = .ok (.invokevirtual 327, 3) := by decide +kernel
theorem dX12_findHeld_201 : decode cX12_findHeld 201 = .ok (.iload_n 1, 1) := by decide +kernel
theorem dX12_findHeld_202 : decode cX12_findHeld 202 = .ok (.if_icmp .ne 10, 3) := by decide +kernel
theorem dX12_findHeld_205 : decode cX12_findHeld 205 = .ok (.aload_n 0, 1) := by decide +kernel
theorem dX12_findHeld_206 : decode cX12_findHeld 206 = .ok (.getfield 181, 3) := by decide +kernel
theorem dX12_findHeld_209 : decode cX12_findHeld 209 = .ok (.goto 4, 3) := by decide +kernel
theorem dX12_findHeld_212 : decode cX12_findHeld 212 = .ok (.iload_n 3, 1) := by decide +kernel
theorem dX12_findHeld_213 : decode cX12_findHeld 213 = .ok (.istore_n 3, 1) := by decide +kernel
theorem dX12_findHeld_214 : decode cX12_findHeld 214 = .ok (.iinc 4 1, 3) := by decide +kernel
theorem dX12_findHeld_217 : decode cX12_findHeld 217 = .ok (.goto (-45), 3) := by decide +kernel
theorem dX12_findHeld_220 : decode cX12_findHeld 220 = .ok (.aload_n 0, 1) := by decide +kernel
theorem dX12_findHeld_221 : decode cX12_findHeld 221 = .ok (.iload_n 1, 1) := by decide +kernel
theorem dX12_findHeld_222 : decode cX12_findHeld 222 = .ok (.iload_n 2, 1) := by decide +kernel
theorem dX12_findHeld_223 : decode cX12_findHeld 223 = .ok (.iload_n 3, 1) := by decide +kernel
theorem dX12_findHeld_224 : decode cX12_findHeld 224 = .ok (.invokevirtual 333, 3) := by decide +kernel
theorem dX12_findHeld_227 : decode cX12_findHeld 227 = .ok (.iinc 1 1, 3) := by decide +kernel
theorem dX12_findHeld_230 : decode cX12_findHeld 230 = .ok (.goto (-177), 3) := by decide +kernel
theorem dX12_findHeld_233 : decode cX12_findHeld 233 = .ok (.return_, 1) := by decide +kernel
set_option maxRecDepth 20000 in
theorem ggX12_widthOf_X12_findHeld : GoodIn wsX12_widthOf wsX12_findHeld := goodIn_r _ [7, 1, 2, 8, 9, 10, 11, 12, 13, 6, 14, 15, 16, 17, 18, 19, 20, 21, 22, 23, 24, 25, 26, 27, 28, 29, 30, 31, 32, 33, 34, 35, 36, 37, 38, 39, 40, 44, 45, 46, 47, 48, 49, 50, 51, 52, 53, 54, 55, 56, 57, 58, 59, 60, 61, 62, 63, 64, 65, 66, 67, 68, 69, 70, 71, 72, 73, 74, 75, 76, 77, 78, 79, 80, 81, 82, 83, 84, 85, 86, 87, 88, 89, 90, 91] (by decide +kernel) (by decide +kernel)
set_option maxRecDepth 20000 in
theorem gX12_widthOf_X12_findHeld : GoodIn wsX12_widthOf (wsV RX12 337 RX12 yX12_findHeld wsX12_findHeld) := goodIn_app (goodIn_of _ (by decide +kernel)) ggX12_widthOf_X12_findHeld
set_option maxRecDepth 20000 in
theorem ggX12_widthOf_X12_ones : GoodIn wsX12_widthOf wsX12_ones := goodIn_r _ [43] (by decide +kernel) (by decide +kernel)
set_option maxRecDepth 20000 in
theorem gX12_widthOf_X12_ones : GoodIn wsX12_widthOf (va_wsS RX12 340 yX12_ones wsX12_ones) := goodIn_app (goodIn_of _ (by decide +kernel)) ggX12_widthOf_X12_ones
theorem dX12_widthOf_0 : decode cX12_widthOf 0 = .ok (.aload_n 0, 1) := by decide +kernel
theorem dX12_widthOf_1 : decode cX12_widthOf 1 = .ok (.invokevirtual 337, 3) := by decide +kernel
theorem dX12_widthOf_4 : decode cX12_widthOf 4 = .ok (.iconst 0, 1) := by decide +kernel
theorem dX12_widthOf_5 : decode cX12_widthOf 5 = .ok (.istore_n 1, 1) := by decide +kernel
theorem dX12_widthOf_6 : decode cX12_widthOf 6 = .ok (.iconst 0, 1) := by decide +kernel
theorem dX12_widthOf_7 : decode cX12_widthOf 7 = .ok (.istore_n 2, 1) := by decide +kernel
theorem dX12_widthOf_8 : decode cX12_widthOf 8 = .ok (.iload_n 2, 1) := by decide +kernel
theorem dX12_widthOf_9 : decode cX12_widthOf 9 = .ok (.aload_n 0, 1) := by decide +kernel
theorem dX12_widthOf_10 : decode cX12_widthOf 10 = .ok (.getfield 181, 3) := by decide +kernel
theorem dX12_widthOf_13 : decode cX12_widthOf 13 = .ok (.if_icmp .gt 36, 3) := by decide +kernel
theorem dX12_widthOf_16 : decode cX12_widthOf 16 = .ok (.aload_n 0, 1) := by decide +kernel
theorem dX12_widthOf_17 : decode cX12_widthOf 17 = .ok (.getfield 83, 3) := by decide +kernel
theorem dX12_widthOf_20 : decode cX12_widthOf 20 = .ok (.iload_n 2, 1) := by decide +kernel
theorem dX12_widthOf_21 : decode cX12_widthOf 21 = .ok (.iaload, 1) := by decide +kernel
theorem dX12_widthOf_22 : decode cX12_widthOf 22 = .ok (.invokestatic 340, 3) := by decide +kernel
theorem dX12_widthOf_25 : decode cX12_widthOf 25 = .ok (.iload_n 1, 1) := by decide +kernel
theorem dX12_widthOf_26 : decode cX12_widthOf 26 = .ok (.if_icmp .le 15, 3) := by decide +kernel
theorem dX12_widthOf_29 : decode cX12_widthOf 29 = .ok (.aload_n 0, 1) := by decide +kernel
theorem dX12_widthOf_30 : decode cX12_widthOf 30 = .ok (.getfield 83, 3) := by decide +kernel
theorem dX12_widthOf_33 : decode cX12_widthOf 33 = .ok (.iload_n 2, 1) := by decide +kernel
theorem dX12_widthOf_34 : decode cX12_widthOf 34 = .ok (.iaload, 1) := by decide +kernel
theorem dX12_widthOf_35 : decode cX12_widthOf 35 = .ok (.invokestatic 340, 3) := by decide +kernel
theorem dX12_widthOf_38 : decode cX12_widthOf 38 = .ok (.goto 4, 3) := by decide +kernel
theorem dX12_widthOf_41 : decode cX12_widthOf 41 = .ok (.iload_n 1, 1) := by decide +kernel
theorem dX12_widthOf_42 : decode cX12_widthOf 42 = .ok (.istore_n 1, 1) := by decide +kernel
theorem dX12_widthOf_43 : decode cX12_widthOf 43 = .ok (.iinc 2 1, 3) := by decide +kernel
theorem dX12_widthOf_46 : decode cX12_widthOf 46 = .ok (.goto (-38), 3) := by decide +kernel
theorem dX12_widthOf_49 : decode cX12_widthOf 49 = .ok (.iload_n 1, 1) := by decide +kernel
theorem dX12_widthOf_50 : decode cX12_widthOf 50 = .ok (.ireturn, 1) := by decide +kernel
set_option maxRecDepth 20000 in
theorem ggX12_held_X12_isPlace : GoodIn wsX12_held wsX12_isPlace := goodIn_r _ [6, 7, 8, 9, 5, 10, 49, 50, 51, 52, 53, 54, 55, 56, 57, 58, 59, 60, 61, 62, 63, 64, 65, 66, 67, 68, 69, 70, 71, 72, 73, 74, 75, 76, 77, 78, 79, 80, 81, 82, 83, 84, 85, 86, 87, 88, 89, 90, 91, 92, 93, 94, 95, 96] (by decide +kernel) (by decide +kernel)
set_option maxRecDepth 20000 in
theorem gX12_held_X12_isPlace : GoodIn wsX12_held (wsV RX12 205 RX12 yX12_isPlace wsX12_isPlace) := goodIn_app (goodIn_of _ (by decide +kernel)) ggX12_held_X12_isPlace
set_option maxRecDepth 20000 in
theorem ggX12_held_X12_layOrder : GoodIn wsX12_held wsX12_layOrder := goodIn_r _ [14, 7, 15, 49, 50, 51, 52, 53, 54, 55, 56, 57, 58, 59, 60, 61, 62, 63, 64, 65, 66, 67, 68, 69, 70, 71, 72, 73, 74, 75, 76, 77, 78, 79, 80, 81, 82, 83, 84, 85, 86, 87, 88, 89, 90, 91, 92, 93, 94, 95, 96] (by decide +kernel) (by decide +kernel)
set_option maxRecDepth 20000 in
theorem gX12_held_X12_layOrder : GoodIn wsX12_held (wsV RX12 303 RX12 yX12_layOrder wsX12_layOrder) := goodIn_app (goodIn_of _ (by decide +kernel)) ggX12_held_X12_layOrder
set_option maxRecDepth 20000 in
theorem ggX12_held_X12_findHeld : GoodIn wsX12_held wsX12_findHeld := goodIn_r _ [19, 7, 1, 20, 15, 21, 22, 23, 24, 5, 25, 26, 27, 28, 29, 30, 31, 8, 9, 10, 32, 33, 34, 35, 36, 37, 38, 39, 40, 41, 42, 43, 44, 45, 46, 47, 48, 49, 50, 51, 52, 53, 54, 55, 56, 57, 58, 59, 60, 61, 62, 63, 64, 65, 66, 67, 68, 69, 70, 71, 72, 73, 74, 75, 76, 77, 78, 79, 80, 81, 82, 83, 84, 85, 86, 87, 88, 89, 90, 91, 92, 93, 94, 95, 96] (by decide +kernel) (by decide +kernel)
set_option maxRecDepth 20000 in
theorem gX12_held_X12_findHeld : GoodIn wsX12_held (wsV RX12 337 RX12 yX12_findHeld wsX12_findHeld) := goodIn_app (goodIn_of _ (by decide +kernel)) ggX12_held_X12_findHeld
theorem dX12_held_0 : decode cX12_held 0 = .ok (.aload_n 0, 1) := by decide +kernel
theorem dX12_held_1 : decode cX12_held 1 = .ok (.iload_n 1, 1) := by decide +kernel
theorem dX12_held_2 : decode cX12_held 2 = .ok (.invokevirtual 205, 3) := by decide +kernel
theorem dX12_held_5 : decode cX12_held 5 = .ok (.ifCond .ne 5, 3) := by decide +kernel
theorem dX12_held_8 : decode cX12_held 8 = .ok (.iconst (-1), 1) := by decide +kernel
theorem dX12_held_9 : decode cX12_held 9 = .ok (.ireturn, 1) := by decide +kernel
theorem dX12_held_10 : decode cX12_held 10 = .ok (.aload_n 0, 1) := by decide +kernel
theorem dX12_held_11 : decode cX12_held 11 = .ok (.invokevirtual 303, 3) := by decide +kernel
theorem dX12_held_14 : decode cX12_held 14 = .ok (.aload_n 0, 1) := by decide +kernel
theorem dX12_held_15 : decode cX12_held 15 = .ok (.invokevirtual 337, 3) := by decide +kernel
theorem dX12_held_18 : decode cX12_held 18 = .ok (.aload_n 0, 1) := by decide +kernel
theorem dX12_held_19 : decode cX12_held 19 = .ok (.getfield 83, 3) := by decide +kernel
theorem dX12_held_22 : decode cX12_held 22 = .ok (.iload_n 1, 1) := by decide +kernel
theorem dX12_held_23 : decode cX12_held 23 = .ok (.iaload, 1) := by decide +kernel
theorem dX12_held_24 : decode cX12_held 24 = .ok (.ireturn, 1) := by decide +kernel
set_option maxRecDepth 20000 in
theorem ggX12_width_X12_layOrder : GoodIn wsX12_width wsX12_layOrder := goodIn_r _ [5, 6, 7, 52, 53, 54, 55, 56, 57, 58, 59, 60, 61, 62, 63, 64, 65, 66, 67, 68, 69, 70, 71, 72, 73, 74, 75, 76, 77, 78, 79, 80, 81, 82, 83, 84, 85, 86, 87, 88, 89, 90, 91, 92, 93, 94, 95, 96, 97, 98, 99] (by decide +kernel) (by decide +kernel)
set_option maxRecDepth 20000 in
theorem gX12_width_X12_layOrder : GoodIn wsX12_width (wsV RX12 303 RX12 yX12_layOrder wsX12_layOrder) := goodIn_app (goodIn_of _ (by decide +kernel)) ggX12_width_X12_layOrder
set_option maxRecDepth 20000 in
theorem ggX12_width_X12_widthOf : GoodIn wsX12_width wsX12_widthOf := goodIn_r _ [11, 6, 12, 13, 14, 15, 4, 16, 17, 7, 18, 19, 20, 21, 22, 23, 24, 25, 26, 27, 28, 29, 30, 31, 32, 33, 34, 35, 36, 37, 38, 39, 40, 41, 42, 43, 44, 45, 46, 47, 48, 49, 50, 51, 52, 53, 54, 55, 56, 57, 58, 59, 60, 61, 62, 63, 64, 65, 66, 67, 68, 69, 70, 71, 72, 73, 74, 75, 76, 77, 78, 79, 80, 81, 82, 83, 84, 85, 86, 87, 88, 89, 90, 91, 92, 93, 94, 95, 96, 97, 98, 99] (by decide +kernel) (by decide +kernel)
set_option maxRecDepth 20000 in
theorem gX12_width_X12_widthOf : GoodIn wsX12_width (wsV RX12 313 RX12 yX12_widthOf wsX12_widthOf) := goodIn_app (goodIn_of _ (by decide +kernel)) ggX12_width_X12_widthOf
theorem dX12_width_0 : decode cX12_width 0 = .ok (.aload_n 0, 1) := by decide +kernel
theorem dX12_width_1 : decode cX12_width 1 = .ok (.invokevirtual 303, 3) := by decide +kernel
theorem dX12_width_4 : decode cX12_width 4 = .ok (.aload_n 0, 1) := by decide +kernel
theorem dX12_width_5 : decode cX12_width 5 = .ok (.invokevirtual 313, 3) := by decide +kernel
theorem dX12_width_8 : decode cX12_width 8 = .ok (.ireturn, 1) := by decide +kernel
set_option maxRecDepth 20000 in
theorem ggX12_fewest_X12_bestAt : GoodIn wsX12_fewest wsX12_bestAt := goodIn_r _ [5, 6, 7, 8, 9, 10, 4, 11, 12, 13, 14, 15, 16, 17, 18, 19, 20, 21, 22, 23, 24, 25, 26, 27, 28, 29, 30, 31, 32, 33, 34, 35, 36, 37, 38, 39, 40, 41, 42, 43, 44, 45, 46, 47, 48, 49, 50, 51, 52, 53, 54, 55, 56, 57, 58, 59, 60, 61, 62, 63, 64, 65, 66, 67, 68, 69, 70, 71, 72, 73, 74, 75, 76, 77, 78, 79, 80, 81, 82, 83, 84, 85, 86, 87, 88, 89, 90, 91, 92, 93, 94, 95, 96, 97, 98, 99, 100, 101, 102, 103, 104, 105, 106, 107, 108, 109, 110, 111, 112, 113, 114, 115, 116, 117, 118, 119, 120, 121, 122, 123, 124, 125, 126, 127, 128, 129, 130, 131, 132, 133, 134, 135, 136, 137, 138, 139, 140, 141, 142, 143, 144, 145, 146] (by decide +kernel) (by decide +kernel)
set_option maxRecDepth 20000 in
theorem gX12_fewest_X12_bestAt : GoodIn wsX12_fewest (wsV RX12 323 RX12 yX12_bestAt wsX12_bestAt) := goodIn_app (goodIn_of _ (by decide +kernel)) ggX12_fewest_X12_bestAt
theorem dX12_fewest_0 : decode cX12_fewest 0 = .ok (.aload_n 0, 1) := by decide +kernel
theorem dX12_fewest_1 : decode cX12_fewest 1 = .ok (.iload_n 1, 1) := by decide +kernel
theorem dX12_fewest_2 : decode cX12_fewest 2 = .ok (.iconst 0, 1) := by decide +kernel
theorem dX12_fewest_3 : decode cX12_fewest 3 = .ok (.invokevirtual 323, 3) := by decide +kernel
theorem dX12_fewest_6 : decode cX12_fewest 6 = .ok (.ireturn, 1) := by decide +kernel
set_option maxRecDepth 20000 in
theorem ggX12_readingsOf_X12_reads : GoodIn wsX12_readingsOf wsX12_reads := goodIn_r _ [6, 7, 8, 9, 10, 11, 5, 12, 1, 13, 14, 15, 16, 17, 18, 19, 20, 21, 22, 23, 24, 25, 26, 27, 28, 29, 30, 31, 32, 33, 34, 35, 36, 37, 38, 39, 40, 41, 42, 43, 44, 45, 46, 47, 48, 49, 50, 51, 52, 53, 54, 55, 56, 57, 58, 59, 60, 61, 62, 63, 64, 65, 66, 67, 68, 69, 70, 71, 72, 73, 74, 75, 76] (by decide +kernel) (by decide +kernel)
set_option maxRecDepth 20000 in
theorem gX12_readingsOf_X12_reads : GoodIn wsX12_readingsOf (wsV RX12 330 RX12 yX12_reads wsX12_reads) := goodIn_app (goodIn_of _ (by decide +kernel)) ggX12_readingsOf_X12_reads
theorem dX12_readingsOf_0 : decode cX12_readingsOf 0 = .ok (.iconst 0, 1) := by decide +kernel
theorem dX12_readingsOf_1 : decode cX12_readingsOf 1 = .ok (.istore_n 2, 1) := by decide +kernel
theorem dX12_readingsOf_2 : decode cX12_readingsOf 2 = .ok (.iconst 0, 1) := by decide +kernel
theorem dX12_readingsOf_3 : decode cX12_readingsOf 3 = .ok (.istore_n 3, 1) := by decide +kernel
theorem dX12_readingsOf_4 : decode cX12_readingsOf 4 = .ok (.iload_n 3, 1) := by decide +kernel
theorem dX12_readingsOf_5 : decode cX12_readingsOf 5 = .ok (.aload_n 0, 1) := by decide +kernel
theorem dX12_readingsOf_6 : decode cX12_readingsOf 6 = .ok (.getfield 181, 3) := by decide +kernel
theorem dX12_readingsOf_9 : decode cX12_readingsOf 9 = .ok (.if_icmp .ge 51, 3) := by decide +kernel
theorem dX12_readingsOf_12 : decode cX12_readingsOf 12 = .ok (.iconst 0, 1) := by decide +kernel
theorem dX12_readingsOf_13 : decode cX12_readingsOf 13 = .ok (.istore 4, 2) := by decide +kernel
theorem dX12_readingsOf_15 : decode cX12_readingsOf 15 = .ok (.iload 4, 2) := by decide +kernel
theorem dX12_readingsOf_17 : decode cX12_readingsOf 17 = .ok (.iconst 2, 1) := by decide +kernel
theorem dX12_readingsOf_18 : decode cX12_readingsOf 18 = .ok (.if_icmp .ge 36, 3) := by decide +kernel
theorem dX12_readingsOf_21 : decode cX12_readingsOf 21 = .ok (.aload_n 0, 1) := by decide +kernel
theorem dX12_readingsOf_22 : decode cX12_readingsOf 22 = .ok (.iload_n 3, 1) := by decide +kernel
theorem dX12_readingsOf_23 : decode cX12_readingsOf 23 = .ok (.iload 4, 2) := by decide +kernel
theorem dX12_readingsOf_25 : decode cX12_readingsOf 25 = .ok (.invokevirtual 330, 3) := by decide +kernel
theorem dX12_readingsOf_28 : decode cX12_readingsOf 28 = .ok (.istore 5, 2) := by decide +kernel
theorem dX12_readingsOf_30 : decode cX12_readingsOf 30 = .ok (.iload_n 2, 1) := by decide +kernel
theorem dX12_readingsOf_31 : decode cX12_readingsOf 31 = .ok (.iload 5, 2) := by decide +kernel
theorem dX12_readingsOf_33 : decode cX12_readingsOf 33 = .ok (.ifCond .lt 12, 3) := by decide +kernel
theorem dX12_readingsOf_36 : decode cX12_readingsOf 36 = .ok (.iload_n 1, 1) := by decide +kernel
theorem dX12_readingsOf_37 : decode cX12_readingsOf 37 = .ok (.iload 5, 2) := by decide +kernel
theorem dX12_readingsOf_39 : decode cX12_readingsOf 39 = .ok (.ishr, 1) := by decide +kernel
theorem dX12_readingsOf_40 : decode cX12_readingsOf 40 = .ok (.iconst 1, 1) := by decide +kernel
theorem dX12_readingsOf_41 : decode cX12_readingsOf 41 = .ok (.iand, 1) := by decide +kernel
theorem dX12_readingsOf_42 : decode cX12_readingsOf 42 = .ok (.goto 4, 3) := by decide +kernel
theorem dX12_readingsOf_45 : decode cX12_readingsOf 45 = .ok (.iconst 0, 1) := by decide +kernel
theorem dX12_readingsOf_46 : decode cX12_readingsOf 46 = .ok (.iadd, 1) := by decide +kernel
theorem dX12_readingsOf_47 : decode cX12_readingsOf 47 = .ok (.istore_n 2, 1) := by decide +kernel
theorem dX12_readingsOf_48 : decode cX12_readingsOf 48 = .ok (.iinc 4 1, 3) := by decide +kernel
theorem dX12_readingsOf_51 : decode cX12_readingsOf 51 = .ok (.goto (-36), 3) := by decide +kernel
theorem dX12_readingsOf_54 : decode cX12_readingsOf 54 = .ok (.iinc 3 1, 3) := by decide +kernel
theorem dX12_readingsOf_57 : decode cX12_readingsOf 57 = .ok (.goto (-53), 3) := by decide +kernel
theorem dX12_readingsOf_60 : decode cX12_readingsOf 60 = .ok (.iload_n 2, 1) := by decide +kernel
theorem dX12_readingsOf_61 : decode cX12_readingsOf 61 = .ok (.ireturn, 1) := by decide +kernel
set_option maxRecDepth 20000 in
theorem ggX12_spill_X12_in : GoodIn wsX12_spill wsX12_in := goodIn_r _ [7] (by decide +kernel) (by decide +kernel)
set_option maxRecDepth 20000 in
theorem gX12_spill_X12_in : GoodIn wsX12_spill (va_wsS RX12 125 yX12_in wsX12_in) := goodIn_app (goodIn_of _ (by decide +kernel)) ggX12_spill_X12_in
set_option maxRecDepth 20000 in
theorem ggX12_spill_X12_layOrder : GoodIn wsX12_spill wsX12_layOrder := goodIn_r _ [11, 2, 12, 53, 54, 55, 56, 57, 58, 59, 60, 61, 62, 63, 64, 65, 66, 67, 68, 69, 70, 71, 72, 73, 74, 75, 76, 77, 78, 79, 80, 81, 82, 83, 84, 85, 86, 87, 88, 89, 90, 91, 92, 93, 94, 95, 96, 97, 98, 99, 100] (by decide +kernel) (by decide +kernel)
set_option maxRecDepth 20000 in
theorem gX12_spill_X12_layOrder : GoodIn wsX12_spill (wsV RX12 303 RX12 yX12_layOrder wsX12_layOrder) := goodIn_app (goodIn_of _ (by decide +kernel)) ggX12_spill_X12_layOrder
set_option maxRecDepth 20000 in
theorem ggX12_spill_X12_findHeld : GoodIn wsX12_spill wsX12_findHeld := goodIn_r _ [16, 2, 3, 17, 12, 18, 19, 20, 21, 6, 22, 23, 24, 25, 26, 27, 28, 4, 5, 7, 29, 30, 31, 32, 33, 34, 35, 36, 37, 38, 39, 40, 41, 42, 43, 44, 45, 53, 54, 55, 56, 57, 58, 59, 60, 61, 62, 63, 64, 65, 66, 67, 68, 69, 70, 71, 72, 73, 74, 75, 76, 77, 78, 79, 80, 81, 82, 83, 84, 85, 86, 87, 88, 89, 90, 91, 92, 93, 94, 95, 96, 97, 98, 99, 100] (by decide +kernel) (by decide +kernel)
set_option maxRecDepth 20000 in
theorem gX12_spill_X12_findHeld : GoodIn wsX12_spill (wsV RX12 337 RX12 yX12_findHeld wsX12_findHeld) := goodIn_app (goodIn_of _ (by decide +kernel)) ggX12_spill_X12_findHeld
set_option maxRecDepth 20000 in
theorem ggX12_spill_X12_ones : GoodIn wsX12_spill wsX12_ones := goodIn_r _ [48] (by decide +kernel) (by decide +kernel)
set_option maxRecDepth 20000 in
theorem gX12_spill_X12_ones : GoodIn wsX12_spill (va_wsS RX12 340 yX12_ones wsX12_ones) := goodIn_app (goodIn_of _ (by decide +kernel)) ggX12_spill_X12_ones
set_option maxRecDepth 20000 in
theorem ggX12_spill_X12_readingsOf : GoodIn wsX12_spill wsX12_readingsOf := goodIn_r _ [52, 2, 19, 20, 21, 6, 22, 23, 24, 25, 26, 27, 28, 4, 5, 7, 29, 30, 31, 32, 33, 34, 35, 36, 37, 38, 39, 40, 41, 53, 54, 55, 56, 57, 58, 59, 60, 61, 62, 63, 64, 65, 66, 67, 68, 69, 70, 71, 72, 73, 74, 75, 76, 77, 78, 79, 80, 81, 82, 83, 84, 85, 86, 87, 88, 89, 90, 91, 92, 93, 94, 95, 96, 97, 98, 99, 100] (by decide +kernel) (by decide +kernel)
set_option maxRecDepth 20000 in
theorem gX12_spill_X12_readingsOf : GoodIn wsX12_spill (wsV RX12 345 RX12 yX12_readingsOf wsX12_readingsOf) := goodIn_app (goodIn_of _ (by decide +kernel)) ggX12_spill_X12_readingsOf
theorem dX12_spill_0 : decode cX12_spill 0 = .ok (.iload_n 1, 1) := by decide +kernel
theorem dX12_spill_1 : decode cX12_spill 1 = .ok (.i2l, 1) := by decide +kernel
theorem dX12_spill_2 : decode cX12_spill 2 = .ok (.lconst 1, 1) := by decide +kernel
theorem dX12_spill_3 : decode cX12_spill 3 = .ok (.ldc2_w 343, 3) := by decide +kernel
theorem dX12_spill_6 : decode cX12_spill 6 = .ok (.invokestatic 125, 3) := by decide +kernel
theorem dX12_spill_9 : decode cX12_spill 9 = .ok (.ifCond .ne 6, 3) := by decide +kernel
theorem dX12_spill_12 : decode cX12_spill 12 = .ok (.bipush (-2), 2) := by decide +kernel
theorem dX12_spill_14 : decode cX12_spill 14 = .ok (.ireturn, 1) := by decide +kernel
theorem dX12_spill_15 : decode cX12_spill 15 = .ok (.aload_n 0, 1) := by decide +kernel
theorem dX12_spill_16 : decode cX12_spill 16 = .ok (.invokevirtual 303, 3) := by decide +kernel
theorem dX12_spill_19 : decode cX12_spill 19 = .ok (.aload_n 0, 1) := by decide +kernel
theorem dX12_spill_20 : decode cX12_spill 20 = .ok (.invokevirtual 337, 3) := by decide +kernel
theorem dX12_spill_23 : decode cX12_spill 23 = .ok (.bipush (-6), 2) := by decide +kernel
theorem dX12_spill_25 : decode cX12_spill 25 = .ok (.istore_n 2, 1) := by decide +kernel
theorem dX12_spill_26 : decode cX12_spill 26 = .ok (.iconst 0, 1) := by decide +kernel
theorem dX12_spill_27 : decode cX12_spill 27 = .ok (.istore_n 3, 1) := by decide +kernel
theorem dX12_spill_28 : decode cX12_spill 28 = .ok (.iconst 0, 1) := by decide +kernel
theorem dX12_spill_29 : decode cX12_spill 29 = .ok (.istore 4, 2) := by decide +kernel
theorem dX12_spill_31 : decode cX12_spill 31 = .ok (.iload 4, 2) := by decide +kernel
theorem dX12_spill_33 : decode cX12_spill 33 = .ok (.iconst 1, 1) := by decide +kernel
theorem dX12_spill_34 : decode cX12_spill 34 = .ok (.iconst 4, 1) := by decide +kernel
theorem dX12_spill_35 : decode cX12_spill 35 = .ok (.aload_n 0, 1) := by decide +kernel
theorem dX12_spill_36 : decode cX12_spill 36 = .ok (.getfield 181, 3) := by decide +kernel
theorem dX12_spill_39 : decode cX12_spill 39 = .ok (.iadd, 1) := by decide +kernel
theorem dX12_spill_40 : decode cX12_spill 40 = .ok (.ishl, 1) := by decide +kernel
theorem dX12_spill_41 : decode cX12_spill 41 = .ok (.if_icmp .ge 122, 3) := by decide +kernel
theorem dX12_spill_44 : decode cX12_spill 44 = .ok (.iload_n 2, 1) := by decide +kernel
theorem dX12_spill_45 : decode cX12_spill 45 = .ok (.ifCond .lt 15, 3) := by decide +kernel
theorem dX12_spill_48 : decode cX12_spill 48 = .ok (.iload 4, 2) := by decide +kernel
theorem dX12_spill_50 : decode cX12_spill 50 = .ok (.invokestatic 340, 3) := by decide +kernel
theorem dX12_spill_53 : decode cX12_spill 53 = .ok (.iload_n 2, 1) := by decide +kernel
theorem dX12_spill_54 : decode cX12_spill 54 = .ok (.invokestatic 340, 3) := by decide +kernel
theorem dX12_spill_57 : decode cX12_spill 57 = .ok (.if_icmp .gt 7, 3) := by decide +kernel
theorem dX12_spill_60 : decode cX12_spill 60 = .ok (.iconst 1, 1) := by decide +kernel
theorem dX12_spill_61 : decode cX12_spill 61 = .ok (.goto 4, 3) := by decide +kernel
theorem dX12_spill_64 : decode cX12_spill 64 = .ok (.iconst 0, 1) := by decide +kernel
theorem dX12_spill_65 : decode cX12_spill 65 = .ok (.istore 5, 2) := by decide +kernel
theorem dX12_spill_67 : decode cX12_spill 67 = .ok (.iconst 0, 1) := by decide +kernel
theorem dX12_spill_68 : decode cX12_spill 68 = .ok (.istore 6, 2) := by decide +kernel
theorem dX12_spill_70 : decode cX12_spill 70 = .ok (.iload 6, 2) := by decide +kernel
theorem dX12_spill_72 : decode cX12_spill 72 = .ok (.aload_n 0, 1) := by decide +kernel
theorem dX12_spill_73 : decode cX12_spill 73 = .ok (.getfield 181, 3) := by decide +kernel
theorem dX12_spill_76 : decode cX12_spill 76 = .ok (.if_icmp .gt 40, 3) := by decide +kernel
theorem dX12_spill_79 : decode cX12_spill 79 = .ok (.iload 5, 2) := by decide +kernel
theorem dX12_spill_81 : decode cX12_spill 81 = .ok (.ifCond .eq 35, 3) := by decide +kernel
theorem dX12_spill_84 : decode cX12_spill 84 = .ok (.aload_n 0, 1) := by decide +kernel
theorem dX12_spill_85 : decode cX12_spill 85 = .ok (.getfield 83, 3) := by decide +kernel
theorem dX12_spill_88 : decode cX12_spill 88 = .ok (.iload 6, 2) := by decide +kernel
theorem dX12_spill_90 : decode cX12_spill 90 = .ok (.iaload, 1) := by decide +kernel
theorem dX12_spill_91 : decode cX12_spill 91 = .ok (.iload 4, 2) := by decide +kernel
theorem dX12_spill_93 : decode cX12_spill 93 = .ok (.iconst (-1), 1) := by decide +kernel
theorem dX12_spill_94 : decode cX12_spill 94 = .ok (.ixor, 1) := by decide +kernel
theorem dX12_spill_95 : decode cX12_spill 95 = .ok (.iand, 1) := by decide +kernel
theorem dX12_spill_96 : decode cX12_spill 96 = .ok (.invokestatic 340, 3) := by decide +kernel
theorem dX12_spill_99 : decode cX12_spill 99 = .ok (.iload_n 1, 1) := by decide +kernel
theorem dX12_spill_100 : decode cX12_spill 100 = .ok (.if_icmp .gt 7, 3) := by decide +kernel
theorem dX12_spill_103 : decode cX12_spill 103 = .ok (.iconst 1, 1) := by decide +kernel
theorem dX12_spill_104 : decode cX12_spill 104 = .ok (.goto 4, 3) := by decide +kernel
theorem dX12_spill_107 : decode cX12_spill 107 = .ok (.iconst 0, 1) := by decide +kernel
theorem dX12_spill_108 : decode cX12_spill 108 = .ok (.istore 5, 2) := by decide +kernel
theorem dX12_spill_110 : decode cX12_spill 110 = .ok (.iinc 6 1, 3) := by decide +kernel
theorem dX12_spill_113 : decode cX12_spill 113 = .ok (.goto (-43), 3) := by decide +kernel
theorem dX12_spill_116 : decode cX12_spill 116 = .ok (.iload 5, 2) := by decide +kernel
theorem dX12_spill_118 : decode cX12_spill 118 = .ok (.ifCond .eq 39, 3) := by decide +kernel
theorem dX12_spill_121 : decode cX12_spill 121 = .ok (.aload_n 0, 1) := by decide +kernel
theorem dX12_spill_122 : decode cX12_spill 122 = .ok (.iload 4, 2) := by decide +kernel
theorem dX12_spill_124 : decode cX12_spill 124 = .ok (.invokevirtual 345, 3) := by decide +kernel
theorem dX12_spill_127 : decode cX12_spill 127 = .ok (.istore 6, 2) := by decide +kernel
theorem dX12_spill_129 : decode cX12_spill 129 = .ok (.iload_n 2, 1) := by decide +kernel
theorem dX12_spill_130 : decode cX12_spill 130 = .ok (.ifCond .lt 21, 3) := by decide +kernel
theorem dX12_spill_133 : decode cX12_spill 133 = .ok (.iload 4, 2) := by decide +kernel
theorem dX12_spill_135 : decode cX12_spill 135 = .ok (.invokestatic 340, 3) := by decide +kernel
theorem dX12_spill_138 : decode cX12_spill 138 = .ok (.iload_n 2, 1) := by decide +kernel
theorem dX12_spill_139 : decode cX12_spill 139 = .ok (.invokestatic 340, 3) := by decide +kernel
theorem dX12_spill_142 : decode cX12_spill 142 = .ok (.if_icmp .lt 9, 3) := by decide +kernel
theorem dX12_spill_145 : decode cX12_spill 145 = .ok (.iload 6, 2) := by decide +kernel
theorem dX12_spill_147 : decode cX12_spill 147 = .ok (.iload_n 3, 1) := by decide +kernel
theorem dX12_spill_148 : decode cX12_spill 148 = .ok (.if_icmp .ge 9, 3) := by decide +kernel
theorem dX12_spill_151 : decode cX12_spill 151 = .ok (.iload 4, 2) := by decide +kernel
theorem dX12_spill_153 : decode cX12_spill 153 = .ok (.istore_n 2, 1) := by decide +kernel
theorem dX12_spill_154 : decode cX12_spill 154 = .ok (.iload 6, 2) := by decide +kernel
theorem dX12_spill_156 : decode cX12_spill 156 = .ok (.istore_n 3, 1) := by decide +kernel
theorem dX12_spill_157 : decode cX12_spill 157 = .ok (.iinc 4 1, 3) := by decide +kernel
theorem dX12_spill_160 : decode cX12_spill 160 = .ok (.goto (-129), 3) := by decide +kernel
theorem dX12_spill_163 : decode cX12_spill 163 = .ok (.iload_n 2, 1) := by decide +kernel
theorem dX12_spill_164 : decode cX12_spill 164 = .ok (.ireturn, 1) := by decide +kernel
theorem dX12_at_0 : decode cX12_at 0 = .ok (.bipush 24, 2) := by decide +kernel
theorem dX12_at_2 : decode cX12_at 2 = .ok (.iload_n 0, 1) := by decide +kernel
theorem dX12_at_3 : decode cX12_at 3 = .ok (.imul, 1) := by decide +kernel
theorem dX12_at_4 : decode cX12_at 4 = .ok (.bipush 12, 2) := by decide +kernel
theorem dX12_at_6 : decode cX12_at 6 = .ok (.iload_n 1, 1) := by decide +kernel
theorem dX12_at_7 : decode cX12_at 7 = .ok (.imul, 1) := by decide +kernel
theorem dX12_at_8 : decode cX12_at 8 = .ok (.iadd, 1) := by decide +kernel
theorem dX12_at_9 : decode cX12_at 9 = .ok (.iconst 4, 1) := by decide +kernel
theorem dX12_at_10 : decode cX12_at 10 = .ok (.iload_n 2, 1) := by decide +kernel
theorem dX12_at_11 : decode cX12_at 11 = .ok (.imul, 1) := by decide +kernel
theorem dX12_at_12 : decode cX12_at 12 = .ok (.iadd, 1) := by decide +kernel
theorem dX12_at_13 : decode cX12_at 13 = .ok (.iload_n 3, 1) := by decide +kernel
theorem dX12_at_14 : decode cX12_at 14 = .ok (.iadd, 1) := by decide +kernel
theorem dX12_at_15 : decode cX12_at 15 = .ok (.ireturn, 1) := by decide +kernel
set_option maxRecDepth 20000 in
theorem ggX12_putPart_X12_at : GoodIn wsX12_putPart wsX12_at := goodIn_r _ [7] (by decide +kernel) (by decide +kernel)
set_option maxRecDepth 20000 in
theorem gX12_putPart_X12_at : GoodIn wsX12_putPart (va_wsS RX12 351 yX12_at wsX12_at) := goodIn_app (goodIn_of _ (by decide +kernel)) ggX12_putPart_X12_at
theorem dX12_putPart_0 : decode cX12_putPart 0 = .ok (.iconst 0, 1) := by decide +kernel
theorem dX12_putPart_1 : decode cX12_putPart 1 = .ok (.istore_n 3, 1) := by decide +kernel
theorem dX12_putPart_2 : decode cX12_putPart 2 = .ok (.iload_n 3, 1) := by decide +kernel
theorem dX12_putPart_3 : decode cX12_putPart 3 = .ok (.iload_n 2, 1) := by decide +kernel
theorem dX12_putPart_4 : decode cX12_putPart 4 = .ok (.if_icmp .ge 51, 3) := by decide +kernel
theorem dX12_putPart_7 : decode cX12_putPart 7 = .ok (.iconst 0, 1) := by decide +kernel
theorem dX12_putPart_8 : decode cX12_putPart 8 = .ok (.istore 4, 2) := by decide +kernel
theorem dX12_putPart_10 : decode cX12_putPart 10 = .ok (.iload 4, 2) := by decide +kernel
theorem dX12_putPart_12 : decode cX12_putPart 12 = .ok (.iconst 4, 1) := by decide +kernel
theorem dX12_putPart_13 : decode cX12_putPart 13 = .ok (.if_icmp .ge 36, 3) := by decide +kernel
theorem dX12_putPart_16 : decode cX12_putPart 16 = .ok (.aload_n 0, 1) := by decide +kernel
theorem dX12_putPart_17 : decode cX12_putPart 17 = .ok (.getfield 89, 3) := by decide +kernel
theorem dX12_putPart_20 : decode cX12_putPart 20 = .ok (.aload_n 0, 1) := by decide +kernel
theorem dX12_putPart_21 : decode cX12_putPart 21 = .ok (.getfield 348, 3) := by decide +kernel
theorem dX12_putPart_24 : decode cX12_putPart 24 = .ok (.iload_n 1, 1) := by decide +kernel
theorem dX12_putPart_25 : decode cX12_putPart 25 = .ok (.iload_n 3, 1) := by decide +kernel
theorem dX12_putPart_26 : decode cX12_putPart 26 = .ok (.iload 4, 2) := by decide +kernel
theorem dX12_putPart_28 : decode cX12_putPart 28 = .ok (.invokestatic 351, 3) := by decide +kernel
theorem dX12_putPart_31 : decode cX12_putPart 31 = .ok (.aload_n 0, 1) := by decide +kernel
theorem dX12_putPart_32 : decode cX12_putPart 32 = .ok (.getfield 31, 3) := by decide +kernel
theorem dX12_putPart_35 : decode cX12_putPart 35 = .ok (.iconst 4, 1) := by decide +kernel
theorem dX12_putPart_36 : decode cX12_putPart 36 = .ok (.iload_n 3, 1) := by decide +kernel
theorem dX12_putPart_37 : decode cX12_putPart 37 = .ok (.imul, 1) := by decide +kernel
theorem dX12_putPart_38 : decode cX12_putPart 38 = .ok (.iload 4, 2) := by decide +kernel
theorem dX12_putPart_40 : decode cX12_putPart 40 = .ok (.iadd, 1) := by decide +kernel
theorem dX12_putPart_41 : decode cX12_putPart 41 = .ok (.iaload, 1) := by decide +kernel
theorem dX12_putPart_42 : decode cX12_putPart 42 = .ok (.iastore, 1) := by decide +kernel
theorem dX12_putPart_43 : decode cX12_putPart 43 = .ok (.iinc 4 1, 3) := by decide +kernel
theorem dX12_putPart_46 : decode cX12_putPart 46 = .ok (.goto (-36), 3) := by decide +kernel
theorem dX12_putPart_49 : decode cX12_putPart 49 = .ok (.iinc 3 1, 3) := by decide +kernel
theorem dX12_putPart_52 : decode cX12_putPart 52 = .ok (.goto (-50), 3) := by decide +kernel
theorem dX12_putPart_55 : decode cX12_putPart 55 = .ok (.return_, 1) := by decide +kernel
set_option maxRecDepth 20000 in
theorem ggX12_rule_X12_faultOf : GoodIn wsX12_rule wsX12_faultOf := goodIn_r _ [10, 5, 2, 11, 12, 13, 14, 9, 15, 16, 17, 18, 19, 20, 21, 22, 23, 24, 25, 26, 27, 28, 29, 30, 31, 32, 33, 34, 51, 52, 53, 54, 55, 56, 57, 58, 59, 60, 61, 62, 63, 64, 65, 66, 67, 68, 69, 70, 71, 72, 73, 74, 75, 76, 77, 78, 79, 80, 81, 82, 83, 84, 85, 86, 87, 88, 89, 90, 91, 92, 93, 94, 95, 96, 97, 98] (by decide +kernel) (by decide +kernel)
set_option maxRecDepth 20000 in
theorem gX12_rule_X12_faultOf : GoodIn wsX12_rule (wsV RX12 169 RX12 yX12_faultOf wsX12_faultOf) := goodIn_app (goodIn_of _ (by decide +kernel)) ggX12_rule_X12_faultOf
set_option maxRecDepth 20000 in
theorem ggX12_rule_X12_readSteps : GoodIn wsX12_rule wsX12_readSteps := goodIn_r _ [38, 39, 2, 32, 33, 9, 34, 40, 41, 42, 22, 23, 24, 25, 26, 51, 52, 53, 54, 55, 56, 57, 58, 59, 60, 61, 62, 63, 64, 65, 66, 67, 68, 69, 70, 71, 72, 73, 74, 75, 76, 77, 78, 79, 80, 81, 82, 83, 84, 85, 86, 87, 88, 89, 90, 91, 92, 93, 94, 95, 96, 97, 98] (by decide +kernel) (by decide +kernel)
set_option maxRecDepth 20000 in
theorem gX12_rule_X12_readSteps : GoodIn wsX12_rule (wsV RX12 177 RX12 yX12_readSteps wsX12_readSteps) := goodIn_app (goodIn_of _ (by decide +kernel)) ggX12_rule_X12_readSteps
set_option maxRecDepth 20000 in
theorem ggX12_rule_X12_putPart : GoodIn wsX12_rule wsX12_putPart := goodIn_r _ [46, 47, 1, 39, 48, 49, 9, 50, 51, 52, 53, 54, 55, 56, 57, 58, 59, 60, 61, 62, 63, 64, 65, 66, 67, 68, 69, 70, 71, 72, 73, 74, 75, 76, 77, 78, 79, 80, 81, 82, 83, 84, 85, 86, 87, 88, 89, 90, 91, 92, 93, 94, 95, 96, 97, 98] (by decide +kernel) (by decide +kernel)
set_option maxRecDepth 20000 in
theorem gX12_rule_X12_putPart : GoodIn wsX12_rule (wsV RX12 355 RX12 yX12_putPart wsX12_putPart) := goodIn_app (goodIn_of _ (by decide +kernel)) ggX12_rule_X12_putPart
theorem dX12_rule_0 : decode cX12_rule 0 = .ok (.aload_n 0, 1) := by decide +kernel
theorem dX12_rule_1 : decode cX12_rule 1 = .ok (.iconst 1, 1) := by decide +kernel
theorem dX12_rule_2 : decode cX12_rule 2 = .ok (.invokevirtual 169, 3) := by decide +kernel
theorem dX12_rule_5 : decode cX12_rule 5 = .ok (.ifCond .lt 6, 3) := by decide +kernel
theorem dX12_rule_8 : decode cX12_rule 8 = .ok (.bipush (-5), 2) := by decide +kernel
theorem dX12_rule_10 : decode cX12_rule 10 = .ok (.ireturn, 1) := by decide +kernel
theorem dX12_rule_11 : decode cX12_rule 11 = .ok (.aload_n 0, 1) := by decide +kernel
theorem dX12_rule_12 : decode cX12_rule 12 = .ok (.getfield 348, 3) := by decide +kernel
theorem dX12_rule_15 : decode cX12_rule 15 = .ok (.iconst 4, 1) := by decide +kernel
theorem dX12_rule_16 : decode cX12_rule 16 = .ok (.if_icmp .ne 6, 3) := by decide +kernel
theorem dX12_rule_19 : decode cX12_rule 19 = .ok (.bipush (-4), 2) := by decide +kernel
theorem dX12_rule_21 : decode cX12_rule 21 = .ok (.ireturn, 1) := by decide +kernel
theorem dX12_rule_22 : decode cX12_rule 22 = .ok (.iconst 0, 1) := by decide +kernel
theorem dX12_rule_23 : decode cX12_rule 23 = .ok (.istore_n 1, 1) := by decide +kernel
theorem dX12_rule_24 : decode cX12_rule 24 = .ok (.aload_n 0, 1) := by decide +kernel
theorem dX12_rule_25 : decode cX12_rule 25 = .ok (.getfield 7, 3) := by decide +kernel
theorem dX12_rule_28 : decode cX12_rule 28 = .ok (.iload_n 1, 1) := by decide +kernel
theorem dX12_rule_29 : decode cX12_rule 29 = .ok (.iaload, 1) := by decide +kernel
theorem dX12_rule_30 : decode cX12_rule 30 = .ok (.bipush 62, 2) := by decide +kernel
theorem dX12_rule_32 : decode cX12_rule 32 = .ok (.if_icmp .eq 9, 3) := by decide +kernel
theorem dX12_rule_35 : decode cX12_rule 35 = .ok (.iinc 1 1, 3) := by decide +kernel
theorem dX12_rule_38 : decode cX12_rule 38 = .ok (.goto (-14), 3) := by decide +kernel
theorem dX12_rule_41 : decode cX12_rule 41 = .ok (.aload_n 0, 1) := by decide +kernel
theorem dX12_rule_42 : decode cX12_rule 42 = .ok (.getfield 92, 3) := by decide +kernel
theorem dX12_rule_45 : decode cX12_rule 45 = .ok (.aload_n 0, 1) := by decide +kernel
theorem dX12_rule_46 : decode cX12_rule 46 = .ok (.getfield 348, 3) := by decide +kernel
theorem dX12_rule_49 : decode cX12_rule 49 = .ok (.aload_n 0, 1) := by decide +kernel
theorem dX12_rule_50 : decode cX12_rule 50 = .ok (.iconst 0, 1) := by decide +kernel
theorem dX12_rule_51 : decode cX12_rule 51 = .ok (.iload_n 1, 1) := by decide +kernel
theorem dX12_rule_52 : decode cX12_rule 52 = .ok (.invokevirtual 177, 3) := by decide +kernel
theorem dX12_rule_55 : decode cX12_rule 55 = .ok (.iastore, 1) := by decide +kernel
theorem dX12_rule_56 : decode cX12_rule 56 = .ok (.aload_n 0, 1) := by decide +kernel
theorem dX12_rule_57 : decode cX12_rule 57 = .ok (.iconst 0, 1) := by decide +kernel
theorem dX12_rule_58 : decode cX12_rule 58 = .ok (.aload_n 0, 1) := by decide +kernel
theorem dX12_rule_59 : decode cX12_rule 59 = .ok (.getfield 92, 3) := by decide +kernel
theorem dX12_rule_62 : decode cX12_rule 62 = .ok (.aload_n 0, 1) := by decide +kernel
theorem dX12_rule_63 : decode cX12_rule 63 = .ok (.getfield 348, 3) := by decide +kernel
theorem dX12_rule_66 : decode cX12_rule 66 = .ok (.iaload, 1) := by decide +kernel
theorem dX12_rule_67 : decode cX12_rule 67 = .ok (.invokevirtual 355, 3) := by decide +kernel
theorem dX12_rule_70 : decode cX12_rule 70 = .ok (.aload_n 0, 1) := by decide +kernel
theorem dX12_rule_71 : decode cX12_rule 71 = .ok (.getfield 95, 3) := by decide +kernel
theorem dX12_rule_74 : decode cX12_rule 74 = .ok (.aload_n 0, 1) := by decide +kernel
theorem dX12_rule_75 : decode cX12_rule 75 = .ok (.getfield 348, 3) := by decide +kernel
theorem dX12_rule_78 : decode cX12_rule 78 = .ok (.aload_n 0, 1) := by decide +kernel
theorem dX12_rule_79 : decode cX12_rule 79 = .ok (.iload_n 1, 1) := by decide +kernel
theorem dX12_rule_80 : decode cX12_rule 80 = .ok (.iconst 1, 1) := by decide +kernel
theorem dX12_rule_81 : decode cX12_rule 81 = .ok (.iadd, 1) := by decide +kernel
theorem dX12_rule_82 : decode cX12_rule 82 = .ok (.aload_n 0, 1) := by decide +kernel
theorem dX12_rule_83 : decode cX12_rule 83 = .ok (.getfield 133, 3) := by decide +kernel
theorem dX12_rule_86 : decode cX12_rule 86 = .ok (.invokevirtual 177, 3) := by decide +kernel
theorem dX12_rule_89 : decode cX12_rule 89 = .ok (.iastore, 1) := by decide +kernel
theorem dX12_rule_90 : decode cX12_rule 90 = .ok (.aload_n 0, 1) := by decide +kernel
theorem dX12_rule_91 : decode cX12_rule 91 = .ok (.iconst 1, 1) := by decide +kernel
theorem dX12_rule_92 : decode cX12_rule 92 = .ok (.aload_n 0, 1) := by decide +kernel
theorem dX12_rule_93 : decode cX12_rule 93 = .ok (.getfield 95, 3) := by decide +kernel
theorem dX12_rule_96 : decode cX12_rule 96 = .ok (.aload_n 0, 1) := by decide +kernel
theorem dX12_rule_97 : decode cX12_rule 97 = .ok (.getfield 348, 3) := by decide +kernel
theorem dX12_rule_100 : decode cX12_rule 100 = .ok (.iaload, 1) := by decide +kernel
theorem dX12_rule_101 : decode cX12_rule 101 = .ok (.invokevirtual 355, 3) := by decide +kernel
theorem dX12_rule_104 : decode cX12_rule 104 = .ok (.aload_n 0, 1) := by decide +kernel
theorem dX12_rule_105 : decode cX12_rule 105 = .ok (.iconst 0, 1) := by decide +kernel
theorem dX12_rule_106 : decode cX12_rule 106 = .ok (.putfield 133, 3) := by decide +kernel
theorem dX12_rule_109 : decode cX12_rule 109 = .ok (.aload_n 0, 1) := by decide +kernel
theorem dX12_rule_110 : decode cX12_rule 110 = .ok (.dup, 1) := by decide +kernel
theorem dX12_rule_111 : decode cX12_rule 111 = .ok (.getfield 348, 3) := by decide +kernel
theorem dX12_rule_114 : decode cX12_rule 114 = .ok (.iconst 1, 1) := by decide +kernel
theorem dX12_rule_115 : decode cX12_rule 115 = .ok (.iadd, 1) := by decide +kernel
theorem dX12_rule_116 : decode cX12_rule 116 = .ok (.putfield 348, 3) := by decide +kernel
theorem dX12_rule_119 : decode cX12_rule 119 = .ok (.aload_n 0, 1) := by decide +kernel
theorem dX12_rule_120 : decode cX12_rule 120 = .ok (.getfield 348, 3) := by decide +kernel
theorem dX12_rule_123 : decode cX12_rule 123 = .ok (.iconst 1, 1) := by decide +kernel
theorem dX12_rule_124 : decode cX12_rule 124 = .ok (.isub, 1) := by decide +kernel
theorem dX12_rule_125 : decode cX12_rule 125 = .ok (.ireturn, 1) := by decide +kernel
theorem dX12_free_0 : decode cX12_free 0 = .ok (.aload_n 0, 1) := by decide +kernel
theorem dX12_free_1 : decode cX12_free 1 = .ok (.getfield 348, 3) := by decide +kernel
theorem dX12_free_4 : decode cX12_free 4 = .ok (.istore_n 1, 1) := by decide +kernel
theorem dX12_free_5 : decode cX12_free 5 = .ok (.aload_n 0, 1) := by decide +kernel
theorem dX12_free_6 : decode cX12_free 6 = .ok (.iconst 0, 1) := by decide +kernel
theorem dX12_free_7 : decode cX12_free 7 = .ok (.putfield 348, 3) := by decide +kernel
theorem dX12_free_10 : decode cX12_free 10 = .ok (.iload_n 1, 1) := by decide +kernel
theorem dX12_free_11 : decode cX12_free 11 = .ok (.ireturn, 1) := by decide +kernel
set_option maxRecDepth 20000 in
theorem ggX12_isRule_X12_in : GoodIn wsX12_isRule wsX12_in := goodIn_r _ [5] (by decide +kernel) (by decide +kernel)
set_option maxRecDepth 20000 in
theorem gX12_isRule_X12_in : GoodIn wsX12_isRule (va_wsS RX12 125 yX12_in wsX12_in) := goodIn_app (goodIn_of _ (by decide +kernel)) ggX12_isRule_X12_in
theorem dX12_isRule_0 : decode cX12_isRule 0 = .ok (.iload_n 1, 1) := by decide +kernel
theorem dX12_isRule_1 : decode cX12_isRule 1 = .ok (.i2l, 1) := by decide +kernel
theorem dX12_isRule_2 : decode cX12_isRule 2 = .ok (.lconst 0, 1) := by decide +kernel
theorem dX12_isRule_3 : decode cX12_isRule 3 = .ok (.aload_n 0, 1) := by decide +kernel
theorem dX12_isRule_4 : decode cX12_isRule 4 = .ok (.getfield 348, 3) := by decide +kernel
theorem dX12_isRule_7 : decode cX12_isRule 7 = .ok (.iconst 1, 1) := by decide +kernel
theorem dX12_isRule_8 : decode cX12_isRule 8 = .ok (.isub, 1) := by decide +kernel
theorem dX12_isRule_9 : decode cX12_isRule 9 = .ok (.i2l, 1) := by decide +kernel
theorem dX12_isRule_10 : decode cX12_isRule 10 = .ok (.invokestatic 125, 3) := by decide +kernel
theorem dX12_isRule_13 : decode cX12_isRule 13 = .ok (.ireturn, 1) := by decide +kernel
set_option maxRecDepth 20000 in
theorem ggX12_runPart_X12_at : GoodIn wsX12_runPart wsX12_at := goodIn_r _ [7] (by decide +kernel) (by decide +kernel)
set_option maxRecDepth 20000 in
theorem gX12_runPart_X12_at : GoodIn wsX12_runPart (va_wsS RX12 351 yX12_at wsX12_at) := goodIn_app (goodIn_of _ (by decide +kernel)) ggX12_runPart_X12_at
set_option maxRecDepth 20000 in
theorem ggX12_runPart_X12_done : GoodIn wsX12_runPart wsX12_done := goodIn_r _ [10, 11, 12, 6, 13, 14, 15, 16, 17, 18, 19] (by decide +kernel) (by decide +kernel)
set_option maxRecDepth 20000 in
theorem gX12_runPart_X12_done : GoodIn wsX12_runPart (va_wsS RX12 199 yX12_done wsX12_done) := goodIn_app (goodIn_of _ (by decide +kernel)) ggX12_runPart_X12_done
theorem dX12_runPart_0 : decode cX12_runPart 0 = .ok (.iload_n 3, 1) := by decide +kernel
theorem dX12_runPart_1 : decode cX12_runPart 1 = .ok (.istore 4, 2) := by decide +kernel
theorem dX12_runPart_3 : decode cX12_runPart 3 = .ok (.iload_n 2, 1) := by decide +kernel
theorem dX12_runPart_4 : decode cX12_runPart 4 = .ok (.ifCond .ne 12, 3) := by decide +kernel
theorem dX12_runPart_7 : decode cX12_runPart 7 = .ok (.aload_n 0, 1) := by decide +kernel
theorem dX12_runPart_8 : decode cX12_runPart 8 = .ok (.getfield 92, 3) := by decide +kernel
theorem dX12_runPart_11 : decode cX12_runPart 11 = .ok (.iload_n 1, 1) := by decide +kernel
theorem dX12_runPart_12 : decode cX12_runPart 12 = .ok (.iaload, 1) := by decide +kernel
theorem dX12_runPart_13 : decode cX12_runPart 13 = .ok (.goto 9, 3) := by decide +kernel
theorem dX12_runPart_16 : decode cX12_runPart 16 = .ok (.aload_n 0, 1) := by decide +kernel
theorem dX12_runPart_17 : decode cX12_runPart 17 = .ok (.getfield 95, 3) := by decide +kernel
theorem dX12_runPart_20 : decode cX12_runPart 20 = .ok (.iload_n 1, 1) := by decide +kernel
theorem dX12_runPart_21 : decode cX12_runPart 21 = .ok (.iaload, 1) := by decide +kernel
theorem dX12_runPart_22 : decode cX12_runPart 22 = .ok (.istore 5, 2) := by decide +kernel
theorem dX12_runPart_24 : decode cX12_runPart 24 = .ok (.iconst 0, 1) := by decide +kernel
theorem dX12_runPart_25 : decode cX12_runPart 25 = .ok (.istore 6, 2) := by decide +kernel
theorem dX12_runPart_27 : decode cX12_runPart 27 = .ok (.iload 6, 2) := by decide +kernel
theorem dX12_runPart_29 : decode cX12_runPart 29 = .ok (.iload 5, 2) := by decide +kernel
theorem dX12_runPart_31 : decode cX12_runPart 31 = .ok (.if_icmp .ge 68, 3) := by decide +kernel
theorem dX12_runPart_34 : decode cX12_runPart 34 = .ok (.iload 4, 2) := by decide +kernel
theorem dX12_runPart_36 : decode cX12_runPart 36 = .ok (.aload_n 0, 1) := by decide +kernel
theorem dX12_runPart_37 : decode cX12_runPart 37 = .ok (.getfield 89, 3) := by decide +kernel
theorem dX12_runPart_40 : decode cX12_runPart 40 = .ok (.iload_n 1, 1) := by decide +kernel
theorem dX12_runPart_41 : decode cX12_runPart 41 = .ok (.iload_n 2, 1) := by decide +kernel
theorem dX12_runPart_42 : decode cX12_runPart 42 = .ok (.iload 6, 2) := by decide +kernel
theorem dX12_runPart_44 : decode cX12_runPart 44 = .ok (.iconst 0, 1) := by decide +kernel
theorem dX12_runPart_45 : decode cX12_runPart 45 = .ok (.invokestatic 351, 3) := by decide +kernel
theorem dX12_runPart_48 : decode cX12_runPart 48 = .ok (.iaload, 1) := by decide +kernel
theorem dX12_runPart_49 : decode cX12_runPart 49 = .ok (.aload_n 0, 1) := by decide +kernel
theorem dX12_runPart_50 : decode cX12_runPart 50 = .ok (.getfield 89, 3) := by decide +kernel
theorem dX12_runPart_53 : decode cX12_runPart 53 = .ok (.iload_n 1, 1) := by decide +kernel
theorem dX12_runPart_54 : decode cX12_runPart 54 = .ok (.iload_n 2, 1) := by decide +kernel
theorem dX12_runPart_55 : decode cX12_runPart 55 = .ok (.iload 6, 2) := by decide +kernel
theorem dX12_runPart_57 : decode cX12_runPart 57 = .ok (.iconst 1, 1) := by decide +kernel
theorem dX12_runPart_58 : decode cX12_runPart 58 = .ok (.invokestatic 351, 3) := by decide +kernel
theorem dX12_runPart_61 : decode cX12_runPart 61 = .ok (.iaload, 1) := by decide +kernel
theorem dX12_runPart_62 : decode cX12_runPart 62 = .ok (.aload_n 0, 1) := by decide +kernel
theorem dX12_runPart_63 : decode cX12_runPart 63 = .ok (.getfield 89, 3) := by decide +kernel
theorem dX12_runPart_66 : decode cX12_runPart 66 = .ok (.iload_n 1, 1) := by decide +kernel
theorem dX12_runPart_67 : decode cX12_runPart 67 = .ok (.iload_n 2, 1) := by decide +kernel
theorem dX12_runPart_68 : decode cX12_runPart 68 = .ok (.iload 6, 2) := by decide +kernel
theorem dX12_runPart_70 : decode cX12_runPart 70 = .ok (.iconst 2, 1) := by decide +kernel
theorem dX12_runPart_71 : decode cX12_runPart 71 = .ok (.invokestatic 351, 3) := by decide +kernel
theorem dX12_runPart_74 : decode cX12_runPart 74 = .ok (.iaload, 1) := by decide +kernel
theorem dX12_runPart_75 : decode cX12_runPart 75 = .ok (.aload_n 0, 1) := by decide +kernel
theorem dX12_runPart_76 : decode cX12_runPart 76 = .ok (.getfield 89, 3) := by decide +kernel
theorem dX12_runPart_79 : decode cX12_runPart 79 = .ok (.iload_n 1, 1) := by decide +kernel
theorem dX12_runPart_80 : decode cX12_runPart 80 = .ok (.iload_n 2, 1) := by decide +kernel
theorem dX12_runPart_81 : decode cX12_runPart 81 = .ok (.iload 6, 2) := by decide +kernel
theorem dX12_runPart_83 : decode cX12_runPart 83 = .ok (.iconst 3, 1) := by decide +kernel
theorem dX12_runPart_84 : decode cX12_runPart 84 = .ok (.invokestatic 351, 3) := by decide +kernel
theorem dX12_runPart_87 : decode cX12_runPart 87 = .ok (.iaload, 1) := by decide +kernel
theorem dX12_runPart_88 : decode cX12_runPart 88 = .ok (.invokestatic 199, 3) := by decide +kernel
theorem dX12_runPart_91 : decode cX12_runPart 91 = .ok (.istore 4, 2) := by decide +kernel
theorem dX12_runPart_93 : decode cX12_runPart 93 = .ok (.iinc 6 1, 3) := by decide +kernel
theorem dX12_runPart_96 : decode cX12_runPart 96 = .ok (.goto (-69), 3) := by decide +kernel
theorem dX12_runPart_99 : decode cX12_runPart 99 = .ok (.iload 4, 2) := by decide +kernel
theorem dX12_runPart_101 : decode cX12_runPart 101 = .ok (.ireturn, 1) := by decide +kernel
set_option maxRecDepth 20000 in
theorem ggX12_holds_X12_isRule : GoodIn wsX12_holds wsX12_isRule := goodIn_r _ [5, 6, 7, 8, 4, 9, 32, 33, 34, 35, 36, 37, 38, 39, 40, 41, 42, 43, 44, 45, 46, 47, 48, 49, 50, 51, 52, 53, 54, 55, 56, 57, 58, 59, 60, 61, 62, 63, 64, 65, 66, 67, 68, 69, 70, 71, 72, 73, 74, 75, 76, 77, 78, 79] (by decide +kernel) (by decide +kernel)
set_option maxRecDepth 20000 in
theorem gX12_holds_X12_isRule : GoodIn wsX12_holds (wsV RX12 359 RX12 yX12_isRule wsX12_isRule) := goodIn_app (goodIn_of _ (by decide +kernel)) ggX12_holds_X12_isRule
set_option maxRecDepth 20000 in
theorem ggX12_holds_X12_runPart : GoodIn wsX12_holds wsX12_runPart := goodIn_r _ [13, 14, 15, 16, 17, 18, 4, 19, 20, 21, 22, 23, 24, 25, 26, 27, 28, 29, 30, 31, 32, 33, 34, 35, 36, 37, 38, 39, 40, 41, 42, 43, 44, 45, 46, 47, 48, 49, 50, 51, 52, 53, 54, 55, 56, 57, 58, 59, 60, 61, 62, 63, 64, 65, 66, 67, 68, 69, 70, 71, 72, 73, 74, 75, 76, 77, 78, 79] (by decide +kernel) (by decide +kernel)
set_option maxRecDepth 20000 in
theorem gX12_holds_X12_runPart : GoodIn wsX12_holds (wsV RX12 362 RX12 yX12_runPart wsX12_runPart) := goodIn_app (goodIn_of _ (by decide +kernel)) ggX12_holds_X12_runPart
theorem dX12_holds_0 : decode cX12_holds 0 = .ok (.aload_n 0, 1) := by decide +kernel
theorem dX12_holds_1 : decode cX12_holds 1 = .ok (.iload_n 1, 1) := by decide +kernel
theorem dX12_holds_2 : decode cX12_holds 2 = .ok (.invokevirtual 359, 3) := by decide +kernel
theorem dX12_holds_5 : decode cX12_holds 5 = .ok (.ifCond .ne 5, 3) := by decide +kernel
theorem dX12_holds_8 : decode cX12_holds 8 = .ok (.iconst (-1), 1) := by decide +kernel
theorem dX12_holds_9 : decode cX12_holds 9 = .ok (.ireturn, 1) := by decide +kernel
theorem dX12_holds_10 : decode cX12_holds 10 = .ok (.iconst 0, 1) := by decide +kernel
theorem dX12_holds_11 : decode cX12_holds 11 = .ok (.istore_n 2, 1) := by decide +kernel
theorem dX12_holds_12 : decode cX12_holds 12 = .ok (.iload_n 2, 1) := by decide +kernel
theorem dX12_holds_13 : decode cX12_holds 13 = .ok (.sipush 4096, 3) := by decide +kernel
theorem dX12_holds_16 : decode cX12_holds 16 = .ok (.if_icmp .ge 28, 3) := by decide +kernel
theorem dX12_holds_19 : decode cX12_holds 19 = .ok (.aload_n 0, 1) := by decide +kernel
theorem dX12_holds_20 : decode cX12_holds 20 = .ok (.iload_n 1, 1) := by decide +kernel
theorem dX12_holds_21 : decode cX12_holds 21 = .ok (.iconst 0, 1) := by decide +kernel
theorem dX12_holds_22 : decode cX12_holds 22 = .ok (.iload_n 2, 1) := by decide +kernel
theorem dX12_holds_23 : decode cX12_holds 23 = .ok (.invokevirtual 362, 3) := by decide +kernel
theorem dX12_holds_26 : decode cX12_holds 26 = .ok (.aload_n 0, 1) := by decide +kernel
theorem dX12_holds_27 : decode cX12_holds 27 = .ok (.iload_n 1, 1) := by decide +kernel
theorem dX12_holds_28 : decode cX12_holds 28 = .ok (.iconst 1, 1) := by decide +kernel
theorem dX12_holds_29 : decode cX12_holds 29 = .ok (.iload_n 2, 1) := by decide +kernel
theorem dX12_holds_30 : decode cX12_holds 30 = .ok (.invokevirtual 362, 3) := by decide +kernel
theorem dX12_holds_33 : decode cX12_holds 33 = .ok (.if_icmp .eq 5, 3) := by decide +kernel
theorem dX12_holds_36 : decode cX12_holds 36 = .ok (.iconst 0, 1) := by decide +kernel
theorem dX12_holds_37 : decode cX12_holds 37 = .ok (.ireturn, 1) := by decide +kernel
theorem dX12_holds_38 : decode cX12_holds 38 = .ok (.iinc 2 1, 3) := by decide +kernel
theorem dX12_holds_41 : decode cX12_holds 41 = .ok (.goto (-29), 3) := by decide +kernel
theorem dX12_holds_44 : decode cX12_holds 44 = .ok (.iconst 1, 1) := by decide +kernel
theorem dX12_holds_45 : decode cX12_holds 45 = .ok (.ireturn, 1) := by decide +kernel
theorem dX12_isCalled_0 : decode cX12_isCalled 0 = .ok (.iconst 0, 1) := by decide +kernel
theorem dX12_isCalled_1 : decode cX12_isCalled 1 = .ok (.istore_n 2, 1) := by decide +kernel
theorem dX12_isCalled_2 : decode cX12_isCalled 2 = .ok (.iconst 0, 1) := by decide +kernel
theorem dX12_isCalled_3 : decode cX12_isCalled 3 = .ok (.istore_n 3, 1) := by decide +kernel
theorem dX12_isCalled_4 : decode cX12_isCalled 4 = .ok (.iload_n 3, 1) := by decide +kernel
theorem dX12_isCalled_5 : decode cX12_isCalled 5 = .ok (.iconst 4, 1) := by decide +kernel
theorem dX12_isCalled_6 : decode cX12_isCalled 6 = .ok (.if_icmp .ge 29, 3) := by decide +kernel
theorem dX12_isCalled_9 : decode cX12_isCalled 9 = .ok (.iload_n 2, 1) := by decide +kernel
theorem dX12_isCalled_10 : decode cX12_isCalled 10 = .ok (.ifCond .ne 13, 3) := by decide +kernel
theorem dX12_isCalled_13 : decode cX12_isCalled 13 = .ok (.aload_n 0, 1) := by decide +kernel
theorem dX12_isCalled_14 : decode cX12_isCalled 14 = .ok (.getfield 98, 3) := by decide +kernel
theorem dX12_isCalled_17 : decode cX12_isCalled 17 = .ok (.iload_n 3, 1) := by decide +kernel
theorem dX12_isCalled_18 : decode cX12_isCalled 18 = .ok (.iaload, 1) := by decide +kernel
theorem dX12_isCalled_19 : decode cX12_isCalled 19 = .ok (.iload_n 1, 1) := by decide +kernel
theorem dX12_isCalled_20 : decode cX12_isCalled 20 = .ok (.if_icmp .ne 7, 3) := by decide +kernel
theorem dX12_isCalled_23 : decode cX12_isCalled 23 = .ok (.iconst 1, 1) := by decide +kernel
theorem dX12_isCalled_24 : decode cX12_isCalled 24 = .ok (.goto 4, 3) := by decide +kernel
theorem dX12_isCalled_27 : decode cX12_isCalled 27 = .ok (.iconst 0, 1) := by decide +kernel
theorem dX12_isCalled_28 : decode cX12_isCalled 28 = .ok (.istore_n 2, 1) := by decide +kernel
theorem dX12_isCalled_29 : decode cX12_isCalled 29 = .ok (.iinc 3 1, 3) := by decide +kernel
theorem dX12_isCalled_32 : decode cX12_isCalled 32 = .ok (.goto (-28), 3) := by decide +kernel
theorem dX12_isCalled_35 : decode cX12_isCalled 35 = .ok (.iload_n 2, 1) := by decide +kernel
theorem dX12_isCalled_36 : decode cX12_isCalled 36 = .ok (.ireturn, 1) := by decide +kernel
set_option maxRecDepth 20000 in
theorem ggX12_isNamed_X12_isRegister : GoodIn wsX12_isNamed wsX12_isRegister := goodIn_r _ [5, 6, 7, 8, 4, 9] (by decide +kernel) (by decide +kernel)
set_option maxRecDepth 20000 in
theorem gX12_isNamed_X12_isRegister : GoodIn wsX12_isNamed (va_wsS RX12 218 yX12_isRegister wsX12_isRegister) := goodIn_app (goodIn_of _ (by decide +kernel)) ggX12_isNamed_X12_isRegister
set_option maxRecDepth 20000 in
theorem ggX12_isNamed_X12_isCalled : GoodIn wsX12_isNamed wsX12_isCalled := goodIn_r _ [13, 1, 14, 15, 16, 17, 18, 19, 20, 21, 22, 23, 24, 25, 26, 27, 28, 29, 30, 31, 32, 33, 34, 35, 36, 37, 38, 39, 40, 41, 42, 43, 44, 45, 46, 47, 48, 49, 50, 51, 52, 53, 54, 55, 56, 57, 58, 59, 60, 61] (by decide +kernel) (by decide +kernel)
set_option maxRecDepth 20000 in
theorem gX12_isNamed_X12_isCalled : GoodIn wsX12_isNamed (wsV RX12 365 RX12 yX12_isCalled wsX12_isCalled) := goodIn_app (goodIn_of _ (by decide +kernel)) ggX12_isNamed_X12_isCalled
theorem dX12_isNamed_0 : decode cX12_isNamed 0 = .ok (.iload_n 1, 1) := by decide +kernel
theorem dX12_isNamed_1 : decode cX12_isNamed 1 = .ok (.invokestatic 218, 3) := by decide +kernel
theorem dX12_isNamed_4 : decode cX12_isNamed 4 = .ok (.ifCond .eq 10, 3) := by decide +kernel
theorem dX12_isNamed_7 : decode cX12_isNamed 7 = .ok (.iload_n 2, 1) := by decide +kernel
theorem dX12_isNamed_8 : decode cX12_isNamed 8 = .ok (.invokestatic 218, 3) := by decide +kernel
theorem dX12_isNamed_11 : decode cX12_isNamed 11 = .ok (.ifCond .ne 14, 3) := by decide +kernel
theorem dX12_isNamed_14 : decode cX12_isNamed 14 = .ok (.iload_n 1, 1) := by decide +kernel
theorem dX12_isNamed_15 : decode cX12_isNamed 15 = .ok (.iload_n 2, 1) := by decide +kernel
theorem dX12_isNamed_16 : decode cX12_isNamed 16 = .ok (.if_icmp .ne 7, 3) := by decide +kernel
theorem dX12_isNamed_19 : decode cX12_isNamed 19 = .ok (.iconst 1, 1) := by decide +kernel
theorem dX12_isNamed_20 : decode cX12_isNamed 20 = .ok (.goto 4, 3) := by decide +kernel
theorem dX12_isNamed_23 : decode cX12_isNamed 23 = .ok (.iconst 0, 1) := by decide +kernel
theorem dX12_isNamed_24 : decode cX12_isNamed 24 = .ok (.ireturn, 1) := by decide +kernel
theorem dX12_isNamed_25 : decode cX12_isNamed 25 = .ok (.aload_n 0, 1) := by decide +kernel
theorem dX12_isNamed_26 : decode cX12_isNamed 26 = .ok (.getfield 98, 3) := by decide +kernel
theorem dX12_isNamed_29 : decode cX12_isNamed 29 = .ok (.iload_n 1, 1) := by decide +kernel
theorem dX12_isNamed_30 : decode cX12_isNamed 30 = .ok (.iaload, 1) := by decide +kernel
theorem dX12_isNamed_31 : decode cX12_isNamed 31 = .ok (.ifCond .ge 18, 3) := by decide +kernel
theorem dX12_isNamed_34 : decode cX12_isNamed 34 = .ok (.aload_n 0, 1) := by decide +kernel
theorem dX12_isNamed_35 : decode cX12_isNamed 35 = .ok (.iload_n 2, 1) := by decide +kernel
theorem dX12_isNamed_36 : decode cX12_isNamed 36 = .ok (.invokevirtual 365, 3) := by decide +kernel
theorem dX12_isNamed_39 : decode cX12_isNamed 39 = .ok (.ifCond .ne 10, 3) := by decide +kernel
theorem dX12_isNamed_42 : decode cX12_isNamed 42 = .ok (.aload_n 0, 1) := by decide +kernel
theorem dX12_isNamed_43 : decode cX12_isNamed 43 = .ok (.getfield 98, 3) := by decide +kernel
theorem dX12_isNamed_46 : decode cX12_isNamed 46 = .ok (.iload_n 1, 1) := by decide +kernel
theorem dX12_isNamed_47 : decode cX12_isNamed 47 = .ok (.iload_n 2, 1) := by decide +kernel
theorem dX12_isNamed_48 : decode cX12_isNamed 48 = .ok (.iastore, 1) := by decide +kernel
theorem dX12_isNamed_49 : decode cX12_isNamed 49 = .ok (.aload_n 0, 1) := by decide +kernel
theorem dX12_isNamed_50 : decode cX12_isNamed 50 = .ok (.getfield 98, 3) := by decide +kernel
theorem dX12_isNamed_53 : decode cX12_isNamed 53 = .ok (.iload_n 1, 1) := by decide +kernel
theorem dX12_isNamed_54 : decode cX12_isNamed 54 = .ok (.iaload, 1) := by decide +kernel
theorem dX12_isNamed_55 : decode cX12_isNamed 55 = .ok (.iload_n 2, 1) := by decide +kernel
theorem dX12_isNamed_56 : decode cX12_isNamed 56 = .ok (.if_icmp .ne 7, 3) := by decide +kernel
theorem dX12_isNamed_59 : decode cX12_isNamed 59 = .ok (.iconst 1, 1) := by decide +kernel
theorem dX12_isNamed_60 : decode cX12_isNamed 60 = .ok (.goto 4, 3) := by decide +kernel
theorem dX12_isNamed_63 : decode cX12_isNamed 63 = .ok (.iconst 0, 1) := by decide +kernel
theorem dX12_isNamed_64 : decode cX12_isNamed 64 = .ok (.ireturn, 1) := by decide +kernel
set_option maxRecDepth 20000 in
theorem ggX12_isAt_X12_at : GoodIn wsX12_isAt wsX12_at := goodIn_r _ [12] (by decide +kernel) (by decide +kernel)
set_option maxRecDepth 20000 in
theorem gX12_isAt_X12_at : GoodIn wsX12_isAt (va_wsS RX12 351 yX12_at wsX12_at) := goodIn_app (goodIn_of _ (by decide +kernel)) ggX12_isAt_X12_at
set_option maxRecDepth 20000 in
theorem ggX12_isAt_X12_isNamed : GoodIn wsX12_isAt wsX12_isNamed := goodIn_r _ [16, 1, 17, 18, 11, 19, 20, 21, 22, 23, 24, 25, 26, 27, 28, 29, 30, 31, 32, 33, 34, 35, 36, 37, 38, 39, 40, 41, 42, 43, 44, 45, 46, 47, 48, 49, 50, 51, 52, 53, 54, 55, 56, 57, 58, 59, 60, 61, 62, 63, 64, 65, 66, 67, 68, 69, 70, 71, 72, 73, 74, 75] (by decide +kernel) (by decide +kernel)
set_option maxRecDepth 20000 in
theorem gX12_isAt_X12_isNamed : GoodIn wsX12_isAt (wsV RX12 368 RX12 yX12_isNamed wsX12_isNamed) := goodIn_app (goodIn_of _ (by decide +kernel)) ggX12_isAt_X12_isNamed
theorem dX12_isAt_0 : decode cX12_isAt 0 = .ok (.iconst 0, 1) := by decide +kernel
theorem dX12_isAt_1 : decode cX12_isAt 1 = .ok (.istore_n 3, 1) := by decide +kernel
theorem dX12_isAt_2 : decode cX12_isAt 2 = .ok (.iload_n 3, 1) := by decide +kernel
theorem dX12_isAt_3 : decode cX12_isAt 3 = .ok (.iconst 4, 1) := by decide +kernel
theorem dX12_isAt_4 : decode cX12_isAt 4 = .ok (.if_icmp .ge 17, 3) := by decide +kernel
theorem dX12_isAt_7 : decode cX12_isAt 7 = .ok (.aload_n 0, 1) := by decide +kernel
theorem dX12_isAt_8 : decode cX12_isAt 8 = .ok (.getfield 98, 3) := by decide +kernel
theorem dX12_isAt_11 : decode cX12_isAt 11 = .ok (.iload_n 3, 1) := by decide +kernel
theorem dX12_isAt_12 : decode cX12_isAt 12 = .ok (.bipush (-6), 2) := by decide +kernel
theorem dX12_isAt_14 : decode cX12_isAt 14 = .ok (.iastore, 1) := by decide +kernel
theorem dX12_isAt_15 : decode cX12_isAt 15 = .ok (.iinc 3 1, 3) := by decide +kernel
theorem dX12_isAt_18 : decode cX12_isAt 18 = .ok (.goto (-16), 3) := by decide +kernel
theorem dX12_isAt_21 : decode cX12_isAt 21 = .ok (.iload_n 2, 1) := by decide +kernel
theorem dX12_isAt_22 : decode cX12_isAt 22 = .ok (.aload_n 0, 1) := by decide +kernel
theorem dX12_isAt_23 : decode cX12_isAt 23 = .ok (.getfield 92, 3) := by decide +kernel
theorem dX12_isAt_26 : decode cX12_isAt 26 = .ok (.iload_n 1, 1) := by decide +kernel
theorem dX12_isAt_27 : decode cX12_isAt 27 = .ok (.iaload, 1) := by decide +kernel
theorem dX12_isAt_28 : decode cX12_isAt 28 = .ok (.iadd, 1) := by decide +kernel
theorem dX12_isAt_29 : decode cX12_isAt 29 = .ok (.aload_n 0, 1) := by decide +kernel
theorem dX12_isAt_30 : decode cX12_isAt 30 = .ok (.getfield 181, 3) := by decide +kernel
theorem dX12_isAt_33 : decode cX12_isAt 33 = .ok (.if_icmp .gt 7, 3) := by decide +kernel
theorem dX12_isAt_36 : decode cX12_isAt 36 = .ok (.iconst 1, 1) := by decide +kernel
theorem dX12_isAt_37 : decode cX12_isAt 37 = .ok (.goto 4, 3) := by decide +kernel
theorem dX12_isAt_40 : decode cX12_isAt 40 = .ok (.iconst 0, 1) := by decide +kernel
theorem dX12_isAt_41 : decode cX12_isAt 41 = .ok (.istore_n 3, 1) := by decide +kernel
theorem dX12_isAt_42 : decode cX12_isAt 42 = .ok (.iconst 0, 1) := by decide +kernel
theorem dX12_isAt_43 : decode cX12_isAt 43 = .ok (.istore 4, 2) := by decide +kernel
theorem dX12_isAt_45 : decode cX12_isAt 45 = .ok (.iload 4, 2) := by decide +kernel
theorem dX12_isAt_47 : decode cX12_isAt 47 = .ok (.aload_n 0, 1) := by decide +kernel
theorem dX12_isAt_48 : decode cX12_isAt 48 = .ok (.getfield 92, 3) := by decide +kernel
theorem dX12_isAt_51 : decode cX12_isAt 51 = .ok (.iload_n 1, 1) := by decide +kernel
theorem dX12_isAt_52 : decode cX12_isAt 52 = .ok (.iaload, 1) := by decide +kernel
theorem dX12_isAt_53 : decode cX12_isAt 53 = .ok (.if_icmp .ge 131, 3) := by decide +kernel
theorem dX12_isAt_56 : decode cX12_isAt 56 = .ok (.iload_n 3, 1) := by decide +kernel
theorem dX12_isAt_57 : decode cX12_isAt 57 = .ok (.ifCond .eq 127, 3) := by decide +kernel
theorem dX12_isAt_60 : decode cX12_isAt 60 = .ok (.aload_n 0, 1) := by decide +kernel
theorem dX12_isAt_61 : decode cX12_isAt 61 = .ok (.getfield 89, 3) := by decide +kernel
theorem dX12_isAt_64 : decode cX12_isAt 64 = .ok (.iload_n 1, 1) := by decide +kernel
theorem dX12_isAt_65 : decode cX12_isAt 65 = .ok (.iconst 0, 1) := by decide +kernel
theorem dX12_isAt_66 : decode cX12_isAt 66 = .ok (.iload 4, 2) := by decide +kernel
theorem dX12_isAt_68 : decode cX12_isAt 68 = .ok (.iconst 1, 1) := by decide +kernel
theorem dX12_isAt_69 : decode cX12_isAt 69 = .ok (.invokestatic 351, 3) := by decide +kernel
theorem dX12_isAt_72 : decode cX12_isAt 72 = .ok (.iaload, 1) := by decide +kernel
theorem dX12_isAt_73 : decode cX12_isAt 73 = .ok (.aload_n 0, 1) := by decide +kernel
theorem dX12_isAt_74 : decode cX12_isAt 74 = .ok (.getfield 16, 3) := by decide +kernel
