theorem dX6_writeKnownOperand_51 : decode cX6_writeKnownOperand 51 = .ok (.ireturn, 1) := by decide +kernel
set_option maxRecDepth 20000 in
theorem ggX6_workOutDigits_X1_part : GoodIn wsX6_workOutDigits wsX1_part := goodIn_r _ [5, 6, 7, 27, 28] (by decide +kernel) (by decide +kernel)
set_option maxRecDepth 20000 in
theorem gX6_workOutDigits_X1_part : GoodIn wsX6_workOutDigits (wsV RX6 50 RX1 yX1_part wsX1_part) := goodIn_app (goodIn_of _ (by decide +kernel)) ggX6_workOutDigits_X1_part
set_option maxRecDepth 20000 in
theorem ggX6_workOutDigits_X11_isAct : GoodIn wsX6_workOutDigits wsX11_isAct := goodIn_r _ [10] (by decide +kernel) (by decide +kernel)
set_option maxRecDepth 20000 in
theorem gX6_workOutDigits_X11_isAct_n65 : GoodIn wsX6_workOutDigits (wsX11_isAct) := ggX6_workOutDigits_X11_isAct
set_option maxRecDepth 20000 in
theorem ggX6_workOutDigits_X11_isDigit : GoodIn wsX6_workOutDigits wsX11_isDigit := goodIn_r _ [12] (by decide +kernel) (by decide +kernel)
set_option maxRecDepth 20000 in
theorem gX6_workOutDigits_X11_isDigit_n68 : GoodIn wsX6_workOutDigits (wsX11_isDigit) := ggX6_workOutDigits_X11_isDigit
set_option maxRecDepth 20000 in
theorem ggX6_workOutDigits_X11_act : GoodIn wsX6_workOutDigits wsX11_act := goodIn_r _ [14, 15, 16, 17, 18] (by decide +kernel) (by decide +kernel)
set_option maxRecDepth 20000 in
theorem gX6_workOutDigits_X11_act_n71 : GoodIn wsX6_workOutDigits (wsX11_act) := ggX6_workOutDigits_X11_act
set_option maxRecDepth 20000 in
theorem ggX6_workOutDigits_X1_rewrite : GoodIn wsX6_workOutDigits wsX1_rewrite := goodIn_r _ [22, 23, 24, 25, 4, 26, 6, 7, 27, 28] (by decide +kernel) (by decide +kernel)
set_option maxRecDepth 20000 in
theorem gX6_workOutDigits_X1_rewrite : GoodIn wsX6_workOutDigits (wsV RX6 75 RX1 yX1_rewrite wsX1_rewrite) := goodIn_app (goodIn_of _ (by decide +kernel)) ggX6_workOutDigits_X1_rewrite
theorem dX6_workOutDigits_0 : decode cX6_workOutDigits 0 = .ok (.iconst 0, 1) := by decide +kernel
theorem dX6_workOutDigits_1 : decode cX6_workOutDigits 1 = .ok (.istore_n 2, 1) := by decide +kernel
theorem dX6_workOutDigits_2 : decode cX6_workOutDigits 2 = .ok (.iconst 0, 1) := by decide +kernel
theorem dX6_workOutDigits_3 : decode cX6_workOutDigits 3 = .ok (.istore_n 3, 1) := by decide +kernel
theorem dX6_workOutDigits_4 : decode cX6_workOutDigits 4 = .ok (.iload_n 3, 1) := by decide +kernel
theorem dX6_workOutDigits_5 : decode cX6_workOutDigits 5 = .ok (.aload_n 1, 1) := by decide +kernel
theorem dX6_workOutDigits_6 : decode cX6_workOutDigits 6 = .ok (.getfield 40, 3) := by decide +kernel
theorem dX6_workOutDigits_9 : decode cX6_workOutDigits 9 = .ok (.if_icmp .ge 87, 3) := by decide +kernel
theorem dX6_workOutDigits_12 : decode cX6_workOutDigits 12 = .ok (.aload_n 1, 1) := by decide +kernel
theorem dX6_workOutDigits_13 : decode cX6_workOutDigits 13 = .ok (.iload_n 3, 1) := by decide +kernel
theorem dX6_workOutDigits_14 : decode cX6_workOutDigits 14 = .ok (.iconst 1, 1) := by decide +kernel
theorem dX6_workOutDigits_15 : decode cX6_workOutDigits 15 = .ok (.invokevirtual 50, 3) := by decide +kernel
theorem dX6_workOutDigits_18 : decode cX6_workOutDigits 18 = .ok (.istore 4, 2) := by decide +kernel
theorem dX6_workOutDigits_20 : decode cX6_workOutDigits 20 = .ok (.aload_n 1, 1) := by decide +kernel
theorem dX6_workOutDigits_21 : decode cX6_workOutDigits 21 = .ok (.iload_n 3, 1) := by decide +kernel
theorem dX6_workOutDigits_22 : decode cX6_workOutDigits 22 = .ok (.iconst 2, 1) := by decide +kernel
theorem dX6_workOutDigits_23 : decode cX6_workOutDigits 23 = .ok (.invokevirtual 50, 3) := by decide +kernel
theorem dX6_workOutDigits_26 : decode cX6_workOutDigits 26 = .ok (.istore 5, 2) := by decide +kernel
theorem dX6_workOutDigits_28 : decode cX6_workOutDigits 28 = .ok (.aload_n 1, 1) := by decide +kernel
theorem dX6_workOutDigits_29 : decode cX6_workOutDigits 29 = .ok (.iload_n 3, 1) := by decide +kernel
theorem dX6_workOutDigits_30 : decode cX6_workOutDigits 30 = .ok (.iconst 3, 1) := by decide +kernel
theorem dX6_workOutDigits_31 : decode cX6_workOutDigits 31 = .ok (.invokevirtual 50, 3) := by decide +kernel
theorem dX6_workOutDigits_34 : decode cX6_workOutDigits 34 = .ok (.istore 6, 2) := by decide +kernel
theorem dX6_workOutDigits_36 : decode cX6_workOutDigits 36 = .ok (.iload 4, 2) := by decide +kernel
theorem dX6_workOutDigits_38 : decode cX6_workOutDigits 38 = .ok (.invokestatic 65, 3) := by decide +kernel
theorem dX6_workOutDigits_41 : decode cX6_workOutDigits 41 = .ok (.ifCond .eq 49, 3) := by decide +kernel
theorem dX6_workOutDigits_44 : decode cX6_workOutDigits 44 = .ok (.iload 5, 2) := by decide +kernel
theorem dX6_workOutDigits_46 : decode cX6_workOutDigits 46 = .ok (.invokestatic 68, 3) := by decide +kernel
theorem dX6_workOutDigits_49 : decode cX6_workOutDigits 49 = .ok (.ifCond .eq 41, 3) := by decide +kernel
theorem dX6_workOutDigits_52 : decode cX6_workOutDigits 52 = .ok (.iload 6, 2) := by decide +kernel
theorem dX6_workOutDigits_54 : decode cX6_workOutDigits 54 = .ok (.invokestatic 68, 3) := by decide +kernel
theorem dX6_workOutDigits_57 : decode cX6_workOutDigits 57 = .ok (.ifCond .eq 33, 3) := by decide +kernel
theorem dX6_workOutDigits_60 : decode cX6_workOutDigits 60 = .ok (.aload_n 1, 1) := by decide +kernel
theorem dX6_workOutDigits_61 : decode cX6_workOutDigits 61 = .ok (.iload_n 3, 1) := by decide +kernel
theorem dX6_workOutDigits_62 : decode cX6_workOutDigits 62 = .ok (.bipush (-6), 2) := by decide +kernel
theorem dX6_workOutDigits_64 : decode cX6_workOutDigits 64 = .ok (.iload 4, 2) := by decide +kernel
theorem dX6_workOutDigits_66 : decode cX6_workOutDigits 66 = .ok (.iload 5, 2) := by decide +kernel
theorem dX6_workOutDigits_68 : decode cX6_workOutDigits 68 = .ok (.bipush 10, 2) := by decide +kernel
theorem dX6_workOutDigits_70 : decode cX6_workOutDigits 70 = .ok (.isub, 1) := by decide +kernel
theorem dX6_workOutDigits_71 : decode cX6_workOutDigits 71 = .ok (.iload 6, 2) := by decide +kernel
theorem dX6_workOutDigits_73 : decode cX6_workOutDigits 73 = .ok (.bipush 10, 2) := by decide +kernel
theorem dX6_workOutDigits_75 : decode cX6_workOutDigits 75 = .ok (.isub, 1) := by decide +kernel
theorem dX6_workOutDigits_76 : decode cX6_workOutDigits 76 = .ok (.invokestatic 71, 3) := by decide +kernel
theorem dX6_workOutDigits_79 : decode cX6_workOutDigits 79 = .ok (.bipush 10, 2) := by decide +kernel
theorem dX6_workOutDigits_81 : decode cX6_workOutDigits 81 = .ok (.iadd, 1) := by decide +kernel
theorem dX6_workOutDigits_82 : decode cX6_workOutDigits 82 = .ok (.bipush (-6), 2) := by decide +kernel
theorem dX6_workOutDigits_84 : decode cX6_workOutDigits 84 = .ok (.invokevirtual 75, 3) := by decide +kernel
theorem dX6_workOutDigits_87 : decode cX6_workOutDigits 87 = .ok (.iinc 2 1, 3) := by decide +kernel
theorem dX6_workOutDigits_90 : decode cX6_workOutDigits 90 = .ok (.iinc 3 1, 3) := by decide +kernel
theorem dX6_workOutDigits_93 : decode cX6_workOutDigits 93 = .ok (.goto (-89), 3) := by decide +kernel
theorem dX6_workOutDigits_96 : decode cX6_workOutDigits 96 = .ok (.iload_n 2, 1) := by decide +kernel
theorem dX6_workOutDigits_97 : decode cX6_workOutDigits 97 = .ok (.ireturn, 1) := by decide +kernel
set_option maxRecDepth 20000 in
theorem ggX6_copyNeedless_X3_followSorts : GoodIn wsX6_copyNeedless wsX3_followSorts := goodIn_r _ [6, 7, 8, 9, 10, 11, 12, 13, 14, 15, 16, 17, 18, 19, 20, 21, 22, 5, 23, 24, 25, 26, 27, 28, 29, 30, 31, 32, 33, 34, 35, 36, 37, 38, 39, 40, 41, 42, 43, 44, 45, 46, 47, 48, 49, 50, 69, 70, 71, 72, 73, 74, 75, 76, 77, 67, 68] (by decide +kernel) (by decide +kernel)
set_option maxRecDepth 20000 in
theorem gX6_copyNeedless_X3_followSorts : GoodIn wsX6_copyNeedless (wsV RX6 79 RX3 yX3_followSorts wsX3_followSorts) := goodIn_app (goodIn_of _ (by decide +kernel)) ggX6_copyNeedless_X3_followSorts
set_option maxRecDepth 20000 in
theorem ggX6_copyNeedless_X3_holderOfMade : GoodIn wsX6_copyNeedless wsX3_holderOfMade := goodIn_r _ [54, 10, 11, 69, 70, 71, 72, 73, 74, 75, 76, 77] (by decide +kernel) (by decide +kernel)
set_option maxRecDepth 20000 in
theorem gX6_copyNeedless_X3_holderOfMade : GoodIn wsX6_copyNeedless (wsV RX6 82 RX3 yX3_holderOfMade wsX3_holderOfMade) := goodIn_app (goodIn_of _ (by decide +kernel)) ggX6_copyNeedless_X3_holderOfMade
set_option maxRecDepth 20000 in
theorem ggX6_copyNeedless_X1_part : GoodIn wsX6_copyNeedless wsX1_part := goodIn_r _ [28, 29, 30, 67, 68] (by decide +kernel) (by decide +kernel)
set_option maxRecDepth 20000 in
theorem gX6_copyNeedless_X1_part : GoodIn wsX6_copyNeedless (wsV RX6 50 RX1 yX1_part wsX1_part) := goodIn_app (goodIn_of _ (by decide +kernel)) ggX6_copyNeedless_X1_part
set_option maxRecDepth 20000 in
theorem ggX6_copyNeedless_X11_isAct : GoodIn wsX6_copyNeedless wsX11_isAct := goodIn_r _ [57] (by decide +kernel) (by decide +kernel)
set_option maxRecDepth 20000 in
theorem gX6_copyNeedless_X11_isAct_n65 : GoodIn wsX6_copyNeedless (wsX11_isAct) := ggX6_copyNeedless_X11_isAct
set_option maxRecDepth 20000 in
theorem ggX6_copyNeedless_X1_rewrite : GoodIn wsX6_copyNeedless wsX1_rewrite := goodIn_r _ [61, 62, 63, 64, 27, 65, 29, 30, 67, 68] (by decide +kernel) (by decide +kernel)
set_option maxRecDepth 20000 in
theorem gX6_copyNeedless_X1_rewrite : GoodIn wsX6_copyNeedless (wsV RX6 75 RX1 yX1_rewrite wsX1_rewrite) := goodIn_app (goodIn_of _ (by decide +kernel)) ggX6_copyNeedless_X1_rewrite
theorem dX6_copyNeedless_0 : decode cX6_copyNeedless 0 = .ok (.aload_n 0, 1) := by decide +kernel
theorem dX6_copyNeedless_1 : decode cX6_copyNeedless 1 = .ok (.getfield 12, 3) := by decide +kernel
theorem dX6_copyNeedless_4 : decode cX6_copyNeedless 4 = .ok (.aload_n 1, 1) := by decide +kernel
theorem dX6_copyNeedless_5 : decode cX6_copyNeedless 5 = .ok (.invokevirtual 79, 3) := by decide +kernel
theorem dX6_copyNeedless_8 : decode cX6_copyNeedless 8 = .ok (.iconst 0, 1) := by decide +kernel
theorem dX6_copyNeedless_9 : decode cX6_copyNeedless 9 = .ok (.istore_n 2, 1) := by decide +kernel
theorem dX6_copyNeedless_10 : decode cX6_copyNeedless 10 = .ok (.iconst 0, 1) := by decide +kernel
theorem dX6_copyNeedless_11 : decode cX6_copyNeedless 11 = .ok (.istore_n 3, 1) := by decide +kernel
theorem dX6_copyNeedless_12 : decode cX6_copyNeedless 12 = .ok (.iload_n 3, 1) := by decide +kernel
theorem dX6_copyNeedless_13 : decode cX6_copyNeedless 13 = .ok (.aload_n 1, 1) := by decide +kernel
theorem dX6_copyNeedless_14 : decode cX6_copyNeedless 14 = .ok (.getfield 40, 3) := by decide +kernel
theorem dX6_copyNeedless_17 : decode cX6_copyNeedless 17 = .ok (.if_icmp .ge 52, 3) := by decide +kernel
theorem dX6_copyNeedless_20 : decode cX6_copyNeedless 20 = .ok (.aload_n 0, 1) := by decide +kernel
theorem dX6_copyNeedless_21 : decode cX6_copyNeedless 21 = .ok (.getfield 12, 3) := by decide +kernel
theorem dX6_copyNeedless_24 : decode cX6_copyNeedless 24 = .ok (.iload_n 3, 1) := by decide +kernel
theorem dX6_copyNeedless_25 : decode cX6_copyNeedless 25 = .ok (.invokevirtual 82, 3) := by decide +kernel
theorem dX6_copyNeedless_28 : decode cX6_copyNeedless 28 = .ok (.istore 4, 2) := by decide +kernel
theorem dX6_copyNeedless_30 : decode cX6_copyNeedless 30 = .ok (.iload 4, 2) := by decide +kernel
theorem dX6_copyNeedless_32 : decode cX6_copyNeedless 32 = .ok (.bipush (-6), 2) := by decide +kernel
theorem dX6_copyNeedless_34 : decode cX6_copyNeedless 34 = .ok (.if_icmp .eq 29, 3) := by decide +kernel
theorem dX6_copyNeedless_37 : decode cX6_copyNeedless 37 = .ok (.aload_n 1, 1) := by decide +kernel
theorem dX6_copyNeedless_38 : decode cX6_copyNeedless 38 = .ok (.iload_n 3, 1) := by decide +kernel
theorem dX6_copyNeedless_39 : decode cX6_copyNeedless 39 = .ok (.iconst 1, 1) := by decide +kernel
theorem dX6_copyNeedless_40 : decode cX6_copyNeedless 40 = .ok (.invokevirtual 50, 3) := by decide +kernel
theorem dX6_copyNeedless_43 : decode cX6_copyNeedless 43 = .ok (.invokestatic 65, 3) := by decide +kernel
theorem dX6_copyNeedless_46 : decode cX6_copyNeedless 46 = .ok (.ifCond .eq 17, 3) := by decide +kernel
theorem dX6_copyNeedless_49 : decode cX6_copyNeedless 49 = .ok (.aload_n 1, 1) := by decide +kernel
theorem dX6_copyNeedless_50 : decode cX6_copyNeedless 50 = .ok (.iload_n 3, 1) := by decide +kernel
theorem dX6_copyNeedless_51 : decode cX6_copyNeedless 51 = .ok (.bipush (-6), 2) := by decide +kernel
theorem dX6_copyNeedless_53 : decode cX6_copyNeedless 53 = .ok (.iload 4, 2) := by decide +kernel
theorem dX6_copyNeedless_55 : decode cX6_copyNeedless 55 = .ok (.bipush (-6), 2) := by decide +kernel
theorem dX6_copyNeedless_57 : decode cX6_copyNeedless 57 = .ok (.invokevirtual 75, 3) := by decide +kernel
theorem dX6_copyNeedless_60 : decode cX6_copyNeedless 60 = .ok (.iinc 2 1, 3) := by decide +kernel
theorem dX6_copyNeedless_63 : decode cX6_copyNeedless 63 = .ok (.iinc 3 1, 3) := by decide +kernel
theorem dX6_copyNeedless_66 : decode cX6_copyNeedless 66 = .ok (.goto (-54), 3) := by decide +kernel
theorem dX6_copyNeedless_69 : decode cX6_copyNeedless 69 = .ok (.iload_n 2, 1) := by decide +kernel
theorem dX6_copyNeedless_70 : decode cX6_copyNeedless 70 = .ok (.ireturn, 1) := by decide +kernel
set_option maxRecDepth 20000 in
theorem ggX6_dropUseless_X3_followLive : GoodIn wsX6_dropUseless wsX3_followLive := goodIn_r _ [6, 7, 8, 9, 10, 11, 12, 13, 14, 15, 16, 17, 18, 19, 20, 21, 22, 23, 24, 25, 26, 27, 28, 47, 48, 49, 50, 51, 52, 53, 54, 55, 45, 46] (by decide +kernel) (by decide +kernel)
set_option maxRecDepth 20000 in
theorem gX6_dropUseless_X3_followLive : GoodIn wsX6_dropUseless (wsV RX6 86 RX3 yX3_followLive wsX3_followLive) := goodIn_app (goodIn_of _ (by decide +kernel)) ggX6_dropUseless_X3_followLive
set_option maxRecDepth 20000 in
theorem ggX6_dropUseless_X1_part : GoodIn wsX6_dropUseless wsX1_part := goodIn_r _ [16, 17, 18, 45, 46] (by decide +kernel) (by decide +kernel)
set_option maxRecDepth 20000 in
theorem gX6_dropUseless_X1_part : GoodIn wsX6_dropUseless (wsV RX6 50 RX1 yX1_part wsX1_part) := goodIn_app (goodIn_of _ (by decide +kernel)) ggX6_dropUseless_X1_part
set_option maxRecDepth 20000 in
theorem ggX6_dropUseless_X1_target : GoodIn wsX6_dropUseless wsX1_target := goodIn_r _ [12, 13, 14, 15, 11, 16, 17, 18, 19, 20, 21, 45, 46] (by decide +kernel) (by decide +kernel)
set_option maxRecDepth 20000 in
theorem gX6_dropUseless_X1_target : GoodIn wsX6_dropUseless (wsV RX6 90 RX1 yX1_target wsX1_target) := goodIn_app (goodIn_of _ (by decide +kernel)) ggX6_dropUseless_X1_target
set_option maxRecDepth 20000 in
theorem ggX6_dropUseless_X3_isDead : GoodIn wsX6_dropUseless wsX3_isDead := goodIn_r _ [34, 7, 8, 9, 10, 11, 12, 13, 14, 15, 16, 17, 18, 19, 20, 21, 47, 48, 49, 50, 51, 52, 53, 54, 55, 45, 46] (by decide +kernel) (by decide +kernel)
set_option maxRecDepth 20000 in
theorem gX6_dropUseless_X3_isDead : GoodIn wsX6_dropUseless (wsV RX6 93 RX3 yX3_isDead wsX3_isDead) := goodIn_app (goodIn_of _ (by decide +kernel)) ggX6_dropUseless_X3_isDead
set_option maxRecDepth 20000 in
theorem ggX6_dropUseless_X1_change : GoodIn wsX6_dropUseless wsX1_change := goodIn_r _ [38, 17, 18, 45, 46] (by decide +kernel) (by decide +kernel)
set_option maxRecDepth 20000 in
theorem gX6_dropUseless_X1_change : GoodIn wsX6_dropUseless (wsV RX6 61 RX1 yX1_change wsX1_change) := goodIn_app (goodIn_of _ (by decide +kernel)) ggX6_dropUseless_X1_change
set_option maxRecDepth 20000 in
theorem ggX6_dropUseless_X1_rewrite : GoodIn wsX6_dropUseless wsX1_rewrite := goodIn_r _ [42, 43, 36, 37, 11, 38, 17, 18, 45, 46] (by decide +kernel) (by decide +kernel)
set_option maxRecDepth 20000 in
theorem gX6_dropUseless_X1_rewrite : GoodIn wsX6_dropUseless (wsV RX6 75 RX1 yX1_rewrite wsX1_rewrite) := goodIn_app (goodIn_of _ (by decide +kernel)) ggX6_dropUseless_X1_rewrite
theorem dX6_dropUseless_0 : decode cX6_dropUseless 0 = .ok (.aload_n 0, 1) := by decide +kernel
theorem dX6_dropUseless_1 : decode cX6_dropUseless 1 = .ok (.getfield 12, 3) := by decide +kernel
theorem dX6_dropUseless_4 : decode cX6_dropUseless 4 = .ok (.aload_n 1, 1) := by decide +kernel
theorem dX6_dropUseless_5 : decode cX6_dropUseless 5 = .ok (.iload_n 2, 1) := by decide +kernel
theorem dX6_dropUseless_6 : decode cX6_dropUseless 6 = .ok (.invokevirtual 86, 3) := by decide +kernel
theorem dX6_dropUseless_9 : decode cX6_dropUseless 9 = .ok (.aload_n 1, 1) := by decide +kernel
theorem dX6_dropUseless_10 : decode cX6_dropUseless 10 = .ok (.getfield 40, 3) := by decide +kernel
theorem dX6_dropUseless_13 : decode cX6_dropUseless 13 = .ok (.istore_n 3, 1) := by decide +kernel
theorem dX6_dropUseless_14 : decode cX6_dropUseless 14 = .ok (.iconst 0, 1) := by decide +kernel
theorem dX6_dropUseless_15 : decode cX6_dropUseless 15 = .ok (.istore 4, 2) := by decide +kernel
theorem dX6_dropUseless_17 : decode cX6_dropUseless 17 = .ok (.iconst 0, 1) := by decide +kernel
theorem dX6_dropUseless_18 : decode cX6_dropUseless 18 = .ok (.istore 5, 2) := by decide +kernel
theorem dX6_dropUseless_20 : decode cX6_dropUseless 20 = .ok (.iload 5, 2) := by decide +kernel
theorem dX6_dropUseless_22 : decode cX6_dropUseless 22 = .ok (.iload_n 3, 1) := by decide +kernel
theorem dX6_dropUseless_23 : decode cX6_dropUseless 23 = .ok (.if_icmp .ge 71, 3) := by decide +kernel
theorem dX6_dropUseless_26 : decode cX6_dropUseless 26 = .ok (.aload_n 1, 1) := by decide +kernel
theorem dX6_dropUseless_27 : decode cX6_dropUseless 27 = .ok (.iload 5, 2) := by decide +kernel
theorem dX6_dropUseless_29 : decode cX6_dropUseless 29 = .ok (.iconst 1, 1) := by decide +kernel
theorem dX6_dropUseless_30 : decode cX6_dropUseless 30 = .ok (.invokevirtual 50, 3) := by decide +kernel
theorem dX6_dropUseless_33 : decode cX6_dropUseless 33 = .ok (.bipush (-6), 2) := by decide +kernel
theorem dX6_dropUseless_35 : decode cX6_dropUseless 35 = .ok (.if_icmp .ne 23, 3) := by decide +kernel
theorem dX6_dropUseless_38 : decode cX6_dropUseless 38 = .ok (.aload_n 1, 1) := by decide +kernel
theorem dX6_dropUseless_39 : decode cX6_dropUseless 39 = .ok (.iload 5, 2) := by decide +kernel
theorem dX6_dropUseless_41 : decode cX6_dropUseless 41 = .ok (.iconst 2, 1) := by decide +kernel
theorem dX6_dropUseless_42 : decode cX6_dropUseless 42 = .ok (.invokevirtual 50, 3) := by decide +kernel
theorem dX6_dropUseless_45 : decode cX6_dropUseless 45 = .ok (.aload_n 1, 1) := by decide +kernel
theorem dX6_dropUseless_46 : decode cX6_dropUseless 46 = .ok (.iload 5, 2) := by decide +kernel
theorem dX6_dropUseless_48 : decode cX6_dropUseless 48 = .ok (.invokevirtual 90, 3) := by decide +kernel
theorem dX6_dropUseless_51 : decode cX6_dropUseless 51 = .ok (.if_icmp .ne 7, 3) := by decide +kernel
theorem dX6_dropUseless_54 : decode cX6_dropUseless 54 = .ok (.iconst 1, 1) := by decide +kernel
theorem dX6_dropUseless_55 : decode cX6_dropUseless 55 = .ok (.goto 4, 3) := by decide +kernel
theorem dX6_dropUseless_58 : decode cX6_dropUseless 58 = .ok (.iconst 0, 1) := by decide +kernel
theorem dX6_dropUseless_59 : decode cX6_dropUseless 59 = .ok (.istore 6, 2) := by decide +kernel
theorem dX6_dropUseless_61 : decode cX6_dropUseless 61 = .ok (.iload 6, 2) := by decide +kernel
theorem dX6_dropUseless_63 : decode cX6_dropUseless 63 = .ok (.ifCond .ne 16, 3) := by decide +kernel
theorem dX6_dropUseless_66 : decode cX6_dropUseless 66 = .ok (.aload_n 0, 1) := by decide +kernel
theorem dX6_dropUseless_67 : decode cX6_dropUseless 67 = .ok (.getfield 12, 3) := by decide +kernel
theorem dX6_dropUseless_70 : decode cX6_dropUseless 70 = .ok (.aload_n 1, 1) := by decide +kernel
theorem dX6_dropUseless_71 : decode cX6_dropUseless 71 = .ok (.iload 5, 2) := by decide +kernel
theorem dX6_dropUseless_73 : decode cX6_dropUseless 73 = .ok (.invokevirtual 93, 3) := by decide +kernel
theorem dX6_dropUseless_76 : decode cX6_dropUseless 76 = .ok (.ifCond .eq 12, 3) := by decide +kernel
theorem dX6_dropUseless_79 : decode cX6_dropUseless 79 = .ok (.iload 4, 2) := by decide +kernel
theorem dX6_dropUseless_81 : decode cX6_dropUseless 81 = .ok (.iconst 1, 1) := by decide +kernel
theorem dX6_dropUseless_82 : decode cX6_dropUseless 82 = .ok (.iload 5, 2) := by decide +kernel
theorem dX6_dropUseless_84 : decode cX6_dropUseless 84 = .ok (.ishl, 1) := by decide +kernel
theorem dX6_dropUseless_85 : decode cX6_dropUseless 85 = .ok (.ior, 1) := by decide +kernel
theorem dX6_dropUseless_86 : decode cX6_dropUseless 86 = .ok (.istore 4, 2) := by decide +kernel
theorem dX6_dropUseless_88 : decode cX6_dropUseless 88 = .ok (.iinc 5 1, 3) := by decide +kernel
theorem dX6_dropUseless_91 : decode cX6_dropUseless 91 = .ok (.goto (-71), 3) := by decide +kernel
theorem dX6_dropUseless_94 : decode cX6_dropUseless 94 = .ok (.iconst 0, 1) := by decide +kernel
theorem dX6_dropUseless_95 : decode cX6_dropUseless 95 = .ok (.istore 5, 2) := by decide +kernel
theorem dX6_dropUseless_97 : decode cX6_dropUseless 97 = .ok (.iconst 0, 1) := by decide +kernel
theorem dX6_dropUseless_98 : decode cX6_dropUseless 98 = .ok (.istore 6, 2) := by decide +kernel
theorem dX6_dropUseless_100 : decode cX6_dropUseless 100 = .ok (.iload 6, 2) := by decide +kernel
theorem dX6_dropUseless_102 : decode cX6_dropUseless 102 = .ok (.iload_n 3, 1) := by decide +kernel
theorem dX6_dropUseless_103 : decode cX6_dropUseless 103 = .ok (.if_icmp .ge 62, 3) := by decide +kernel
theorem dX6_dropUseless_106 : decode cX6_dropUseless 106 = .ok (.iload 4, 2) := by decide +kernel
theorem dX6_dropUseless_108 : decode cX6_dropUseless 108 = .ok (.iload 6, 2) := by decide +kernel
theorem dX6_dropUseless_110 : decode cX6_dropUseless 110 = .ok (.ishr, 1) := by decide +kernel
theorem dX6_dropUseless_111 : decode cX6_dropUseless 111 = .ok (.iconst 1, 1) := by decide +kernel
theorem dX6_dropUseless_112 : decode cX6_dropUseless 112 = .ok (.iand, 1) := by decide +kernel
theorem dX6_dropUseless_113 : decode cX6_dropUseless 113 = .ok (.ifCond .ne 46, 3) := by decide +kernel
theorem dX6_dropUseless_116 : decode cX6_dropUseless 116 = .ok (.aload_n 1, 1) := by decide +kernel
theorem dX6_dropUseless_117 : decode cX6_dropUseless 117 = .ok (.iload 5, 2) := by decide +kernel
theorem dX6_dropUseless_119 : decode cX6_dropUseless 119 = .ok (.aload_n 1, 1) := by decide +kernel
theorem dX6_dropUseless_120 : decode cX6_dropUseless 120 = .ok (.iload 6, 2) := by decide +kernel
theorem dX6_dropUseless_122 : decode cX6_dropUseless 122 = .ok (.invokevirtual 90, 3) := by decide +kernel
theorem dX6_dropUseless_125 : decode cX6_dropUseless 125 = .ok (.iconst 0, 1) := by decide +kernel
theorem dX6_dropUseless_126 : decode cX6_dropUseless 126 = .ok (.invokevirtual 61, 3) := by decide +kernel
theorem dX6_dropUseless_129 : decode cX6_dropUseless 129 = .ok (.aload_n 1, 1) := by decide +kernel
theorem dX6_dropUseless_130 : decode cX6_dropUseless 130 = .ok (.iload 5, 2) := by decide +kernel
theorem dX6_dropUseless_132 : decode cX6_dropUseless 132 = .ok (.aload_n 1, 1) := by decide +kernel
theorem dX6_dropUseless_133 : decode cX6_dropUseless 133 = .ok (.iload 6, 2) := by decide +kernel
theorem dX6_dropUseless_135 : decode cX6_dropUseless 135 = .ok (.iconst 1, 1) := by decide +kernel
theorem dX6_dropUseless_136 : decode cX6_dropUseless 136 = .ok (.invokevirtual 50, 3) := by decide +kernel
theorem dX6_dropUseless_139 : decode cX6_dropUseless 139 = .ok (.aload_n 1, 1) := by decide +kernel
theorem dX6_dropUseless_140 : decode cX6_dropUseless 140 = .ok (.iload 6, 2) := by decide +kernel
theorem dX6_dropUseless_142 : decode cX6_dropUseless 142 = .ok (.iconst 2, 1) := by decide +kernel
theorem dX6_dropUseless_143 : decode cX6_dropUseless 143 = .ok (.invokevirtual 50, 3) := by decide +kernel
theorem dX6_dropUseless_146 : decode cX6_dropUseless 146 = .ok (.aload_n 1, 1) := by decide +kernel
theorem dX6_dropUseless_147 : decode cX6_dropUseless 147 = .ok (.iload 6, 2) := by decide +kernel
theorem dX6_dropUseless_149 : decode cX6_dropUseless 149 = .ok (.iconst 3, 1) := by decide +kernel
theorem dX6_dropUseless_150 : decode cX6_dropUseless 150 = .ok (.invokevirtual 50, 3) := by decide +kernel
theorem dX6_dropUseless_153 : decode cX6_dropUseless 153 = .ok (.invokevirtual 75, 3) := by decide +kernel
theorem dX6_dropUseless_156 : decode cX6_dropUseless 156 = .ok (.iinc 5 1, 3) := by decide +kernel
theorem dX6_dropUseless_159 : decode cX6_dropUseless 159 = .ok (.iinc 6 1, 3) := by decide +kernel
theorem dX6_dropUseless_162 : decode cX6_dropUseless 162 = .ok (.goto (-62), 3) := by decide +kernel
theorem dX6_dropUseless_165 : decode cX6_dropUseless 165 = .ok (.aload_n 1, 1) := by decide +kernel
theorem dX6_dropUseless_166 : decode cX6_dropUseless 166 = .ok (.iload 5, 2) := by decide +kernel
theorem dX6_dropUseless_168 : decode cX6_dropUseless 168 = .ok (.putfield 40, 3) := by decide +kernel
theorem dX6_dropUseless_171 : decode cX6_dropUseless 171 = .ok (.iload_n 3, 1) := by decide +kernel
theorem dX6_dropUseless_172 : decode cX6_dropUseless 172 = .ok (.iload 5, 2) := by decide +kernel
theorem dX6_dropUseless_174 : decode cX6_dropUseless 174 = .ok (.isub, 1) := by decide +kernel
theorem dX6_dropUseless_175 : decode cX6_dropUseless 175 = .ok (.ireturn, 1) := by decide +kernel
set_option maxRecDepth 20000 in
theorem ggX7_init_X1_init : GoodIn wsX7_init wsX1_init := goodIn_r _ [12, 13, 2, 3, 4, 14, 25, 26] (by decide +kernel) (by decide +kernel)
set_option maxRecDepth 20000 in
theorem gX7_init_X1_init_n17 : GoodIn wsX7_init (wsX1_init) := ggX7_init_X1_init
theorem dX7_init_0 : decode cX7_init 0 = .ok (.aload_n 0, 1) := by decide +kernel
theorem dX7_init_1 : decode cX7_init 1 = .ok (.invokespecial 3, 3) := by decide +kernel
theorem dX7_init_4 : decode cX7_init 4 = .ok (.aload_n 0, 1) := by decide +kernel
theorem dX7_init_5 : decode cX7_init 5 = .ok (.bipush 80, 2) := by decide +kernel
theorem dX7_init_7 : decode cX7_init 7 = .ok (.newarray .int, 2) := by decide +kernel
theorem dX7_init_9 : decode cX7_init 9 = .ok (.putfield 9, 3) := by decide +kernel
theorem dX7_init_12 : decode cX7_init 12 = .ok (.aload_n 0, 1) := by decide +kernel
theorem dX7_init_13 : decode cX7_init 13 = .ok (.new 15, 3) := by decide +kernel
theorem dX7_init_16 : decode cX7_init 16 = .ok (.dup, 1) := by decide +kernel
theorem dX7_init_17 : decode cX7_init 17 = .ok (.invokespecial 17, 3) := by decide +kernel
theorem dX7_init_20 : decode cX7_init 20 = .ok (.putfield 18, 3) := by decide +kernel
theorem dX7_init_23 : decode cX7_init 23 = .ok (.aload_n 0, 1) := by decide +kernel
theorem dX7_init_24 : decode cX7_init 24 = .ok (.new 15, 3) := by decide +kernel
theorem dX7_init_27 : decode cX7_init 27 = .ok (.dup, 1) := by decide +kernel
theorem dX7_init_28 : decode cX7_init 28 = .ok (.invokespecial 17, 3) := by decide +kernel
theorem dX7_init_31 : decode cX7_init 31 = .ok (.putfield 22, 3) := by decide +kernel
theorem dX7_init_34 : decode cX7_init 34 = .ok (.return_, 1) := by decide +kernel
theorem dX7_write_0 : decode cX7_write 0 = .ok (.aload_n 0, 1) := by decide +kernel
theorem dX7_write_1 : decode cX7_write 1 = .ok (.getfield 25, 3) := by decide +kernel
theorem dX7_write_4 : decode cX7_write 4 = .ok (.bipush 80, 2) := by decide +kernel
theorem dX7_write_6 : decode cX7_write 6 = .ok (.if_icmp .lt 6, 3) := by decide +kernel
theorem dX7_write_9 : decode cX7_write 9 = .ok (.bipush (-4), 2) := by decide +kernel
theorem dX7_write_11 : decode cX7_write 11 = .ok (.ireturn, 1) := by decide +kernel
theorem dX7_write_12 : decode cX7_write 12 = .ok (.aload_n 0, 1) := by decide +kernel
theorem dX7_write_13 : decode cX7_write 13 = .ok (.getfield 9, 3) := by decide +kernel
theorem dX7_write_16 : decode cX7_write 16 = .ok (.aload_n 0, 1) := by decide +kernel
theorem dX7_write_17 : decode cX7_write 17 = .ok (.getfield 25, 3) := by decide +kernel
theorem dX7_write_20 : decode cX7_write 20 = .ok (.iload_n 1, 1) := by decide +kernel
theorem dX7_write_21 : decode cX7_write 21 = .ok (.iastore, 1) := by decide +kernel
theorem dX7_write_22 : decode cX7_write 22 = .ok (.aload_n 0, 1) := by decide +kernel
theorem dX7_write_23 : decode cX7_write 23 = .ok (.dup, 1) := by decide +kernel
theorem dX7_write_24 : decode cX7_write 24 = .ok (.getfield 25, 3) := by decide +kernel
theorem dX7_write_27 : decode cX7_write 27 = .ok (.iconst 1, 1) := by decide +kernel
theorem dX7_write_28 : decode cX7_write 28 = .ok (.iadd, 1) := by decide +kernel
theorem dX7_write_29 : decode cX7_write 29 = .ok (.putfield 25, 3) := by decide +kernel
theorem dX7_write_32 : decode cX7_write 32 = .ok (.aload_n 0, 1) := by decide +kernel
theorem dX7_write_33 : decode cX7_write 33 = .ok (.getfield 25, 3) := by decide +kernel
theorem dX7_write_36 : decode cX7_write 36 = .ok (.ireturn, 1) := by decide +kernel
theorem dX7_empty_0 : decode cX7_empty 0 = .ok (.aload_n 0, 1) := by decide +kernel
theorem dX7_empty_1 : decode cX7_empty 1 = .ok (.getfield 25, 3) := by decide +kernel
theorem dX7_empty_4 : decode cX7_empty 4 = .ok (.istore_n 1, 1) := by decide +kernel
theorem dX7_empty_5 : decode cX7_empty 5 = .ok (.aload_n 0, 1) := by decide +kernel
theorem dX7_empty_6 : decode cX7_empty 6 = .ok (.iconst 0, 1) := by decide +kernel
theorem dX7_empty_7 : decode cX7_empty 7 = .ok (.putfield 25, 3) := by decide +kernel
theorem dX7_empty_10 : decode cX7_empty 10 = .ok (.iload_n 1, 1) := by decide +kernel
theorem dX7_empty_11 : decode cX7_empty 11 = .ok (.ireturn, 1) := by decide +kernel
set_option maxRecDepth 20000 in
theorem ggX7_parse_X7_takes : GoodIn wsX7_parse wsX7_takes := goodIn_r _ [12, 5, 13, 14, 15, 16, 17, 11, 18, 19, 20, 21, 22, 23, 24, 25, 26, 27, 28, 29, 30, 31, 4, 2, 1, 32, 33, 34, 35, 36, 37, 38, 39, 40, 41, 42, 43, 44, 45, 46, 47, 48, 49, 50, 3, 51, 52, 53, 54, 55, 56, 57, 58, 59, 60, 61, 62] (by decide +kernel) (by decide +kernel)
set_option maxRecDepth 20000 in
theorem gX7_parse_X7_takes : GoodIn wsX7_parse (wsV RX7 40 RX7 yX7_takes wsX7_takes) := goodIn_app (goodIn_of _ (by decide +kernel)) ggX7_parse_X7_takes
theorem dX7_parse_0 : decode cX7_parse 0 = .ok (.aload_n 0, 1) := by decide +kernel
theorem dX7_parse_1 : decode cX7_parse 1 = .ok (.getfield 18, 3) := by decide +kernel
theorem dX7_parse_4 : decode cX7_parse 4 = .ok (.iconst 0, 1) := by decide +kernel
theorem dX7_parse_5 : decode cX7_parse 5 = .ok (.putfield 29, 3) := by decide +kernel
theorem dX7_parse_8 : decode cX7_parse 8 = .ok (.aload_n 0, 1) := by decide +kernel
theorem dX7_parse_9 : decode cX7_parse 9 = .ok (.getfield 22, 3) := by decide +kernel
theorem dX7_parse_12 : decode cX7_parse 12 = .ok (.iconst 0, 1) := by decide +kernel
theorem dX7_parse_13 : decode cX7_parse 13 = .ok (.putfield 29, 3) := by decide +kernel
theorem dX7_parse_16 : decode cX7_parse 16 = .ok (.aload_n 0, 1) := by decide +kernel
theorem dX7_parse_17 : decode cX7_parse 17 = .ok (.iload_n 1, 1) := by decide +kernel
theorem dX7_parse_18 : decode cX7_parse 18 = .ok (.putfield 30, 3) := by decide +kernel
theorem dX7_parse_21 : decode cX7_parse 21 = .ok (.aload_n 0, 1) := by decide +kernel
theorem dX7_parse_22 : decode cX7_parse 22 = .ok (.iconst 0, 1) := by decide +kernel
theorem dX7_parse_23 : decode cX7_parse 23 = .ok (.putfield 34, 3) := by decide +kernel
theorem dX7_parse_26 : decode cX7_parse 26 = .ok (.aload_n 0, 1) := by decide +kernel
theorem dX7_parse_27 : decode cX7_parse 27 = .ok (.iconst 0, 1) := by decide +kernel
theorem dX7_parse_28 : decode cX7_parse 28 = .ok (.putfield 37, 3) := by decide +kernel
theorem dX7_parse_31 : decode cX7_parse 31 = .ok (.iconst 0, 1) := by decide +kernel
theorem dX7_parse_32 : decode cX7_parse 32 = .ok (.istore_n 2, 1) := by decide +kernel
theorem dX7_parse_33 : decode cX7_parse 33 = .ok (.iload_n 2, 1) := by decide +kernel
theorem dX7_parse_34 : decode cX7_parse 34 = .ok (.aload_n 0, 1) := by decide +kernel
theorem dX7_parse_35 : decode cX7_parse 35 = .ok (.getfield 25, 3) := by decide +kernel
theorem dX7_parse_38 : decode cX7_parse 38 = .ok (.if_icmp .ge 24, 3) := by decide +kernel
theorem dX7_parse_41 : decode cX7_parse 41 = .ok (.aload_n 0, 1) := by decide +kernel
theorem dX7_parse_42 : decode cX7_parse 42 = .ok (.aload_n 0, 1) := by decide +kernel
theorem dX7_parse_43 : decode cX7_parse 43 = .ok (.getfield 9, 3) := by decide +kernel
theorem dX7_parse_46 : decode cX7_parse 46 = .ok (.iload_n 2, 1) := by decide +kernel
theorem dX7_parse_47 : decode cX7_parse 47 = .ok (.iaload, 1) := by decide +kernel
theorem dX7_parse_48 : decode cX7_parse 48 = .ok (.invokevirtual 40, 3) := by decide +kernel
theorem dX7_parse_51 : decode cX7_parse 51 = .ok (.ifCond .ne 5, 3) := by decide +kernel
theorem dX7_parse_54 : decode cX7_parse 54 = .ok (.iload_n 2, 1) := by decide +kernel
theorem dX7_parse_55 : decode cX7_parse 55 = .ok (.ireturn, 1) := by decide +kernel
theorem dX7_parse_56 : decode cX7_parse 56 = .ok (.iinc 2 1, 3) := by decide +kernel
theorem dX7_parse_59 : decode cX7_parse 59 = .ok (.goto (-26), 3) := by decide +kernel
theorem dX7_parse_62 : decode cX7_parse 62 = .ok (.aload_n 0, 1) := by decide +kernel
theorem dX7_parse_63 : decode cX7_parse 63 = .ok (.getfield 37, 3) := by decide +kernel
theorem dX7_parse_66 : decode cX7_parse 66 = .ok (.iconst 1, 1) := by decide +kernel
theorem dX7_parse_67 : decode cX7_parse 67 = .ok (.if_icmp .eq 23, 3) := by decide +kernel
theorem dX7_parse_70 : decode cX7_parse 70 = .ok (.aload_n 0, 1) := by decide +kernel
theorem dX7_parse_71 : decode cX7_parse 71 = .ok (.getfield 37, 3) := by decide +kernel
theorem dX7_parse_74 : decode cX7_parse 74 = .ok (.bipush 6, 2) := by decide +kernel
theorem dX7_parse_76 : decode cX7_parse 76 = .ok (.if_icmp .ne 18, 3) := by decide +kernel
theorem dX7_parse_79 : decode cX7_parse 79 = .ok (.aload_n 0, 1) := by decide +kernel
theorem dX7_parse_80 : decode cX7_parse 80 = .ok (.getfield 34, 3) := by decide +kernel
theorem dX7_parse_83 : decode cX7_parse 83 = .ok (.aload_n 0, 1) := by decide +kernel
theorem dX7_parse_84 : decode cX7_parse 84 = .ok (.getfield 30, 3) := by decide +kernel
theorem dX7_parse_87 : decode cX7_parse 87 = .ok (.if_icmp .ne 7, 3) := by decide +kernel
theorem dX7_parse_90 : decode cX7_parse 90 = .ok (.iconst 1, 1) := by decide +kernel
theorem dX7_parse_91 : decode cX7_parse 91 = .ok (.goto 4, 3) := by decide +kernel
theorem dX7_parse_94 : decode cX7_parse 94 = .ok (.iconst 0, 1) := by decide +kernel
theorem dX7_parse_95 : decode cX7_parse 95 = .ok (.istore_n 2, 1) := by decide +kernel
theorem dX7_parse_96 : decode cX7_parse 96 = .ok (.iload_n 2, 1) := by decide +kernel
theorem dX7_parse_97 : decode cX7_parse 97 = .ok (.ifCond .eq 8, 3) := by decide +kernel
theorem dX7_parse_100 : decode cX7_parse 100 = .ok (.bipush (-6), 2) := by decide +kernel
theorem dX7_parse_102 : decode cX7_parse 102 = .ok (.goto 7, 3) := by decide +kernel
theorem dX7_parse_105 : decode cX7_parse 105 = .ok (.aload_n 0, 1) := by decide +kernel
theorem dX7_parse_106 : decode cX7_parse 106 = .ok (.getfield 25, 3) := by decide +kernel
theorem dX7_parse_109 : decode cX7_parse 109 = .ok (.ireturn, 1) := by decide +kernel
set_option maxRecDepth 20000 in
theorem ggX7_takes_X7_operandOf : GoodIn wsX7_takes wsX7_operandOf := goodIn_r _ [8] (by decide +kernel) (by decide +kernel)
set_option maxRecDepth 20000 in
theorem gX7_takes_X7_operandOf : GoodIn wsX7_takes (va_wsS RX7 44 yX7_operandOf wsX7_operandOf) := goodIn_app (goodIn_of _ (by decide +kernel)) ggX7_takes_X7_operandOf
set_option maxRecDepth 20000 in
theorem ggX7_takes_X11_isNoRegister : GoodIn wsX7_takes wsX11_isNoRegister := goodIn_r _ [11] (by decide +kernel) (by decide +kernel)
set_option maxRecDepth 20000 in
theorem gX7_takes_X11_isNoRegister_n51 : GoodIn wsX7_takes (wsX11_isNoRegister) := ggX7_takes_X11_isNoRegister
set_option maxRecDepth 20000 in
theorem ggX7_takes_X7_takesMaking : GoodIn wsX7_takes wsX7_takesMaking := goodIn_r _ [15, 4, 1, 16, 10, 17, 5, 6, 7, 8, 18, 19, 20, 21, 22, 23, 24, 2, 25, 26, 27, 28, 29, 30, 31, 32, 33, 34, 35, 36, 37, 38, 39, 45, 46, 47, 48, 49, 50, 51, 52, 53, 54, 55, 56] (by decide +kernel) (by decide +kernel)
set_option maxRecDepth 20000 in
theorem gX7_takes_X7_takesMaking : GoodIn wsX7_takes (wsV RX7 54 RX7 yX7_takesMaking wsX7_takesMaking) := goodIn_app (goodIn_of _ (by decide +kernel)) ggX7_takes_X7_takesMaking
set_option maxRecDepth 20000 in
theorem ggX7_takes_X7_endsStep : GoodIn wsX7_takes wsX7_endsStep := goodIn_r _ [21, 22, 23, 24, 2, 1, 25, 26, 27, 28, 29, 30, 31, 32, 33, 34, 35, 36, 37, 38, 39, 45, 46, 47, 48, 49, 50, 51, 52, 53, 54, 55, 56] (by decide +kernel) (by decide +kernel)
set_option maxRecDepth 20000 in
theorem gX7_takes_X7_endsStep : GoodIn wsX7_takes (wsV RX7 63 RX7 yX7_endsStep wsX7_endsStep) := goodIn_app (goodIn_of _ (by decide +kernel)) ggX7_takes_X7_endsStep
set_option maxRecDepth 20000 in
theorem ggX7_takes_X7_takesMore : GoodIn wsX7_takes wsX7_takesMore := goodIn_r _ [43, 44, 22, 23, 24, 1, 45, 46, 47, 48, 49, 50, 51, 52, 53, 54, 55, 56] (by decide +kernel) (by decide +kernel)
set_option maxRecDepth 20000 in
theorem gX7_takes_X7_takesMore : GoodIn wsX7_takes (wsV RX7 67 RX7 yX7_takesMore wsX7_takesMore) := goodIn_app (goodIn_of _ (by decide +kernel)) ggX7_takes_X7_takesMore
theorem dX7_takes_0 : decode cX7_takes 0 = .ok (.aload_n 0, 1) := by decide +kernel
theorem dX7_takes_1 : decode cX7_takes 1 = .ok (.getfield 37, 3) := by decide +kernel
theorem dX7_takes_4 : decode cX7_takes 4 = .ok (.tableswitch 137 0 5 #[40, 40, 69, 86, 92, 120], 40) := by decide +kernel
theorem dX7_takes_44 : decode cX7_takes 44 = .ok (.aload_n 0, 1) := by decide +kernel
theorem dX7_takes_45 : decode cX7_takes 45 = .ok (.iload_n 1, 1) := by decide +kernel
theorem dX7_takes_46 : decode cX7_takes 46 = .ok (.invokestatic 44, 3) := by decide +kernel
theorem dX7_takes_49 : decode cX7_takes 49 = .ok (.putfield 48, 3) := by decide +kernel
theorem dX7_takes_52 : decode cX7_takes 52 = .ok (.aload_n 0, 1) := by decide +kernel
theorem dX7_takes_53 : decode cX7_takes 53 = .ok (.iconst 2, 1) := by decide +kernel
theorem dX7_takes_54 : decode cX7_takes 54 = .ok (.putfield 37, 3) := by decide +kernel
theorem dX7_takes_57 : decode cX7_takes 57 = .ok (.aload_n 0, 1) := by decide +kernel
theorem dX7_takes_58 : decode cX7_takes 58 = .ok (.getfield 48, 3) := by decide +kernel
theorem dX7_takes_61 : decode cX7_takes 61 = .ok (.invokestatic 51, 3) := by decide +kernel
theorem dX7_takes_64 : decode cX7_takes 64 = .ok (.ifCond .ne 7, 3) := by decide +kernel
theorem dX7_takes_67 : decode cX7_takes 67 = .ok (.iconst 1, 1) := by decide +kernel
theorem dX7_takes_68 : decode cX7_takes 68 = .ok (.goto 4, 3) := by decide +kernel
theorem dX7_takes_71 : decode cX7_takes 71 = .ok (.iconst 0, 1) := by decide +kernel
theorem dX7_takes_72 : decode cX7_takes 72 = .ok (.ireturn, 1) := by decide +kernel
theorem dX7_takes_73 : decode cX7_takes 73 = .ok (.aload_n 0, 1) := by decide +kernel
theorem dX7_takes_74 : decode cX7_takes 74 = .ok (.iconst 3, 1) := by decide +kernel
theorem dX7_takes_75 : decode cX7_takes 75 = .ok (.putfield 37, 3) := by decide +kernel
theorem dX7_takes_78 : decode cX7_takes 78 = .ok (.iload_n 1, 1) := by decide +kernel
theorem dX7_takes_79 : decode cX7_takes 79 = .ok (.bipush 61, 2) := by decide +kernel
theorem dX7_takes_81 : decode cX7_takes 81 = .ok (.if_icmp .ne 7, 3) := by decide +kernel
theorem dX7_takes_84 : decode cX7_takes 84 = .ok (.iconst 1, 1) := by decide +kernel
theorem dX7_takes_85 : decode cX7_takes 85 = .ok (.goto 4, 3) := by decide +kernel
theorem dX7_takes_88 : decode cX7_takes 88 = .ok (.iconst 0, 1) := by decide +kernel
theorem dX7_takes_89 : decode cX7_takes 89 = .ok (.ireturn, 1) := by decide +kernel
theorem dX7_takes_90 : decode cX7_takes 90 = .ok (.aload_n 0, 1) := by decide +kernel
theorem dX7_takes_91 : decode cX7_takes 91 = .ok (.iload_n 1, 1) := by decide +kernel
theorem dX7_takes_92 : decode cX7_takes 92 = .ok (.invokevirtual 54, 3) := by decide +kernel
theorem dX7_takes_95 : decode cX7_takes 95 = .ok (.ireturn, 1) := by decide +kernel
theorem dX7_takes_96 : decode cX7_takes 96 = .ok (.aload_n 0, 1) := by decide +kernel
theorem dX7_takes_97 : decode cX7_takes 97 = .ok (.iload_n 1, 1) := by decide +kernel
theorem dX7_takes_98 : decode cX7_takes 98 = .ok (.invokestatic 44, 3) := by decide +kernel
theorem dX7_takes_101 : decode cX7_takes 101 = .ok (.putfield 57, 3) := by decide +kernel
theorem dX7_takes_104 : decode cX7_takes 104 = .ok (.aload_n 0, 1) := by decide +kernel
theorem dX7_takes_105 : decode cX7_takes 105 = .ok (.iconst 5, 1) := by decide +kernel
theorem dX7_takes_106 : decode cX7_takes 106 = .ok (.putfield 37, 3) := by decide +kernel
theorem dX7_takes_109 : decode cX7_takes 109 = .ok (.aload_n 0, 1) := by decide +kernel
theorem dX7_takes_110 : decode cX7_takes 110 = .ok (.getfield 57, 3) := by decide +kernel
theorem dX7_takes_113 : decode cX7_takes 113 = .ok (.bipush (-6), 2) := by decide +kernel
theorem dX7_takes_115 : decode cX7_takes 115 = .ok (.if_icmp .eq 7, 3) := by decide +kernel
theorem dX7_takes_118 : decode cX7_takes 118 = .ok (.iconst 1, 1) := by decide +kernel
theorem dX7_takes_119 : decode cX7_takes 119 = .ok (.goto 4, 3) := by decide +kernel
theorem dX7_takes_122 : decode cX7_takes 122 = .ok (.iconst 0, 1) := by decide +kernel
theorem dX7_takes_123 : decode cX7_takes 123 = .ok (.ireturn, 1) := by decide +kernel
theorem dX7_takes_124 : decode cX7_takes 124 = .ok (.aload_n 0, 1) := by decide +kernel
theorem dX7_takes_125 : decode cX7_takes 125 = .ok (.aload_n 0, 1) := by decide +kernel
theorem dX7_takes_126 : decode cX7_takes 126 = .ok (.getfield 60, 3) := by decide +kernel
theorem dX7_takes_129 : decode cX7_takes 129 = .ok (.aload_n 0, 1) := by decide +kernel
theorem dX7_takes_130 : decode cX7_takes 130 = .ok (.getfield 57, 3) := by decide +kernel
theorem dX7_takes_133 : decode cX7_takes 133 = .ok (.iload_n 1, 1) := by decide +kernel
theorem dX7_takes_134 : decode cX7_takes 134 = .ok (.invokestatic 44, 3) := by decide +kernel
theorem dX7_takes_137 : decode cX7_takes 137 = .ok (.invokevirtual 63, 3) := by decide +kernel
theorem dX7_takes_140 : decode cX7_takes 140 = .ok (.ireturn, 1) := by decide +kernel
theorem dX7_takes_141 : decode cX7_takes 141 = .ok (.aload_n 0, 1) := by decide +kernel
theorem dX7_takes_142 : decode cX7_takes 142 = .ok (.iload_n 1, 1) := by decide +kernel
theorem dX7_takes_143 : decode cX7_takes 143 = .ok (.invokevirtual 67, 3) := by decide +kernel
theorem dX7_takes_146 : decode cX7_takes 146 = .ok (.ireturn, 1) := by decide +kernel
set_option maxRecDepth 20000 in
theorem ggX7_takesMaking_X11_isAct : GoodIn wsX7_takesMaking wsX11_isAct := goodIn_r _ [5] (by decide +kernel) (by decide +kernel)
set_option maxRecDepth 20000 in
theorem gX7_takesMaking_X11_isAct_n70 : GoodIn wsX7_takesMaking (wsX11_isAct) := ggX7_takesMaking_X11_isAct
set_option maxRecDepth 20000 in
theorem ggX7_takesMaking_X7_operandOf : GoodIn wsX7_takesMaking wsX7_operandOf := goodIn_r _ [9] (by decide +kernel) (by decide +kernel)
set_option maxRecDepth 20000 in
theorem gX7_takesMaking_X7_operandOf : GoodIn wsX7_takesMaking (va_wsS RX7 44 yX7_operandOf wsX7_operandOf) := goodIn_app (goodIn_of _ (by decide +kernel)) ggX7_takesMaking_X7_operandOf
set_option maxRecDepth 20000 in
theorem ggX7_takesMaking_X7_endsStep : GoodIn wsX7_takesMaking wsX7_endsStep := goodIn_r _ [13, 14, 15, 16, 17, 2, 18, 19, 20, 21, 22, 23, 24, 25, 26, 27, 28, 29, 30, 31, 32, 33, 34, 35, 36, 37, 38, 39, 40, 41, 42, 43, 44] (by decide +kernel) (by decide +kernel)
set_option maxRecDepth 20000 in
theorem gX7_takesMaking_X7_endsStep : GoodIn wsX7_takesMaking (wsV RX7 63 RX7 yX7_endsStep wsX7_endsStep) := goodIn_app (goodIn_of _ (by decide +kernel)) ggX7_takesMaking_X7_endsStep
theorem dX7_takesMaking_0 : decode cX7_takesMaking 0 = .ok (.iload_n 1, 1) := by decide +kernel
theorem dX7_takesMaking_1 : decode cX7_takesMaking 1 = .ok (.invokestatic 70, 3) := by decide +kernel
theorem dX7_takesMaking_4 : decode cX7_takesMaking 4 = .ok (.ifCond .eq 15, 3) := by decide +kernel
theorem dX7_takesMaking_7 : decode cX7_takesMaking 7 = .ok (.aload_n 0, 1) := by decide +kernel
theorem dX7_takesMaking_8 : decode cX7_takesMaking 8 = .ok (.iload_n 1, 1) := by decide +kernel
theorem dX7_takesMaking_9 : decode cX7_takesMaking 9 = .ok (.putfield 60, 3) := by decide +kernel
theorem dX7_takesMaking_12 : decode cX7_takesMaking 12 = .ok (.aload_n 0, 1) := by decide +kernel
theorem dX7_takesMaking_13 : decode cX7_takesMaking 13 = .ok (.iconst 4, 1) := by decide +kernel
theorem dX7_takesMaking_14 : decode cX7_takesMaking 14 = .ok (.putfield 37, 3) := by decide +kernel
theorem dX7_takesMaking_17 : decode cX7_takesMaking 17 = .ok (.iconst 1, 1) := by decide +kernel
theorem dX7_takesMaking_18 : decode cX7_takesMaking 18 = .ok (.ireturn, 1) := by decide +kernel
theorem dX7_takesMaking_19 : decode cX7_takesMaking 19 = .ok (.aload_n 0, 1) := by decide +kernel
theorem dX7_takesMaking_20 : decode cX7_takesMaking 20 = .ok (.bipush (-6), 2) := by decide +kernel
theorem dX7_takesMaking_22 : decode cX7_takesMaking 22 = .ok (.iload_n 1, 1) := by decide +kernel
theorem dX7_takesMaking_23 : decode cX7_takesMaking 23 = .ok (.invokestatic 44, 3) := by decide +kernel
theorem dX7_takesMaking_26 : decode cX7_takesMaking 26 = .ok (.bipush (-6), 2) := by decide +kernel
theorem dX7_takesMaking_28 : decode cX7_takesMaking 28 = .ok (.invokevirtual 63, 3) := by decide +kernel
theorem dX7_takesMaking_31 : decode cX7_takesMaking 31 = .ok (.ireturn, 1) := by decide +kernel
set_option maxRecDepth 20000 in
theorem ggX7_endsStep_X1_add : GoodIn wsX7_endsStep wsX1_add := goodIn_r _ [10, 11, 12, 13, 14, 9, 15, 16, 17, 18, 19, 20, 31, 32] (by decide +kernel) (by decide +kernel)
set_option maxRecDepth 20000 in
theorem gX7_endsStep_X1_add : GoodIn wsX7_endsStep (wsV RX7 73 RX1 yX1_add wsX1_add) := goodIn_app (goodIn_of _ (by decide +kernel)) ggX7_endsStep_X1_add
theorem dX7_endsStep_0 : decode cX7_endsStep 0 = .ok (.iload_n 2, 1) := by decide +kernel
theorem dX7_endsStep_1 : decode cX7_endsStep 1 = .ok (.bipush (-6), 2) := by decide +kernel
theorem dX7_endsStep_3 : decode cX7_endsStep 3 = .ok (.if_icmp .eq 15, 3) := by decide +kernel
theorem dX7_endsStep_6 : decode cX7_endsStep 6 = .ok (.iload_n 1, 1) := by decide +kernel
theorem dX7_endsStep_7 : decode cX7_endsStep 7 = .ok (.bipush (-6), 2) := by decide +kernel
theorem dX7_endsStep_9 : decode cX7_endsStep 9 = .ok (.if_icmp .eq 11, 3) := by decide +kernel
theorem dX7_endsStep_12 : decode cX7_endsStep 12 = .ok (.iload_n 3, 1) := by decide +kernel
theorem dX7_endsStep_13 : decode cX7_endsStep 13 = .ok (.bipush (-6), 2) := by decide +kernel
theorem dX7_endsStep_15 : decode cX7_endsStep 15 = .ok (.if_icmp .ne 5, 3) := by decide +kernel
theorem dX7_endsStep_18 : decode cX7_endsStep 18 = .ok (.iconst 0, 1) := by decide +kernel
theorem dX7_endsStep_19 : decode cX7_endsStep 19 = .ok (.ireturn, 1) := by decide +kernel
theorem dX7_endsStep_20 : decode cX7_endsStep 20 = .ok (.aload_n 0, 1) := by decide +kernel
theorem dX7_endsStep_21 : decode cX7_endsStep 21 = .ok (.getfield 34, 3) := by decide +kernel
theorem dX7_endsStep_24 : decode cX7_endsStep 24 = .ok (.ifCond .eq 10, 3) := by decide +kernel
theorem dX7_endsStep_27 : decode cX7_endsStep 27 = .ok (.aload_n 0, 1) := by decide +kernel
theorem dX7_endsStep_28 : decode cX7_endsStep 28 = .ok (.getfield 22, 3) := by decide +kernel
theorem dX7_endsStep_31 : decode cX7_endsStep 31 = .ok (.goto 7, 3) := by decide +kernel
theorem dX7_endsStep_34 : decode cX7_endsStep 34 = .ok (.aload_n 0, 1) := by decide +kernel
theorem dX7_endsStep_35 : decode cX7_endsStep 35 = .ok (.getfield 18, 3) := by decide +kernel
theorem dX7_endsStep_38 : decode cX7_endsStep 38 = .ok (.astore 4, 2) := by decide +kernel
theorem dX7_endsStep_40 : decode cX7_endsStep 40 = .ok (.aload 4, 2) := by decide +kernel
theorem dX7_endsStep_42 : decode cX7_endsStep 42 = .ok (.aload_n 0, 1) := by decide +kernel
theorem dX7_endsStep_43 : decode cX7_endsStep 43 = .ok (.getfield 48, 3) := by decide +kernel
theorem dX7_endsStep_46 : decode cX7_endsStep 46 = .ok (.iload_n 1, 1) := by decide +kernel
theorem dX7_endsStep_47 : decode cX7_endsStep 47 = .ok (.iload_n 2, 1) := by decide +kernel
theorem dX7_endsStep_48 : decode cX7_endsStep 48 = .ok (.iload_n 3, 1) := by decide +kernel
theorem dX7_endsStep_49 : decode cX7_endsStep 49 = .ok (.invokevirtual 73, 3) := by decide +kernel
theorem dX7_endsStep_52 : decode cX7_endsStep 52 = .ok (.aload_n 0, 1) := by decide +kernel
theorem dX7_endsStep_53 : decode cX7_endsStep 53 = .ok (.bipush 6, 2) := by decide +kernel
theorem dX7_endsStep_55 : decode cX7_endsStep 55 = .ok (.putfield 37, 3) := by decide +kernel
theorem dX7_endsStep_58 : decode cX7_endsStep 58 = .ok (.iconst 1, 1) := by decide +kernel
theorem dX7_endsStep_59 : decode cX7_endsStep 59 = .ok (.ireturn, 1) := by decide +kernel
theorem dX7_takesMore_0 : decode cX7_takesMore 0 = .ok (.aload_n 0, 1) := by decide +kernel
theorem dX7_takesMore_1 : decode cX7_takesMore 1 = .ok (.getfield 30, 3) := by decide +kernel
theorem dX7_takesMore_4 : decode cX7_takesMore 4 = .ok (.ifCond .eq 7, 3) := by decide +kernel
theorem dX7_takesMore_7 : decode cX7_takesMore 7 = .ok (.iconst 3, 1) := by decide +kernel
theorem dX7_takesMore_8 : decode cX7_takesMore 8 = .ok (.goto 5, 3) := by decide +kernel
theorem dX7_takesMore_11 : decode cX7_takesMore 11 = .ok (.bipush 12, 2) := by decide +kernel
theorem dX7_takesMore_13 : decode cX7_takesMore 13 = .ok (.istore_n 2, 1) := by decide +kernel
theorem dX7_takesMore_14 : decode cX7_takesMore 14 = .ok (.aload_n 0, 1) := by decide +kernel
theorem dX7_takesMore_15 : decode cX7_takesMore 15 = .ok (.getfield 34, 3) := by decide +kernel
theorem dX7_takesMore_18 : decode cX7_takesMore 18 = .ok (.ifCond .eq 10, 3) := by decide +kernel
theorem dX7_takesMore_21 : decode cX7_takesMore 21 = .ok (.aload_n 0, 1) := by decide +kernel
theorem dX7_takesMore_22 : decode cX7_takesMore 22 = .ok (.getfield 22, 3) := by decide +kernel
theorem dX7_takesMore_25 : decode cX7_takesMore 25 = .ok (.goto 7, 3) := by decide +kernel
theorem dX7_takesMore_28 : decode cX7_takesMore 28 = .ok (.aload_n 0, 1) := by decide +kernel
theorem dX7_takesMore_29 : decode cX7_takesMore 29 = .ok (.getfield 18, 3) := by decide +kernel
theorem dX7_takesMore_32 : decode cX7_takesMore 32 = .ok (.astore_n 3, 1) := by decide +kernel
theorem dX7_takesMore_33 : decode cX7_takesMore 33 = .ok (.iload_n 1, 1) := by decide +kernel
theorem dX7_takesMore_34 : decode cX7_takesMore 34 = .ok (.bipush 59, 2) := by decide +kernel
theorem dX7_takesMore_36 : decode cX7_takesMore 36 = .ok (.if_icmp .ne 18, 3) := by decide +kernel
theorem dX7_takesMore_39 : decode cX7_takesMore 39 = .ok (.aload_n 3, 1) := by decide +kernel
theorem dX7_takesMore_40 : decode cX7_takesMore 40 = .ok (.getfield 29, 3) := by decide +kernel
theorem dX7_takesMore_43 : decode cX7_takesMore 43 = .ok (.iload_n 2, 1) := by decide +kernel
theorem dX7_takesMore_44 : decode cX7_takesMore 44 = .ok (.if_icmp .ge 10, 3) := by decide +kernel
theorem dX7_takesMore_47 : decode cX7_takesMore 47 = .ok (.aload_n 0, 1) := by decide +kernel
theorem dX7_takesMore_48 : decode cX7_takesMore 48 = .ok (.iconst 0, 1) := by decide +kernel
theorem dX7_takesMore_49 : decode cX7_takesMore 49 = .ok (.putfield 37, 3) := by decide +kernel
theorem dX7_takesMore_52 : decode cX7_takesMore 52 = .ok (.iconst 1, 1) := by decide +kernel
theorem dX7_takesMore_53 : decode cX7_takesMore 53 = .ok (.ireturn, 1) := by decide +kernel
theorem dX7_takesMore_54 : decode cX7_takesMore 54 = .ok (.iload_n 1, 1) := by decide +kernel
theorem dX7_takesMore_55 : decode cX7_takesMore 55 = .ok (.bipush 62, 2) := by decide +kernel
theorem dX7_takesMore_57 : decode cX7_takesMore 57 = .ok (.if_icmp .ne 29, 3) := by decide +kernel
theorem dX7_takesMore_60 : decode cX7_takesMore 60 = .ok (.aload_n 0, 1) := by decide +kernel
theorem dX7_takesMore_61 : decode cX7_takesMore 61 = .ok (.getfield 30, 3) := by decide +kernel
theorem dX7_takesMore_64 : decode cX7_takesMore 64 = .ok (.ifCond .eq 22, 3) := by decide +kernel
theorem dX7_takesMore_67 : decode cX7_takesMore 67 = .ok (.aload_n 0, 1) := by decide +kernel
theorem dX7_takesMore_68 : decode cX7_takesMore 68 = .ok (.getfield 34, 3) := by decide +kernel
theorem dX7_takesMore_71 : decode cX7_takesMore 71 = .ok (.ifCond .ne 15, 3) := by decide +kernel
theorem dX7_takesMore_74 : decode cX7_takesMore 74 = .ok (.aload_n 0, 1) := by decide +kernel
theorem dX7_takesMore_75 : decode cX7_takesMore 75 = .ok (.iconst 1, 1) := by decide +kernel
theorem dX7_takesMore_76 : decode cX7_takesMore 76 = .ok (.putfield 34, 3) := by decide +kernel
theorem dX7_takesMore_79 : decode cX7_takesMore 79 = .ok (.aload_n 0, 1) := by decide +kernel
theorem dX7_takesMore_80 : decode cX7_takesMore 80 = .ok (.iconst 1, 1) := by decide +kernel
theorem dX7_takesMore_81 : decode cX7_takesMore 81 = .ok (.putfield 37, 3) := by decide +kernel
theorem dX7_takesMore_84 : decode cX7_takesMore 84 = .ok (.iconst 1, 1) := by decide +kernel
theorem dX7_takesMore_85 : decode cX7_takesMore 85 = .ok (.ireturn, 1) := by decide +kernel
theorem dX7_takesMore_86 : decode cX7_takesMore 86 = .ok (.iconst 0, 1) := by decide +kernel
theorem dX7_takesMore_87 : decode cX7_takesMore 87 = .ok (.ireturn, 1) := by decide +kernel
theorem dX7_operandOf_0 : decode cX7_operandOf 0 = .ok (.iload_n 0, 1) := by decide +kernel
theorem dX7_operandOf_1 : decode cX7_operandOf 1 = .ok (.bipush 97, 2) := by decide +kernel
theorem dX7_operandOf_3 : decode cX7_operandOf 3 = .ok (.if_icmp .lt 14, 3) := by decide +kernel
theorem dX7_operandOf_6 : decode cX7_operandOf 6 = .ok (.iload_n 0, 1) := by decide +kernel
theorem dX7_operandOf_7 : decode cX7_operandOf 7 = .ok (.bipush 100, 2) := by decide +kernel
theorem dX7_operandOf_9 : decode cX7_operandOf 9 = .ok (.if_icmp .gt 8, 3) := by decide +kernel
theorem dX7_operandOf_12 : decode cX7_operandOf 12 = .ok (.iload_n 0, 1) := by decide +kernel
theorem dX7_operandOf_13 : decode cX7_operandOf 13 = .ok (.bipush 97, 2) := by decide +kernel
theorem dX7_operandOf_15 : decode cX7_operandOf 15 = .ok (.isub, 1) := by decide +kernel
theorem dX7_operandOf_16 : decode cX7_operandOf 16 = .ok (.ireturn, 1) := by decide +kernel
theorem dX7_operandOf_17 : decode cX7_operandOf 17 = .ok (.iload_n 0, 1) := by decide +kernel
theorem dX7_operandOf_18 : decode cX7_operandOf 18 = .ok (.bipush 48, 2) := by decide +kernel
theorem dX7_operandOf_20 : decode cX7_operandOf 20 = .ok (.if_icmp .lt 17, 3) := by decide +kernel
theorem dX7_operandOf_23 : decode cX7_operandOf 23 = .ok (.iload_n 0, 1) := by decide +kernel
theorem dX7_operandOf_24 : decode cX7_operandOf 24 = .ok (.bipush 55, 2) := by decide +kernel
theorem dX7_operandOf_26 : decode cX7_operandOf 26 = .ok (.if_icmp .gt 11, 3) := by decide +kernel
theorem dX7_operandOf_29 : decode cX7_operandOf 29 = .ok (.iload_n 0, 1) := by decide +kernel
theorem dX7_operandOf_30 : decode cX7_operandOf 30 = .ok (.bipush 48, 2) := by decide +kernel
theorem dX7_operandOf_32 : decode cX7_operandOf 32 = .ok (.isub, 1) := by decide +kernel
theorem dX7_operandOf_33 : decode cX7_operandOf 33 = .ok (.bipush 10, 2) := by decide +kernel
theorem dX7_operandOf_35 : decode cX7_operandOf 35 = .ok (.iadd, 1) := by decide +kernel
theorem dX7_operandOf_36 : decode cX7_operandOf 36 = .ok (.ireturn, 1) := by decide +kernel
theorem dX7_operandOf_37 : decode cX7_operandOf 37 = .ok (.bipush (-6), 2) := by decide +kernel
theorem dX7_operandOf_39 : decode cX7_operandOf 39 = .ok (.ireturn, 1) := by decide +kernel
theorem dX8_init_0 : decode cX8_init 0 = .ok (.aload_n 0, 1) := by decide +kernel
theorem dX8_init_1 : decode cX8_init 1 = .ok (.invokespecial 3, 3) := by decide +kernel
theorem dX8_init_4 : decode cX8_init 4 = .ok (.aload_n 0, 1) := by decide +kernel
theorem dX8_init_5 : decode cX8_init 5 = .ok (.bipush 12, 2) := by decide +kernel
theorem dX8_init_7 : decode cX8_init 7 = .ok (.newarray .long, 2) := by decide +kernel
theorem dX8_init_9 : decode cX8_init 9 = .ok (.putfield 11, 3) := by decide +kernel
theorem dX8_init_12 : decode cX8_init 12 = .ok (.return_, 1) := by decide +kernel
theorem dX8_beginBlock_0 : decode cX8_beginBlock 0 = .ok (.iconst 0, 1) := by decide +kernel
theorem dX8_beginBlock_1 : decode cX8_beginBlock 1 = .ok (.istore_n 2, 1) := by decide +kernel
theorem dX8_beginBlock_2 : decode cX8_beginBlock 2 = .ok (.iload_n 2, 1) := by decide +kernel
theorem dX8_beginBlock_3 : decode cX8_beginBlock 3 = .ok (.iconst 3, 1) := by decide +kernel
theorem dX8_beginBlock_4 : decode cX8_beginBlock 4 = .ok (.if_icmp .ge 67, 3) := by decide +kernel
theorem dX8_beginBlock_7 : decode cX8_beginBlock 7 = .ok (.aload_n 0, 1) := by decide +kernel
theorem dX8_beginBlock_8 : decode cX8_beginBlock 8 = .ok (.getfield 11, 3) := by decide +kernel
theorem dX8_beginBlock_11 : decode cX8_beginBlock 11 = .ok (.iload_n 2, 1) := by decide +kernel
theorem dX8_beginBlock_12 : decode cX8_beginBlock 12 = .ok (.iload_n 1, 1) := by decide +kernel
theorem dX8_beginBlock_13 : decode cX8_beginBlock 13 = .ok (.iconst 3, 1) := by decide +kernel
theorem dX8_beginBlock_14 : decode cX8_beginBlock 14 = .ok (.iload_n 2, 1) := by decide +kernel
theorem dX8_beginBlock_15 : decode cX8_beginBlock 15 = .ok (.iadd, 1) := by decide +kernel
theorem dX8_beginBlock_16 : decode cX8_beginBlock 16 = .ok (.ishr, 1) := by decide +kernel
theorem dX8_beginBlock_17 : decode cX8_beginBlock 17 = .ok (.iconst 1, 1) := by decide +kernel
theorem dX8_beginBlock_18 : decode cX8_beginBlock 18 = .ok (.iand, 1) := by decide +kernel
theorem dX8_beginBlock_19 : decode cX8_beginBlock 19 = .ok (.i2l, 1) := by decide +kernel
theorem dX8_beginBlock_20 : decode cX8_beginBlock 20 = .ok (.lneg, 1) := by decide +kernel
theorem dX8_beginBlock_21 : decode cX8_beginBlock 21 = .ok (.lastore, 1) := by decide +kernel
theorem dX8_beginBlock_22 : decode cX8_beginBlock 22 = .ok (.aload_n 0, 1) := by decide +kernel
theorem dX8_beginBlock_23 : decode cX8_beginBlock 23 = .ok (.getfield 11, 3) := by decide +kernel
theorem dX8_beginBlock_26 : decode cX8_beginBlock 26 = .ok (.iconst 3, 1) := by decide +kernel
theorem dX8_beginBlock_27 : decode cX8_beginBlock 27 = .ok (.iload_n 2, 1) := by decide +kernel
theorem dX8_beginBlock_28 : decode cX8_beginBlock 28 = .ok (.iadd, 1) := by decide +kernel
theorem dX8_beginBlock_29 : decode cX8_beginBlock 29 = .ok (.iload_n 1, 1) := by decide +kernel
theorem dX8_beginBlock_30 : decode cX8_beginBlock 30 = .ok (.iload_n 2, 1) := by decide +kernel
theorem dX8_beginBlock_31 : decode cX8_beginBlock 31 = .ok (.ishr, 1) := by decide +kernel
theorem dX8_beginBlock_32 : decode cX8_beginBlock 32 = .ok (.iconst 1, 1) := by decide +kernel
theorem dX8_beginBlock_33 : decode cX8_beginBlock 33 = .ok (.iand, 1) := by decide +kernel
theorem dX8_beginBlock_34 : decode cX8_beginBlock 34 = .ok (.i2l, 1) := by decide +kernel
theorem dX8_beginBlock_35 : decode cX8_beginBlock 35 = .ok (.lneg, 1) := by decide +kernel
theorem dX8_beginBlock_36 : decode cX8_beginBlock 36 = .ok (.lastore, 1) := by decide +kernel
theorem dX8_beginBlock_37 : decode cX8_beginBlock 37 = .ok (.aload_n 0, 1) := by decide +kernel
theorem dX8_beginBlock_38 : decode cX8_beginBlock 38 = .ok (.getfield 11, 3) := by decide +kernel
theorem dX8_beginBlock_41 : decode cX8_beginBlock 41 = .ok (.bipush 6, 2) := by decide +kernel
theorem dX8_beginBlock_43 : decode cX8_beginBlock 43 = .ok (.iload_n 2, 1) := by decide +kernel
theorem dX8_beginBlock_44 : decode cX8_beginBlock 44 = .ok (.iadd, 1) := by decide +kernel
theorem dX8_beginBlock_45 : decode cX8_beginBlock 45 = .ok (.getstatic 15, 3) := by decide +kernel
theorem dX8_beginBlock_48 : decode cX8_beginBlock 48 = .ok (.iload_n 2, 1) := by decide +kernel
theorem dX8_beginBlock_49 : decode cX8_beginBlock 49 = .ok (.laload, 1) := by decide +kernel
theorem dX8_beginBlock_50 : decode cX8_beginBlock 50 = .ok (.lastore, 1) := by decide +kernel
theorem dX8_beginBlock_51 : decode cX8_beginBlock 51 = .ok (.aload_n 0, 1) := by decide +kernel
theorem dX8_beginBlock_52 : decode cX8_beginBlock 52 = .ok (.getfield 11, 3) := by decide +kernel
theorem dX8_beginBlock_55 : decode cX8_beginBlock 55 = .ok (.bipush 9, 2) := by decide +kernel
theorem dX8_beginBlock_57 : decode cX8_beginBlock 57 = .ok (.iload_n 2, 1) := by decide +kernel
theorem dX8_beginBlock_58 : decode cX8_beginBlock 58 = .ok (.iadd, 1) := by decide +kernel
theorem dX8_beginBlock_59 : decode cX8_beginBlock 59 = .ok (.getstatic 18, 3) := by decide +kernel
theorem dX8_beginBlock_62 : decode cX8_beginBlock 62 = .ok (.iload_n 2, 1) := by decide +kernel
theorem dX8_beginBlock_63 : decode cX8_beginBlock 63 = .ok (.laload, 1) := by decide +kernel
theorem dX8_beginBlock_64 : decode cX8_beginBlock 64 = .ok (.lastore, 1) := by decide +kernel
theorem dX8_beginBlock_65 : decode cX8_beginBlock 65 = .ok (.iinc 2 1, 3) := by decide +kernel
theorem dX8_beginBlock_68 : decode cX8_beginBlock 68 = .ok (.goto (-66), 3) := by decide +kernel
theorem dX8_beginBlock_71 : decode cX8_beginBlock 71 = .ok (.return_, 1) := by decide +kernel
theorem dX8_beginPairs_0 : decode cX8_beginPairs 0 = .ok (.iconst 0, 1) := by decide +kernel
theorem dX8_beginPairs_1 : decode cX8_beginPairs 1 = .ok (.istore_n 1, 1) := by decide +kernel
theorem dX8_beginPairs_2 : decode cX8_beginPairs 2 = .ok (.iload_n 1, 1) := by decide +kernel
theorem dX8_beginPairs_3 : decode cX8_beginPairs 3 = .ok (.iconst 3, 1) := by decide +kernel
theorem dX8_beginPairs_4 : decode cX8_beginPairs 4 = .ok (.if_icmp .ge 53, 3) := by decide +kernel
theorem dX8_beginPairs_7 : decode cX8_beginPairs 7 = .ok (.aload_n 0, 1) := by decide +kernel
theorem dX8_beginPairs_8 : decode cX8_beginPairs 8 = .ok (.getfield 11, 3) := by decide +kernel
theorem dX8_beginPairs_11 : decode cX8_beginPairs 11 = .ok (.iload_n 1, 1) := by decide +kernel
theorem dX8_beginPairs_12 : decode cX8_beginPairs 12 = .ok (.getstatic 15, 3) := by decide +kernel
theorem dX8_beginPairs_15 : decode cX8_beginPairs 15 = .ok (.iload_n 1, 1) := by decide +kernel
theorem dX8_beginPairs_16 : decode cX8_beginPairs 16 = .ok (.laload, 1) := by decide +kernel
theorem dX8_beginPairs_17 : decode cX8_beginPairs 17 = .ok (.lastore, 1) := by decide +kernel
theorem dX8_beginPairs_18 : decode cX8_beginPairs 18 = .ok (.aload_n 0, 1) := by decide +kernel
theorem dX8_beginPairs_19 : decode cX8_beginPairs 19 = .ok (.getfield 11, 3) := by decide +kernel
theorem dX8_beginPairs_22 : decode cX8_beginPairs 22 = .ok (.iconst 3, 1) := by decide +kernel
theorem dX8_beginPairs_23 : decode cX8_beginPairs 23 = .ok (.iload_n 1, 1) := by decide +kernel
theorem dX8_beginPairs_24 : decode cX8_beginPairs 24 = .ok (.iadd, 1) := by decide +kernel
theorem dX8_beginPairs_25 : decode cX8_beginPairs 25 = .ok (.getstatic 18, 3) := by decide +kernel
theorem dX8_beginPairs_28 : decode cX8_beginPairs 28 = .ok (.iload_n 1, 1) := by decide +kernel
theorem dX8_beginPairs_29 : decode cX8_beginPairs 29 = .ok (.laload, 1) := by decide +kernel
theorem dX8_beginPairs_30 : decode cX8_beginPairs 30 = .ok (.lastore, 1) := by decide +kernel
theorem dX8_beginPairs_31 : decode cX8_beginPairs 31 = .ok (.aload_n 0, 1) := by decide +kernel
theorem dX8_beginPairs_32 : decode cX8_beginPairs 32 = .ok (.getfield 11, 3) := by decide +kernel
theorem dX8_beginPairs_35 : decode cX8_beginPairs 35 = .ok (.bipush 6, 2) := by decide +kernel
theorem dX8_beginPairs_37 : decode cX8_beginPairs 37 = .ok (.iload_n 1, 1) := by decide +kernel
theorem dX8_beginPairs_38 : decode cX8_beginPairs 38 = .ok (.iadd, 1) := by decide +kernel
theorem dX8_beginPairs_39 : decode cX8_beginPairs 39 = .ok (.lconst 0, 1) := by decide +kernel
theorem dX8_beginPairs_40 : decode cX8_beginPairs 40 = .ok (.lastore, 1) := by decide +kernel
theorem dX8_beginPairs_41 : decode cX8_beginPairs 41 = .ok (.aload_n 0, 1) := by decide +kernel
theorem dX8_beginPairs_42 : decode cX8_beginPairs 42 = .ok (.getfield 11, 3) := by decide +kernel
theorem dX8_beginPairs_45 : decode cX8_beginPairs 45 = .ok (.bipush 9, 2) := by decide +kernel
theorem dX8_beginPairs_47 : decode cX8_beginPairs 47 = .ok (.iload_n 1, 1) := by decide +kernel
theorem dX8_beginPairs_48 : decode cX8_beginPairs 48 = .ok (.iadd, 1) := by decide +kernel
theorem dX8_beginPairs_49 : decode cX8_beginPairs 49 = .ok (.lconst 0, 1) := by decide +kernel
theorem dX8_beginPairs_50 : decode cX8_beginPairs 50 = .ok (.lastore, 1) := by decide +kernel
theorem dX8_beginPairs_51 : decode cX8_beginPairs 51 = .ok (.iinc 1 1, 3) := by decide +kernel
theorem dX8_beginPairs_54 : decode cX8_beginPairs 54 = .ok (.goto (-52), 3) := by decide +kernel
theorem dX8_beginPairs_57 : decode cX8_beginPairs 57 = .ok (.return_, 1) := by decide +kernel
theorem dX8_copyFrom_0 : decode cX8_copyFrom 0 = .ok (.aload_n 1, 1) := by decide +kernel
theorem dX8_copyFrom_1 : decode cX8_copyFrom 1 = .ok (.getfield 11, 3) := by decide +kernel
theorem dX8_copyFrom_4 : decode cX8_copyFrom 4 = .ok (.iconst 0, 1) := by decide +kernel
theorem dX8_copyFrom_5 : decode cX8_copyFrom 5 = .ok (.aload_n 0, 1) := by decide +kernel
theorem dX8_copyFrom_6 : decode cX8_copyFrom 6 = .ok (.getfield 11, 3) := by decide +kernel
theorem dX8_copyFrom_9 : decode cX8_copyFrom 9 = .ok (.iconst 0, 1) := by decide +kernel
theorem dX8_copyFrom_10 : decode cX8_copyFrom 10 = .ok (.aload_n 0, 1) := by decide +kernel
theorem dX8_copyFrom_11 : decode cX8_copyFrom 11 = .ok (.getfield 11, 3) := by decide +kernel
theorem dX8_copyFrom_14 : decode cX8_copyFrom 14 = .ok (.arraylength, 1) := by decide +kernel
theorem dX8_copyFrom_15 : decode cX8_copyFrom 15 = .ok (.invokestatic 21, 3) := by decide +kernel
theorem dX8_copyFrom_18 : decode cX8_copyFrom 18 = .ok (.return_, 1) := by decide +kernel
set_option maxRecDepth 20000 in
theorem ggX8_perform_X1_part : GoodIn wsX8_perform wsX1_part := goodIn_r _ [5, 6, 7, 48, 49] (by decide +kernel) (by decide +kernel)
set_option maxRecDepth 20000 in
theorem gX8_perform_X1_part : GoodIn wsX8_perform (wsV RX8 33 RX1 yX1_part wsX1_part) := goodIn_app (goodIn_of _ (by decide +kernel)) ggX8_perform_X1_part
set_option maxRecDepth 20000 in
theorem ggX8_perform_X8_make : GoodIn wsX8_perform wsX8_make := goodIn_r _ [12, 13, 14, 15, 11, 16, 17, 18, 19, 20, 21, 22, 23, 24, 25, 26, 27, 28, 29, 30, 31, 32, 33, 34, 35, 36, 37, 38, 50, 51, 52, 53] (by decide +kernel) (by decide +kernel)
set_option maxRecDepth 20000 in
theorem gX8_perform_X8_make : GoodIn wsX8_perform (wsV RX8 37 RX8 yX8_make wsX8_make) := goodIn_app (goodIn_of _ (by decide +kernel)) ggX8_perform_X8_make
set_option maxRecDepth 20000 in
theorem ggX8_perform_X1_target : GoodIn wsX8_perform wsX1_target := goodIn_r _ [42, 43, 2, 3, 4, 5, 6, 7, 18, 19, 20, 48, 49] (by decide +kernel) (by decide +kernel)
set_option maxRecDepth 20000 in
theorem gX8_perform_X1_target : GoodIn wsX8_perform (wsV RX8 41 RX1 yX1_target wsX1_target) := goodIn_app (goodIn_of _ (by decide +kernel)) ggX8_perform_X1_target
set_option maxRecDepth 20000 in
theorem ggX8_perform_X8_storeMade : GoodIn wsX8_perform wsX8_storeMade := goodIn_r _ [47, 17, 28, 29, 30, 50, 51, 52, 53] (by decide +kernel) (by decide +kernel)
set_option maxRecDepth 20000 in
theorem gX8_perform_X8_storeMade : GoodIn wsX8_perform (wsV RX8 45 RX8 yX8_storeMade wsX8_storeMade) := goodIn_app (goodIn_of _ (by decide +kernel)) ggX8_perform_X8_storeMade
theorem dX8_perform_0 : decode cX8_perform 0 = .ok (.iconst 0, 1) := by decide +kernel
theorem dX8_perform_1 : decode cX8_perform 1 = .ok (.istore_n 2, 1) := by decide +kernel
theorem dX8_perform_2 : decode cX8_perform 2 = .ok (.iload_n 2, 1) := by decide +kernel
theorem dX8_perform_3 : decode cX8_perform 3 = .ok (.aload_n 1, 1) := by decide +kernel
theorem dX8_perform_4 : decode cX8_perform 4 = .ok (.getfield 27, 3) := by decide +kernel
theorem dX8_perform_7 : decode cX8_perform 7 = .ok (.if_icmp .ge 41, 3) := by decide +kernel
theorem dX8_perform_10 : decode cX8_perform 10 = .ok (.aload_n 0, 1) := by decide +kernel
theorem dX8_perform_11 : decode cX8_perform 11 = .ok (.aload_n 1, 1) := by decide +kernel
theorem dX8_perform_12 : decode cX8_perform 12 = .ok (.iload_n 2, 1) := by decide +kernel
theorem dX8_perform_13 : decode cX8_perform 13 = .ok (.iconst 1, 1) := by decide +kernel
theorem dX8_perform_14 : decode cX8_perform 14 = .ok (.invokevirtual 33, 3) := by decide +kernel
theorem dX8_perform_17 : decode cX8_perform 17 = .ok (.aload_n 1, 1) := by decide +kernel
theorem dX8_perform_18 : decode cX8_perform 18 = .ok (.iload_n 2, 1) := by decide +kernel
theorem dX8_perform_19 : decode cX8_perform 19 = .ok (.iconst 2, 1) := by decide +kernel
theorem dX8_perform_20 : decode cX8_perform 20 = .ok (.invokevirtual 33, 3) := by decide +kernel
theorem dX8_perform_23 : decode cX8_perform 23 = .ok (.aload_n 1, 1) := by decide +kernel
theorem dX8_perform_24 : decode cX8_perform 24 = .ok (.iload_n 2, 1) := by decide +kernel
theorem dX8_perform_25 : decode cX8_perform 25 = .ok (.iconst 3, 1) := by decide +kernel
theorem dX8_perform_26 : decode cX8_perform 26 = .ok (.invokevirtual 33, 3) := by decide +kernel
theorem dX8_perform_29 : decode cX8_perform 29 = .ok (.invokevirtual 37, 3) := by decide +kernel
theorem dX8_perform_32 : decode cX8_perform 32 = .ok (.aload_n 0, 1) := by decide +kernel
theorem dX8_perform_33 : decode cX8_perform 33 = .ok (.aload_n 1, 1) := by decide +kernel
theorem dX8_perform_34 : decode cX8_perform 34 = .ok (.iload_n 2, 1) := by decide +kernel
theorem dX8_perform_35 : decode cX8_perform 35 = .ok (.invokevirtual 41, 3) := by decide +kernel
theorem dX8_perform_38 : decode cX8_perform 38 = .ok (.aload_n 0, 1) := by decide +kernel
theorem dX8_perform_39 : decode cX8_perform 39 = .ok (.invokevirtual 45, 3) := by decide +kernel
theorem dX8_perform_42 : decode cX8_perform 42 = .ok (.iinc 2 1, 3) := by decide +kernel
theorem dX8_perform_45 : decode cX8_perform 45 = .ok (.goto (-43), 3) := by decide +kernel
theorem dX8_perform_48 : decode cX8_perform 48 = .ok (.return_, 1) := by decide +kernel
set_option maxRecDepth 20000 in
theorem ggX8_make_X8_bit : GoodIn wsX8_make wsX8_bit := goodIn_r _ [5, 6, 7, 8, 9, 10, 11, 28, 29, 30, 31] (by decide +kernel) (by decide +kernel)
set_option maxRecDepth 20000 in
theorem gX8_make_X8_bit : GoodIn wsX8_make (wsV RX8 49 RX8 yX8_bit wsX8_bit) := goodIn_app (goodIn_of _ (by decide +kernel)) ggX8_make_X8_bit
set_option maxRecDepth 20000 in
theorem ggX8_make_X8_makeOf : GoodIn wsX8_make wsX8_makeOf := goodIn_r _ [15, 16, 17, 18, 19, 20, 21, 22, 4, 23, 24, 25, 26, 27, 28, 29, 30, 31] (by decide +kernel) (by decide +kernel)
set_option maxRecDepth 20000 in
theorem gX8_make_X8_makeOf : GoodIn wsX8_make (wsV RX8 53 RX8 yX8_makeOf wsX8_makeOf) := goodIn_app (goodIn_of _ (by decide +kernel)) ggX8_make_X8_makeOf
theorem dX8_make_0 : decode cX8_make 0 = .ok (.aload_n 0, 1) := by decide +kernel
theorem dX8_make_1 : decode cX8_make 1 = .ok (.iload_n 1, 1) := by decide +kernel
theorem dX8_make_2 : decode cX8_make 2 = .ok (.aload_n 0, 1) := by decide +kernel
theorem dX8_make_3 : decode cX8_make 3 = .ok (.iload_n 2, 1) := by decide +kernel
theorem dX8_make_4 : decode cX8_make 4 = .ok (.iconst 0, 1) := by decide +kernel
theorem dX8_make_5 : decode cX8_make 5 = .ok (.invokevirtual 49, 3) := by decide +kernel
theorem dX8_make_8 : decode cX8_make 8 = .ok (.aload_n 0, 1) := by decide +kernel
theorem dX8_make_9 : decode cX8_make 9 = .ok (.iload_n 2, 1) := by decide +kernel
theorem dX8_make_10 : decode cX8_make 10 = .ok (.iconst 1, 1) := by decide +kernel
theorem dX8_make_11 : decode cX8_make 11 = .ok (.invokevirtual 49, 3) := by decide +kernel
theorem dX8_make_14 : decode cX8_make 14 = .ok (.aload_n 0, 1) := by decide +kernel
theorem dX8_make_15 : decode cX8_make 15 = .ok (.iload_n 2, 1) := by decide +kernel
theorem dX8_make_16 : decode cX8_make 16 = .ok (.iconst 2, 1) := by decide +kernel
theorem dX8_make_17 : decode cX8_make 17 = .ok (.invokevirtual 49, 3) := by decide +kernel
theorem dX8_make_20 : decode cX8_make 20 = .ok (.aload_n 0, 1) := by decide +kernel
theorem dX8_make_21 : decode cX8_make 21 = .ok (.iload_n 3, 1) := by decide +kernel
theorem dX8_make_22 : decode cX8_make 22 = .ok (.iconst 0, 1) := by decide +kernel
theorem dX8_make_23 : decode cX8_make 23 = .ok (.invokevirtual 49, 3) := by decide +kernel
theorem dX8_make_26 : decode cX8_make 26 = .ok (.aload_n 0, 1) := by decide +kernel
theorem dX8_make_27 : decode cX8_make 27 = .ok (.iload_n 3, 1) := by decide +kernel
theorem dX8_make_28 : decode cX8_make 28 = .ok (.iconst 1, 1) := by decide +kernel
theorem dX8_make_29 : decode cX8_make 29 = .ok (.invokevirtual 49, 3) := by decide +kernel
theorem dX8_make_32 : decode cX8_make 32 = .ok (.aload_n 0, 1) := by decide +kernel
theorem dX8_make_33 : decode cX8_make 33 = .ok (.iload_n 3, 1) := by decide +kernel
theorem dX8_make_34 : decode cX8_make 34 = .ok (.iconst 2, 1) := by decide +kernel
theorem dX8_make_35 : decode cX8_make 35 = .ok (.invokevirtual 49, 3) := by decide +kernel
theorem dX8_make_38 : decode cX8_make 38 = .ok (.invokevirtual 53, 3) := by decide +kernel
theorem dX8_make_41 : decode cX8_make 41 = .ok (.return_, 1) := by decide +kernel
theorem dX8_storeMade_0 : decode cX8_storeMade 0 = .ok (.aload_n 2, 1) := by decide +kernel
theorem dX8_storeMade_1 : decode cX8_storeMade 1 = .ok (.getfield 11, 3) := by decide +kernel
theorem dX8_storeMade_4 : decode cX8_storeMade 4 = .ok (.iload_n 1, 1) := by decide +kernel
theorem dX8_storeMade_5 : decode cX8_storeMade 5 = .ok (.iconst 3, 1) := by decide +kernel
theorem dX8_storeMade_6 : decode cX8_storeMade 6 = .ok (.imul, 1) := by decide +kernel
theorem dX8_storeMade_7 : decode cX8_storeMade 7 = .ok (.aload_n 0, 1) := by decide +kernel
theorem dX8_storeMade_8 : decode cX8_storeMade 8 = .ok (.getfield 57, 3) := by decide +kernel
theorem dX8_storeMade_11 : decode cX8_storeMade 11 = .ok (.lastore, 1) := by decide +kernel
theorem dX8_storeMade_12 : decode cX8_storeMade 12 = .ok (.aload_n 2, 1) := by decide +kernel
theorem dX8_storeMade_13 : decode cX8_storeMade 13 = .ok (.getfield 11, 3) := by decide +kernel
theorem dX8_storeMade_16 : decode cX8_storeMade 16 = .ok (.iload_n 1, 1) := by decide +kernel
theorem dX8_storeMade_17 : decode cX8_storeMade 17 = .ok (.iconst 3, 1) := by decide +kernel
theorem dX8_storeMade_18 : decode cX8_storeMade 18 = .ok (.imul, 1) := by decide +kernel
theorem dX8_storeMade_19 : decode cX8_storeMade 19 = .ok (.iconst 1, 1) := by decide +kernel
theorem dX8_storeMade_20 : decode cX8_storeMade 20 = .ok (.iadd, 1) := by decide +kernel
theorem dX8_storeMade_21 : decode cX8_storeMade 21 = .ok (.aload_n 0, 1) := by decide +kernel
theorem dX8_storeMade_22 : decode cX8_storeMade 22 = .ok (.getfield 61, 3) := by decide +kernel
theorem dX8_storeMade_25 : decode cX8_storeMade 25 = .ok (.lastore, 1) := by decide +kernel
theorem dX8_storeMade_26 : decode cX8_storeMade 26 = .ok (.aload_n 2, 1) := by decide +kernel
theorem dX8_storeMade_27 : decode cX8_storeMade 27 = .ok (.getfield 11, 3) := by decide +kernel
theorem dX8_storeMade_30 : decode cX8_storeMade 30 = .ok (.iload_n 1, 1) := by decide +kernel
theorem dX8_storeMade_31 : decode cX8_storeMade 31 = .ok (.iconst 3, 1) := by decide +kernel
theorem dX8_storeMade_32 : decode cX8_storeMade 32 = .ok (.imul, 1) := by decide +kernel
theorem dX8_storeMade_33 : decode cX8_storeMade 33 = .ok (.iconst 2, 1) := by decide +kernel
theorem dX8_storeMade_34 : decode cX8_storeMade 34 = .ok (.iadd, 1) := by decide +kernel
theorem dX8_storeMade_35 : decode cX8_storeMade 35 = .ok (.aload_n 0, 1) := by decide +kernel
theorem dX8_storeMade_36 : decode cX8_storeMade 36 = .ok (.getfield 64, 3) := by decide +kernel
theorem dX8_storeMade_39 : decode cX8_storeMade 39 = .ok (.lastore, 1) := by decide +kernel
theorem dX8_storeMade_40 : decode cX8_storeMade 40 = .ok (.return_, 1) := by decide +kernel
theorem dX8_hasMade_0 : decode cX8_hasMade 0 = .ok (.aload_n 2, 1) := by decide +kernel
theorem dX8_hasMade_1 : decode cX8_hasMade 1 = .ok (.getfield 11, 3) := by decide +kernel
theorem dX8_hasMade_4 : decode cX8_hasMade 4 = .ok (.iload_n 1, 1) := by decide +kernel
theorem dX8_hasMade_5 : decode cX8_hasMade 5 = .ok (.iconst 3, 1) := by decide +kernel
theorem dX8_hasMade_6 : decode cX8_hasMade 6 = .ok (.imul, 1) := by decide +kernel
theorem dX8_hasMade_7 : decode cX8_hasMade 7 = .ok (.laload, 1) := by decide +kernel
theorem dX8_hasMade_8 : decode cX8_hasMade 8 = .ok (.aload_n 0, 1) := by decide +kernel
theorem dX8_hasMade_9 : decode cX8_hasMade 9 = .ok (.getfield 57, 3) := by decide +kernel
theorem dX8_hasMade_12 : decode cX8_hasMade 12 = .ok (.lcmp, 1) := by decide +kernel
theorem dX8_hasMade_13 : decode cX8_hasMade 13 = .ok (.ifCond .ne 43, 3) := by decide +kernel
theorem dX8_hasMade_16 : decode cX8_hasMade 16 = .ok (.aload_n 2, 1) := by decide +kernel
theorem dX8_hasMade_17 : decode cX8_hasMade 17 = .ok (.getfield 11, 3) := by decide +kernel
theorem dX8_hasMade_20 : decode cX8_hasMade 20 = .ok (.iload_n 1, 1) := by decide +kernel
theorem dX8_hasMade_21 : decode cX8_hasMade 21 = .ok (.iconst 3, 1) := by decide +kernel
theorem dX8_hasMade_22 : decode cX8_hasMade 22 = .ok (.imul, 1) := by decide +kernel
theorem dX8_hasMade_23 : decode cX8_hasMade 23 = .ok (.iconst 1, 1) := by decide +kernel
theorem dX8_hasMade_24 : decode cX8_hasMade 24 = .ok (.iadd, 1) := by decide +kernel
theorem dX8_hasMade_25 : decode cX8_hasMade 25 = .ok (.laload, 1) := by decide +kernel
theorem dX8_hasMade_26 : decode cX8_hasMade 26 = .ok (.aload_n 0, 1) := by decide +kernel
theorem dX8_hasMade_27 : decode cX8_hasMade 27 = .ok (.getfield 61, 3) := by decide +kernel
theorem dX8_hasMade_30 : decode cX8_hasMade 30 = .ok (.lcmp, 1) := by decide +kernel
theorem dX8_hasMade_31 : decode cX8_hasMade 31 = .ok (.ifCond .ne 25, 3) := by decide +kernel
theorem dX8_hasMade_34 : decode cX8_hasMade 34 = .ok (.aload_n 2, 1) := by decide +kernel
theorem dX8_hasMade_35 : decode cX8_hasMade 35 = .ok (.getfield 11, 3) := by decide +kernel
theorem dX8_hasMade_38 : decode cX8_hasMade 38 = .ok (.iload_n 1, 1) := by decide +kernel
theorem dX8_hasMade_39 : decode cX8_hasMade 39 = .ok (.iconst 3, 1) := by decide +kernel
theorem dX8_hasMade_40 : decode cX8_hasMade 40 = .ok (.imul, 1) := by decide +kernel
theorem dX8_hasMade_41 : decode cX8_hasMade 41 = .ok (.iconst 2, 1) := by decide +kernel
theorem dX8_hasMade_42 : decode cX8_hasMade 42 = .ok (.iadd, 1) := by decide +kernel
theorem dX8_hasMade_43 : decode cX8_hasMade 43 = .ok (.laload, 1) := by decide +kernel
theorem dX8_hasMade_44 : decode cX8_hasMade 44 = .ok (.aload_n 0, 1) := by decide +kernel
theorem dX8_hasMade_45 : decode cX8_hasMade 45 = .ok (.getfield 64, 3) := by decide +kernel
theorem dX8_hasMade_48 : decode cX8_hasMade 48 = .ok (.lcmp, 1) := by decide +kernel
theorem dX8_hasMade_49 : decode cX8_hasMade 49 = .ok (.ifCond .ne 7, 3) := by decide +kernel
theorem dX8_hasMade_52 : decode cX8_hasMade 52 = .ok (.iconst 1, 1) := by decide +kernel
theorem dX8_hasMade_53 : decode cX8_hasMade 53 = .ok (.goto 4, 3) := by decide +kernel
theorem dX8_hasMade_56 : decode cX8_hasMade 56 = .ok (.iconst 0, 1) := by decide +kernel
theorem dX8_hasMade_57 : decode cX8_hasMade 57 = .ok (.ireturn, 1) := by decide +kernel
theorem dX8_unlikeIn_0 : decode cX8_unlikeIn 0 = .ok (.lconst 0, 1) := by decide +kernel
theorem dX8_unlikeIn_1 : decode cX8_unlikeIn 1 = .ok (.lstore_n 3, 1) := by decide +kernel
theorem dX8_unlikeIn_2 : decode cX8_unlikeIn 2 = .ok (.iload_n 1, 1) := by decide +kernel
theorem dX8_unlikeIn_3 : decode cX8_unlikeIn 3 = .ok (.iconst 3, 1) := by decide +kernel
theorem dX8_unlikeIn_4 : decode cX8_unlikeIn 4 = .ok (.imul, 1) := by decide +kernel
theorem dX8_unlikeIn_5 : decode cX8_unlikeIn 5 = .ok (.istore 5, 2) := by decide +kernel
theorem dX8_unlikeIn_7 : decode cX8_unlikeIn 7 = .ok (.iload 5, 2) := by decide +kernel
theorem dX8_unlikeIn_9 : decode cX8_unlikeIn 9 = .ok (.iload_n 1, 1) := by decide +kernel
theorem dX8_unlikeIn_10 : decode cX8_unlikeIn 10 = .ok (.iconst 3, 1) := by decide +kernel
theorem dX8_unlikeIn_11 : decode cX8_unlikeIn 11 = .ok (.imul, 1) := by decide +kernel
theorem dX8_unlikeIn_12 : decode cX8_unlikeIn 12 = .ok (.iconst 3, 1) := by decide +kernel
theorem dX8_unlikeIn_13 : decode cX8_unlikeIn 13 = .ok (.iadd, 1) := by decide +kernel
theorem dX8_unlikeIn_14 : decode cX8_unlikeIn 14 = .ok (.if_icmp .ge 27, 3) := by decide +kernel
theorem dX8_unlikeIn_17 : decode cX8_unlikeIn 17 = .ok (.lload_n 3, 1) := by decide +kernel
theorem dX8_unlikeIn_18 : decode cX8_unlikeIn 18 = .ok (.aload_n 0, 1) := by decide +kernel
theorem dX8_unlikeIn_19 : decode cX8_unlikeIn 19 = .ok (.getfield 11, 3) := by decide +kernel
theorem dX8_unlikeIn_22 : decode cX8_unlikeIn 22 = .ok (.iload 5, 2) := by decide +kernel
theorem dX8_unlikeIn_24 : decode cX8_unlikeIn 24 = .ok (.laload, 1) := by decide +kernel
theorem dX8_unlikeIn_25 : decode cX8_unlikeIn 25 = .ok (.aload_n 2, 1) := by decide +kernel
theorem dX8_unlikeIn_26 : decode cX8_unlikeIn 26 = .ok (.getfield 11, 3) := by decide +kernel
theorem dX8_unlikeIn_29 : decode cX8_unlikeIn 29 = .ok (.iload 5, 2) := by decide +kernel
theorem dX8_unlikeIn_31 : decode cX8_unlikeIn 31 = .ok (.laload, 1) := by decide +kernel
theorem dX8_unlikeIn_32 : decode cX8_unlikeIn 32 = .ok (.lxor, 1) := by decide +kernel
theorem dX8_unlikeIn_33 : decode cX8_unlikeIn 33 = .ok (.lor, 1) := by decide +kernel
theorem dX8_unlikeIn_34 : decode cX8_unlikeIn 34 = .ok (.lstore_n 3, 1) := by decide +kernel
theorem dX8_unlikeIn_35 : decode cX8_unlikeIn 35 = .ok (.iinc 5 1, 3) := by decide +kernel
theorem dX8_unlikeIn_38 : decode cX8_unlikeIn 38 = .ok (.goto (-31), 3) := by decide +kernel
theorem dX8_unlikeIn_41 : decode cX8_unlikeIn 41 = .ok (.lload_n 3, 1) := by decide +kernel
theorem dX8_unlikeIn_42 : decode cX8_unlikeIn 42 = .ok (.lreturn, 1) := by decide +kernel
set_option maxRecDepth 20000 in
theorem ggX8_bit_X11_isNoRegister : GoodIn wsX8_bit wsX11_isNoRegister := goodIn_r _ [4] (by decide +kernel) (by decide +kernel)
set_option maxRecDepth 20000 in
theorem gX8_bit_X11_isNoRegister_n67 : GoodIn wsX8_bit (wsX11_isNoRegister) := ggX8_bit_X11_isNoRegister
set_option maxRecDepth 20000 in
theorem ggX8_bit_X11_isDigit : GoodIn wsX8_bit wsX11_isDigit := goodIn_r _ [6] (by decide +kernel) (by decide +kernel)
set_option maxRecDepth 20000 in
theorem gX8_bit_X11_isDigit_n71 : GoodIn wsX8_bit (wsX11_isDigit) := ggX8_bit_X11_isDigit
theorem dX8_bit_0 : decode cX8_bit 0 = .ok (.iload_n 1, 1) := by decide +kernel
theorem dX8_bit_1 : decode cX8_bit 1 = .ok (.invokestatic 67, 3) := by decide +kernel
theorem dX8_bit_4 : decode cX8_bit 4 = .ok (.ifCond .eq 25, 3) := by decide +kernel
theorem dX8_bit_7 : decode cX8_bit 7 = .ok (.iload_n 1, 1) := by decide +kernel
theorem dX8_bit_8 : decode cX8_bit 8 = .ok (.invokestatic 71, 3) := by decide +kernel
theorem dX8_bit_11 : decode cX8_bit 11 = .ok (.ifCond .eq 16, 3) := by decide +kernel
theorem dX8_bit_14 : decode cX8_bit 14 = .ok (.iload_n 1, 1) := by decide +kernel
theorem dX8_bit_15 : decode cX8_bit 15 = .ok (.bipush 10, 2) := by decide +kernel
theorem dX8_bit_17 : decode cX8_bit 17 = .ok (.isub, 1) := by decide +kernel
theorem dX8_bit_18 : decode cX8_bit 18 = .ok (.iload_n 2, 1) := by decide +kernel
theorem dX8_bit_19 : decode cX8_bit 19 = .ok (.ishr, 1) := by decide +kernel
theorem dX8_bit_20 : decode cX8_bit 20 = .ok (.iconst 1, 1) := by decide +kernel
theorem dX8_bit_21 : decode cX8_bit 21 = .ok (.iand, 1) := by decide +kernel
theorem dX8_bit_22 : decode cX8_bit 22 = .ok (.i2l, 1) := by decide +kernel
theorem dX8_bit_23 : decode cX8_bit 23 = .ok (.lneg, 1) := by decide +kernel
theorem dX8_bit_24 : decode cX8_bit 24 = .ok (.goto 4, 3) := by decide +kernel
theorem dX8_bit_27 : decode cX8_bit 27 = .ok (.lconst 0, 1) := by decide +kernel
theorem dX8_bit_28 : decode cX8_bit 28 = .ok (.lreturn, 1) := by decide +kernel
theorem dX8_bit_29 : decode cX8_bit 29 = .ok (.aload_n 0, 1) := by decide +kernel
theorem dX8_bit_30 : decode cX8_bit 30 = .ok (.getfield 11, 3) := by decide +kernel
theorem dX8_bit_33 : decode cX8_bit 33 = .ok (.iload_n 1, 1) := by decide +kernel
theorem dX8_bit_34 : decode cX8_bit 34 = .ok (.iconst 3, 1) := by decide +kernel
theorem dX8_bit_35 : decode cX8_bit 35 = .ok (.imul, 1) := by decide +kernel
theorem dX8_bit_36 : decode cX8_bit 36 = .ok (.iload_n 2, 1) := by decide +kernel
theorem dX8_bit_37 : decode cX8_bit 37 = .ok (.iadd, 1) := by decide +kernel
theorem dX8_bit_38 : decode cX8_bit 38 = .ok (.laload, 1) := by decide +kernel
theorem dX8_bit_39 : decode cX8_bit 39 = .ok (.lreturn, 1) := by decide +kernel
set_option maxRecDepth 20000 in
theorem ggX8_makeOf_X8_sum : GoodIn wsX8_makeOf wsX8_sum := goodIn_r _ [9, 2, 3, 4, 14, 15, 16, 17] (by decide +kernel) (by decide +kernel)
set_option maxRecDepth 20000 in
theorem gX8_makeOf_X8_sum : GoodIn wsX8_makeOf (wsV RX8 74 RX8 yX8_sum wsX8_sum) := goodIn_app (goodIn_of _ (by decide +kernel)) ggX8_makeOf_X8_sum
set_option maxRecDepth 20000 in
theorem ggX8_makeOf_X8_lesser : GoodIn wsX8_makeOf wsX8_lesser := goodIn_r _ [13, 1, 2, 3, 4, 14, 15, 16, 17] (by decide +kernel) (by decide +kernel)
set_option maxRecDepth 20000 in
theorem gX8_makeOf_X8_lesser : GoodIn wsX8_makeOf (wsV RX8 80 RX8 yX8_lesser wsX8_lesser) := goodIn_app (goodIn_of _ (by decide +kernel)) ggX8_makeOf_X8_lesser
theorem dX8_makeOf_0 : decode cX8_makeOf 0 = .ok (.iload_n 1, 1) := by decide +kernel
theorem dX8_makeOf_1 : decode cX8_makeOf 1 = .ok (.lookupswitch 169 #[(42, 95), (43, 43), (45, 62), (109, 151)], 43) := by decide +kernel
theorem dX8_makeOf_44 : decode cX8_makeOf 44 = .ok (.aload_n 0, 1) := by decide +kernel
theorem dX8_makeOf_45 : decode cX8_makeOf 45 = .ok (.lload_n 2, 1) := by decide +kernel
theorem dX8_makeOf_46 : decode cX8_makeOf 46 = .ok (.lload 4, 2) := by decide +kernel
theorem dX8_makeOf_48 : decode cX8_makeOf 48 = .ok (.lload 6, 2) := by decide +kernel
theorem dX8_makeOf_50 : decode cX8_makeOf 50 = .ok (.lload 8, 2) := by decide +kernel
theorem dX8_makeOf_52 : decode cX8_makeOf 52 = .ok (.lload 10, 2) := by decide +kernel
theorem dX8_makeOf_54 : decode cX8_makeOf 54 = .ok (.lload 12, 2) := by decide +kernel
theorem dX8_makeOf_56 : decode cX8_makeOf 56 = .ok (.lconst 0, 1) := by decide +kernel
theorem dX8_makeOf_57 : decode cX8_makeOf 57 = .ok (.invokevirtual 74, 3) := by decide +kernel
theorem dX8_makeOf_60 : decode cX8_makeOf 60 = .ok (.goto 127, 3) := by decide +kernel
theorem dX8_makeOf_63 : decode cX8_makeOf 63 = .ok (.aload_n 0, 1) := by decide +kernel
theorem dX8_makeOf_64 : decode cX8_makeOf 64 = .ok (.lload_n 2, 1) := by decide +kernel
theorem dX8_makeOf_65 : decode cX8_makeOf 65 = .ok (.lload 4, 2) := by decide +kernel
theorem dX8_makeOf_67 : decode cX8_makeOf 67 = .ok (.lload 6, 2) := by decide +kernel
theorem dX8_makeOf_69 : decode cX8_makeOf 69 = .ok (.lload 8, 2) := by decide +kernel
theorem dX8_makeOf_71 : decode cX8_makeOf 71 = .ok (.ldc2_w 78, 3) := by decide +kernel
theorem dX8_makeOf_74 : decode cX8_makeOf 74 = .ok (.lxor, 1) := by decide +kernel
theorem dX8_makeOf_75 : decode cX8_makeOf 75 = .ok (.lload 10, 2) := by decide +kernel
theorem dX8_makeOf_77 : decode cX8_makeOf 77 = .ok (.ldc2_w 78, 3) := by decide +kernel
theorem dX8_makeOf_80 : decode cX8_makeOf 80 = .ok (.lxor, 1) := by decide +kernel
theorem dX8_makeOf_81 : decode cX8_makeOf 81 = .ok (.lload 12, 2) := by decide +kernel
theorem dX8_makeOf_83 : decode cX8_makeOf 83 = .ok (.ldc2_w 78, 3) := by decide +kernel
theorem dX8_makeOf_86 : decode cX8_makeOf 86 = .ok (.lxor, 1) := by decide +kernel
theorem dX8_makeOf_87 : decode cX8_makeOf 87 = .ok (.ldc2_w 78, 3) := by decide +kernel
theorem dX8_makeOf_90 : decode cX8_makeOf 90 = .ok (.invokevirtual 74, 3) := by decide +kernel
theorem dX8_makeOf_93 : decode cX8_makeOf 93 = .ok (.goto 94, 3) := by decide +kernel
theorem dX8_makeOf_96 : decode cX8_makeOf 96 = .ok (.aload_n 0, 1) := by decide +kernel
theorem dX8_makeOf_97 : decode cX8_makeOf 97 = .ok (.lload_n 2, 1) := by decide +kernel
theorem dX8_makeOf_98 : decode cX8_makeOf 98 = .ok (.lload 8, 2) := by decide +kernel
theorem dX8_makeOf_100 : decode cX8_makeOf 100 = .ok (.land, 1) := by decide +kernel
theorem dX8_makeOf_101 : decode cX8_makeOf 101 = .ok (.putfield 57, 3) := by decide +kernel
theorem dX8_makeOf_104 : decode cX8_makeOf 104 = .ok (.aload_n 0, 1) := by decide +kernel
theorem dX8_makeOf_105 : decode cX8_makeOf 105 = .ok (.lload 4, 2) := by decide +kernel
theorem dX8_makeOf_107 : decode cX8_makeOf 107 = .ok (.lload 8, 2) := by decide +kernel
theorem dX8_makeOf_109 : decode cX8_makeOf 109 = .ok (.land, 1) := by decide +kernel
theorem dX8_makeOf_110 : decode cX8_makeOf 110 = .ok (.lload_n 2, 1) := by decide +kernel
theorem dX8_makeOf_111 : decode cX8_makeOf 111 = .ok (.lload 10, 2) := by decide +kernel
theorem dX8_makeOf_113 : decode cX8_makeOf 113 = .ok (.land, 1) := by decide +kernel
theorem dX8_makeOf_114 : decode cX8_makeOf 114 = .ok (.lxor, 1) := by decide +kernel
theorem dX8_makeOf_115 : decode cX8_makeOf 115 = .ok (.putfield 61, 3) := by decide +kernel
theorem dX8_makeOf_118 : decode cX8_makeOf 118 = .ok (.aload_n 0, 1) := by decide +kernel
theorem dX8_makeOf_119 : decode cX8_makeOf 119 = .ok (.lload 6, 2) := by decide +kernel
theorem dX8_makeOf_121 : decode cX8_makeOf 121 = .ok (.lload 8, 2) := by decide +kernel
theorem dX8_makeOf_123 : decode cX8_makeOf 123 = .ok (.land, 1) := by decide +kernel
theorem dX8_makeOf_124 : decode cX8_makeOf 124 = .ok (.lload 4, 2) := by decide +kernel
theorem dX8_makeOf_126 : decode cX8_makeOf 126 = .ok (.lload 10, 2) := by decide +kernel
theorem dX8_makeOf_128 : decode cX8_makeOf 128 = .ok (.land, 1) := by decide +kernel
theorem dX8_makeOf_129 : decode cX8_makeOf 129 = .ok (.lxor, 1) := by decide +kernel
theorem dX8_makeOf_130 : decode cX8_makeOf 130 = .ok (.lload_n 2, 1) := by decide +kernel
theorem dX8_makeOf_131 : decode cX8_makeOf 131 = .ok (.lload 12, 2) := by decide +kernel
theorem dX8_makeOf_133 : decode cX8_makeOf 133 = .ok (.land, 1) := by decide +kernel
theorem dX8_makeOf_134 : decode cX8_makeOf 134 = .ok (.lxor, 1) := by decide +kernel
theorem dX8_makeOf_135 : decode cX8_makeOf 135 = .ok (.lload 4, 2) := by decide +kernel
theorem dX8_makeOf_137 : decode cX8_makeOf 137 = .ok (.lload 8, 2) := by decide +kernel
theorem dX8_makeOf_139 : decode cX8_makeOf 139 = .ok (.land, 1) := by decide +kernel
theorem dX8_makeOf_140 : decode cX8_makeOf 140 = .ok (.lload_n 2, 1) := by decide +kernel
theorem dX8_makeOf_141 : decode cX8_makeOf 141 = .ok (.land, 1) := by decide +kernel
theorem dX8_makeOf_142 : decode cX8_makeOf 142 = .ok (.lload 10, 2) := by decide +kernel
theorem dX8_makeOf_144 : decode cX8_makeOf 144 = .ok (.land, 1) := by decide +kernel
theorem dX8_makeOf_145 : decode cX8_makeOf 145 = .ok (.lxor, 1) := by decide +kernel
theorem dX8_makeOf_146 : decode cX8_makeOf 146 = .ok (.putfield 64, 3) := by decide +kernel
theorem dX8_makeOf_149 : decode cX8_makeOf 149 = .ok (.goto 38, 3) := by decide +kernel
theorem dX8_makeOf_152 : decode cX8_makeOf 152 = .ok (.aload_n 0, 1) := by decide +kernel
theorem dX8_makeOf_153 : decode cX8_makeOf 153 = .ok (.lload_n 2, 1) := by decide +kernel
theorem dX8_makeOf_154 : decode cX8_makeOf 154 = .ok (.lload 4, 2) := by decide +kernel
theorem dX8_makeOf_156 : decode cX8_makeOf 156 = .ok (.lload 6, 2) := by decide +kernel
theorem dX8_makeOf_158 : decode cX8_makeOf 158 = .ok (.lload 8, 2) := by decide +kernel
theorem dX8_makeOf_160 : decode cX8_makeOf 160 = .ok (.lload 10, 2) := by decide +kernel
theorem dX8_makeOf_162 : decode cX8_makeOf 162 = .ok (.lload 12, 2) := by decide +kernel
theorem dX8_makeOf_164 : decode cX8_makeOf 164 = .ok (.invokevirtual 80, 3) := by decide +kernel
theorem dX8_makeOf_167 : decode cX8_makeOf 167 = .ok (.goto 20, 3) := by decide +kernel
theorem dX8_makeOf_170 : decode cX8_makeOf 170 = .ok (.aload_n 0, 1) := by decide +kernel
theorem dX8_makeOf_171 : decode cX8_makeOf 171 = .ok (.lload_n 2, 1) := by decide +kernel
theorem dX8_makeOf_172 : decode cX8_makeOf 172 = .ok (.putfield 57, 3) := by decide +kernel
theorem dX8_makeOf_175 : decode cX8_makeOf 175 = .ok (.aload_n 0, 1) := by decide +kernel
theorem dX8_makeOf_176 : decode cX8_makeOf 176 = .ok (.lload 4, 2) := by decide +kernel
theorem dX8_makeOf_178 : decode cX8_makeOf 178 = .ok (.putfield 61, 3) := by decide +kernel
theorem dX8_makeOf_181 : decode cX8_makeOf 181 = .ok (.aload_n 0, 1) := by decide +kernel
theorem dX8_makeOf_182 : decode cX8_makeOf 182 = .ok (.lload 6, 2) := by decide +kernel
theorem dX8_makeOf_184 : decode cX8_makeOf 184 = .ok (.putfield 64, 3) := by decide +kernel
theorem dX8_makeOf_187 : decode cX8_makeOf 187 = .ok (.return_, 1) := by decide +kernel
theorem dX8_sum_0 : decode cX8_sum 0 = .ok (.lload_n 1, 1) := by decide +kernel
theorem dX8_sum_1 : decode cX8_sum 1 = .ok (.lload 7, 2) := by decide +kernel
theorem dX8_sum_3 : decode cX8_sum 3 = .ok (.land, 1) := by decide +kernel
theorem dX8_sum_4 : decode cX8_sum 4 = .ok (.lload 13, 2) := by decide +kernel
theorem dX8_sum_6 : decode cX8_sum 6 = .ok (.lload_n 1, 1) := by decide +kernel
theorem dX8_sum_7 : decode cX8_sum 7 = .ok (.lload 7, 2) := by decide +kernel
theorem dX8_sum_9 : decode cX8_sum 9 = .ok (.lxor, 1) := by decide +kernel
theorem dX8_sum_10 : decode cX8_sum 10 = .ok (.land, 1) := by decide +kernel
theorem dX8_sum_11 : decode cX8_sum 11 = .ok (.lor, 1) := by decide +kernel
theorem dX8_sum_12 : decode cX8_sum 12 = .ok (.lstore 15, 2) := by decide +kernel
theorem dX8_sum_14 : decode cX8_sum 14 = .ok (.lload_n 3, 1) := by decide +kernel
theorem dX8_sum_15 : decode cX8_sum 15 = .ok (.lload 9, 2) := by decide +kernel
theorem dX8_sum_17 : decode cX8_sum 17 = .ok (.land, 1) := by decide +kernel
theorem dX8_sum_18 : decode cX8_sum 18 = .ok (.lload 15, 2) := by decide +kernel
theorem dX8_sum_20 : decode cX8_sum 20 = .ok (.lload_n 3, 1) := by decide +kernel
theorem dX8_sum_21 : decode cX8_sum 21 = .ok (.lload 9, 2) := by decide +kernel
theorem dX8_sum_23 : decode cX8_sum 23 = .ok (.lxor, 1) := by decide +kernel
theorem dX8_sum_24 : decode cX8_sum 24 = .ok (.land, 1) := by decide +kernel
theorem dX8_sum_25 : decode cX8_sum 25 = .ok (.lor, 1) := by decide +kernel
theorem dX8_sum_26 : decode cX8_sum 26 = .ok (.lstore 17, 2) := by decide +kernel
theorem dX8_sum_28 : decode cX8_sum 28 = .ok (.aload_n 0, 1) := by decide +kernel
theorem dX8_sum_29 : decode cX8_sum 29 = .ok (.lload_n 1, 1) := by decide +kernel
theorem dX8_sum_30 : decode cX8_sum 30 = .ok (.lload 7, 2) := by decide +kernel
theorem dX8_sum_32 : decode cX8_sum 32 = .ok (.lxor, 1) := by decide +kernel
theorem dX8_sum_33 : decode cX8_sum 33 = .ok (.lload 13, 2) := by decide +kernel
theorem dX8_sum_35 : decode cX8_sum 35 = .ok (.lxor, 1) := by decide +kernel
theorem dX8_sum_36 : decode cX8_sum 36 = .ok (.putfield 57, 3) := by decide +kernel
theorem dX8_sum_39 : decode cX8_sum 39 = .ok (.aload_n 0, 1) := by decide +kernel
theorem dX8_sum_40 : decode cX8_sum 40 = .ok (.lload_n 3, 1) := by decide +kernel
theorem dX8_sum_41 : decode cX8_sum 41 = .ok (.lload 9, 2) := by decide +kernel
theorem dX8_sum_43 : decode cX8_sum 43 = .ok (.lxor, 1) := by decide +kernel
theorem dX8_sum_44 : decode cX8_sum 44 = .ok (.lload 15, 2) := by decide +kernel
theorem dX8_sum_46 : decode cX8_sum 46 = .ok (.lxor, 1) := by decide +kernel
theorem dX8_sum_47 : decode cX8_sum 47 = .ok (.putfield 61, 3) := by decide +kernel
theorem dX8_sum_50 : decode cX8_sum 50 = .ok (.aload_n 0, 1) := by decide +kernel
theorem dX8_sum_51 : decode cX8_sum 51 = .ok (.lload 5, 2) := by decide +kernel
theorem dX8_sum_53 : decode cX8_sum 53 = .ok (.lload 11, 2) := by decide +kernel
theorem dX8_sum_55 : decode cX8_sum 55 = .ok (.lxor, 1) := by decide +kernel
theorem dX8_sum_56 : decode cX8_sum 56 = .ok (.lload 17, 2) := by decide +kernel
theorem dX8_sum_58 : decode cX8_sum 58 = .ok (.lxor, 1) := by decide +kernel
theorem dX8_sum_59 : decode cX8_sum 59 = .ok (.putfield 64, 3) := by decide +kernel
theorem dX8_sum_62 : decode cX8_sum 62 = .ok (.return_, 1) := by decide +kernel
theorem dX8_lesser_0 : decode cX8_lesser 0 = .ok (.lload_n 1, 1) := by decide +kernel
theorem dX8_lesser_1 : decode cX8_lesser 1 = .ok (.ldc2_w 78, 3) := by decide +kernel
theorem dX8_lesser_4 : decode cX8_lesser 4 = .ok (.lxor, 1) := by decide +kernel
theorem dX8_lesser_5 : decode cX8_lesser 5 = .ok (.lload 7, 2) := by decide +kernel
theorem dX8_lesser_7 : decode cX8_lesser 7 = .ok (.land, 1) := by decide +kernel
theorem dX8_lesser_8 : decode cX8_lesser 8 = .ok (.lstore 13, 2) := by decide +kernel
theorem dX8_lesser_10 : decode cX8_lesser 10 = .ok (.lload_n 3, 1) := by decide +kernel
theorem dX8_lesser_11 : decode cX8_lesser 11 = .ok (.ldc2_w 78, 3) := by decide +kernel
theorem dX8_lesser_14 : decode cX8_lesser 14 = .ok (.lxor, 1) := by decide +kernel
theorem dX8_lesser_15 : decode cX8_lesser 15 = .ok (.lload 9, 2) := by decide +kernel
theorem dX8_lesser_17 : decode cX8_lesser 17 = .ok (.land, 1) := by decide +kernel
theorem dX8_lesser_18 : decode cX8_lesser 18 = .ok (.lload_n 3, 1) := by decide +kernel
theorem dX8_lesser_19 : decode cX8_lesser 19 = .ok (.lload 9, 2) := by decide +kernel
theorem dX8_lesser_21 : decode cX8_lesser 21 = .ok (.lxor, 1) := by decide +kernel
theorem dX8_lesser_22 : decode cX8_lesser 22 = .ok (.ldc2_w 78, 3) := by decide +kernel
theorem dX8_lesser_25 : decode cX8_lesser 25 = .ok (.lxor, 1) := by decide +kernel
theorem dX8_lesser_26 : decode cX8_lesser 26 = .ok (.lload 13, 2) := by decide +kernel
theorem dX8_lesser_28 : decode cX8_lesser 28 = .ok (.land, 1) := by decide +kernel
theorem dX8_lesser_29 : decode cX8_lesser 29 = .ok (.lor, 1) := by decide +kernel
theorem dX8_lesser_30 : decode cX8_lesser 30 = .ok (.lstore 15, 2) := by decide +kernel
theorem dX8_lesser_32 : decode cX8_lesser 32 = .ok (.lload 5, 2) := by decide +kernel
theorem dX8_lesser_34 : decode cX8_lesser 34 = .ok (.ldc2_w 78, 3) := by decide +kernel
theorem dX8_lesser_37 : decode cX8_lesser 37 = .ok (.lxor, 1) := by decide +kernel
theorem dX8_lesser_38 : decode cX8_lesser 38 = .ok (.lload 11, 2) := by decide +kernel
theorem dX8_lesser_40 : decode cX8_lesser 40 = .ok (.land, 1) := by decide +kernel
theorem dX8_lesser_41 : decode cX8_lesser 41 = .ok (.lload 5, 2) := by decide +kernel
theorem dX8_lesser_43 : decode cX8_lesser 43 = .ok (.lload 11, 2) := by decide +kernel
theorem dX8_lesser_45 : decode cX8_lesser 45 = .ok (.lxor, 1) := by decide +kernel
theorem dX8_lesser_46 : decode cX8_lesser 46 = .ok (.ldc2_w 78, 3) := by decide +kernel
theorem dX8_lesser_49 : decode cX8_lesser 49 = .ok (.lxor, 1) := by decide +kernel
theorem dX8_lesser_50 : decode cX8_lesser 50 = .ok (.lload 15, 2) := by decide +kernel
theorem dX8_lesser_52 : decode cX8_lesser 52 = .ok (.land, 1) := by decide +kernel
theorem dX8_lesser_53 : decode cX8_lesser 53 = .ok (.lor, 1) := by decide +kernel
theorem dX8_lesser_54 : decode cX8_lesser 54 = .ok (.lstore 17, 2) := by decide +kernel
theorem dX8_lesser_56 : decode cX8_lesser 56 = .ok (.aload_n 0, 1) := by decide +kernel
theorem dX8_lesser_57 : decode cX8_lesser 57 = .ok (.lload_n 1, 1) := by decide +kernel
theorem dX8_lesser_58 : decode cX8_lesser 58 = .ok (.lload 17, 2) := by decide +kernel
theorem dX8_lesser_60 : decode cX8_lesser 60 = .ok (.land, 1) := by decide +kernel
theorem dX8_lesser_61 : decode cX8_lesser 61 = .ok (.lload 7, 2) := by decide +kernel
theorem dX8_lesser_63 : decode cX8_lesser 63 = .ok (.lload 17, 2) := by decide +kernel
theorem dX8_lesser_65 : decode cX8_lesser 65 = .ok (.ldc2_w 78, 3) := by decide +kernel
theorem dX8_lesser_68 : decode cX8_lesser 68 = .ok (.lxor, 1) := by decide +kernel
theorem dX8_lesser_69 : decode cX8_lesser 69 = .ok (.land, 1) := by decide +kernel
theorem dX8_lesser_70 : decode cX8_lesser 70 = .ok (.lor, 1) := by decide +kernel
theorem dX8_lesser_71 : decode cX8_lesser 71 = .ok (.putfield 57, 3) := by decide +kernel
theorem dX8_lesser_74 : decode cX8_lesser 74 = .ok (.aload_n 0, 1) := by decide +kernel
theorem dX8_lesser_75 : decode cX8_lesser 75 = .ok (.lload_n 3, 1) := by decide +kernel
theorem dX8_lesser_76 : decode cX8_lesser 76 = .ok (.lload 17, 2) := by decide +kernel
theorem dX8_lesser_78 : decode cX8_lesser 78 = .ok (.land, 1) := by decide +kernel
theorem dX8_lesser_79 : decode cX8_lesser 79 = .ok (.lload 9, 2) := by decide +kernel
theorem dX8_lesser_81 : decode cX8_lesser 81 = .ok (.lload 17, 2) := by decide +kernel
theorem dX8_lesser_83 : decode cX8_lesser 83 = .ok (.ldc2_w 78, 3) := by decide +kernel
theorem dX8_lesser_86 : decode cX8_lesser 86 = .ok (.lxor, 1) := by decide +kernel
theorem dX8_lesser_87 : decode cX8_lesser 87 = .ok (.land, 1) := by decide +kernel
theorem dX8_lesser_88 : decode cX8_lesser 88 = .ok (.lor, 1) := by decide +kernel
theorem dX8_lesser_89 : decode cX8_lesser 89 = .ok (.putfield 61, 3) := by decide +kernel
theorem dX8_lesser_92 : decode cX8_lesser 92 = .ok (.aload_n 0, 1) := by decide +kernel
theorem dX8_lesser_93 : decode cX8_lesser 93 = .ok (.lload 5, 2) := by decide +kernel
theorem dX8_lesser_95 : decode cX8_lesser 95 = .ok (.lload 17, 2) := by decide +kernel
theorem dX8_lesser_97 : decode cX8_lesser 97 = .ok (.land, 1) := by decide +kernel
theorem dX8_lesser_98 : decode cX8_lesser 98 = .ok (.lload 11, 2) := by decide +kernel
theorem dX8_lesser_100 : decode cX8_lesser 100 = .ok (.lload 17, 2) := by decide +kernel
theorem dX8_lesser_102 : decode cX8_lesser 102 = .ok (.ldc2_w 78, 3) := by decide +kernel
theorem dX8_lesser_105 : decode cX8_lesser 105 = .ok (.lxor, 1) := by decide +kernel
theorem dX8_lesser_106 : decode cX8_lesser 106 = .ok (.land, 1) := by decide +kernel
theorem dX8_lesser_107 : decode cX8_lesser 107 = .ok (.lor, 1) := by decide +kernel
theorem dX8_lesser_108 : decode cX8_lesser 108 = .ok (.putfield 64, 3) := by decide +kernel
theorem dX8_lesser_111 : decode cX8_lesser 111 = .ok (.return_, 1) := by decide +kernel
set_option maxRecDepth 20000 in
theorem ggX9_init_X1_init : GoodIn wsX9_init wsX1_init := goodIn_r _ [12, 13, 2, 3, 9, 14, 15, 16] (by decide +kernel) (by decide +kernel)
set_option maxRecDepth 20000 in
theorem gX9_init_X1_init_n11 : GoodIn wsX9_init (wsX1_init) := ggX9_init_X1_init
theorem dX9_init_0 : decode cX9_init 0 = .ok (.aload_n 0, 1) := by decide +kernel
theorem dX9_init_1 : decode cX9_init 1 = .ok (.invokespecial 3, 3) := by decide +kernel
theorem dX9_init_4 : decode cX9_init 4 = .ok (.aload_n 0, 1) := by decide +kernel
theorem dX9_init_5 : decode cX9_init 5 = .ok (.new 9, 3) := by decide +kernel
theorem dX9_init_8 : decode cX9_init 8 = .ok (.dup, 1) := by decide +kernel
theorem dX9_init_9 : decode cX9_init 9 = .ok (.invokespecial 11, 3) := by decide +kernel
theorem dX9_init_12 : decode cX9_init 12 = .ok (.putfield 12, 3) := by decide +kernel
theorem dX9_init_15 : decode cX9_init 15 = .ok (.aload_n 0, 1) := by decide +kernel
theorem dX9_init_16 : decode cX9_init 16 = .ok (.new 9, 3) := by decide +kernel
theorem dX9_init_19 : decode cX9_init 19 = .ok (.dup, 1) := by decide +kernel
theorem dX9_init_20 : decode cX9_init 20 = .ok (.invokespecial 11, 3) := by decide +kernel
theorem dX9_init_23 : decode cX9_init 23 = .ok (.putfield 18, 3) := by decide +kernel
theorem dX9_init_26 : decode cX9_init 26 = .ok (.aload_n 0, 1) := by decide +kernel
theorem dX9_init_27 : decode cX9_init 27 = .ok (.iconst 4, 1) := by decide +kernel
theorem dX9_init_28 : decode cX9_init 28 = .ok (.newarray .int, 2) := by decide +kernel
theorem dX9_init_30 : decode cX9_init 30 = .ok (.putfield 21, 3) := by decide +kernel
theorem dX9_init_33 : decode cX9_init 33 = .ok (.return_, 1) := by decide +kernel
set_option maxRecDepth 20000 in
theorem ggX9_copySides_X1_copyFrom : GoodIn wsX9_copySides wsX1_copyFrom := goodIn_r _ [7, 8, 9, 10, 11, 12, 13, 18, 19] (by decide +kernel) (by decide +kernel)
set_option maxRecDepth 20000 in
theorem gX9_copySides_X1_copyFrom : GoodIn wsX9_copySides (wsV RX9 25 RX1 yX1_copyFrom wsX1_copyFrom) := goodIn_app (goodIn_of _ (by decide +kernel)) ggX9_copySides_X1_copyFrom
theorem dX9_copySides_0 : decode cX9_copySides 0 = .ok (.aload_n 0, 1) := by decide +kernel
theorem dX9_copySides_1 : decode cX9_copySides 1 = .ok (.getfield 12, 3) := by decide +kernel
theorem dX9_copySides_4 : decode cX9_copySides 4 = .ok (.aload_n 1, 1) := by decide +kernel
theorem dX9_copySides_5 : decode cX9_copySides 5 = .ok (.invokevirtual 25, 3) := by decide +kernel
theorem dX9_copySides_8 : decode cX9_copySides 8 = .ok (.aload_n 0, 1) := by decide +kernel
theorem dX9_copySides_9 : decode cX9_copySides 9 = .ok (.getfield 18, 3) := by decide +kernel
theorem dX9_copySides_12 : decode cX9_copySides 12 = .ok (.aload_n 2, 1) := by decide +kernel
theorem dX9_copySides_13 : decode cX9_copySides 13 = .ok (.invokevirtual 25, 3) := by decide +kernel
theorem dX9_copySides_16 : decode cX9_copySides 16 = .ok (.return_, 1) := by decide +kernel
theorem dX9_countAfter_0 : decode cX9_countAfter 0 = .ok (.aload_n 1, 1) := by decide +kernel
theorem dX9_countAfter_1 : decode cX9_countAfter 1 = .ok (.getfield 29, 3) := by decide +kernel
theorem dX9_countAfter_4 : decode cX9_countAfter 4 = .ok (.aload_n 0, 1) := by decide +kernel
theorem dX9_countAfter_5 : decode cX9_countAfter 5 = .ok (.getfield 12, 3) := by decide +kernel
theorem dX9_countAfter_8 : decode cX9_countAfter 8 = .ok (.getfield 29, 3) := by decide +kernel
theorem dX9_countAfter_11 : decode cX9_countAfter 11 = .ok (.isub, 1) := by decide +kernel
theorem dX9_countAfter_12 : decode cX9_countAfter 12 = .ok (.aload_n 0, 1) := by decide +kernel
theorem dX9_countAfter_13 : decode cX9_countAfter 13 = .ok (.getfield 18, 3) := by decide +kernel
theorem dX9_countAfter_16 : decode cX9_countAfter 16 = .ok (.getfield 29, 3) := by decide +kernel
theorem dX9_countAfter_19 : decode cX9_countAfter 19 = .ok (.iadd, 1) := by decide +kernel
theorem dX9_countAfter_20 : decode cX9_countAfter 20 = .ok (.ireturn, 1) := by decide +kernel
set_option maxRecDepth 20000 in
theorem ggX9_firstFit_X9_fitsAt : GoodIn wsX9_firstFit wsX9_fitsAt := goodIn_r _ [6, 7, 8, 1, 9, 10, 11, 12, 13, 14, 15, 16, 17, 18, 19, 20, 21, 22, 5, 23, 24, 25, 26, 27, 28, 29, 30, 31, 32, 33, 34, 35, 36] (by decide +kernel) (by decide +kernel)
set_option maxRecDepth 20000 in
theorem gX9_firstFit_X9_fitsAt : GoodIn wsX9_firstFit (wsV RX9 33 RX9 yX9_fitsAt wsX9_fitsAt) := goodIn_app (goodIn_of _ (by decide +kernel)) ggX9_firstFit_X9_fitsAt
theorem dX9_firstFit_0 : decode cX9_firstFit 0 = .ok (.iconst 0, 1) := by decide +kernel
theorem dX9_firstFit_1 : decode cX9_firstFit 1 = .ok (.istore_n 2, 1) := by decide +kernel
theorem dX9_firstFit_2 : decode cX9_firstFit 2 = .ok (.iload_n 2, 1) := by decide +kernel
theorem dX9_firstFit_3 : decode cX9_firstFit 3 = .ok (.aload_n 0, 1) := by decide +kernel
theorem dX9_firstFit_4 : decode cX9_firstFit 4 = .ok (.getfield 12, 3) := by decide +kernel
theorem dX9_firstFit_7 : decode cX9_firstFit 7 = .ok (.getfield 29, 3) := by decide +kernel
theorem dX9_firstFit_10 : decode cX9_firstFit 10 = .ok (.iadd, 1) := by decide +kernel
theorem dX9_firstFit_11 : decode cX9_firstFit 11 = .ok (.aload_n 1, 1) := by decide +kernel
theorem dX9_firstFit_12 : decode cX9_firstFit 12 = .ok (.getfield 29, 3) := by decide +kernel
theorem dX9_firstFit_15 : decode cX9_firstFit 15 = .ok (.if_icmp .gt 20, 3) := by decide +kernel
theorem dX9_firstFit_18 : decode cX9_firstFit 18 = .ok (.aload_n 0, 1) := by decide +kernel
theorem dX9_firstFit_19 : decode cX9_firstFit 19 = .ok (.aload_n 1, 1) := by decide +kernel
theorem dX9_firstFit_20 : decode cX9_firstFit 20 = .ok (.iload_n 2, 1) := by decide +kernel
theorem dX9_firstFit_21 : decode cX9_firstFit 21 = .ok (.invokevirtual 33, 3) := by decide +kernel
theorem dX9_firstFit_24 : decode cX9_firstFit 24 = .ok (.ifCond .eq 5, 3) := by decide +kernel
theorem dX9_firstFit_27 : decode cX9_firstFit 27 = .ok (.iload_n 2, 1) := by decide +kernel
theorem dX9_firstFit_28 : decode cX9_firstFit 28 = .ok (.ireturn, 1) := by decide +kernel
theorem dX9_firstFit_29 : decode cX9_firstFit 29 = .ok (.iinc 2 1, 3) := by decide +kernel
theorem dX9_firstFit_32 : decode cX9_firstFit 32 = .ok (.goto (-30), 3) := by decide +kernel
theorem dX9_firstFit_35 : decode cX9_firstFit 35 = .ok (.bipush (-6), 2) := by decide +kernel
theorem dX9_firstFit_37 : decode cX9_firstFit 37 = .ok (.ireturn, 1) := by decide +kernel
set_option maxRecDepth 20000 in
theorem ggX9_fitsAt_J7_fill_53178 : GoodIn wsX9_fitsAt wsJ7_fill_53178 := goodIn_r _ [7] (by decide +kernel) (by decide +kernel)
set_option maxRecDepth 20000 in
theorem gX9_fitsAt_J7_fill_53178 : GoodIn wsX9_fitsAt (va_wsS RX9 37 yJ7_fill_53178 wsJ7_fill_53178) := goodIn_app (goodIn_of _ (by decide +kernel)) ggX9_fitsAt_J7_fill_53178
set_option maxRecDepth 20000 in
theorem ggX9_fitsAt_X1_part : GoodIn wsX9_fitsAt wsX1_part := goodIn_r _ [12, 13, 14, 31, 32] (by decide +kernel) (by decide +kernel)
set_option maxRecDepth 20000 in
theorem gX9_fitsAt_X1_part : GoodIn wsX9_fitsAt (wsV RX9 46 RX1 yX1_part wsX1_part) := goodIn_app (goodIn_of _ (by decide +kernel)) ggX9_fitsAt_X1_part
set_option maxRecDepth 20000 in
theorem ggX9_fitsAt_X9_mayBeCalled : GoodIn wsX9_fitsAt wsX9_mayBeCalled := goodIn_r _ [19, 1, 2, 20, 21, 22, 23, 24, 25, 18, 26, 27, 28, 29, 30] (by decide +kernel) (by decide +kernel)
set_option maxRecDepth 20000 in
theorem gX9_fitsAt_X9_mayBeCalled : GoodIn wsX9_fitsAt (wsV RX9 50 RX9 yX9_mayBeCalled wsX9_mayBeCalled) := goodIn_app (goodIn_of _ (by decide +kernel)) ggX9_fitsAt_X9_mayBeCalled
theorem dX9_fitsAt_0 : decode cX9_fitsAt 0 = .ok (.aload_n 0, 1) := by decide +kernel
theorem dX9_fitsAt_1 : decode cX9_fitsAt 1 = .ok (.getfield 21, 3) := by decide +kernel
theorem dX9_fitsAt_4 : decode cX9_fitsAt 4 = .ok (.bipush (-6), 2) := by decide +kernel
theorem dX9_fitsAt_6 : decode cX9_fitsAt 6 = .ok (.invokestatic 37, 3) := by decide +kernel
theorem dX9_fitsAt_9 : decode cX9_fitsAt 9 = .ok (.aload_n 0, 1) := by decide +kernel
theorem dX9_fitsAt_10 : decode cX9_fitsAt 10 = .ok (.iconst 0, 1) := by decide +kernel
theorem dX9_fitsAt_11 : decode cX9_fitsAt 11 = .ok (.putfield 43, 3) := by decide +kernel
theorem dX9_fitsAt_14 : decode cX9_fitsAt 14 = .ok (.iconst 0, 1) := by decide +kernel
theorem dX9_fitsAt_15 : decode cX9_fitsAt 15 = .ok (.istore_n 3, 1) := by decide +kernel
theorem dX9_fitsAt_16 : decode cX9_fitsAt 16 = .ok (.iload_n 3, 1) := by decide +kernel
theorem dX9_fitsAt_17 : decode cX9_fitsAt 17 = .ok (.aload_n 0, 1) := by decide +kernel
theorem dX9_fitsAt_18 : decode cX9_fitsAt 18 = .ok (.getfield 12, 3) := by decide +kernel
theorem dX9_fitsAt_21 : decode cX9_fitsAt 21 = .ok (.getfield 29, 3) := by decide +kernel
theorem dX9_fitsAt_24 : decode cX9_fitsAt 24 = .ok (.if_icmp .ge 85, 3) := by decide +kernel
theorem dX9_fitsAt_27 : decode cX9_fitsAt 27 = .ok (.iconst 0, 1) := by decide +kernel
theorem dX9_fitsAt_28 : decode cX9_fitsAt 28 = .ok (.istore 4, 2) := by decide +kernel
theorem dX9_fitsAt_30 : decode cX9_fitsAt 30 = .ok (.iload 4, 2) := by decide +kernel
theorem dX9_fitsAt_32 : decode cX9_fitsAt 32 = .ok (.iconst 3, 1) := by decide +kernel
theorem dX9_fitsAt_33 : decode cX9_fitsAt 33 = .ok (.if_icmp .gt 70, 3) := by decide +kernel
theorem dX9_fitsAt_36 : decode cX9_fitsAt 36 = .ok (.aload_n 0, 1) := by decide +kernel
theorem dX9_fitsAt_37 : decode cX9_fitsAt 37 = .ok (.getfield 12, 3) := by decide +kernel
theorem dX9_fitsAt_40 : decode cX9_fitsAt 40 = .ok (.iload_n 3, 1) := by decide +kernel
theorem dX9_fitsAt_41 : decode cX9_fitsAt 41 = .ok (.iload 4, 2) := by decide +kernel
theorem dX9_fitsAt_43 : decode cX9_fitsAt 43 = .ok (.invokevirtual 46, 3) := by decide +kernel
theorem dX9_fitsAt_46 : decode cX9_fitsAt 46 = .ok (.istore 5, 2) := by decide +kernel
theorem dX9_fitsAt_48 : decode cX9_fitsAt 48 = .ok (.aload_n 1, 1) := by decide +kernel
theorem dX9_fitsAt_49 : decode cX9_fitsAt 49 = .ok (.iload_n 2, 1) := by decide +kernel
theorem dX9_fitsAt_50 : decode cX9_fitsAt 50 = .ok (.iload_n 3, 1) := by decide +kernel
theorem dX9_fitsAt_51 : decode cX9_fitsAt 51 = .ok (.iadd, 1) := by decide +kernel
theorem dX9_fitsAt_52 : decode cX9_fitsAt 52 = .ok (.iload 4, 2) := by decide +kernel
theorem dX9_fitsAt_54 : decode cX9_fitsAt 54 = .ok (.invokevirtual 46, 3) := by decide +kernel
theorem dX9_fitsAt_57 : decode cX9_fitsAt 57 = .ok (.istore 6, 2) := by decide +kernel
theorem dX9_fitsAt_59 : decode cX9_fitsAt 59 = .ok (.iload 4, 2) := by decide +kernel
theorem dX9_fitsAt_61 : decode cX9_fitsAt 61 = .ok (.iconst 1, 1) := by decide +kernel
theorem dX9_fitsAt_62 : decode cX9_fitsAt 62 = .ok (.if_icmp .ne 18, 3) := by decide +kernel
theorem dX9_fitsAt_65 : decode cX9_fitsAt 65 = .ok (.iload 5, 2) := by decide +kernel
theorem dX9_fitsAt_67 : decode cX9_fitsAt 67 = .ok (.iload 6, 2) := by decide +kernel
theorem dX9_fitsAt_69 : decode cX9_fitsAt 69 = .ok (.if_icmp .ne 7, 3) := by decide +kernel
theorem dX9_fitsAt_72 : decode cX9_fitsAt 72 = .ok (.iconst 1, 1) := by decide +kernel
theorem dX9_fitsAt_73 : decode cX9_fitsAt 73 = .ok (.goto 15, 3) := by decide +kernel
theorem dX9_fitsAt_76 : decode cX9_fitsAt 76 = .ok (.iconst 0, 1) := by decide +kernel
theorem dX9_fitsAt_77 : decode cX9_fitsAt 77 = .ok (.goto 11, 3) := by decide +kernel
theorem dX9_fitsAt_80 : decode cX9_fitsAt 80 = .ok (.aload_n 0, 1) := by decide +kernel
theorem dX9_fitsAt_81 : decode cX9_fitsAt 81 = .ok (.iload 5, 2) := by decide +kernel
theorem dX9_fitsAt_83 : decode cX9_fitsAt 83 = .ok (.iload 6, 2) := by decide +kernel
theorem dX9_fitsAt_85 : decode cX9_fitsAt 85 = .ok (.invokevirtual 50, 3) := by decide +kernel
theorem dX9_fitsAt_88 : decode cX9_fitsAt 88 = .ok (.istore 7, 2) := by decide +kernel
theorem dX9_fitsAt_90 : decode cX9_fitsAt 90 = .ok (.iload 7, 2) := by decide +kernel
theorem dX9_fitsAt_92 : decode cX9_fitsAt 92 = .ok (.ifCond .ne 5, 3) := by decide +kernel
theorem dX9_fitsAt_95 : decode cX9_fitsAt 95 = .ok (.iconst 0, 1) := by decide +kernel
theorem dX9_fitsAt_96 : decode cX9_fitsAt 96 = .ok (.ireturn, 1) := by decide +kernel
theorem dX9_fitsAt_97 : decode cX9_fitsAt 97 = .ok (.iinc 4 1, 3) := by decide +kernel
theorem dX9_fitsAt_100 : decode cX9_fitsAt 100 = .ok (.goto (-70), 3) := by decide +kernel
theorem dX9_fitsAt_103 : decode cX9_fitsAt 103 = .ok (.iinc 3 1, 3) := by decide +kernel
theorem dX9_fitsAt_106 : decode cX9_fitsAt 106 = .ok (.goto (-90), 3) := by decide +kernel
theorem dX9_fitsAt_109 : decode cX9_fitsAt 109 = .ok (.iconst 1, 1) := by decide +kernel
theorem dX9_fitsAt_110 : decode cX9_fitsAt 110 = .ok (.ireturn, 1) := by decide +kernel
set_option maxRecDepth 20000 in
theorem ggX9_mayBeCalled_X11_isNoRegister : GoodIn wsX9_mayBeCalled wsX11_isNoRegister := goodIn_r _ [5] (by decide +kernel) (by decide +kernel)
set_option maxRecDepth 20000 in
theorem gX9_mayBeCalled_X11_isNoRegister_n54 : GoodIn wsX9_mayBeCalled (wsX11_isNoRegister) := ggX9_mayBeCalled_X11_isNoRegister
set_option maxRecDepth 20000 in
theorem ggX9_mayBeCalled_X9_giveName : GoodIn wsX9_mayBeCalled wsX9_giveName := goodIn_r _ [10, 1, 2, 11, 12, 13, 14] (by decide +kernel) (by decide +kernel)
set_option maxRecDepth 20000 in
theorem gX9_mayBeCalled_X9_giveName : GoodIn wsX9_mayBeCalled (wsV RX9 58 RX9 yX9_giveName wsX9_giveName) := goodIn_app (goodIn_of _ (by decide +kernel)) ggX9_mayBeCalled_X9_giveName
theorem dX9_mayBeCalled_0 : decode cX9_mayBeCalled 0 = .ok (.iload_n 1, 1) := by decide +kernel
theorem dX9_mayBeCalled_1 : decode cX9_mayBeCalled 1 = .ok (.invokestatic 54, 3) := by decide +kernel
theorem dX9_mayBeCalled_4 : decode cX9_mayBeCalled 4 = .ok (.ifCond .eq 14, 3) := by decide +kernel
theorem dX9_mayBeCalled_7 : decode cX9_mayBeCalled 7 = .ok (.iload_n 1, 1) := by decide +kernel
theorem dX9_mayBeCalled_8 : decode cX9_mayBeCalled 8 = .ok (.iload_n 2, 1) := by decide +kernel
theorem dX9_mayBeCalled_9 : decode cX9_mayBeCalled 9 = .ok (.if_icmp .ne 7, 3) := by decide +kernel
theorem dX9_mayBeCalled_12 : decode cX9_mayBeCalled 12 = .ok (.iconst 1, 1) := by decide +kernel
theorem dX9_mayBeCalled_13 : decode cX9_mayBeCalled 13 = .ok (.goto 4, 3) := by decide +kernel
theorem dX9_mayBeCalled_16 : decode cX9_mayBeCalled 16 = .ok (.iconst 0, 1) := by decide +kernel
theorem dX9_mayBeCalled_17 : decode cX9_mayBeCalled 17 = .ok (.ireturn, 1) := by decide +kernel
theorem dX9_mayBeCalled_18 : decode cX9_mayBeCalled 18 = .ok (.iload_n 2, 1) := by decide +kernel
theorem dX9_mayBeCalled_19 : decode cX9_mayBeCalled 19 = .ok (.invokestatic 54, 3) := by decide +kernel
theorem dX9_mayBeCalled_22 : decode cX9_mayBeCalled 22 = .ok (.ifCond .eq 5, 3) := by decide +kernel
theorem dX9_mayBeCalled_25 : decode cX9_mayBeCalled 25 = .ok (.iconst 0, 1) := by decide +kernel
theorem dX9_mayBeCalled_26 : decode cX9_mayBeCalled 26 = .ok (.ireturn, 1) := by decide +kernel
theorem dX9_mayBeCalled_27 : decode cX9_mayBeCalled 27 = .ok (.aload_n 0, 1) := by decide +kernel
theorem dX9_mayBeCalled_28 : decode cX9_mayBeCalled 28 = .ok (.getfield 21, 3) := by decide +kernel
theorem dX9_mayBeCalled_31 : decode cX9_mayBeCalled 31 = .ok (.iload_n 1, 1) := by decide +kernel
theorem dX9_mayBeCalled_32 : decode cX9_mayBeCalled 32 = .ok (.iaload, 1) := by decide +kernel
theorem dX9_mayBeCalled_33 : decode cX9_mayBeCalled 33 = .ok (.bipush (-6), 2) := by decide +kernel
theorem dX9_mayBeCalled_35 : decode cX9_mayBeCalled 35 = .ok (.if_icmp .ne 20, 3) := by decide +kernel
theorem dX9_mayBeCalled_38 : decode cX9_mayBeCalled 38 = .ok (.aload_n 0, 1) := by decide +kernel
theorem dX9_mayBeCalled_39 : decode cX9_mayBeCalled 39 = .ok (.getfield 43, 3) := by decide +kernel
theorem dX9_mayBeCalled_42 : decode cX9_mayBeCalled 42 = .ok (.iload_n 2, 1) := by decide +kernel
theorem dX9_mayBeCalled_43 : decode cX9_mayBeCalled 43 = .ok (.ishr, 1) := by decide +kernel
theorem dX9_mayBeCalled_44 : decode cX9_mayBeCalled 44 = .ok (.iconst 1, 1) := by decide +kernel
theorem dX9_mayBeCalled_45 : decode cX9_mayBeCalled 45 = .ok (.iand, 1) := by decide +kernel
theorem dX9_mayBeCalled_46 : decode cX9_mayBeCalled 46 = .ok (.ifCond .ne 9, 3) := by decide +kernel
theorem dX9_mayBeCalled_49 : decode cX9_mayBeCalled 49 = .ok (.aload_n 0, 1) := by decide +kernel
theorem dX9_mayBeCalled_50 : decode cX9_mayBeCalled 50 = .ok (.iload_n 1, 1) := by decide +kernel
theorem dX9_mayBeCalled_51 : decode cX9_mayBeCalled 51 = .ok (.iload_n 2, 1) := by decide +kernel
theorem dX9_mayBeCalled_52 : decode cX9_mayBeCalled 52 = .ok (.invokevirtual 58, 3) := by decide +kernel
theorem dX9_mayBeCalled_55 : decode cX9_mayBeCalled 55 = .ok (.aload_n 0, 1) := by decide +kernel
theorem dX9_mayBeCalled_56 : decode cX9_mayBeCalled 56 = .ok (.getfield 21, 3) := by decide +kernel
theorem dX9_mayBeCalled_59 : decode cX9_mayBeCalled 59 = .ok (.iload_n 1, 1) := by decide +kernel
theorem dX9_mayBeCalled_60 : decode cX9_mayBeCalled 60 = .ok (.iaload, 1) := by decide +kernel
theorem dX9_mayBeCalled_61 : decode cX9_mayBeCalled 61 = .ok (.iload_n 2, 1) := by decide +kernel
theorem dX9_mayBeCalled_62 : decode cX9_mayBeCalled 62 = .ok (.if_icmp .ne 7, 3) := by decide +kernel
theorem dX9_mayBeCalled_65 : decode cX9_mayBeCalled 65 = .ok (.iconst 1, 1) := by decide +kernel
theorem dX9_mayBeCalled_66 : decode cX9_mayBeCalled 66 = .ok (.goto 4, 3) := by decide +kernel
theorem dX9_mayBeCalled_69 : decode cX9_mayBeCalled 69 = .ok (.iconst 0, 1) := by decide +kernel
theorem dX9_mayBeCalled_70 : decode cX9_mayBeCalled 70 = .ok (.ireturn, 1) := by decide +kernel
theorem dX9_giveName_0 : decode cX9_giveName 0 = .ok (.aload_n 0, 1) := by decide +kernel
theorem dX9_giveName_1 : decode cX9_giveName 1 = .ok (.getfield 21, 3) := by decide +kernel
theorem dX9_giveName_4 : decode cX9_giveName 4 = .ok (.iload_n 1, 1) := by decide +kernel
theorem dX9_giveName_5 : decode cX9_giveName 5 = .ok (.iload_n 2, 1) := by decide +kernel
theorem dX9_giveName_6 : decode cX9_giveName 6 = .ok (.iastore, 1) := by decide +kernel
theorem dX9_giveName_7 : decode cX9_giveName 7 = .ok (.aload_n 0, 1) := by decide +kernel
theorem dX9_giveName_8 : decode cX9_giveName 8 = .ok (.dup, 1) := by decide +kernel
theorem dX9_giveName_9 : decode cX9_giveName 9 = .ok (.getfield 43, 3) := by decide +kernel
theorem dX9_giveName_12 : decode cX9_giveName 12 = .ok (.iconst 1, 1) := by decide +kernel
theorem dX9_giveName_13 : decode cX9_giveName 13 = .ok (.iload_n 2, 1) := by decide +kernel
theorem dX9_giveName_14 : decode cX9_giveName 14 = .ok (.ishl, 1) := by decide +kernel
theorem dX9_giveName_15 : decode cX9_giveName 15 = .ok (.ior, 1) := by decide +kernel
theorem dX9_giveName_16 : decode cX9_giveName 16 = .ok (.putfield 43, 3) := by decide +kernel
theorem dX9_giveName_19 : decode cX9_giveName 19 = .ok (.return_, 1) := by decide +kernel
set_option maxRecDepth 20000 in
theorem ggX9_replaceAt_X9_fitsAt : GoodIn wsX9_replaceAt wsX9_fitsAt := goodIn_r _ [7, 8, 9, 2, 10, 11, 12, 13, 14, 15, 16, 17, 18, 19, 20, 21, 22, 23, 6, 24, 25, 26, 27, 28, 29, 30, 31, 83, 84, 85, 86, 81, 82] (by decide +kernel) (by decide +kernel)
set_option maxRecDepth 20000 in
theorem gX9_replaceAt_X9_fitsAt : GoodIn wsX9_replaceAt (wsV RX9 33 RX9 yX9_fitsAt wsX9_fitsAt) := goodIn_app (goodIn_of _ (by decide +kernel)) ggX9_replaceAt_X9_fitsAt
set_option maxRecDepth 20000 in
theorem ggX9_replaceAt_X9_nameTheRest : GoodIn wsX9_replaceAt wsX9_nameTheRest := goodIn_r _ [35, 1, 8, 9, 36, 37, 38, 17, 39, 19, 40, 41, 42, 43, 44, 15, 16, 18, 20, 45, 46, 47, 25, 26, 27, 48, 49, 50, 51, 28, 29, 30, 6, 31, 83, 84, 85, 86, 81, 82] (by decide +kernel) (by decide +kernel)
set_option maxRecDepth 20000 in
theorem gX9_replaceAt_X9_nameTheRest : GoodIn wsX9_replaceAt (wsV RX9 62 RX9 yX9_nameTheRest wsX9_nameTheRest) := goodIn_app (goodIn_of _ (by decide +kernel)) ggX9_replaceAt_X9_nameTheRest
set_option maxRecDepth 20000 in
theorem ggX9_replaceAt_X1_copyFrom : GoodIn wsX9_replaceAt wsX1_copyFrom := goodIn_r _ [55, 20, 56, 57, 58, 59, 19, 81, 82] (by decide +kernel) (by decide +kernel)
set_option maxRecDepth 20000 in
theorem gX9_replaceAt_X1_copyFrom : GoodIn wsX9_replaceAt (wsV RX9 25 RX1 yX1_copyFrom wsX1_copyFrom) := goodIn_app (goodIn_of _ (by decide +kernel)) ggX9_replaceAt_X1_copyFrom
set_option maxRecDepth 20000 in
theorem ggX9_replaceAt_X1_part : GoodIn wsX9_replaceAt wsX1_part := goodIn_r _ [18, 19, 20, 81, 82] (by decide +kernel) (by decide +kernel)
set_option maxRecDepth 20000 in
theorem gX9_replaceAt_X1_part : GoodIn wsX9_replaceAt (wsV RX9 46 RX1 yX1_part wsX1_part) := goodIn_app (goodIn_of _ (by decide +kernel)) ggX9_replaceAt_X1_part
set_option maxRecDepth 20000 in
theorem ggX9_replaceAt_X9_called : GoodIn wsX9_replaceAt wsX9_called := goodIn_r _ [63, 8, 25, 26, 27, 83, 84, 85, 86] (by decide +kernel) (by decide +kernel)
set_option maxRecDepth 20000 in
theorem gX9_replaceAt_X9_called : GoodIn wsX9_replaceAt (wsV RX9 65 RX9 yX9_called wsX9_called) := goodIn_app (goodIn_of _ (by decide +kernel)) ggX9_replaceAt_X9_called
set_option maxRecDepth 20000 in
theorem ggX9_replaceAt_X1_add : GoodIn wsX9_replaceAt wsX1_add := goodIn_r _ [67, 19, 68, 69, 70, 17, 71, 20, 72, 73, 74, 75, 81, 82] (by decide +kernel) (by decide +kernel)
set_option maxRecDepth 20000 in
theorem gX9_replaceAt_X1_add : GoodIn wsX9_replaceAt (wsV RX9 69 RX1 yX1_add wsX1_add) := goodIn_app (goodIn_of _ (by decide +kernel)) ggX9_replaceAt_X1_add
set_option maxRecDepth 20000 in
theorem ggX9_replaceAt_X1_addFrom : GoodIn wsX9_replaceAt wsX1_addFrom := goodIn_r _ [79, 48, 49, 50, 17, 51, 44, 15, 16, 18, 19, 20, 25, 26, 27, 80, 65, 66, 67, 68, 69, 70, 71, 72, 73, 74, 75, 81, 82] (by decide +kernel) (by decide +kernel)
set_option maxRecDepth 20000 in
theorem gX9_replaceAt_X1_addFrom : GoodIn wsX9_replaceAt (wsV RX9 73 RX1 yX1_addFrom wsX1_addFrom) := goodIn_app (goodIn_of _ (by decide +kernel)) ggX9_replaceAt_X1_addFrom
theorem dX9_replaceAt_0 : decode cX9_replaceAt 0 = .ok (.aload_n 0, 1) := by decide +kernel
theorem dX9_replaceAt_1 : decode cX9_replaceAt 1 = .ok (.aload_n 1, 1) := by decide +kernel
theorem dX9_replaceAt_2 : decode cX9_replaceAt 2 = .ok (.iload_n 2, 1) := by decide +kernel
theorem dX9_replaceAt_3 : decode cX9_replaceAt 3 = .ok (.invokevirtual 33, 3) := by decide +kernel
theorem dX9_replaceAt_6 : decode cX9_replaceAt 6 = .ok (.ifCond .ne 4, 3) := by decide +kernel
theorem dX9_replaceAt_9 : decode cX9_replaceAt 9 = .ok (.return_, 1) := by decide +kernel
theorem dX9_replaceAt_10 : decode cX9_replaceAt 10 = .ok (.aload_n 0, 1) := by decide +kernel
theorem dX9_replaceAt_11 : decode cX9_replaceAt 11 = .ok (.invokevirtual 62, 3) := by decide +kernel
theorem dX9_replaceAt_14 : decode cX9_replaceAt 14 = .ok (.aload_n 3, 1) := by decide +kernel
theorem dX9_replaceAt_15 : decode cX9_replaceAt 15 = .ok (.aload_n 1, 1) := by decide +kernel
theorem dX9_replaceAt_16 : decode cX9_replaceAt 16 = .ok (.invokevirtual 25, 3) := by decide +kernel
theorem dX9_replaceAt_19 : decode cX9_replaceAt 19 = .ok (.aload_n 1, 1) := by decide +kernel
theorem dX9_replaceAt_20 : decode cX9_replaceAt 20 = .ok (.iload_n 2, 1) := by decide +kernel
theorem dX9_replaceAt_21 : decode cX9_replaceAt 21 = .ok (.putfield 29, 3) := by decide +kernel
theorem dX9_replaceAt_24 : decode cX9_replaceAt 24 = .ok (.iconst 0, 1) := by decide +kernel
theorem dX9_replaceAt_25 : decode cX9_replaceAt 25 = .ok (.istore 4, 2) := by decide +kernel
theorem dX9_replaceAt_27 : decode cX9_replaceAt 27 = .ok (.iload 4, 2) := by decide +kernel
theorem dX9_replaceAt_29 : decode cX9_replaceAt 29 = .ok (.aload_n 0, 1) := by decide +kernel
theorem dX9_replaceAt_30 : decode cX9_replaceAt 30 = .ok (.getfield 18, 3) := by decide +kernel
theorem dX9_replaceAt_33 : decode cX9_replaceAt 33 = .ok (.getfield 29, 3) := by decide +kernel
theorem dX9_replaceAt_36 : decode cX9_replaceAt 36 = .ok (.if_icmp .ge 65, 3) := by decide +kernel
theorem dX9_replaceAt_39 : decode cX9_replaceAt 39 = .ok (.aload_n 1, 1) := by decide +kernel
theorem dX9_replaceAt_40 : decode cX9_replaceAt 40 = .ok (.aload_n 0, 1) := by decide +kernel
theorem dX9_replaceAt_41 : decode cX9_replaceAt 41 = .ok (.aload_n 0, 1) := by decide +kernel
theorem dX9_replaceAt_42 : decode cX9_replaceAt 42 = .ok (.getfield 18, 3) := by decide +kernel
theorem dX9_replaceAt_45 : decode cX9_replaceAt 45 = .ok (.iload 4, 2) := by decide +kernel
theorem dX9_replaceAt_47 : decode cX9_replaceAt 47 = .ok (.iconst 0, 1) := by decide +kernel
theorem dX9_replaceAt_48 : decode cX9_replaceAt 48 = .ok (.invokevirtual 46, 3) := by decide +kernel
theorem dX9_replaceAt_51 : decode cX9_replaceAt 51 = .ok (.invokevirtual 65, 3) := by decide +kernel
theorem dX9_replaceAt_54 : decode cX9_replaceAt 54 = .ok (.aload_n 0, 1) := by decide +kernel
theorem dX9_replaceAt_55 : decode cX9_replaceAt 55 = .ok (.getfield 18, 3) := by decide +kernel
theorem dX9_replaceAt_58 : decode cX9_replaceAt 58 = .ok (.iload 4, 2) := by decide +kernel
theorem dX9_replaceAt_60 : decode cX9_replaceAt 60 = .ok (.iconst 1, 1) := by decide +kernel
theorem dX9_replaceAt_61 : decode cX9_replaceAt 61 = .ok (.invokevirtual 46, 3) := by decide +kernel
theorem dX9_replaceAt_64 : decode cX9_replaceAt 64 = .ok (.aload_n 0, 1) := by decide +kernel
theorem dX9_replaceAt_65 : decode cX9_replaceAt 65 = .ok (.aload_n 0, 1) := by decide +kernel
theorem dX9_replaceAt_66 : decode cX9_replaceAt 66 = .ok (.getfield 18, 3) := by decide +kernel
theorem dX9_replaceAt_69 : decode cX9_replaceAt 69 = .ok (.iload 4, 2) := by decide +kernel
theorem dX9_replaceAt_71 : decode cX9_replaceAt 71 = .ok (.iconst 2, 1) := by decide +kernel
theorem dX9_replaceAt_72 : decode cX9_replaceAt 72 = .ok (.invokevirtual 46, 3) := by decide +kernel
theorem dX9_replaceAt_75 : decode cX9_replaceAt 75 = .ok (.invokevirtual 65, 3) := by decide +kernel
theorem dX9_replaceAt_78 : decode cX9_replaceAt 78 = .ok (.aload_n 0, 1) := by decide +kernel
theorem dX9_replaceAt_79 : decode cX9_replaceAt 79 = .ok (.aload_n 0, 1) := by decide +kernel
theorem dX9_replaceAt_80 : decode cX9_replaceAt 80 = .ok (.getfield 18, 3) := by decide +kernel
theorem dX9_replaceAt_83 : decode cX9_replaceAt 83 = .ok (.iload 4, 2) := by decide +kernel
theorem dX9_replaceAt_85 : decode cX9_replaceAt 85 = .ok (.iconst 3, 1) := by decide +kernel
theorem dX9_replaceAt_86 : decode cX9_replaceAt 86 = .ok (.invokevirtual 46, 3) := by decide +kernel
theorem dX9_replaceAt_89 : decode cX9_replaceAt 89 = .ok (.invokevirtual 65, 3) := by decide +kernel
theorem dX9_replaceAt_92 : decode cX9_replaceAt 92 = .ok (.invokevirtual 69, 3) := by decide +kernel
theorem dX9_replaceAt_95 : decode cX9_replaceAt 95 = .ok (.iinc 4 1, 3) := by decide +kernel
theorem dX9_replaceAt_98 : decode cX9_replaceAt 98 = .ok (.goto (-71), 3) := by decide +kernel
theorem dX9_replaceAt_101 : decode cX9_replaceAt 101 = .ok (.iload_n 2, 1) := by decide +kernel
theorem dX9_replaceAt_102 : decode cX9_replaceAt 102 = .ok (.aload_n 0, 1) := by decide +kernel
theorem dX9_replaceAt_103 : decode cX9_replaceAt 103 = .ok (.getfield 12, 3) := by decide +kernel
theorem dX9_replaceAt_106 : decode cX9_replaceAt 106 = .ok (.getfield 29, 3) := by decide +kernel
theorem dX9_replaceAt_109 : decode cX9_replaceAt 109 = .ok (.iadd, 1) := by decide +kernel
theorem dX9_replaceAt_110 : decode cX9_replaceAt 110 = .ok (.istore 4, 2) := by decide +kernel
theorem dX9_replaceAt_112 : decode cX9_replaceAt 112 = .ok (.iload 4, 2) := by decide +kernel
theorem dX9_replaceAt_114 : decode cX9_replaceAt 114 = .ok (.aload_n 3, 1) := by decide +kernel
theorem dX9_replaceAt_115 : decode cX9_replaceAt 115 = .ok (.getfield 29, 3) := by decide +kernel
theorem dX9_replaceAt_118 : decode cX9_replaceAt 118 = .ok (.if_icmp .ge 16, 3) := by decide +kernel
theorem dX9_replaceAt_121 : decode cX9_replaceAt 121 = .ok (.aload_n 1, 1) := by decide +kernel
theorem dX9_replaceAt_122 : decode cX9_replaceAt 122 = .ok (.aload_n 3, 1) := by decide +kernel
theorem dX9_replaceAt_123 : decode cX9_replaceAt 123 = .ok (.iload 4, 2) := by decide +kernel
theorem dX9_replaceAt_125 : decode cX9_replaceAt 125 = .ok (.invokevirtual 73, 3) := by decide +kernel
theorem dX9_replaceAt_128 : decode cX9_replaceAt 128 = .ok (.iinc 4 1, 3) := by decide +kernel
theorem dX9_replaceAt_131 : decode cX9_replaceAt 131 = .ok (.goto (-19), 3) := by decide +kernel
theorem dX9_replaceAt_134 : decode cX9_replaceAt 134 = .ok (.return_, 1) := by decide +kernel
set_option maxRecDepth 20000 in
theorem ggX9_nameTheRest_X1_named : GoodIn wsX9_nameTheRest wsX1_named := goodIn_r _ [8, 9, 10, 11, 12, 7, 13, 14, 15, 16, 17, 18, 19, 20, 21, 22, 23, 24, 25, 26, 27, 28, 38, 39] (by decide +kernel) (by decide +kernel)
set_option maxRecDepth 20000 in
theorem gX9_nameTheRest_X1_named : GoodIn wsX9_nameTheRest (wsV RX9 77 RX1 yX1_named wsX1_named) := goodIn_app (goodIn_of _ (by decide +kernel)) ggX9_nameTheRest_X1_named
set_option maxRecDepth 20000 in
theorem ggX9_nameTheRest_X9_giveName : GoodIn wsX9_nameTheRest wsX9_giveName := goodIn_r _ [33, 2, 3, 34, 35, 36, 37] (by decide +kernel) (by decide +kernel)
set_option maxRecDepth 20000 in
theorem gX9_nameTheRest_X9_giveName : GoodIn wsX9_nameTheRest (wsV RX9 58 RX9 yX9_giveName wsX9_giveName) := goodIn_app (goodIn_of _ (by decide +kernel)) ggX9_nameTheRest_X9_giveName
theorem dX9_nameTheRest_0 : decode cX9_nameTheRest 0 = .ok (.aload_n 0, 1) := by decide +kernel
theorem dX9_nameTheRest_1 : decode cX9_nameTheRest 1 = .ok (.getfield 18, 3) := by decide +kernel
theorem dX9_nameTheRest_4 : decode cX9_nameTheRest 4 = .ok (.invokevirtual 77, 3) := by decide +kernel
theorem dX9_nameTheRest_7 : decode cX9_nameTheRest 7 = .ok (.istore_n 1, 1) := by decide +kernel
theorem dX9_nameTheRest_8 : decode cX9_nameTheRest 8 = .ok (.iconst 0, 1) := by decide +kernel
theorem dX9_nameTheRest_9 : decode cX9_nameTheRest 9 = .ok (.istore_n 2, 1) := by decide +kernel
theorem dX9_nameTheRest_10 : decode cX9_nameTheRest 10 = .ok (.iload_n 2, 1) := by decide +kernel
theorem dX9_nameTheRest_11 : decode cX9_nameTheRest 11 = .ok (.iconst 4, 1) := by decide +kernel
theorem dX9_nameTheRest_12 : decode cX9_nameTheRest 12 = .ok (.if_icmp .ge 60, 3) := by decide +kernel
theorem dX9_nameTheRest_15 : decode cX9_nameTheRest 15 = .ok (.iload_n 1, 1) := by decide +kernel
theorem dX9_nameTheRest_16 : decode cX9_nameTheRest 16 = .ok (.iload_n 2, 1) := by decide +kernel
theorem dX9_nameTheRest_17 : decode cX9_nameTheRest 17 = .ok (.ishr, 1) := by decide +kernel
theorem dX9_nameTheRest_18 : decode cX9_nameTheRest 18 = .ok (.iconst 1, 1) := by decide +kernel
theorem dX9_nameTheRest_19 : decode cX9_nameTheRest 19 = .ok (.iand, 1) := by decide +kernel
theorem dX9_nameTheRest_20 : decode cX9_nameTheRest 20 = .ok (.iconst 1, 1) := by decide +kernel
theorem dX9_nameTheRest_21 : decode cX9_nameTheRest 21 = .ok (.if_icmp .ne 45, 3) := by decide +kernel
theorem dX9_nameTheRest_24 : decode cX9_nameTheRest 24 = .ok (.aload_n 0, 1) := by decide +kernel
theorem dX9_nameTheRest_25 : decode cX9_nameTheRest 25 = .ok (.getfield 21, 3) := by decide +kernel
theorem dX9_nameTheRest_28 : decode cX9_nameTheRest 28 = .ok (.iload_n 2, 1) := by decide +kernel
theorem dX9_nameTheRest_29 : decode cX9_nameTheRest 29 = .ok (.iaload, 1) := by decide +kernel
theorem dX9_nameTheRest_30 : decode cX9_nameTheRest 30 = .ok (.bipush (-6), 2) := by decide +kernel
theorem dX9_nameTheRest_32 : decode cX9_nameTheRest 32 = .ok (.if_icmp .ne 34, 3) := by decide +kernel
theorem dX9_nameTheRest_35 : decode cX9_nameTheRest 35 = .ok (.iconst 0, 1) := by decide +kernel
theorem dX9_nameTheRest_36 : decode cX9_nameTheRest 36 = .ok (.istore_n 3, 1) := by decide +kernel
theorem dX9_nameTheRest_37 : decode cX9_nameTheRest 37 = .ok (.iload_n 3, 1) := by decide +kernel
theorem dX9_nameTheRest_38 : decode cX9_nameTheRest 38 = .ok (.iconst 3, 1) := by decide +kernel
theorem dX9_nameTheRest_39 : decode cX9_nameTheRest 39 = .ok (.if_icmp .ge 21, 3) := by decide +kernel
theorem dX9_nameTheRest_42 : decode cX9_nameTheRest 42 = .ok (.aload_n 0, 1) := by decide +kernel
theorem dX9_nameTheRest_43 : decode cX9_nameTheRest 43 = .ok (.getfield 43, 3) := by decide +kernel
theorem dX9_nameTheRest_46 : decode cX9_nameTheRest 46 = .ok (.iload_n 3, 1) := by decide +kernel
theorem dX9_nameTheRest_47 : decode cX9_nameTheRest 47 = .ok (.ishr, 1) := by decide +kernel
theorem dX9_nameTheRest_48 : decode cX9_nameTheRest 48 = .ok (.iconst 1, 1) := by decide +kernel
theorem dX9_nameTheRest_49 : decode cX9_nameTheRest 49 = .ok (.iand, 1) := by decide +kernel
theorem dX9_nameTheRest_50 : decode cX9_nameTheRest 50 = .ok (.iconst 1, 1) := by decide +kernel
theorem dX9_nameTheRest_51 : decode cX9_nameTheRest 51 = .ok (.if_icmp .ne 9, 3) := by decide +kernel
theorem dX9_nameTheRest_54 : decode cX9_nameTheRest 54 = .ok (.iinc 3 1, 3) := by decide +kernel
theorem dX9_nameTheRest_57 : decode cX9_nameTheRest 57 = .ok (.goto (-20), 3) := by decide +kernel
theorem dX9_nameTheRest_60 : decode cX9_nameTheRest 60 = .ok (.aload_n 0, 1) := by decide +kernel
theorem dX9_nameTheRest_61 : decode cX9_nameTheRest 61 = .ok (.iload_n 2, 1) := by decide +kernel
theorem dX9_nameTheRest_62 : decode cX9_nameTheRest 62 = .ok (.iload_n 3, 1) := by decide +kernel
theorem dX9_nameTheRest_63 : decode cX9_nameTheRest 63 = .ok (.invokevirtual 58, 3) := by decide +kernel
theorem dX9_nameTheRest_66 : decode cX9_nameTheRest 66 = .ok (.iinc 2 1, 3) := by decide +kernel
theorem dX9_nameTheRest_69 : decode cX9_nameTheRest 69 = .ok (.goto (-59), 3) := by decide +kernel
theorem dX9_nameTheRest_72 : decode cX9_nameTheRest 72 = .ok (.return_, 1) := by decide +kernel
set_option maxRecDepth 20000 in
theorem ggX9_called_X11_isNoRegister : GoodIn wsX9_called wsX11_isNoRegister := goodIn_r _ [4] (by decide +kernel) (by decide +kernel)
set_option maxRecDepth 20000 in
theorem gX9_called_X11_isNoRegister_n54 : GoodIn wsX9_called (wsX11_isNoRegister) := ggX9_called_X11_isNoRegister
theorem dX9_called_0 : decode cX9_called 0 = .ok (.iload_n 1, 1) := by decide +kernel
theorem dX9_called_1 : decode cX9_called 1 = .ok (.invokestatic 54, 3) := by decide +kernel
theorem dX9_called_4 : decode cX9_called 4 = .ok (.ifCond .eq 7, 3) := by decide +kernel
theorem dX9_called_7 : decode cX9_called 7 = .ok (.iload_n 1, 1) := by decide +kernel
theorem dX9_called_8 : decode cX9_called 8 = .ok (.goto 9, 3) := by decide +kernel
theorem dX9_called_11 : decode cX9_called 11 = .ok (.aload_n 0, 1) := by decide +kernel
theorem dX9_called_12 : decode cX9_called 12 = .ok (.getfield 21, 3) := by decide +kernel
theorem dX9_called_15 : decode cX9_called 15 = .ok (.iload_n 1, 1) := by decide +kernel
theorem dX9_called_16 : decode cX9_called 16 = .ok (.iaload, 1) := by decide +kernel
theorem dX9_called_17 : decode cX9_called 17 = .ok (.ireturn, 1) := by decide +kernel
set_option maxRecDepth 20000 in
theorem ggX10_init_X8_init : GoodIn wsX10_init wsX8_init := goodIn_r _ [14, 15, 2, 3, 16, 17, 24, 25, 26, 27] (by decide +kernel) (by decide +kernel)
set_option maxRecDepth 20000 in
theorem gX10_init_X8_init_n11 : GoodIn wsX10_init (wsX8_init) := ggX10_init_X8_init
set_option maxRecDepth 20000 in
theorem ggX10_init_X8_beginPairs : GoodIn wsX10_init wsX8_beginPairs := goodIn_r _ [21, 17, 22, 23, 24, 25, 26, 27] (by decide +kernel) (by decide +kernel)
set_option maxRecDepth 20000 in
theorem gX10_init_X8_beginPairs : GoodIn wsX10_init (wsV RX10 32 RX8 yX8_beginPairs wsX8_beginPairs) := goodIn_app (goodIn_of _ (by decide +kernel)) ggX10_init_X8_beginPairs
theorem dX10_init_0 : decode cX10_init 0 = .ok (.aload_n 0, 1) := by decide +kernel
theorem dX10_init_1 : decode cX10_init 1 = .ok (.invokespecial 3, 3) := by decide +kernel
theorem dX10_init_4 : decode cX10_init 4 = .ok (.aload_n 0, 1) := by decide +kernel
theorem dX10_init_5 : decode cX10_init 5 = .ok (.new 9, 3) := by decide +kernel
theorem dX10_init_8 : decode cX10_init 8 = .ok (.dup, 1) := by decide +kernel
theorem dX10_init_9 : decode cX10_init 9 = .ok (.invokespecial 11, 3) := by decide +kernel
theorem dX10_init_12 : decode cX10_init 12 = .ok (.putfield 12, 3) := by decide +kernel
theorem dX10_init_15 : decode cX10_init 15 = .ok (.aload_n 0, 1) := by decide +kernel
theorem dX10_init_16 : decode cX10_init 16 = .ok (.new 9, 3) := by decide +kernel
theorem dX10_init_19 : decode cX10_init 19 = .ok (.dup, 1) := by decide +kernel
theorem dX10_init_20 : decode cX10_init 20 = .ok (.invokespecial 11, 3) := by decide +kernel
theorem dX10_init_23 : decode cX10_init 23 = .ok (.putfield 18, 3) := by decide +kernel
theorem dX10_init_26 : decode cX10_init 26 = .ok (.aload_n 0, 1) := by decide +kernel
theorem dX10_init_27 : decode cX10_init 27 = .ok (.new 9, 3) := by decide +kernel
theorem dX10_init_30 : decode cX10_init 30 = .ok (.dup, 1) := by decide +kernel
theorem dX10_init_31 : decode cX10_init 31 = .ok (.invokespecial 11, 3) := by decide +kernel
theorem dX10_init_34 : decode cX10_init 34 = .ok (.putfield 21, 3) := by decide +kernel
theorem dX10_init_37 : decode cX10_init 37 = .ok (.aload_n 0, 1) := by decide +kernel
theorem dX10_init_38 : decode cX10_init 38 = .ok (.iconst 3, 1) := by decide +kernel
theorem dX10_init_39 : decode cX10_init 39 = .ok (.anewarray 9, 3) := by decide +kernel
theorem dX10_init_42 : decode cX10_init 42 = .ok (.putfield 24, 3) := by decide +kernel
theorem dX10_init_45 : decode cX10_init 45 = .ok (.aload_n 0, 1) := by decide +kernel
theorem dX10_init_46 : decode cX10_init 46 = .ok (.iconst 3, 1) := by decide +kernel
theorem dX10_init_47 : decode cX10_init 47 = .ok (.newarray .int, 2) := by decide +kernel
theorem dX10_init_49 : decode cX10_init 49 = .ok (.putfield 28, 3) := by decide +kernel
theorem dX10_init_52 : decode cX10_init 52 = .ok (.aload_n 0, 1) := by decide +kernel
theorem dX10_init_53 : decode cX10_init 53 = .ok (.getfield 12, 3) := by decide +kernel
theorem dX10_init_56 : decode cX10_init 56 = .ok (.invokevirtual 32, 3) := by decide +kernel
theorem dX10_init_59 : decode cX10_init 59 = .ok (.iconst 0, 1) := by decide +kernel
theorem dX10_init_60 : decode cX10_init 60 = .ok (.istore_n 1, 1) := by decide +kernel
theorem dX10_init_61 : decode cX10_init 61 = .ok (.iload_n 1, 1) := by decide +kernel
theorem dX10_init_62 : decode cX10_init 62 = .ok (.iconst 3, 1) := by decide +kernel
theorem dX10_init_63 : decode cX10_init 63 = .ok (.if_icmp .ge 22, 3) := by decide +kernel
theorem dX10_init_66 : decode cX10_init 66 = .ok (.aload_n 0, 1) := by decide +kernel
theorem dX10_init_67 : decode cX10_init 67 = .ok (.getfield 24, 3) := by decide +kernel
theorem dX10_init_70 : decode cX10_init 70 = .ok (.iload_n 1, 1) := by decide +kernel
theorem dX10_init_71 : decode cX10_init 71 = .ok (.new 9, 3) := by decide +kernel
theorem dX10_init_74 : decode cX10_init 74 = .ok (.dup, 1) := by decide +kernel
theorem dX10_init_75 : decode cX10_init 75 = .ok (.invokespecial 11, 3) := by decide +kernel
theorem dX10_init_78 : decode cX10_init 78 = .ok (.aastore, 1) := by decide +kernel
theorem dX10_init_79 : decode cX10_init 79 = .ok (.iinc 1 1, 3) := by decide +kernel
theorem dX10_init_82 : decode cX10_init 82 = .ok (.goto (-21), 3) := by decide +kernel
theorem dX10_init_85 : decode cX10_init 85 = .ok (.return_, 1) := by decide +kernel
set_option maxRecDepth 20000 in
theorem ggX10_find_X8_copyFrom : GoodIn wsX10_find wsX8_copyFrom := goodIn_r _ [11, 12, 13, 14, 15, 16, 98, 99, 100, 101] (by decide +kernel) (by decide +kernel)
set_option maxRecDepth 20000 in
theorem gX10_find_X8_copyFrom : GoodIn wsX10_find (wsV RX10 35 RX8 yX8_copyFrom wsX8_copyFrom) := goodIn_app (goodIn_of _ (by decide +kernel)) ggX10_find_X8_copyFrom
set_option maxRecDepth 20000 in
theorem ggX10_find_X8_perform : GoodIn wsX10_find wsX8_perform := goodIn_r _ [20, 21, 22, 23, 24, 25, 26, 27, 28, 29, 30, 10, 31, 32, 33, 34, 35, 12, 36, 37, 38, 39, 40, 41, 42, 43, 44, 45, 46, 47, 48, 49, 50, 51, 52, 53, 54, 55, 56, 57, 58, 59, 60, 61, 62, 63, 64, 65, 102, 103, 98, 99, 100, 101] (by decide +kernel) (by decide +kernel)
set_option maxRecDepth 20000 in
theorem gX10_find_X8_perform : GoodIn wsX10_find (wsV RX10 39 RX8 yX8_perform wsX8_perform) := goodIn_app (goodIn_of _ (by decide +kernel)) ggX10_find_X8_perform
set_option maxRecDepth 20000 in
theorem ggX10_find_X8_unlikeIn : GoodIn wsX10_find wsX8_unlikeIn := goodIn_r _ [69, 12, 98, 99, 100, 101] (by decide +kernel) (by decide +kernel)
set_option maxRecDepth 20000 in
theorem gX10_find_X8_unlikeIn : GoodIn wsX10_find (wsV RX10 47 RX8 yX8_unlikeIn wsX8_unlikeIn) := goodIn_app (goodIn_of _ (by decide +kernel)) ggX10_find_X8_unlikeIn
set_option maxRecDepth 20000 in
theorem ggX10_find_X10_differs : GoodIn wsX10_find wsX10_differs := goodIn_r _ [74, 3, 4, 66, 67, 68, 10, 69, 12, 91, 92, 93, 94, 95, 96, 97, 98, 99, 100, 101] (by decide +kernel) (by decide +kernel)
set_option maxRecDepth 20000 in
theorem gX10_find_X10_differs : GoodIn wsX10_find (wsV RX10 51 RX10 yX10_differs wsX10_differs) := goodIn_app (goodIn_of _ (by decide +kernel)) ggX10_find_X10_differs
set_option maxRecDepth 20000 in
theorem ggX10_find_X10_reaches : GoodIn wsX10_find wsX10_reaches := goodIn_r _ [78, 6, 3, 79, 70, 71, 72, 73, 74, 4, 66, 67, 68, 10, 69, 12, 80, 81, 82, 83, 84, 85, 29, 30, 31, 32, 33, 34, 35, 36, 37, 38, 39, 40, 41, 42, 43, 44, 45, 46, 47, 48, 49, 50, 51, 52, 53, 54, 55, 56, 86, 87, 88, 89, 7, 8, 9, 11, 13, 14, 15, 16, 90, 63, 64, 65, 75, 76, 77, 91, 92, 93, 94, 95, 96, 97, 98, 99, 100, 101] (by decide +kernel) (by decide +kernel)
set_option maxRecDepth 20000 in
theorem gX10_find_X10_reaches : GoodIn wsX10_find (wsV RX10 58 RX10 yX10_reaches wsX10_reaches) := goodIn_app (goodIn_of _ (by decide +kernel)) ggX10_find_X10_reaches
theorem dX10_find_0 : decode cX10_find 0 = .ok (.aload_n 0, 1) := by decide +kernel
theorem dX10_find_1 : decode cX10_find 1 = .ok (.getfield 21, 3) := by decide +kernel
theorem dX10_find_4 : decode cX10_find 4 = .ok (.aload_n 0, 1) := by decide +kernel
theorem dX10_find_5 : decode cX10_find 5 = .ok (.getfield 12, 3) := by decide +kernel
theorem dX10_find_8 : decode cX10_find 8 = .ok (.invokevirtual 35, 3) := by decide +kernel
theorem dX10_find_11 : decode cX10_find 11 = .ok (.aload_n 0, 1) := by decide +kernel
theorem dX10_find_12 : decode cX10_find 12 = .ok (.getfield 21, 3) := by decide +kernel
theorem dX10_find_15 : decode cX10_find 15 = .ok (.aload_n 1, 1) := by decide +kernel
theorem dX10_find_16 : decode cX10_find 16 = .ok (.invokevirtual 39, 3) := by decide +kernel
theorem dX10_find_19 : decode cX10_find 19 = .ok (.iload_n 2, 1) := by decide +kernel
theorem dX10_find_20 : decode cX10_find 20 = .ok (.aload_n 0, 1) := by decide +kernel
theorem dX10_find_21 : decode cX10_find 21 = .ok (.getfield 43, 3) := by decide +kernel
theorem dX10_find_24 : decode cX10_find 24 = .ok (.if_icmp .ne 34, 3) := by decide +kernel
theorem dX10_find_27 : decode cX10_find 27 = .ok (.aload_n 0, 1) := by decide +kernel
theorem dX10_find_28 : decode cX10_find 28 = .ok (.getfield 21, 3) := by decide +kernel
theorem dX10_find_31 : decode cX10_find 31 = .ok (.iconst 0, 1) := by decide +kernel
theorem dX10_find_32 : decode cX10_find 32 = .ok (.aload_n 0, 1) := by decide +kernel
theorem dX10_find_33 : decode cX10_find 33 = .ok (.getfield 18, 3) := by decide +kernel
theorem dX10_find_36 : decode cX10_find 36 = .ok (.invokevirtual 47, 3) := by decide +kernel
theorem dX10_find_39 : decode cX10_find 39 = .ok (.aload_n 0, 1) := by decide +kernel
theorem dX10_find_40 : decode cX10_find 40 = .ok (.getfield 21, 3) := by decide +kernel
theorem dX10_find_43 : decode cX10_find 43 = .ok (.iconst 1, 1) := by decide +kernel
theorem dX10_find_44 : decode cX10_find 44 = .ok (.aload_n 0, 1) := by decide +kernel
theorem dX10_find_45 : decode cX10_find 45 = .ok (.getfield 18, 3) := by decide +kernel
theorem dX10_find_48 : decode cX10_find 48 = .ok (.invokevirtual 47, 3) := by decide +kernel
theorem dX10_find_51 : decode cX10_find 51 = .ok (.lor, 1) := by decide +kernel
theorem dX10_find_52 : decode cX10_find 52 = .ok (.lconst 0, 1) := by decide +kernel
theorem dX10_find_53 : decode cX10_find 53 = .ok (.lcmp, 1) := by decide +kernel
theorem dX10_find_54 : decode cX10_find 54 = .ok (.ifCond .ne 4, 3) := by decide +kernel
theorem dX10_find_57 : decode cX10_find 57 = .ok (.return_, 1) := by decide +kernel
theorem dX10_find_58 : decode cX10_find 58 = .ok (.aload_n 0, 1) := by decide +kernel
theorem dX10_find_59 : decode cX10_find 59 = .ok (.getfield 18, 3) := by decide +kernel
theorem dX10_find_62 : decode cX10_find 62 = .ok (.aload_n 0, 1) := by decide +kernel
theorem dX10_find_63 : decode cX10_find 63 = .ok (.getfield 21, 3) := by decide +kernel
theorem dX10_find_66 : decode cX10_find 66 = .ok (.invokevirtual 35, 3) := by decide +kernel
theorem dX10_find_69 : decode cX10_find 69 = .ok (.aload_n 0, 1) := by decide +kernel
theorem dX10_find_70 : decode cX10_find 70 = .ok (.iload_n 2, 1) := by decide +kernel
theorem dX10_find_71 : decode cX10_find 71 = .ok (.putfield 43, 3) := by decide +kernel
theorem dX10_find_74 : decode cX10_find 74 = .ok (.aload_n 0, 1) := by decide +kernel
theorem dX10_find_75 : decode cX10_find 75 = .ok (.aload_n 0, 1) := by decide +kernel
theorem dX10_find_76 : decode cX10_find 76 = .ok (.aload_n 0, 1) := by decide +kernel
theorem dX10_find_77 : decode cX10_find 77 = .ok (.getfield 12, 3) := by decide +kernel
theorem dX10_find_80 : decode cX10_find 80 = .ok (.iconst 0, 1) := by decide +kernel
theorem dX10_find_81 : decode cX10_find 81 = .ok (.invokevirtual 51, 3) := by decide +kernel
theorem dX10_find_84 : decode cX10_find 84 = .ok (.ifCond .ne 15, 3) := by decide +kernel
theorem dX10_find_87 : decode cX10_find 87 = .ok (.aload_n 0, 1) := by decide +kernel
theorem dX10_find_88 : decode cX10_find 88 = .ok (.aload_n 0, 1) := by decide +kernel
theorem dX10_find_89 : decode cX10_find 89 = .ok (.getfield 12, 3) := by decide +kernel
theorem dX10_find_92 : decode cX10_find 92 = .ok (.iconst 1, 1) := by decide +kernel
theorem dX10_find_93 : decode cX10_find 93 = .ok (.invokevirtual 51, 3) := by decide +kernel
theorem dX10_find_96 : decode cX10_find 96 = .ok (.ifCond .eq 8, 3) := by decide +kernel
theorem dX10_find_99 : decode cX10_find 99 = .ok (.bipush (-6), 2) := by decide +kernel
theorem dX10_find_101 : decode cX10_find 101 = .ok (.goto 4, 3) := by decide +kernel
theorem dX10_find_104 : decode cX10_find 104 = .ok (.iconst 0, 1) := by decide +kernel
theorem dX10_find_105 : decode cX10_find 105 = .ok (.putfield 55, 3) := by decide +kernel
theorem dX10_find_108 : decode cX10_find 108 = .ok (.iconst 1, 1) := by decide +kernel
theorem dX10_find_109 : decode cX10_find 109 = .ok (.istore_n 3, 1) := by decide +kernel
theorem dX10_find_110 : decode cX10_find 110 = .ok (.iload_n 3, 1) := by decide +kernel
theorem dX10_find_111 : decode cX10_find 111 = .ok (.iconst 3, 1) := by decide +kernel
theorem dX10_find_112 : decode cX10_find 112 = .ok (.if_icmp .gt 45, 3) := by decide +kernel
theorem dX10_find_115 : decode cX10_find 115 = .ok (.aload_n 0, 1) := by decide +kernel
theorem dX10_find_116 : decode cX10_find 116 = .ok (.getfield 55, 3) := by decide +kernel
theorem dX10_find_119 : decode cX10_find 119 = .ok (.bipush (-6), 2) := by decide +kernel
theorem dX10_find_121 : decode cX10_find 121 = .ok (.if_icmp .ne 36, 3) := by decide +kernel
theorem dX10_find_124 : decode cX10_find 124 = .ok (.aload_n 0, 1) := by decide +kernel
theorem dX10_find_125 : decode cX10_find 125 = .ok (.getfield 24, 3) := by decide +kernel
theorem dX10_find_128 : decode cX10_find 128 = .ok (.iconst 0, 1) := by decide +kernel
theorem dX10_find_129 : decode cX10_find 129 = .ok (.aaload, 1) := by decide +kernel
theorem dX10_find_130 : decode cX10_find 130 = .ok (.aload_n 0, 1) := by decide +kernel
theorem dX10_find_131 : decode cX10_find 131 = .ok (.getfield 12, 3) := by decide +kernel
theorem dX10_find_134 : decode cX10_find 134 = .ok (.invokevirtual 35, 3) := by decide +kernel
theorem dX10_find_137 : decode cX10_find 137 = .ok (.aload_n 0, 1) := by decide +kernel
theorem dX10_find_138 : decode cX10_find 138 = .ok (.iconst 0, 1) := by decide +kernel
theorem dX10_find_139 : decode cX10_find 139 = .ok (.iload_n 3, 1) := by decide +kernel
theorem dX10_find_140 : decode cX10_find 140 = .ok (.invokevirtual 58, 3) := by decide +kernel
theorem dX10_find_143 : decode cX10_find 143 = .ok (.ifCond .eq 8, 3) := by decide +kernel
theorem dX10_find_146 : decode cX10_find 146 = .ok (.aload_n 0, 1) := by decide +kernel
theorem dX10_find_147 : decode cX10_find 147 = .ok (.iload_n 3, 1) := by decide +kernel
theorem dX10_find_148 : decode cX10_find 148 = .ok (.putfield 55, 3) := by decide +kernel
theorem dX10_find_151 : decode cX10_find 151 = .ok (.iinc 3 1, 3) := by decide +kernel
theorem dX10_find_154 : decode cX10_find 154 = .ok (.goto (-44), 3) := by decide +kernel
theorem dX10_find_157 : decode cX10_find 157 = .ok (.return_, 1) := by decide +kernel
set_option maxRecDepth 20000 in
theorem ggX10_differs_X8_unlikeIn : GoodIn wsX10_differs wsX8_unlikeIn := goodIn_r _ [7, 8, 16, 17, 18, 19] (by decide +kernel) (by decide +kernel)
set_option maxRecDepth 20000 in
theorem gX10_differs_X8_unlikeIn : GoodIn wsX10_differs (wsV RX10 47 RX8 yX8_unlikeIn wsX8_unlikeIn) := goodIn_app (goodIn_of _ (by decide +kernel)) ggX10_differs_X8_unlikeIn
theorem dX10_differs_0 : decode cX10_differs 0 = .ok (.aload_n 0, 1) := by decide +kernel
theorem dX10_differs_1 : decode cX10_differs 1 = .ok (.getfield 43, 3) := by decide +kernel
theorem dX10_differs_4 : decode cX10_differs 4 = .ok (.iload_n 2, 1) := by decide +kernel
theorem dX10_differs_5 : decode cX10_differs 5 = .ok (.ishr, 1) := by decide +kernel
theorem dX10_differs_6 : decode cX10_differs 6 = .ok (.iconst 1, 1) := by decide +kernel
theorem dX10_differs_7 : decode cX10_differs 7 = .ok (.iand, 1) := by decide +kernel
theorem dX10_differs_8 : decode cX10_differs 8 = .ok (.iconst 1, 1) := by decide +kernel
theorem dX10_differs_9 : decode cX10_differs 9 = .ok (.if_icmp .ne 21, 3) := by decide +kernel
theorem dX10_differs_12 : decode cX10_differs 12 = .ok (.aload_n 1, 1) := by decide +kernel
theorem dX10_differs_13 : decode cX10_differs 13 = .ok (.iload_n 2, 1) := by decide +kernel
theorem dX10_differs_14 : decode cX10_differs 14 = .ok (.aload_n 0, 1) := by decide +kernel
theorem dX10_differs_15 : decode cX10_differs 15 = .ok (.getfield 18, 3) := by decide +kernel
theorem dX10_differs_18 : decode cX10_differs 18 = .ok (.invokevirtual 47, 3) := by decide +kernel
theorem dX10_differs_21 : decode cX10_differs 21 = .ok (.lconst 0, 1) := by decide +kernel
theorem dX10_differs_22 : decode cX10_differs 22 = .ok (.lcmp, 1) := by decide +kernel
theorem dX10_differs_23 : decode cX10_differs 23 = .ok (.ifCond .eq 7, 3) := by decide +kernel
theorem dX10_differs_26 : decode cX10_differs 26 = .ok (.iconst 1, 1) := by decide +kernel
theorem dX10_differs_27 : decode cX10_differs 27 = .ok (.goto 4, 3) := by decide +kernel
theorem dX10_differs_30 : decode cX10_differs 30 = .ok (.iconst 0, 1) := by decide +kernel
theorem dX10_differs_31 : decode cX10_differs 31 = .ok (.ireturn, 1) := by decide +kernel
set_option maxRecDepth 20000 in
theorem ggX10_reaches_X10_differs : GoodIn wsX10_reaches wsX10_differs := goodIn_r _ [8, 2, 9, 10, 11, 12, 13, 14, 15, 69, 70, 71, 72, 73, 74, 75, 76, 77, 78, 79] (by decide +kernel) (by decide +kernel)
set_option maxRecDepth 20000 in
theorem gX10_reaches_X10_differs : GoodIn wsX10_reaches (wsV RX10 51 RX10 yX10_differs wsX10_differs) := goodIn_app (goodIn_of _ (by decide +kernel)) ggX10_reaches_X10_differs
set_option maxRecDepth 20000 in
theorem ggX10_reaches_X10_reachesBy : GoodIn wsX10_reaches wsX10_reachesBy := goodIn_r _ [19, 1, 20, 9, 21, 22, 23, 13, 24, 25, 26, 27, 28, 15, 29, 30, 31, 32, 33, 34, 35, 36, 37, 38, 39, 40, 41, 42, 43, 44, 45, 46, 47, 48, 49, 50, 51, 52, 53, 54, 55, 56, 57, 58, 59, 60, 61, 62, 63, 64, 65, 66, 67, 68, 7, 0, 2, 3, 4, 5, 6, 8, 10, 11, 12, 14, 16, 17, 18, 69, 70, 71, 72, 73, 74, 75, 76, 77, 78, 79] (by decide +kernel) (by decide +kernel)
set_option maxRecDepth 20000 in
theorem gX10_reaches_X10_reachesBy : GoodIn wsX10_reaches (wsV RX10 65 RX10 yX10_reachesBy wsX10_reachesBy) := goodIn_app (goodIn_of _ (by decide +kernel)) ggX10_reaches_X10_reachesBy
theorem dX10_reaches_0 : decode cX10_reaches 0 = .ok (.iload_n 1, 1) := by decide +kernel
theorem dX10_reaches_1 : decode cX10_reaches 1 = .ok (.iload_n 2, 1) := by decide +kernel
theorem dX10_reaches_2 : decode cX10_reaches 2 = .ok (.if_icmp .ge 8, 3) := by decide +kernel
theorem dX10_reaches_5 : decode cX10_reaches 5 = .ok (.iload_n 1, 1) := by decide +kernel
theorem dX10_reaches_6 : decode cX10_reaches 6 = .ok (.iconst 3, 1) := by decide +kernel
theorem dX10_reaches_7 : decode cX10_reaches 7 = .ok (.if_icmp .lt 5, 3) := by decide +kernel
theorem dX10_reaches_10 : decode cX10_reaches 10 = .ok (.iconst 0, 1) := by decide +kernel
theorem dX10_reaches_11 : decode cX10_reaches 11 = .ok (.ireturn, 1) := by decide +kernel
theorem dX10_reaches_12 : decode cX10_reaches 12 = .ok (.iconst 0, 1) := by decide +kernel
theorem dX10_reaches_13 : decode cX10_reaches 13 = .ok (.istore_n 3, 1) := by decide +kernel
theorem dX10_reaches_14 : decode cX10_reaches 14 = .ok (.iload_n 3, 1) := by decide +kernel
theorem dX10_reaches_15 : decode cX10_reaches 15 = .ok (.iconst 2, 1) := by decide +kernel
theorem dX10_reaches_16 : decode cX10_reaches 16 = .ok (.if_icmp .ge 91, 3) := by decide +kernel
theorem dX10_reaches_19 : decode cX10_reaches 19 = .ok (.iload_n 1, 1) := by decide +kernel
theorem dX10_reaches_20 : decode cX10_reaches 20 = .ok (.iload_n 2, 1) := by decide +kernel
theorem dX10_reaches_21 : decode cX10_reaches 21 = .ok (.iconst 1, 1) := by decide +kernel
theorem dX10_reaches_22 : decode cX10_reaches 22 = .ok (.isub, 1) := by decide +kernel
theorem dX10_reaches_23 : decode cX10_reaches 23 = .ok (.if_icmp .ne 34, 3) := by decide +kernel
theorem dX10_reaches_26 : decode cX10_reaches 26 = .ok (.aload_n 0, 1) := by decide +kernel
theorem dX10_reaches_27 : decode cX10_reaches 27 = .ok (.aload_n 0, 1) := by decide +kernel
theorem dX10_reaches_28 : decode cX10_reaches 28 = .ok (.getfield 24, 3) := by decide +kernel
theorem dX10_reaches_31 : decode cX10_reaches 31 = .ok (.iload_n 1, 1) := by decide +kernel
theorem dX10_reaches_32 : decode cX10_reaches 32 = .ok (.aaload, 1) := by decide +kernel
theorem dX10_reaches_33 : decode cX10_reaches 33 = .ok (.iconst 1, 1) := by decide +kernel
theorem dX10_reaches_34 : decode cX10_reaches 34 = .ok (.iload_n 3, 1) := by decide +kernel
theorem dX10_reaches_35 : decode cX10_reaches 35 = .ok (.isub, 1) := by decide +kernel
theorem dX10_reaches_36 : decode cX10_reaches 36 = .ok (.invokevirtual 51, 3) := by decide +kernel
theorem dX10_reaches_39 : decode cX10_reaches 39 = .ok (.ifCond .ne 14, 3) := by decide +kernel
theorem dX10_reaches_42 : decode cX10_reaches 42 = .ok (.aload_n 0, 1) := by decide +kernel
theorem dX10_reaches_43 : decode cX10_reaches 43 = .ok (.getfield 43, 3) := by decide +kernel
theorem dX10_reaches_46 : decode cX10_reaches 46 = .ok (.iload_n 3, 1) := by decide +kernel
theorem dX10_reaches_47 : decode cX10_reaches 47 = .ok (.ishr, 1) := by decide +kernel
theorem dX10_reaches_48 : decode cX10_reaches 48 = .ok (.iconst 1, 1) := by decide +kernel
theorem dX10_reaches_49 : decode cX10_reaches 49 = .ok (.iand, 1) := by decide +kernel
theorem dX10_reaches_50 : decode cX10_reaches 50 = .ok (.ifCond .ne 7, 3) := by decide +kernel
theorem dX10_reaches_53 : decode cX10_reaches 53 = .ok (.iconst 1, 1) := by decide +kernel
theorem dX10_reaches_54 : decode cX10_reaches 54 = .ok (.goto 4, 3) := by decide +kernel
theorem dX10_reaches_57 : decode cX10_reaches 57 = .ok (.iconst 0, 1) := by decide +kernel
theorem dX10_reaches_58 : decode cX10_reaches 58 = .ok (.istore 4, 2) := by decide +kernel
theorem dX10_reaches_60 : decode cX10_reaches 60 = .ok (.iconst 0, 1) := by decide +kernel
theorem dX10_reaches_61 : decode cX10_reaches 61 = .ok (.istore 5, 2) := by decide +kernel
theorem dX10_reaches_63 : decode cX10_reaches 63 = .ok (.iload 5, 2) := by decide +kernel
theorem dX10_reaches_65 : decode cX10_reaches 65 = .ok (.getstatic 62, 3) := by decide +kernel
theorem dX10_reaches_68 : decode cX10_reaches 68 = .ok (.arraylength, 1) := by decide +kernel
theorem dX10_reaches_69 : decode cX10_reaches 69 = .ok (.if_icmp .ge 32, 3) := by decide +kernel
theorem dX10_reaches_72 : decode cX10_reaches 72 = .ok (.iload 4, 2) := by decide +kernel
theorem dX10_reaches_74 : decode cX10_reaches 74 = .ok (.ifCond .ne 27, 3) := by decide +kernel
theorem dX10_reaches_77 : decode cX10_reaches 77 = .ok (.aload_n 0, 1) := by decide +kernel
theorem dX10_reaches_78 : decode cX10_reaches 78 = .ok (.iload_n 1, 1) := by decide +kernel
theorem dX10_reaches_79 : decode cX10_reaches 79 = .ok (.iload_n 2, 1) := by decide +kernel
theorem dX10_reaches_80 : decode cX10_reaches 80 = .ok (.iload_n 3, 1) := by decide +kernel
theorem dX10_reaches_81 : decode cX10_reaches 81 = .ok (.getstatic 62, 3) := by decide +kernel
theorem dX10_reaches_84 : decode cX10_reaches 84 = .ok (.iload 5, 2) := by decide +kernel
theorem dX10_reaches_86 : decode cX10_reaches 86 = .ok (.iaload, 1) := by decide +kernel
theorem dX10_reaches_87 : decode cX10_reaches 87 = .ok (.invokevirtual 65, 3) := by decide +kernel
theorem dX10_reaches_90 : decode cX10_reaches 90 = .ok (.ifCond .eq 5, 3) := by decide +kernel
theorem dX10_reaches_93 : decode cX10_reaches 93 = .ok (.iconst 1, 1) := by decide +kernel
theorem dX10_reaches_94 : decode cX10_reaches 94 = .ok (.ireturn, 1) := by decide +kernel
theorem dX10_reaches_95 : decode cX10_reaches 95 = .ok (.iinc 5 1, 3) := by decide +kernel
theorem dX10_reaches_98 : decode cX10_reaches 98 = .ok (.goto (-35), 3) := by decide +kernel
theorem dX10_reaches_101 : decode cX10_reaches 101 = .ok (.iinc 3 1, 3) := by decide +kernel
theorem dX10_reaches_104 : decode cX10_reaches 104 = .ok (.goto (-90), 3) := by decide +kernel
theorem dX10_reaches_107 : decode cX10_reaches 107 = .ok (.iconst 0, 1) := by decide +kernel
theorem dX10_reaches_108 : decode cX10_reaches 108 = .ok (.ireturn, 1) := by decide +kernel
set_option maxRecDepth 20000 in
theorem ggX10_reachesBy_X8_make : GoodIn wsX10_reachesBy wsX8_make := goodIn_r _ [8, 9, 10, 11, 7, 12, 13, 14, 15, 16, 17, 18, 19, 20, 21, 22, 23, 24, 25, 26, 27, 28, 29, 30, 31, 32, 33, 34, 76, 77, 78, 79] (by decide +kernel) (by decide +kernel)
set_option maxRecDepth 20000 in
theorem gX10_reachesBy_X8_make : GoodIn wsX10_reachesBy (wsV RX10 72 RX8 yX8_make wsX8_make) := goodIn_app (goodIn_of _ (by decide +kernel)) ggX10_reachesBy_X8_make
set_option maxRecDepth 20000 in
theorem ggX10_reachesBy_X8_hasMade : GoodIn wsX10_reachesBy wsX8_hasMade := goodIn_r _ [38, 13, 24, 25, 26, 76, 77, 78, 79] (by decide +kernel) (by decide +kernel)
set_option maxRecDepth 20000 in
theorem gX10_reachesBy_X8_hasMade : GoodIn wsX10_reachesBy (wsV RX10 76 RX8 yX8_hasMade wsX8_hasMade) := goodIn_app (goodIn_of _ (by decide +kernel)) ggX10_reachesBy_X8_hasMade
set_option maxRecDepth 20000 in
theorem ggX10_reachesBy_X8_copyFrom : GoodIn wsX10_reachesBy wsX8_copyFrom := goodIn_r _ [42, 13, 43, 44, 45, 46, 76, 77, 78, 79] (by decide +kernel) (by decide +kernel)
set_option maxRecDepth 20000 in
theorem gX10_reachesBy_X8_copyFrom : GoodIn wsX10_reachesBy (wsV RX10 35 RX8 yX8_copyFrom wsX8_copyFrom) := goodIn_app (goodIn_of _ (by decide +kernel)) ggX10_reachesBy_X8_copyFrom
set_option maxRecDepth 20000 in
theorem ggX10_reachesBy_X8_storeMade : GoodIn wsX10_reachesBy wsX8_storeMade := goodIn_r _ [50, 13, 24, 25, 26, 76, 77, 78, 79] (by decide +kernel) (by decide +kernel)
set_option maxRecDepth 20000 in
theorem gX10_reachesBy_X8_storeMade : GoodIn wsX10_reachesBy (wsV RX10 80 RX8 yX8_storeMade wsX8_storeMade) := goodIn_app (goodIn_of _ (by decide +kernel)) ggX10_reachesBy_X8_storeMade
set_option maxRecDepth 20000 in
theorem ggX10_reachesBy_X10_reaches : GoodIn wsX10_reachesBy wsX10_reaches := goodIn_r _ [55, 1, 56, 57, 58, 59, 60, 54, 61, 3, 62, 63, 64, 7, 65, 13, 66, 67, 68, 0, 2, 4, 5, 6, 8, 9, 10, 11, 12, 14, 15, 16, 17, 18, 19, 20, 21, 22, 23, 24, 25, 26, 27, 28, 29, 30, 31, 32, 33, 34, 35, 36, 37, 38, 39, 40, 41, 42, 43, 44, 45, 46, 47, 48, 49, 50, 51, 52, 53, 69, 70, 71, 72, 73, 74, 75, 76, 77, 78, 79] (by decide +kernel) (by decide +kernel)
set_option maxRecDepth 20000 in
theorem gX10_reachesBy_X10_reaches : GoodIn wsX10_reachesBy (wsV RX10 58 RX10 yX10_reaches wsX10_reaches) := goodIn_app (goodIn_of _ (by decide +kernel)) ggX10_reachesBy_X10_reaches
theorem dX10_reachesBy_0 : decode cX10_reachesBy 0 = .ok (.aload_n 0, 1) := by decide +kernel
theorem dX10_reachesBy_1 : decode cX10_reachesBy 1 = .ok (.getfield 24, 3) := by decide +kernel
theorem dX10_reachesBy_4 : decode cX10_reachesBy 4 = .ok (.iload_n 1, 1) := by decide +kernel
theorem dX10_reachesBy_5 : decode cX10_reachesBy 5 = .ok (.aaload, 1) := by decide +kernel
theorem dX10_reachesBy_6 : decode cX10_reachesBy 6 = .ok (.astore 5, 2) := by decide +kernel
theorem dX10_reachesBy_8 : decode cX10_reachesBy 8 = .ok (.iload 4, 2) := by decide +kernel
theorem dX10_reachesBy_10 : decode cX10_reachesBy 10 = .ok (.bipush 100, 2) := by decide +kernel
theorem dX10_reachesBy_12 : decode cX10_reachesBy 12 = .ok (.idiv, 1) := by decide +kernel
theorem dX10_reachesBy_13 : decode cX10_reachesBy 13 = .ok (.istore 6, 2) := by decide +kernel
theorem dX10_reachesBy_15 : decode cX10_reachesBy 15 = .ok (.iload 6, 2) := by decide +kernel
theorem dX10_reachesBy_17 : decode cX10_reachesBy 17 = .ok (.ifCond .ne 8, 3) := by decide +kernel
theorem dX10_reachesBy_20 : decode cX10_reachesBy 20 = .ok (.bipush 10, 2) := by decide +kernel
theorem dX10_reachesBy_22 : decode cX10_reachesBy 22 = .ok (.goto 23, 3) := by decide +kernel
theorem dX10_reachesBy_25 : decode cX10_reachesBy 25 = .ok (.iload 6, 2) := by decide +kernel
theorem dX10_reachesBy_27 : decode cX10_reachesBy 27 = .ok (.iconst 1, 1) := by decide +kernel
theorem dX10_reachesBy_28 : decode cX10_reachesBy 28 = .ok (.if_icmp .ne 9, 3) := by decide +kernel
theorem dX10_reachesBy_31 : decode cX10_reachesBy 31 = .ok (.iconst 1, 1) := by decide +kernel
theorem dX10_reachesBy_32 : decode cX10_reachesBy 32 = .ok (.iload_n 3, 1) := by decide +kernel
theorem dX10_reachesBy_33 : decode cX10_reachesBy 33 = .ok (.isub, 1) := by decide +kernel
theorem dX10_reachesBy_34 : decode cX10_reachesBy 34 = .ok (.goto 11, 3) := by decide +kernel
theorem dX10_reachesBy_37 : decode cX10_reachesBy 37 = .ok (.iload 4, 2) := by decide +kernel
theorem dX10_reachesBy_39 : decode cX10_reachesBy 39 = .ok (.bipush 10, 2) := by decide +kernel
theorem dX10_reachesBy_41 : decode cX10_reachesBy 41 = .ok (.idiv, 1) := by decide +kernel
theorem dX10_reachesBy_42 : decode cX10_reachesBy 42 = .ok (.bipush 10, 2) := by decide +kernel
theorem dX10_reachesBy_44 : decode cX10_reachesBy 44 = .ok (.irem, 1) := by decide +kernel
theorem dX10_reachesBy_45 : decode cX10_reachesBy 45 = .ok (.istore 7, 2) := by decide +kernel
theorem dX10_reachesBy_47 : decode cX10_reachesBy 47 = .ok (.iload 4, 2) := by decide +kernel
theorem dX10_reachesBy_49 : decode cX10_reachesBy 49 = .ok (.bipush 10, 2) := by decide +kernel
theorem dX10_reachesBy_51 : decode cX10_reachesBy 51 = .ok (.irem, 1) := by decide +kernel
theorem dX10_reachesBy_52 : decode cX10_reachesBy 52 = .ok (.iconst 2, 1) := by decide +kernel
theorem dX10_reachesBy_53 : decode cX10_reachesBy 53 = .ok (.if_icmp .ne 8, 3) := by decide +kernel
theorem dX10_reachesBy_56 : decode cX10_reachesBy 56 = .ok (.bipush 11, 2) := by decide +kernel
theorem dX10_reachesBy_58 : decode cX10_reachesBy 58 = .ok (.goto 8, 3) := by decide +kernel
theorem dX10_reachesBy_61 : decode cX10_reachesBy 61 = .ok (.iload 4, 2) := by decide +kernel
theorem dX10_reachesBy_63 : decode cX10_reachesBy 63 = .ok (.bipush 10, 2) := by decide +kernel
theorem dX10_reachesBy_65 : decode cX10_reachesBy 65 = .ok (.irem, 1) := by decide +kernel
theorem dX10_reachesBy_66 : decode cX10_reachesBy 66 = .ok (.istore 8, 2) := by decide +kernel
theorem dX10_reachesBy_68 : decode cX10_reachesBy 68 = .ok (.aload 5, 2) := by decide +kernel
theorem dX10_reachesBy_70 : decode cX10_reachesBy 70 = .ok (.iload 6, 2) := by decide +kernel
theorem dX10_reachesBy_72 : decode cX10_reachesBy 72 = .ok (.iconst 2, 1) := by decide +kernel
theorem dX10_reachesBy_73 : decode cX10_reachesBy 73 = .ok (.if_icmp .ge 8, 3) := by decide +kernel
theorem dX10_reachesBy_76 : decode cX10_reachesBy 76 = .ok (.bipush (-6), 2) := by decide +kernel
theorem dX10_reachesBy_78 : decode cX10_reachesBy 78 = .ok (.goto 11, 3) := by decide +kernel
theorem dX10_reachesBy_81 : decode cX10_reachesBy 81 = .ok (.getstatic 69, 3) := by decide +kernel
theorem dX10_reachesBy_84 : decode cX10_reachesBy 84 = .ok (.iload 6, 2) := by decide +kernel
theorem dX10_reachesBy_86 : decode cX10_reachesBy 86 = .ok (.iconst 2, 1) := by decide +kernel
theorem dX10_reachesBy_87 : decode cX10_reachesBy 87 = .ok (.isub, 1) := by decide +kernel
theorem dX10_reachesBy_88 : decode cX10_reachesBy 88 = .ok (.iaload, 1) := by decide +kernel
theorem dX10_reachesBy_89 : decode cX10_reachesBy 89 = .ok (.iload 7, 2) := by decide +kernel
theorem dX10_reachesBy_91 : decode cX10_reachesBy 91 = .ok (.iload 8, 2) := by decide +kernel
theorem dX10_reachesBy_93 : decode cX10_reachesBy 93 = .ok (.invokevirtual 72, 3) := by decide +kernel
theorem dX10_reachesBy_96 : decode cX10_reachesBy 96 = .ok (.aload_n 0, 1) := by decide +kernel
theorem dX10_reachesBy_97 : decode cX10_reachesBy 97 = .ok (.getfield 28, 3) := by decide +kernel
theorem dX10_reachesBy_100 : decode cX10_reachesBy 100 = .ok (.iload_n 1, 1) := by decide +kernel
theorem dX10_reachesBy_101 : decode cX10_reachesBy 101 = .ok (.sipush 1000, 3) := by decide +kernel
theorem dX10_reachesBy_104 : decode cX10_reachesBy 104 = .ok (.iload_n 3, 1) := by decide +kernel
theorem dX10_reachesBy_105 : decode cX10_reachesBy 105 = .ok (.imul, 1) := by decide +kernel
theorem dX10_reachesBy_106 : decode cX10_reachesBy 106 = .ok (.iload 4, 2) := by decide +kernel
theorem dX10_reachesBy_108 : decode cX10_reachesBy 108 = .ok (.iadd, 1) := by decide +kernel
theorem dX10_reachesBy_109 : decode cX10_reachesBy 109 = .ok (.iload 6, 2) := by decide +kernel
theorem dX10_reachesBy_111 : decode cX10_reachesBy 111 = .ok (.iconst 1, 1) := by decide +kernel
theorem dX10_reachesBy_112 : decode cX10_reachesBy 112 = .ok (.if_icmp .ne 11, 3) := by decide +kernel
theorem dX10_reachesBy_115 : decode cX10_reachesBy 115 = .ok (.bipush 10, 2) := by decide +kernel
theorem dX10_reachesBy_117 : decode cX10_reachesBy 117 = .ok (.iload 7, 2) := by decide +kernel
theorem dX10_reachesBy_119 : decode cX10_reachesBy 119 = .ok (.imul, 1) := by decide +kernel
theorem dX10_reachesBy_120 : decode cX10_reachesBy 120 = .ok (.goto 4, 3) := by decide +kernel
theorem dX10_reachesBy_123 : decode cX10_reachesBy 123 = .ok (.iconst 0, 1) := by decide +kernel
theorem dX10_reachesBy_124 : decode cX10_reachesBy 124 = .ok (.iadd, 1) := by decide +kernel
theorem dX10_reachesBy_125 : decode cX10_reachesBy 125 = .ok (.iastore, 1) := by decide +kernel
theorem dX10_reachesBy_126 : decode cX10_reachesBy 126 = .ok (.iload_n 1, 1) := by decide +kernel
theorem dX10_reachesBy_127 : decode cX10_reachesBy 127 = .ok (.iload_n 2, 1) := by decide +kernel
theorem dX10_reachesBy_128 : decode cX10_reachesBy 128 = .ok (.iconst 1, 1) := by decide +kernel
theorem dX10_reachesBy_129 : decode cX10_reachesBy 129 = .ok (.isub, 1) := by decide +kernel
theorem dX10_reachesBy_130 : decode cX10_reachesBy 130 = .ok (.if_icmp .ne 14, 3) := by decide +kernel
theorem dX10_reachesBy_133 : decode cX10_reachesBy 133 = .ok (.aload 5, 2) := by decide +kernel
theorem dX10_reachesBy_135 : decode cX10_reachesBy 135 = .ok (.iload_n 3, 1) := by decide +kernel
theorem dX10_reachesBy_136 : decode cX10_reachesBy 136 = .ok (.aload_n 0, 1) := by decide +kernel
theorem dX10_reachesBy_137 : decode cX10_reachesBy 137 = .ok (.getfield 18, 3) := by decide +kernel
theorem dX10_reachesBy_140 : decode cX10_reachesBy 140 = .ok (.invokevirtual 76, 3) := by decide +kernel
theorem dX10_reachesBy_143 : decode cX10_reachesBy 143 = .ok (.ireturn, 1) := by decide +kernel
theorem dX10_reachesBy_144 : decode cX10_reachesBy 144 = .ok (.iload_n 1, 1) := by decide +kernel
theorem dX10_reachesBy_145 : decode cX10_reachesBy 145 = .ok (.iconst 1, 1) := by decide +kernel
theorem dX10_reachesBy_146 : decode cX10_reachesBy 146 = .ok (.iadd, 1) := by decide +kernel
theorem dX10_reachesBy_147 : decode cX10_reachesBy 147 = .ok (.iconst 3, 1) := by decide +kernel
theorem dX10_reachesBy_148 : decode cX10_reachesBy 148 = .ok (.if_icmp .lt 5, 3) := by decide +kernel
theorem dX10_reachesBy_151 : decode cX10_reachesBy 151 = .ok (.iconst 0, 1) := by decide +kernel
theorem dX10_reachesBy_152 : decode cX10_reachesBy 152 = .ok (.ireturn, 1) := by decide +kernel
theorem dX10_reachesBy_153 : decode cX10_reachesBy 153 = .ok (.aload_n 0, 1) := by decide +kernel
theorem dX10_reachesBy_154 : decode cX10_reachesBy 154 = .ok (.getfield 24, 3) := by decide +kernel
theorem dX10_reachesBy_157 : decode cX10_reachesBy 157 = .ok (.iload_n 1, 1) := by decide +kernel
theorem dX10_reachesBy_158 : decode cX10_reachesBy 158 = .ok (.iconst 1, 1) := by decide +kernel
theorem dX10_reachesBy_159 : decode cX10_reachesBy 159 = .ok (.iadd, 1) := by decide +kernel
theorem dX10_reachesBy_160 : decode cX10_reachesBy 160 = .ok (.aaload, 1) := by decide +kernel
theorem dX10_reachesBy_161 : decode cX10_reachesBy 161 = .ok (.aload 5, 2) := by decide +kernel
theorem dX10_reachesBy_163 : decode cX10_reachesBy 163 = .ok (.invokevirtual 35, 3) := by decide +kernel
theorem dX10_reachesBy_166 : decode cX10_reachesBy 166 = .ok (.aload 5, 2) := by decide +kernel
theorem dX10_reachesBy_168 : decode cX10_reachesBy 168 = .ok (.iload_n 3, 1) := by decide +kernel
theorem dX10_reachesBy_169 : decode cX10_reachesBy 169 = .ok (.aload_n 0, 1) := by decide +kernel
theorem dX10_reachesBy_170 : decode cX10_reachesBy 170 = .ok (.getfield 24, 3) := by decide +kernel
theorem dX10_reachesBy_173 : decode cX10_reachesBy 173 = .ok (.iload_n 1, 1) := by decide +kernel
theorem dX10_reachesBy_174 : decode cX10_reachesBy 174 = .ok (.iconst 1, 1) := by decide +kernel
theorem dX10_reachesBy_175 : decode cX10_reachesBy 175 = .ok (.iadd, 1) := by decide +kernel
theorem dX10_reachesBy_176 : decode cX10_reachesBy 176 = .ok (.aaload, 1) := by decide +kernel
theorem dX10_reachesBy_177 : decode cX10_reachesBy 177 = .ok (.invokevirtual 80, 3) := by decide +kernel
theorem dX10_reachesBy_180 : decode cX10_reachesBy 180 = .ok (.aload_n 0, 1) := by decide +kernel
theorem dX10_reachesBy_181 : decode cX10_reachesBy 181 = .ok (.iload_n 1, 1) := by decide +kernel
theorem dX10_reachesBy_182 : decode cX10_reachesBy 182 = .ok (.iconst 1, 1) := by decide +kernel
theorem dX10_reachesBy_183 : decode cX10_reachesBy 183 = .ok (.iadd, 1) := by decide +kernel
theorem dX10_reachesBy_184 : decode cX10_reachesBy 184 = .ok (.iload_n 2, 1) := by decide +kernel
theorem dX10_reachesBy_185 : decode cX10_reachesBy 185 = .ok (.invokevirtual 58, 3) := by decide +kernel
theorem dX10_reachesBy_188 : decode cX10_reachesBy 188 = .ok (.ireturn, 1) := by decide +kernel
set_option maxRecDepth 20000 in
theorem ggX11_init_X7_init : GoodIn wsX11_init wsX7_init := goodIn_r _ [51, 52, 2, 3, 48, 53, 54, 45, 46, 55, 56, 57, 58, 59, 60, 155, 156, 157, 158, 159, 160, 161, 162, 163, 164, 236, 237] (by decide +kernel) (by decide +kernel)
set_option maxRecDepth 20000 in
theorem gX11_init_X7_init_n11 : GoodIn wsX11_init (wsX7_init) := ggX11_init_X7_init
set_option maxRecDepth 20000 in
theorem ggX11_init_X2_init : GoodIn wsX11_init wsX2_init := goodIn_r _ [63, 64, 2, 3, 65, 45, 46, 66, 67, 68, 69, 48, 70, 71, 72, 73, 57, 58, 59, 60, 74, 75, 76, 77, 78, 79, 80, 81, 82, 83, 84, 236, 237, 179, 180, 181, 182, 183, 184, 238, 239, 240, 241] (by decide +kernel) (by decide +kernel)
set_option maxRecDepth 20000 in
theorem gX11_init_X2_init : GoodIn wsX11_init (wsX2_init) := ggX11_init_X2_init
set_option maxRecDepth 20000 in
theorem ggX11_init_X3_init : GoodIn wsX11_init wsX3_init := goodIn_r _ [86, 87, 2, 3, 48, 88, 89, 90, 91, 92, 93, 94, 95, 185, 186, 187, 188, 189, 190, 191, 192, 193] (by decide +kernel) (by decide +kernel)
set_option maxRecDepth 20000 in
theorem gX11_init_X3_init_n33 : GoodIn wsX11_init (wsX3_init) := ggX11_init_X3_init
set_option maxRecDepth 20000 in
theorem ggX11_init_X6_init : GoodIn wsX11_init wsX6_init := goodIn_r _ [97, 98, 2, 3, 99, 16, 17, 100, 85, 86, 87, 48, 88, 89, 90, 91, 92, 93, 94, 95, 185, 186, 187, 188, 189, 190, 191, 192, 193, 194] (by decide +kernel) (by decide +kernel)
set_option maxRecDepth 20000 in
theorem gX11_init_X6_init_n40 : GoodIn wsX11_init (wsX6_init) := ggX11_init_X6_init
set_option maxRecDepth 20000 in
theorem ggX11_init_X5_init : GoodIn wsX11_init wsX5_init := goodIn_r _ [102, 103, 2, 3, 48, 104, 105, 106, 107, 108, 109, 195, 196, 197, 198, 199, 200] (by decide +kernel) (by decide +kernel)
set_option maxRecDepth 20000 in
theorem gX11_init_X5_init_n47 : GoodIn wsX11_init (wsX5_init) := ggX11_init_X5_init
set_option maxRecDepth 20000 in
theorem ggX11_init_X0_init : GoodIn wsX11_init wsX0_init := goodIn_r _ [111, 112, 2, 3, 48, 113, 114, 115, 116, 117, 118, 119, 201, 202, 203, 204, 205, 206, 207, 208, 209, 210] (by decide +kernel) (by decide +kernel)
set_option maxRecDepth 20000 in
theorem gX11_init_X0_init_n54 : GoodIn wsX11_init (wsX0_init) := ggX11_init_X0_init
set_option maxRecDepth 20000 in
theorem ggX11_init_X4_init : GoodIn wsX11_init wsX4_init := goodIn_r _ [121, 122, 2, 3, 48, 123, 124, 125, 126, 127, 128, 129, 130, 131, 132, 133, 211, 212, 213, 214, 215, 216, 217, 218, 219, 220, 221, 222, 223, 224] (by decide +kernel) (by decide +kernel)
set_option maxRecDepth 20000 in
theorem gX11_init_X4_init_n61 : GoodIn wsX11_init (wsX4_init) := ggX11_init_X4_init
set_option maxRecDepth 20000 in
theorem ggX11_init_X8_init : GoodIn wsX11_init wsX8_init := goodIn_r _ [135, 136, 2, 3, 137, 138, 225, 226, 227, 228] (by decide +kernel) (by decide +kernel)
set_option maxRecDepth 20000 in
theorem gX11_init_X8_init_n68 : GoodIn wsX11_init (wsX8_init) := ggX11_init_X8_init
set_option maxRecDepth 20000 in
theorem ggX11_init_X10_init : GoodIn wsX11_init wsX10_init := goodIn_r _ [141, 142, 2, 3, 143, 36, 37, 144, 145, 146, 147, 48, 148, 134, 135, 136, 137, 138, 149, 150, 151, 152, 153, 154, 225, 226, 227, 228, 229, 230, 231, 232, 233, 234, 235] (by decide +kernel) (by decide +kernel)
set_option maxRecDepth 20000 in
theorem gX11_init_X10_init : GoodIn wsX11_init (wsX10_init) := ggX11_init_X10_init
set_option maxRecDepth 20000 in
theorem ggX11_init_X1_init : GoodIn wsX11_init wsX1_init := goodIn_r _ [58, 59, 2, 3, 48, 60, 236, 237] (by decide +kernel) (by decide +kernel)
set_option maxRecDepth 20000 in
theorem gX11_init_X1_init_n85 : GoodIn wsX11_init (wsX1_init) := ggX11_init_X1_init
theorem dX11_init_0 : decode cX11_init 0 = .ok (.aload_n 0, 1) := by decide +kernel
theorem dX11_init_1 : decode cX11_init 1 = .ok (.invokespecial 3, 3) := by decide +kernel
theorem dX11_init_4 : decode cX11_init 4 = .ok (.aload_n 0, 1) := by decide +kernel
theorem dX11_init_5 : decode cX11_init 5 = .ok (.new 9, 3) := by decide +kernel
theorem dX11_init_8 : decode cX11_init 8 = .ok (.dup, 1) := by decide +kernel
theorem dX11_init_9 : decode cX11_init 9 = .ok (.invokespecial 11, 3) := by decide +kernel
theorem dX11_init_12 : decode cX11_init 12 = .ok (.putfield 12, 3) := by decide +kernel
theorem dX11_init_15 : decode cX11_init 15 = .ok (.aload_n 0, 1) := by decide +kernel
theorem dX11_init_16 : decode cX11_init 16 = .ok (.new 16, 3) := by decide +kernel
theorem dX11_init_19 : decode cX11_init 19 = .ok (.dup, 1) := by decide +kernel
theorem dX11_init_20 : decode cX11_init 20 = .ok (.invokespecial 18, 3) := by decide +kernel
theorem dX11_init_23 : decode cX11_init 23 = .ok (.putfield 19, 3) := by decide +kernel
theorem dX11_init_26 : decode cX11_init 26 = .ok (.aload_n 0, 1) := by decide +kernel
theorem dX11_init_27 : decode cX11_init 27 = .ok (.iconst 2, 1) := by decide +kernel
theorem dX11_init_28 : decode cX11_init 28 = .ok (.anewarray 16, 3) := by decide +kernel
theorem dX11_init_31 : decode cX11_init 31 = .ok (.putfield 23, 3) := by decide +kernel
theorem dX11_init_34 : decode cX11_init 34 = .ok (.iconst 0, 1) := by decide +kernel
theorem dX11_init_35 : decode cX11_init 35 = .ok (.istore_n 1, 1) := by decide +kernel
theorem dX11_init_36 : decode cX11_init 36 = .ok (.iload_n 1, 1) := by decide +kernel
theorem dX11_init_37 : decode cX11_init 37 = .ok (.iconst 2, 1) := by decide +kernel
theorem dX11_init_38 : decode cX11_init 38 = .ok (.if_icmp .ge 22, 3) := by decide +kernel
theorem dX11_init_41 : decode cX11_init 41 = .ok (.aload_n 0, 1) := by decide +kernel
theorem dX11_init_42 : decode cX11_init 42 = .ok (.getfield 23, 3) := by decide +kernel
theorem dX11_init_45 : decode cX11_init 45 = .ok (.iload_n 1, 1) := by decide +kernel
theorem dX11_init_46 : decode cX11_init 46 = .ok (.new 16, 3) := by decide +kernel
theorem dX11_init_49 : decode cX11_init 49 = .ok (.dup, 1) := by decide +kernel
theorem dX11_init_50 : decode cX11_init 50 = .ok (.invokespecial 18, 3) := by decide +kernel
theorem dX11_init_53 : decode cX11_init 53 = .ok (.aastore, 1) := by decide +kernel
theorem dX11_init_54 : decode cX11_init 54 = .ok (.iinc 1 1, 3) := by decide +kernel
theorem dX11_init_57 : decode cX11_init 57 = .ok (.goto (-21), 3) := by decide +kernel
theorem dX11_init_60 : decode cX11_init 60 = .ok (.aload_n 0, 1) := by decide +kernel
theorem dX11_init_61 : decode cX11_init 61 = .ok (.iconst 2, 1) := by decide +kernel
theorem dX11_init_62 : decode cX11_init 62 = .ok (.newarray .boolean, 2) := by decide +kernel
theorem dX11_init_64 : decode cX11_init 64 = .ok (.putfield 27, 3) := by decide +kernel
theorem dX11_init_67 : decode cX11_init 67 = .ok (.aload_n 0, 1) := by decide +kernel
theorem dX11_init_68 : decode cX11_init 68 = .ok (.new 31, 3) := by decide +kernel
theorem dX11_init_71 : decode cX11_init 71 = .ok (.dup, 1) := by decide +kernel
theorem dX11_init_72 : decode cX11_init 72 = .ok (.invokespecial 33, 3) := by decide +kernel
theorem dX11_init_75 : decode cX11_init 75 = .ok (.putfield 34, 3) := by decide +kernel
theorem dX11_init_78 : decode cX11_init 78 = .ok (.aload_n 0, 1) := by decide +kernel
theorem dX11_init_79 : decode cX11_init 79 = .ok (.new 38, 3) := by decide +kernel
theorem dX11_init_82 : decode cX11_init 82 = .ok (.dup, 1) := by decide +kernel
theorem dX11_init_83 : decode cX11_init 83 = .ok (.invokespecial 40, 3) := by decide +kernel
theorem dX11_init_86 : decode cX11_init 86 = .ok (.putfield 41, 3) := by decide +kernel
theorem dX11_init_89 : decode cX11_init 89 = .ok (.aload_n 0, 1) := by decide +kernel
theorem dX11_init_90 : decode cX11_init 90 = .ok (.new 45, 3) := by decide +kernel
theorem dX11_init_93 : decode cX11_init 93 = .ok (.dup, 1) := by decide +kernel
theorem dX11_init_94 : decode cX11_init 94 = .ok (.invokespecial 47, 3) := by decide +kernel
theorem dX11_init_97 : decode cX11_init 97 = .ok (.putfield 48, 3) := by decide +kernel
theorem dX11_init_100 : decode cX11_init 100 = .ok (.aload_n 0, 1) := by decide +kernel
theorem dX11_init_101 : decode cX11_init 101 = .ok (.new 52, 3) := by decide +kernel
theorem dX11_init_104 : decode cX11_init 104 = .ok (.dup, 1) := by decide +kernel
theorem dX11_init_105 : decode cX11_init 105 = .ok (.invokespecial 54, 3) := by decide +kernel
theorem dX11_init_108 : decode cX11_init 108 = .ok (.putfield 55, 3) := by decide +kernel
theorem dX11_init_111 : decode cX11_init 111 = .ok (.aload_n 0, 1) := by decide +kernel
theorem dX11_init_112 : decode cX11_init 112 = .ok (.new 59, 3) := by decide +kernel
theorem dX11_init_115 : decode cX11_init 115 = .ok (.dup, 1) := by decide +kernel
theorem dX11_init_116 : decode cX11_init 116 = .ok (.invokespecial 61, 3) := by decide +kernel
theorem dX11_init_119 : decode cX11_init 119 = .ok (.putfield 62, 3) := by decide +kernel
theorem dX11_init_122 : decode cX11_init 122 = .ok (.aload_n 0, 1) := by decide +kernel
theorem dX11_init_123 : decode cX11_init 123 = .ok (.new 66, 3) := by decide +kernel
theorem dX11_init_126 : decode cX11_init 126 = .ok (.dup, 1) := by decide +kernel
theorem dX11_init_127 : decode cX11_init 127 = .ok (.invokespecial 68, 3) := by decide +kernel
theorem dX11_init_130 : decode cX11_init 130 = .ok (.putfield 69, 3) := by decide +kernel
theorem dX11_init_133 : decode cX11_init 133 = .ok (.aload_n 0, 1) := by decide +kernel
theorem dX11_init_134 : decode cX11_init 134 = .ok (.new 66, 3) := by decide +kernel
theorem dX11_init_137 : decode cX11_init 137 = .ok (.dup, 1) := by decide +kernel
theorem dX11_init_138 : decode cX11_init 138 = .ok (.invokespecial 68, 3) := by decide +kernel
theorem dX11_init_141 : decode cX11_init 141 = .ok (.putfield 73, 3) := by decide +kernel
theorem dX11_init_144 : decode cX11_init 144 = .ok (.aload_n 0, 1) := by decide +kernel
theorem dX11_init_145 : decode cX11_init 145 = .ok (.new 76, 3) := by decide +kernel
theorem dX11_init_148 : decode cX11_init 148 = .ok (.dup, 1) := by decide +kernel
theorem dX11_init_149 : decode cX11_init 149 = .ok (.invokespecial 78, 3) := by decide +kernel
theorem dX11_init_152 : decode cX11_init 152 = .ok (.putfield 79, 3) := by decide +kernel
theorem dX11_init_155 : decode cX11_init 155 = .ok (.aload_n 0, 1) := by decide +kernel
theorem dX11_init_156 : decode cX11_init 156 = .ok (.new 83, 3) := by decide +kernel
theorem dX11_init_159 : decode cX11_init 159 = .ok (.dup, 1) := by decide +kernel
theorem dX11_init_160 : decode cX11_init 160 = .ok (.invokespecial 85, 3) := by decide +kernel
theorem dX11_init_163 : decode cX11_init 163 = .ok (.putfield 86, 3) := by decide +kernel
theorem dX11_init_166 : decode cX11_init 166 = .ok (.aload_n 0, 1) := by decide +kernel
theorem dX11_init_167 : decode cX11_init 167 = .ok (.iconst 4, 1) := by decide +kernel
theorem dX11_init_168 : decode cX11_init 168 = .ok (.newarray .int, 2) := by decide +kernel
theorem dX11_init_170 : decode cX11_init 170 = .ok (.putfield 90, 3) := by decide +kernel
theorem dX11_init_173 : decode cX11_init 173 = .ok (.return_, 1) := by decide +kernel
set_option maxRecDepth 20000 in
theorem ggX11_say_X7_write : GoodIn wsX11_say wsX7_write := goodIn_r _ [6, 7, 8, 23, 24, 25, 26, 27, 28, 29, 30, 31, 32] (by decide +kernel) (by decide +kernel)
set_option maxRecDepth 20000 in
theorem gX11_say_X7_write : GoodIn wsX11_say (wsV RX11 94 RX7 yX7_write wsX7_write) := goodIn_app (goodIn_of _ (by decide +kernel)) ggX11_say_X7_write
theorem dX11_say_0 : decode cX11_say 0 = .ok (.iload_n 1, 1) := by decide +kernel
theorem dX11_say_1 : decode cX11_say 1 = .ok (.bipush 33, 2) := by decide +kernel
theorem dX11_say_3 : decode cX11_say 3 = .ok (.if_icmp .lt 9, 3) := by decide +kernel
theorem dX11_say_6 : decode cX11_say 6 = .ok (.iload_n 1, 1) := by decide +kernel
theorem dX11_say_7 : decode cX11_say 7 = .ok (.bipush 126, 2) := by decide +kernel
theorem dX11_say_9 : decode cX11_say 9 = .ok (.if_icmp .le 6, 3) := by decide +kernel
theorem dX11_say_12 : decode cX11_say 12 = .ok (.bipush (-2), 2) := by decide +kernel
theorem dX11_say_14 : decode cX11_say 14 = .ok (.ireturn, 1) := by decide +kernel
theorem dX11_say_15 : decode cX11_say 15 = .ok (.aload_n 0, 1) := by decide +kernel
theorem dX11_say_16 : decode cX11_say 16 = .ok (.getfield 12, 3) := by decide +kernel
theorem dX11_say_19 : decode cX11_say 19 = .ok (.iload_n 1, 1) := by decide +kernel
theorem dX11_say_20 : decode cX11_say 20 = .ok (.invokevirtual 94, 3) := by decide +kernel
theorem dX11_say_23 : decode cX11_say 23 = .ok (.ireturn, 1) := by decide +kernel
set_option maxRecDepth 20000 in
theorem ggX11_wipe_X7_empty : GoodIn wsX11_wipe wsX7_empty := goodIn_r _ [6, 7, 22, 23, 24, 25, 26, 27, 28, 29, 30, 31] (by decide +kernel) (by decide +kernel)
set_option maxRecDepth 20000 in
theorem gX11_wipe_X7_empty : GoodIn wsX11_wipe (wsV RX11 98 RX7 yX7_empty wsX7_empty) := goodIn_app (goodIn_of _ (by decide +kernel)) ggX11_wipe_X7_empty
theorem dX11_wipe_0 : decode cX11_wipe 0 = .ok (.aload_n 0, 1) := by decide +kernel
theorem dX11_wipe_1 : decode cX11_wipe 1 = .ok (.getfield 12, 3) := by decide +kernel
theorem dX11_wipe_4 : decode cX11_wipe 4 = .ok (.invokevirtual 98, 3) := by decide +kernel
theorem dX11_wipe_7 : decode cX11_wipe 7 = .ok (.ireturn, 1) := by decide +kernel
set_option maxRecDepth 20000 in
theorem ggX11_fault_X7_parse : GoodIn wsX11_fault wsX7_parse := goodIn_r _ [6, 7, 8, 9, 10, 11, 12, 13, 14, 15, 16, 5, 17, 18, 19, 20, 21, 22, 23, 24, 25, 26, 27, 28, 29, 30, 31, 32, 33, 34, 35, 36, 37, 38, 39, 40, 41, 42, 43, 44, 45, 46, 47, 48, 49, 50, 51, 52, 53, 54, 55, 70, 71, 72, 73, 74, 75, 76, 77, 78, 79, 80, 81] (by decide +kernel) (by decide +kernel)
set_option maxRecDepth 20000 in
theorem gX11_fault_X7_parse : GoodIn wsX11_fault (wsV RX11 102 RX7 yX7_parse wsX7_parse) := goodIn_app (goodIn_of _ (by decide +kernel)) ggX11_fault_X7_parse
theorem dX11_fault_0 : decode cX11_fault 0 = .ok (.iload_n 1, 1) := by decide +kernel
theorem dX11_fault_1 : decode cX11_fault 1 = .ok (.ifCond .eq 11, 3) := by decide +kernel
theorem dX11_fault_4 : decode cX11_fault 4 = .ok (.iload_n 1, 1) := by decide +kernel
theorem dX11_fault_5 : decode cX11_fault 5 = .ok (.iconst 1, 1) := by decide +kernel
theorem dX11_fault_6 : decode cX11_fault 6 = .ok (.if_icmp .eq 6, 3) := by decide +kernel
theorem dX11_fault_9 : decode cX11_fault 9 = .ok (.bipush (-2), 2) := by decide +kernel
theorem dX11_fault_11 : decode cX11_fault 11 = .ok (.ireturn, 1) := by decide +kernel
theorem dX11_fault_12 : decode cX11_fault 12 = .ok (.aload_n 0, 1) := by decide +kernel
theorem dX11_fault_13 : decode cX11_fault 13 = .ok (.getfield 12, 3) := by decide +kernel
theorem dX11_fault_16 : decode cX11_fault 16 = .ok (.iload_n 1, 1) := by decide +kernel
theorem dX11_fault_17 : decode cX11_fault 17 = .ok (.iconst 1, 1) := by decide +kernel
theorem dX11_fault_18 : decode cX11_fault 18 = .ok (.if_icmp .ne 7, 3) := by decide +kernel
theorem dX11_fault_21 : decode cX11_fault 21 = .ok (.iconst 1, 1) := by decide +kernel
theorem dX11_fault_22 : decode cX11_fault 22 = .ok (.goto 4, 3) := by decide +kernel
theorem dX11_fault_25 : decode cX11_fault 25 = .ok (.iconst 0, 1) := by decide +kernel
theorem dX11_fault_26 : decode cX11_fault 26 = .ok (.invokevirtual 102, 3) := by decide +kernel
theorem dX11_fault_29 : decode cX11_fault 29 = .ok (.ireturn, 1) := by decide +kernel
set_option maxRecDepth 20000 in
theorem ggX11_code_X7_parse : GoodIn wsX11_code wsX7_parse := goodIn_r _ [7, 8, 9, 10, 11, 12, 13, 14, 15, 16, 17, 6, 18, 19, 20, 21, 22, 23, 24, 25, 26, 27, 28, 29, 30, 31, 32, 33, 34, 35, 36, 37, 38, 39, 40, 41, 42, 43, 44, 45, 46, 47, 48, 49, 50, 51, 52, 53, 54, 55, 56, 89, 90, 91, 92, 93, 94, 95, 96, 97, 98, 99, 100] (by decide +kernel) (by decide +kernel)
set_option maxRecDepth 20000 in
theorem gX11_code_X7_parse : GoodIn wsX11_code (wsV RX11 102 RX7 yX7_parse wsX7_parse) := goodIn_app (goodIn_of _ (by decide +kernel)) ggX11_code_X7_parse
set_option maxRecDepth 20000 in
theorem ggX11_code_X1_copyFrom : GoodIn wsX11_code wsX1_copyFrom := goodIn_r _ [60, 48, 61, 62, 63, 64, 43, 99, 100] (by decide +kernel) (by decide +kernel)
set_option maxRecDepth 20000 in
theorem gX11_code_X1_copyFrom : GoodIn wsX11_code (wsV RX11 112 RX1 yX1_copyFrom wsX1_copyFrom) := goodIn_app (goodIn_of _ (by decide +kernel)) ggX11_code_X1_copyFrom
set_option maxRecDepth 20000 in
theorem ggX11_code_X7_empty : GoodIn wsX11_code wsX7_empty := goodIn_r _ [68, 13, 89, 90, 91, 92, 93, 94, 95, 96, 97, 98] (by decide +kernel) (by decide +kernel)
set_option maxRecDepth 20000 in
theorem gX11_code_X7_empty : GoodIn wsX11_code (wsV RX11 98 RX7 yX7_empty wsX7_empty) := goodIn_app (goodIn_of _ (by decide +kernel)) ggX11_code_X7_empty
theorem dX11_code_0 : decode cX11_code 0 = .ok (.aload_n 0, 1) := by decide +kernel
theorem dX11_code_1 : decode cX11_code 1 = .ok (.getfield 12, 3) := by decide +kernel
theorem dX11_code_4 : decode cX11_code 4 = .ok (.iconst 0, 1) := by decide +kernel
theorem dX11_code_5 : decode cX11_code 5 = .ok (.invokevirtual 102, 3) := by decide +kernel
theorem dX11_code_8 : decode cX11_code 8 = .ok (.bipush (-6), 2) := by decide +kernel
theorem dX11_code_10 : decode cX11_code 10 = .ok (.if_icmp .eq 6, 3) := by decide +kernel
theorem dX11_code_13 : decode cX11_code 13 = .ok (.bipush (-5), 2) := by decide +kernel
theorem dX11_code_15 : decode cX11_code 15 = .ok (.ireturn, 1) := by decide +kernel
theorem dX11_code_16 : decode cX11_code 16 = .ok (.aload_n 0, 1) := by decide +kernel
theorem dX11_code_17 : decode cX11_code 17 = .ok (.getfield 19, 3) := by decide +kernel
theorem dX11_code_20 : decode cX11_code 20 = .ok (.getfield 106, 3) := by decide +kernel
theorem dX11_code_23 : decode cX11_code 23 = .ok (.aload_n 0, 1) := by decide +kernel
theorem dX11_code_24 : decode cX11_code 24 = .ok (.getfield 12, 3) := by decide +kernel
theorem dX11_code_27 : decode cX11_code 27 = .ok (.getfield 109, 3) := by decide +kernel
theorem dX11_code_30 : decode cX11_code 30 = .ok (.invokevirtual 112, 3) := by decide +kernel
theorem dX11_code_33 : decode cX11_code 33 = .ok (.aload_n 0, 1) := by decide +kernel
theorem dX11_code_34 : decode cX11_code 34 = .ok (.getfield 12, 3) := by decide +kernel
theorem dX11_code_37 : decode cX11_code 37 = .ok (.invokevirtual 98, 3) := by decide +kernel
theorem dX11_code_40 : decode cX11_code 40 = .ok (.pop, 1) := by decide +kernel
theorem dX11_code_41 : decode cX11_code 41 = .ok (.aload_n 0, 1) := by decide +kernel
theorem dX11_code_42 : decode cX11_code 42 = .ok (.getfield 19, 3) := by decide +kernel
theorem dX11_code_45 : decode cX11_code 45 = .ok (.getfield 106, 3) := by decide +kernel
theorem dX11_code_48 : decode cX11_code 48 = .ok (.getfield 116, 3) := by decide +kernel
theorem dX11_code_51 : decode cX11_code 51 = .ok (.ireturn, 1) := by decide +kernel
theorem dX11_want_0 : decode cX11_want 0 = .ok (.iload_n 1, 1) := by decide +kernel
theorem dX11_want_1 : decode cX11_want 1 = .ok (.iconst 1, 1) := by decide +kernel
theorem dX11_want_2 : decode cX11_want 2 = .ok (.if_icmp .lt 9, 3) := by decide +kernel
theorem dX11_want_5 : decode cX11_want 5 = .ok (.iload_n 1, 1) := by decide +kernel
theorem dX11_want_6 : decode cX11_want 6 = .ok (.bipush 15, 2) := by decide +kernel
theorem dX11_want_8 : decode cX11_want 8 = .ok (.if_icmp .le 6, 3) := by decide +kernel
theorem dX11_want_11 : decode cX11_want 11 = .ok (.bipush (-2), 2) := by decide +kernel
theorem dX11_want_13 : decode cX11_want 13 = .ok (.ireturn, 1) := by decide +kernel
theorem dX11_want_14 : decode cX11_want 14 = .ok (.aload_n 0, 1) := by decide +kernel
theorem dX11_want_15 : decode cX11_want 15 = .ok (.getfield 19, 3) := by decide +kernel
theorem dX11_want_18 : decode cX11_want 18 = .ok (.getfield 120, 3) := by decide +kernel
theorem dX11_want_21 : decode cX11_want 21 = .ok (.istore_n 2, 1) := by decide +kernel
theorem dX11_want_22 : decode cX11_want 22 = .ok (.aload_n 0, 1) := by decide +kernel
theorem dX11_want_23 : decode cX11_want 23 = .ok (.getfield 19, 3) := by decide +kernel
theorem dX11_want_26 : decode cX11_want 26 = .ok (.iload_n 1, 1) := by decide +kernel
theorem dX11_want_27 : decode cX11_want 27 = .ok (.putfield 120, 3) := by decide +kernel
theorem dX11_want_30 : decode cX11_want 30 = .ok (.iload_n 2, 1) := by decide +kernel
theorem dX11_want_31 : decode cX11_want 31 = .ok (.ireturn, 1) := by decide +kernel
set_option maxRecDepth 20000 in
theorem ggX11_step_X11_isNoStep : GoodIn wsX11_step wsX11_isNoStep := goodIn_r _ [6, 1, 14, 15, 16, 17, 18, 19, 20, 21, 22, 23, 24, 25, 26, 27, 28, 29, 30, 31, 32, 33, 34, 35] (by decide +kernel) (by decide +kernel)
set_option maxRecDepth 20000 in
theorem gX11_step_X11_isNoStep : GoodIn wsX11_step (wsV RX11 123 RX11 yX11_isNoStep wsX11_isNoStep) := goodIn_app (goodIn_of _ (by decide +kernel)) ggX11_step_X11_isNoStep
set_option maxRecDepth 20000 in
theorem ggX11_step_X1_part : GoodIn wsX11_step wsX1_part := goodIn_r _ [11, 12, 13, 34, 35] (by decide +kernel) (by decide +kernel)
set_option maxRecDepth 20000 in
theorem gX11_step_X1_part : GoodIn wsX11_step (wsV RX11 127 RX1 yX1_part wsX1_part) := goodIn_app (goodIn_of _ (by decide +kernel)) ggX11_step_X1_part
theorem dX11_step_0 : decode cX11_step 0 = .ok (.aload_n 0, 1) := by decide +kernel
theorem dX11_step_1 : decode cX11_step 1 = .ok (.iload_n 1, 1) := by decide +kernel
theorem dX11_step_2 : decode cX11_step 2 = .ok (.invokevirtual 123, 3) := by decide +kernel
theorem dX11_step_5 : decode cX11_step 5 = .ok (.ifCond .eq 5, 3) := by decide +kernel
theorem dX11_step_8 : decode cX11_step 8 = .ok (.iconst (-1), 1) := by decide +kernel
theorem dX11_step_9 : decode cX11_step 9 = .ok (.ireturn, 1) := by decide +kernel
theorem dX11_step_10 : decode cX11_step 10 = .ok (.iload_n 2, 1) := by decide +kernel
theorem dX11_step_11 : decode cX11_step 11 = .ok (.ifCond .lt 8, 3) := by decide +kernel
theorem dX11_step_14 : decode cX11_step 14 = .ok (.iload_n 2, 1) := by decide +kernel
theorem dX11_step_15 : decode cX11_step 15 = .ok (.iconst 3, 1) := by decide +kernel
theorem dX11_step_16 : decode cX11_step 16 = .ok (.if_icmp .le 6, 3) := by decide +kernel
theorem dX11_step_19 : decode cX11_step 19 = .ok (.bipush (-2), 2) := by decide +kernel
theorem dX11_step_21 : decode cX11_step 21 = .ok (.ireturn, 1) := by decide +kernel
theorem dX11_step_22 : decode cX11_step 22 = .ok (.aload_n 0, 1) := by decide +kernel
theorem dX11_step_23 : decode cX11_step 23 = .ok (.getfield 19, 3) := by decide +kernel
theorem dX11_step_26 : decode cX11_step 26 = .ok (.getfield 106, 3) := by decide +kernel
theorem dX11_step_29 : decode cX11_step 29 = .ok (.iload_n 1, 1) := by decide +kernel
theorem dX11_step_30 : decode cX11_step 30 = .ok (.iload_n 2, 1) := by decide +kernel
theorem dX11_step_31 : decode cX11_step 31 = .ok (.invokevirtual 127, 3) := by decide +kernel
theorem dX11_step_34 : decode cX11_step 34 = .ok (.ireturn, 1) := by decide +kernel
set_option maxRecDepth 20000 in
theorem ggX11_run_X1_target : GoodIn wsX11_run wsX1_target := goodIn_r _ [7, 8, 9, 10, 6, 11, 12, 13, 14, 15, 16, 54, 55] (by decide +kernel) (by decide +kernel)
set_option maxRecDepth 20000 in
theorem gX11_run_X1_target : GoodIn wsX11_run (wsV RX11 131 RX1 yX1_target wsX1_target) := goodIn_app (goodIn_of _ (by decide +kernel)) ggX11_run_X1_target
set_option maxRecDepth 20000 in
theorem ggX11_run_X11_madeBy : GoodIn wsX11_run wsX11_madeBy := goodIn_r _ [20, 21, 9, 10, 6, 11, 12, 13, 22, 23, 24, 15, 25, 2, 26, 14, 16, 27, 28, 29, 30, 31, 32, 33, 54, 55, 34, 35, 36, 37, 38, 39, 40, 41, 42, 43, 44, 45, 46, 47] (by decide +kernel) (by decide +kernel)
set_option maxRecDepth 20000 in
theorem gX11_run_X11_madeBy : GoodIn wsX11_run (wsV RX11 134 RX11 yX11_madeBy wsX11_madeBy) := goodIn_app (goodIn_of _ (by decide +kernel)) ggX11_run_X11_madeBy
theorem dX11_run_0 : decode cX11_run 0 = .ok (.iload_n 1, 1) := by decide +kernel
theorem dX11_run_1 : decode cX11_run 1 = .ok (.ifCond .lt 28, 3) := by decide +kernel
theorem dX11_run_4 : decode cX11_run 4 = .ok (.iload_n 1, 1) := by decide +kernel
theorem dX11_run_5 : decode cX11_run 5 = .ok (.sipush 4096, 3) := by decide +kernel
theorem dX11_run_8 : decode cX11_run 8 = .ok (.if_icmp .ge 21, 3) := by decide +kernel
theorem dX11_run_11 : decode cX11_run 11 = .ok (.iload_n 2, 1) := by decide +kernel
theorem dX11_run_12 : decode cX11_run 12 = .ok (.ifCond .lt 17, 3) := by decide +kernel
theorem dX11_run_15 : decode cX11_run 15 = .ok (.iload_n 2, 1) := by decide +kernel
theorem dX11_run_16 : decode cX11_run 16 = .ok (.aload_n 0, 1) := by decide +kernel
theorem dX11_run_17 : decode cX11_run 17 = .ok (.getfield 19, 3) := by decide +kernel
theorem dX11_run_20 : decode cX11_run 20 = .ok (.getfield 106, 3) := by decide +kernel
theorem dX11_run_23 : decode cX11_run 23 = .ok (.getfield 116, 3) := by decide +kernel
theorem dX11_run_26 : decode cX11_run 26 = .ok (.if_icmp .le 6, 3) := by decide +kernel
theorem dX11_run_29 : decode cX11_run 29 = .ok (.bipush (-2), 2) := by decide +kernel
theorem dX11_run_31 : decode cX11_run 31 = .ok (.ireturn, 1) := by decide +kernel
theorem dX11_run_32 : decode cX11_run 32 = .ok (.iconst 0, 1) := by decide +kernel
theorem dX11_run_33 : decode cX11_run 33 = .ok (.istore_n 3, 1) := by decide +kernel
theorem dX11_run_34 : decode cX11_run 34 = .ok (.iload_n 3, 1) := by decide +kernel
theorem dX11_run_35 : decode cX11_run 35 = .ok (.iconst 4, 1) := by decide +kernel
theorem dX11_run_36 : decode cX11_run 36 = .ok (.if_icmp .ge 25, 3) := by decide +kernel
theorem dX11_run_39 : decode cX11_run 39 = .ok (.aload_n 0, 1) := by decide +kernel
theorem dX11_run_40 : decode cX11_run 40 = .ok (.getfield 90, 3) := by decide +kernel
theorem dX11_run_43 : decode cX11_run 43 = .ok (.iload_n 3, 1) := by decide +kernel
theorem dX11_run_44 : decode cX11_run 44 = .ok (.iload_n 1, 1) := by decide +kernel
theorem dX11_run_45 : decode cX11_run 45 = .ok (.iconst 3, 1) := by decide +kernel
theorem dX11_run_46 : decode cX11_run 46 = .ok (.iconst 3, 1) := by decide +kernel
theorem dX11_run_47 : decode cX11_run 47 = .ok (.iload_n 3, 1) := by decide +kernel
theorem dX11_run_48 : decode cX11_run 48 = .ok (.isub, 1) := by decide +kernel
theorem dX11_run_49 : decode cX11_run 49 = .ok (.imul, 1) := by decide +kernel
theorem dX11_run_50 : decode cX11_run 50 = .ok (.ishr, 1) := by decide +kernel
theorem dX11_run_51 : decode cX11_run 51 = .ok (.bipush 7, 2) := by decide +kernel
theorem dX11_run_53 : decode cX11_run 53 = .ok (.iand, 1) := by decide +kernel
theorem dX11_run_54 : decode cX11_run 54 = .ok (.iastore, 1) := by decide +kernel
theorem dX11_run_55 : decode cX11_run 55 = .ok (.iinc 3 1, 3) := by decide +kernel
theorem dX11_run_58 : decode cX11_run 58 = .ok (.goto (-24), 3) := by decide +kernel
theorem dX11_run_61 : decode cX11_run 61 = .ok (.iconst 0, 1) := by decide +kernel
theorem dX11_run_62 : decode cX11_run 62 = .ok (.istore_n 3, 1) := by decide +kernel
theorem dX11_run_63 : decode cX11_run 63 = .ok (.iload_n 3, 1) := by decide +kernel
theorem dX11_run_64 : decode cX11_run 64 = .ok (.iload_n 2, 1) := by decide +kernel
theorem dX11_run_65 : decode cX11_run 65 = .ok (.if_icmp .ge 37, 3) := by decide +kernel
theorem dX11_run_68 : decode cX11_run 68 = .ok (.aload_n 0, 1) := by decide +kernel
theorem dX11_run_69 : decode cX11_run 69 = .ok (.getfield 90, 3) := by decide +kernel
theorem dX11_run_72 : decode cX11_run 72 = .ok (.aload_n 0, 1) := by decide +kernel
theorem dX11_run_73 : decode cX11_run 73 = .ok (.getfield 19, 3) := by decide +kernel
theorem dX11_run_76 : decode cX11_run 76 = .ok (.getfield 106, 3) := by decide +kernel
theorem dX11_run_79 : decode cX11_run 79 = .ok (.iload_n 3, 1) := by decide +kernel
theorem dX11_run_80 : decode cX11_run 80 = .ok (.invokevirtual 131, 3) := by decide +kernel
theorem dX11_run_83 : decode cX11_run 83 = .ok (.aload_n 0, 1) := by decide +kernel
theorem dX11_run_84 : decode cX11_run 84 = .ok (.aload_n 0, 1) := by decide +kernel
theorem dX11_run_85 : decode cX11_run 85 = .ok (.getfield 19, 3) := by decide +kernel
theorem dX11_run_88 : decode cX11_run 88 = .ok (.getfield 106, 3) := by decide +kernel
theorem dX11_run_91 : decode cX11_run 91 = .ok (.iload_n 3, 1) := by decide +kernel
theorem dX11_run_92 : decode cX11_run 92 = .ok (.invokevirtual 134, 3) := by decide +kernel
theorem dX11_run_95 : decode cX11_run 95 = .ok (.iastore, 1) := by decide +kernel
theorem dX11_run_96 : decode cX11_run 96 = .ok (.iinc 3 1, 3) := by decide +kernel
theorem dX11_run_99 : decode cX11_run 99 = .ok (.goto (-36), 3) := by decide +kernel
theorem dX11_run_102 : decode cX11_run 102 = .ok (.iconst 0, 1) := by decide +kernel
theorem dX11_run_103 : decode cX11_run 103 = .ok (.istore_n 3, 1) := by decide +kernel
theorem dX11_run_104 : decode cX11_run 104 = .ok (.iconst 0, 1) := by decide +kernel
theorem dX11_run_105 : decode cX11_run 105 = .ok (.istore 4, 2) := by decide +kernel
theorem dX11_run_107 : decode cX11_run 107 = .ok (.iload 4, 2) := by decide +kernel
theorem dX11_run_109 : decode cX11_run 109 = .ok (.iconst 4, 1) := by decide +kernel
theorem dX11_run_110 : decode cX11_run 110 = .ok (.if_icmp .ge 22, 3) := by decide +kernel
theorem dX11_run_113 : decode cX11_run 113 = .ok (.iload_n 3, 1) := by decide +kernel
theorem dX11_run_114 : decode cX11_run 114 = .ok (.bipush 8, 2) := by decide +kernel
theorem dX11_run_116 : decode cX11_run 116 = .ok (.imul, 1) := by decide +kernel
theorem dX11_run_117 : decode cX11_run 117 = .ok (.aload_n 0, 1) := by decide +kernel
theorem dX11_run_118 : decode cX11_run 118 = .ok (.getfield 90, 3) := by decide +kernel
theorem dX11_run_121 : decode cX11_run 121 = .ok (.iload 4, 2) := by decide +kernel
theorem dX11_run_123 : decode cX11_run 123 = .ok (.iaload, 1) := by decide +kernel
theorem dX11_run_124 : decode cX11_run 124 = .ok (.iadd, 1) := by decide +kernel
theorem dX11_run_125 : decode cX11_run 125 = .ok (.istore_n 3, 1) := by decide +kernel
theorem dX11_run_126 : decode cX11_run 126 = .ok (.iinc 4 1, 3) := by decide +kernel
theorem dX11_run_129 : decode cX11_run 129 = .ok (.goto (-22), 3) := by decide +kernel
theorem dX11_run_132 : decode cX11_run 132 = .ok (.iload_n 3, 1) := by decide +kernel
theorem dX11_run_133 : decode cX11_run 133 = .ok (.ireturn, 1) := by decide +kernel
set_option maxRecDepth 20000 in
theorem ggX11_keep_X1_copyFrom : GoodIn wsX11_keep wsX1_copyFrom := goodIn_r _ [6, 7, 8, 9, 10, 11, 12, 33, 34] (by decide +kernel) (by decide +kernel)
set_option maxRecDepth 20000 in
theorem gX11_keep_X1_copyFrom : GoodIn wsX11_keep (wsV RX11 112 RX1 yX1_copyFrom wsX1_copyFrom) := goodIn_app (goodIn_of _ (by decide +kernel)) ggX11_keep_X1_copyFrom
theorem dX11_keep_0 : decode cX11_keep 0 = .ok (.aload_n 0, 1) := by decide +kernel
theorem dX11_keep_1 : decode cX11_keep 1 = .ok (.getfield 19, 3) := by decide +kernel
theorem dX11_keep_4 : decode cX11_keep 4 = .ok (.getfield 138, 3) := by decide +kernel
theorem dX11_keep_7 : decode cX11_keep 7 = .ok (.aload_n 0, 1) := by decide +kernel
theorem dX11_keep_8 : decode cX11_keep 8 = .ok (.getfield 19, 3) := by decide +kernel
theorem dX11_keep_11 : decode cX11_keep 11 = .ok (.getfield 106, 3) := by decide +kernel
theorem dX11_keep_14 : decode cX11_keep 14 = .ok (.invokevirtual 112, 3) := by decide +kernel
theorem dX11_keep_17 : decode cX11_keep 17 = .ok (.aload_n 0, 1) := by decide +kernel
theorem dX11_keep_18 : decode cX11_keep 18 = .ok (.getfield 19, 3) := by decide +kernel
theorem dX11_keep_21 : decode cX11_keep 21 = .ok (.getfield 138, 3) := by decide +kernel
theorem dX11_keep_24 : decode cX11_keep 24 = .ok (.getfield 116, 3) := by decide +kernel
theorem dX11_keep_27 : decode cX11_keep 27 = .ok (.ireturn, 1) := by decide +kernel
set_option maxRecDepth 20000 in
theorem ggX11_unlike_X11_firstUnlike : GoodIn wsX11_unlike wsX11_firstUnlike := goodIn_r _ [6, 7, 8, 9, 10, 11, 12, 13, 14, 15, 16, 17, 18, 19, 20, 21, 22, 23, 24, 25, 26, 27, 28, 29, 30, 31, 32, 33, 34, 35, 36, 5, 37, 38, 39, 40, 41, 42, 43, 44, 45, 46, 47, 48, 49, 50, 51, 52, 53, 54, 55, 56, 57, 58, 59, 60, 61, 62, 63, 64, 65, 66, 67, 68, 69, 70, 71, 72, 73, 74, 75, 76, 77, 78, 79, 80, 81, 82, 83, 84, 85, 92, 93, 94, 95, 96, 97] (by decide +kernel) (by decide +kernel)
set_option maxRecDepth 20000 in
theorem gX11_unlike_X11_firstUnlike : GoodIn wsX11_unlike (wsV RX11 141 RX11 yX11_firstUnlike wsX11_firstUnlike) := goodIn_app (goodIn_of _ (by decide +kernel)) ggX11_unlike_X11_firstUnlike
theorem dX11_unlike_0 : decode cX11_unlike 0 = .ok (.aload_n 0, 1) := by decide +kernel
theorem dX11_unlike_1 : decode cX11_unlike 1 = .ok (.aload_n 0, 1) := by decide +kernel
theorem dX11_unlike_2 : decode cX11_unlike 2 = .ok (.getfield 19, 3) := by decide +kernel
theorem dX11_unlike_5 : decode cX11_unlike 5 = .ok (.getfield 106, 3) := by decide +kernel
theorem dX11_unlike_8 : decode cX11_unlike 8 = .ok (.aload_n 0, 1) := by decide +kernel
theorem dX11_unlike_9 : decode cX11_unlike 9 = .ok (.getfield 19, 3) := by decide +kernel
theorem dX11_unlike_12 : decode cX11_unlike 12 = .ok (.getfield 138, 3) := by decide +kernel
theorem dX11_unlike_15 : decode cX11_unlike 15 = .ok (.aload_n 0, 1) := by decide +kernel
theorem dX11_unlike_16 : decode cX11_unlike 16 = .ok (.getfield 19, 3) := by decide +kernel
theorem dX11_unlike_19 : decode cX11_unlike 19 = .ok (.getfield 120, 3) := by decide +kernel
theorem dX11_unlike_22 : decode cX11_unlike 22 = .ok (.invokevirtual 141, 3) := by decide +kernel
theorem dX11_unlike_25 : decode cX11_unlike 25 = .ok (.ireturn, 1) := by decide +kernel
set_option maxRecDepth 20000 in
theorem ggX11_live_X11_isNoPlace : GoodIn wsX11_live wsX11_isNoPlace := goodIn_r _ [7, 2, 34, 35, 36, 37, 38, 39, 40, 41, 42, 43, 44, 45, 46, 47, 48, 49, 50, 51, 52, 53, 63, 64] (by decide +kernel) (by decide +kernel)
set_option maxRecDepth 20000 in
theorem gX11_live_X11_isNoPlace : GoodIn wsX11_live (wsV RX11 145 RX11 yX11_isNoPlace wsX11_isNoPlace) := goodIn_app (goodIn_of _ (by decide +kernel)) ggX11_live_X11_isNoPlace
set_option maxRecDepth 20000 in
theorem ggX11_live_X3_followLive : GoodIn wsX11_live wsX3_followLive := goodIn_r _ [12, 13, 14, 15, 16, 17, 18, 19, 20, 21, 22, 23, 24, 25, 6, 26, 27, 28, 29, 30, 31, 32, 33, 54, 55, 56, 57, 58, 59, 60, 61, 62, 63, 64] (by decide +kernel) (by decide +kernel)
set_option maxRecDepth 20000 in
theorem gX11_live_X3_followLive : GoodIn wsX11_live (wsV RX11 148 RX3 yX3_followLive wsX3_followLive) := goodIn_app (goodIn_of _ (by decide +kernel)) ggX11_live_X3_followLive
theorem dX11_live_0 : decode cX11_live 0 = .ok (.aload_n 0, 1) := by decide +kernel
theorem dX11_live_1 : decode cX11_live 1 = .ok (.iload_n 1, 1) := by decide +kernel
theorem dX11_live_2 : decode cX11_live 2 = .ok (.invokevirtual 145, 3) := by decide +kernel
theorem dX11_live_5 : decode cX11_live 5 = .ok (.ifCond .eq 5, 3) := by decide +kernel
theorem dX11_live_8 : decode cX11_live 8 = .ok (.iconst (-1), 1) := by decide +kernel
theorem dX11_live_9 : decode cX11_live 9 = .ok (.ireturn, 1) := by decide +kernel
theorem dX11_live_10 : decode cX11_live 10 = .ok (.aload_n 0, 1) := by decide +kernel
theorem dX11_live_11 : decode cX11_live 11 = .ok (.getfield 34, 3) := by decide +kernel
theorem dX11_live_14 : decode cX11_live 14 = .ok (.aload_n 0, 1) := by decide +kernel
theorem dX11_live_15 : decode cX11_live 15 = .ok (.getfield 19, 3) := by decide +kernel
theorem dX11_live_18 : decode cX11_live 18 = .ok (.getfield 106, 3) := by decide +kernel
theorem dX11_live_21 : decode cX11_live 21 = .ok (.aload_n 0, 1) := by decide +kernel
theorem dX11_live_22 : decode cX11_live 22 = .ok (.getfield 19, 3) := by decide +kernel
theorem dX11_live_25 : decode cX11_live 25 = .ok (.getfield 120, 3) := by decide +kernel
theorem dX11_live_28 : decode cX11_live 28 = .ok (.invokevirtual 148, 3) := by decide +kernel
theorem dX11_live_31 : decode cX11_live 31 = .ok (.aload_n 0, 1) := by decide +kernel
theorem dX11_live_32 : decode cX11_live 32 = .ok (.getfield 34, 3) := by decide +kernel
theorem dX11_live_35 : decode cX11_live 35 = .ok (.getfield 152, 3) := by decide +kernel
theorem dX11_live_38 : decode cX11_live 38 = .ok (.iload_n 1, 1) := by decide +kernel
theorem dX11_live_39 : decode cX11_live 39 = .ok (.iaload, 1) := by decide +kernel
theorem dX11_live_40 : decode cX11_live 40 = .ok (.ireturn, 1) := by decide +kernel
set_option maxRecDepth 20000 in
theorem ggX11_bad_X3_followLive : GoodIn wsX11_bad wsX3_followLive := goodIn_r _ [7, 8, 9, 10, 11, 12, 13, 14, 15, 16, 17, 18, 19, 20, 21, 22, 23, 24, 25, 26, 27, 28, 29, 94, 95, 96, 97, 98, 99, 100, 101, 102, 92, 93] (by decide +kernel) (by decide +kernel)
set_option maxRecDepth 20000 in
theorem gX11_bad_X3_followLive : GoodIn wsX11_bad (wsV RX11 148 RX3 yX3_followLive wsX3_followLive) := goodIn_app (goodIn_of _ (by decide +kernel)) ggX11_bad_X3_followLive
set_option maxRecDepth 20000 in
theorem ggX11_bad_X3_followSorts : GoodIn wsX11_bad wsX3_followSorts := goodIn_r _ [33, 34, 35, 36, 37, 38, 39, 40, 41, 42, 43, 44, 45, 46, 47, 48, 49, 6, 50, 51, 15, 16, 12, 17, 18, 19, 52, 53, 54, 55, 56, 21, 57, 20, 22, 58, 59, 60, 61, 62, 63, 9, 10, 11, 13, 14, 94, 95, 96, 97, 98, 99, 100, 101, 102, 92, 93] (by decide +kernel) (by decide +kernel)
set_option maxRecDepth 20000 in
theorem gX11_bad_X3_followSorts : GoodIn wsX11_bad (wsV RX11 155 RX3 yX3_followSorts wsX3_followSorts) := goodIn_app (goodIn_of _ (by decide +kernel)) ggX11_bad_X3_followSorts
set_option maxRecDepth 20000 in
theorem ggX11_bad_X3_isDead : GoodIn wsX11_bad wsX3_isDead := goodIn_r _ [67, 8, 9, 10, 11, 12, 13, 14, 15, 16, 17, 18, 19, 20, 21, 22, 94, 95, 96, 97, 98, 99, 100, 101, 102, 92, 93] (by decide +kernel) (by decide +kernel)
set_option maxRecDepth 20000 in
theorem gX11_bad_X3_isDead : GoodIn wsX11_bad (wsV RX11 158 RX3 yX3_isDead wsX3_isDead) := goodIn_app (goodIn_of _ (by decide +kernel)) ggX11_bad_X3_isDead
set_option maxRecDepth 20000 in
theorem ggX11_bad_X3_holderOfMade : GoodIn wsX11_bad wsX3_holderOfMade := goodIn_r _ [71, 37, 38, 94, 95, 96, 97, 98, 99, 100, 101, 102] (by decide +kernel) (by decide +kernel)
set_option maxRecDepth 20000 in
theorem gX11_bad_X3_holderOfMade : GoodIn wsX11_bad (wsV RX11 162 RX3 yX3_holderOfMade wsX3_holderOfMade) := goodIn_app (goodIn_of _ (by decide +kernel)) ggX11_bad_X3_holderOfMade
theorem dX11_bad_0 : decode cX11_bad 0 = .ok (.iload_n 1, 1) := by decide +kernel
theorem dX11_bad_1 : decode cX11_bad 1 = .ok (.ifCond .eq 11, 3) := by decide +kernel
theorem dX11_bad_4 : decode cX11_bad 4 = .ok (.iload_n 1, 1) := by decide +kernel
theorem dX11_bad_5 : decode cX11_bad 5 = .ok (.iconst 1, 1) := by decide +kernel
theorem dX11_bad_6 : decode cX11_bad 6 = .ok (.if_icmp .eq 6, 3) := by decide +kernel
theorem dX11_bad_9 : decode cX11_bad 9 = .ok (.bipush (-2), 2) := by decide +kernel
theorem dX11_bad_11 : decode cX11_bad 11 = .ok (.ireturn, 1) := by decide +kernel
theorem dX11_bad_12 : decode cX11_bad 12 = .ok (.iload_n 1, 1) := by decide +kernel
theorem dX11_bad_13 : decode cX11_bad 13 = .ok (.ifCond .ne 27, 3) := by decide +kernel
theorem dX11_bad_16 : decode cX11_bad 16 = .ok (.aload_n 0, 1) := by decide +kernel
theorem dX11_bad_17 : decode cX11_bad 17 = .ok (.getfield 34, 3) := by decide +kernel
theorem dX11_bad_20 : decode cX11_bad 20 = .ok (.aload_n 0, 1) := by decide +kernel
theorem dX11_bad_21 : decode cX11_bad 21 = .ok (.getfield 19, 3) := by decide +kernel
theorem dX11_bad_24 : decode cX11_bad 24 = .ok (.getfield 106, 3) := by decide +kernel
theorem dX11_bad_27 : decode cX11_bad 27 = .ok (.aload_n 0, 1) := by decide +kernel
theorem dX11_bad_28 : decode cX11_bad 28 = .ok (.getfield 19, 3) := by decide +kernel
theorem dX11_bad_31 : decode cX11_bad 31 = .ok (.getfield 120, 3) := by decide +kernel
theorem dX11_bad_34 : decode cX11_bad 34 = .ok (.invokevirtual 148, 3) := by decide +kernel
theorem dX11_bad_37 : decode cX11_bad 37 = .ok (.goto 17, 3) := by decide +kernel
theorem dX11_bad_40 : decode cX11_bad 40 = .ok (.aload_n 0, 1) := by decide +kernel
theorem dX11_bad_41 : decode cX11_bad 41 = .ok (.getfield 34, 3) := by decide +kernel
theorem dX11_bad_44 : decode cX11_bad 44 = .ok (.aload_n 0, 1) := by decide +kernel
theorem dX11_bad_45 : decode cX11_bad 45 = .ok (.getfield 19, 3) := by decide +kernel
theorem dX11_bad_48 : decode cX11_bad 48 = .ok (.getfield 106, 3) := by decide +kernel
theorem dX11_bad_51 : decode cX11_bad 51 = .ok (.invokevirtual 155, 3) := by decide +kernel
theorem dX11_bad_54 : decode cX11_bad 54 = .ok (.iconst 0, 1) := by decide +kernel
theorem dX11_bad_55 : decode cX11_bad 55 = .ok (.istore_n 2, 1) := by decide +kernel
theorem dX11_bad_56 : decode cX11_bad 56 = .ok (.iconst 0, 1) := by decide +kernel
theorem dX11_bad_57 : decode cX11_bad 57 = .ok (.istore_n 3, 1) := by decide +kernel
theorem dX11_bad_58 : decode cX11_bad 58 = .ok (.iload_n 3, 1) := by decide +kernel
theorem dX11_bad_59 : decode cX11_bad 59 = .ok (.aload_n 0, 1) := by decide +kernel
theorem dX11_bad_60 : decode cX11_bad 60 = .ok (.getfield 19, 3) := by decide +kernel
theorem dX11_bad_63 : decode cX11_bad 63 = .ok (.getfield 106, 3) := by decide +kernel
theorem dX11_bad_66 : decode cX11_bad 66 = .ok (.getfield 116, 3) := by decide +kernel
theorem dX11_bad_69 : decode cX11_bad 69 = .ok (.if_icmp .ge 62, 3) := by decide +kernel
theorem dX11_bad_72 : decode cX11_bad 72 = .ok (.iload_n 1, 1) := by decide +kernel
theorem dX11_bad_73 : decode cX11_bad 73 = .ok (.ifCond .ne 21, 3) := by decide +kernel
theorem dX11_bad_76 : decode cX11_bad 76 = .ok (.aload_n 0, 1) := by decide +kernel
theorem dX11_bad_77 : decode cX11_bad 77 = .ok (.getfield 34, 3) := by decide +kernel
theorem dX11_bad_80 : decode cX11_bad 80 = .ok (.aload_n 0, 1) := by decide +kernel
theorem dX11_bad_81 : decode cX11_bad 81 = .ok (.getfield 19, 3) := by decide +kernel
theorem dX11_bad_84 : decode cX11_bad 84 = .ok (.getfield 106, 3) := by decide +kernel
theorem dX11_bad_87 : decode cX11_bad 87 = .ok (.iload_n 3, 1) := by decide +kernel
theorem dX11_bad_88 : decode cX11_bad 88 = .ok (.invokevirtual 158, 3) := by decide +kernel
theorem dX11_bad_91 : decode cX11_bad 91 = .ok (.goto 21, 3) := by decide +kernel
theorem dX11_bad_94 : decode cX11_bad 94 = .ok (.aload_n 0, 1) := by decide +kernel
theorem dX11_bad_95 : decode cX11_bad 95 = .ok (.getfield 34, 3) := by decide +kernel
theorem dX11_bad_98 : decode cX11_bad 98 = .ok (.iload_n 3, 1) := by decide +kernel
theorem dX11_bad_99 : decode cX11_bad 99 = .ok (.invokevirtual 162, 3) := by decide +kernel
theorem dX11_bad_102 : decode cX11_bad 102 = .ok (.bipush (-6), 2) := by decide +kernel
theorem dX11_bad_104 : decode cX11_bad 104 = .ok (.if_icmp .eq 7, 3) := by decide +kernel
theorem dX11_bad_107 : decode cX11_bad 107 = .ok (.iconst 1, 1) := by decide +kernel
theorem dX11_bad_108 : decode cX11_bad 108 = .ok (.goto 4, 3) := by decide +kernel
theorem dX11_bad_111 : decode cX11_bad 111 = .ok (.iconst 0, 1) := by decide +kernel
theorem dX11_bad_112 : decode cX11_bad 112 = .ok (.istore 4, 2) := by decide +kernel
theorem dX11_bad_114 : decode cX11_bad 114 = .ok (.iload 4, 2) := by decide +kernel
theorem dX11_bad_116 : decode cX11_bad 116 = .ok (.ifCond .eq 9, 3) := by decide +kernel
theorem dX11_bad_119 : decode cX11_bad 119 = .ok (.iload_n 2, 1) := by decide +kernel
theorem dX11_bad_120 : decode cX11_bad 120 = .ok (.iconst 1, 1) := by decide +kernel
theorem dX11_bad_121 : decode cX11_bad 121 = .ok (.iload_n 3, 1) := by decide +kernel
theorem dX11_bad_122 : decode cX11_bad 122 = .ok (.ishl, 1) := by decide +kernel
theorem dX11_bad_123 : decode cX11_bad 123 = .ok (.ior, 1) := by decide +kernel
theorem dX11_bad_124 : decode cX11_bad 124 = .ok (.istore_n 2, 1) := by decide +kernel
theorem dX11_bad_125 : decode cX11_bad 125 = .ok (.iinc 3 1, 3) := by decide +kernel
theorem dX11_bad_128 : decode cX11_bad 128 = .ok (.goto (-70), 3) := by decide +kernel
theorem dX11_bad_131 : decode cX11_bad 131 = .ok (.iload_n 2, 1) := by decide +kernel
theorem dX11_bad_132 : decode cX11_bad 132 = .ok (.ireturn, 1) := by decide +kernel
set_option maxRecDepth 20000 in
theorem ggX11_known_X11_isNoPlace : GoodIn wsX11_known wsX11_isNoPlace := goodIn_r _ [7, 2, 49, 50, 51, 52, 53, 54, 55, 56, 57, 58, 59, 60, 61, 62, 63, 64, 65, 66, 67, 68, 78, 79] (by decide +kernel) (by decide +kernel)
set_option maxRecDepth 20000 in
theorem gX11_known_X11_isNoPlace : GoodIn wsX11_known (wsV RX11 145 RX11 yX11_isNoPlace wsX11_isNoPlace) := goodIn_app (goodIn_of _ (by decide +kernel)) ggX11_known_X11_isNoPlace
set_option maxRecDepth 20000 in
theorem ggX11_known_X11_isNoRegister : GoodIn wsX11_known wsX11_isNoRegister := goodIn_r _ [10] (by decide +kernel) (by decide +kernel)
set_option maxRecDepth 20000 in
theorem gX11_known_X11_isNoRegister : GoodIn wsX11_known (va_wsS RX11 165 yX11_isNoRegister wsX11_isNoRegister) := goodIn_app (goodIn_of _ (by decide +kernel)) ggX11_known_X11_isNoRegister
set_option maxRecDepth 20000 in
theorem ggX11_known_X3_followKnown : GoodIn wsX11_known wsX3_followKnown := goodIn_r _ [15, 16, 17, 18, 19, 20, 21, 22, 23, 24, 25, 26, 27, 28, 29, 30, 31, 9, 6, 10, 32, 33, 34, 14, 35, 36, 37, 38, 39, 40, 41, 42, 43, 44, 45, 46, 47, 48, 69, 70, 71, 72, 73, 74, 75, 76, 77, 78, 79] (by decide +kernel) (by decide +kernel)
set_option maxRecDepth 20000 in
theorem gX11_known_X3_followKnown : GoodIn wsX11_known (wsV RX11 168 RX3 yX3_followKnown wsX3_followKnown) := goodIn_app (goodIn_of _ (by decide +kernel)) ggX11_known_X3_followKnown
theorem dX11_known_0 : decode cX11_known 0 = .ok (.aload_n 0, 1) := by decide +kernel
theorem dX11_known_1 : decode cX11_known 1 = .ok (.iload_n 1, 1) := by decide +kernel
theorem dX11_known_2 : decode cX11_known 2 = .ok (.invokevirtual 145, 3) := by decide +kernel
theorem dX11_known_5 : decode cX11_known 5 = .ok (.ifCond .ne 10, 3) := by decide +kernel
theorem dX11_known_8 : decode cX11_known 8 = .ok (.iload_n 2, 1) := by decide +kernel
theorem dX11_known_9 : decode cX11_known 9 = .ok (.invokestatic 165, 3) := by decide +kernel
theorem dX11_known_12 : decode cX11_known 12 = .ok (.ifCond .eq 5, 3) := by decide +kernel
theorem dX11_known_15 : decode cX11_known 15 = .ok (.iconst (-1), 1) := by decide +kernel
theorem dX11_known_16 : decode cX11_known 16 = .ok (.ireturn, 1) := by decide +kernel
theorem dX11_known_17 : decode cX11_known 17 = .ok (.aload_n 0, 1) := by decide +kernel
theorem dX11_known_18 : decode cX11_known 18 = .ok (.getfield 34, 3) := by decide +kernel
theorem dX11_known_21 : decode cX11_known 21 = .ok (.aload_n 0, 1) := by decide +kernel
theorem dX11_known_22 : decode cX11_known 22 = .ok (.getfield 19, 3) := by decide +kernel
theorem dX11_known_25 : decode cX11_known 25 = .ok (.getfield 106, 3) := by decide +kernel
theorem dX11_known_28 : decode cX11_known 28 = .ok (.invokevirtual 168, 3) := by decide +kernel
theorem dX11_known_31 : decode cX11_known 31 = .ok (.aload_n 0, 1) := by decide +kernel
theorem dX11_known_32 : decode cX11_known 32 = .ok (.getfield 34, 3) := by decide +kernel
theorem dX11_known_35 : decode cX11_known 35 = .ok (.getfield 171, 3) := by decide +kernel
theorem dX11_known_38 : decode cX11_known 38 = .ok (.iload_n 1, 1) := by decide +kernel
theorem dX11_known_39 : decode cX11_known 39 = .ok (.iconst 4, 1) := by decide +kernel
theorem dX11_known_40 : decode cX11_known 40 = .ok (.imul, 1) := by decide +kernel
theorem dX11_known_41 : decode cX11_known 41 = .ok (.iload_n 2, 1) := by decide +kernel
theorem dX11_known_42 : decode cX11_known 42 = .ok (.iadd, 1) := by decide +kernel
theorem dX11_known_43 : decode cX11_known 43 = .ok (.iaload, 1) := by decide +kernel
theorem dX11_known_44 : decode cX11_known 44 = .ok (.ireturn, 1) := by decide +kernel
set_option maxRecDepth 20000 in
theorem ggX11_sort_X11_isNoPlace : GoodIn wsX11_sort wsX11_isNoPlace := goodIn_r _ [7, 2, 57, 58, 59, 60, 61, 62, 63, 64, 65, 66, 67, 68, 69, 70, 71, 72, 73, 74, 75, 76, 86, 87] (by decide +kernel) (by decide +kernel)
set_option maxRecDepth 20000 in
theorem gX11_sort_X11_isNoPlace : GoodIn wsX11_sort (wsV RX11 145 RX11 yX11_isNoPlace wsX11_isNoPlace) := goodIn_app (goodIn_of _ (by decide +kernel)) ggX11_sort_X11_isNoPlace
set_option maxRecDepth 20000 in
theorem ggX11_sort_X11_isNoRegister : GoodIn wsX11_sort wsX11_isNoRegister := goodIn_r _ [10] (by decide +kernel) (by decide +kernel)
set_option maxRecDepth 20000 in
theorem gX11_sort_X11_isNoRegister : GoodIn wsX11_sort (va_wsS RX11 165 yX11_isNoRegister wsX11_isNoRegister) := goodIn_app (goodIn_of _ (by decide +kernel)) ggX11_sort_X11_isNoRegister
set_option maxRecDepth 20000 in
theorem ggX11_sort_X3_followSorts : GoodIn wsX11_sort wsX3_followSorts := goodIn_r _ [15, 16, 17, 18, 19, 20, 21, 22, 23, 24, 25, 26, 27, 28, 29, 30, 31, 14, 32, 33, 34, 35, 36, 37, 38, 39, 40, 41, 42, 43, 44, 6, 45, 9, 10, 46, 47, 48, 49, 50, 51, 52, 53, 54, 55, 56, 77, 78, 79, 80, 81, 82, 83, 84, 85, 86, 87] (by decide +kernel) (by decide +kernel)
set_option maxRecDepth 20000 in
theorem gX11_sort_X3_followSorts : GoodIn wsX11_sort (wsV RX11 155 RX3 yX3_followSorts wsX3_followSorts) := goodIn_app (goodIn_of _ (by decide +kernel)) ggX11_sort_X3_followSorts
theorem dX11_sort_0 : decode cX11_sort 0 = .ok (.aload_n 0, 1) := by decide +kernel
theorem dX11_sort_1 : decode cX11_sort 1 = .ok (.iload_n 1, 1) := by decide +kernel
theorem dX11_sort_2 : decode cX11_sort 2 = .ok (.invokevirtual 145, 3) := by decide +kernel
theorem dX11_sort_5 : decode cX11_sort 5 = .ok (.ifCond .ne 10, 3) := by decide +kernel
theorem dX11_sort_8 : decode cX11_sort 8 = .ok (.iload_n 2, 1) := by decide +kernel
theorem dX11_sort_9 : decode cX11_sort 9 = .ok (.invokestatic 165, 3) := by decide +kernel
theorem dX11_sort_12 : decode cX11_sort 12 = .ok (.ifCond .eq 5, 3) := by decide +kernel
theorem dX11_sort_15 : decode cX11_sort 15 = .ok (.iconst (-1), 1) := by decide +kernel
theorem dX11_sort_16 : decode cX11_sort 16 = .ok (.ireturn, 1) := by decide +kernel
theorem dX11_sort_17 : decode cX11_sort 17 = .ok (.aload_n 0, 1) := by decide +kernel
theorem dX11_sort_18 : decode cX11_sort 18 = .ok (.getfield 34, 3) := by decide +kernel
theorem dX11_sort_21 : decode cX11_sort 21 = .ok (.aload_n 0, 1) := by decide +kernel
theorem dX11_sort_22 : decode cX11_sort 22 = .ok (.getfield 19, 3) := by decide +kernel
theorem dX11_sort_25 : decode cX11_sort 25 = .ok (.getfield 106, 3) := by decide +kernel
theorem dX11_sort_28 : decode cX11_sort 28 = .ok (.invokevirtual 155, 3) := by decide +kernel
theorem dX11_sort_31 : decode cX11_sort 31 = .ok (.aload_n 0, 1) := by decide +kernel
theorem dX11_sort_32 : decode cX11_sort 32 = .ok (.getfield 34, 3) := by decide +kernel
theorem dX11_sort_35 : decode cX11_sort 35 = .ok (.getfield 174, 3) := by decide +kernel
theorem dX11_sort_38 : decode cX11_sort 38 = .ok (.iload_n 1, 1) := by decide +kernel
theorem dX11_sort_39 : decode cX11_sort 39 = .ok (.iconst 4, 1) := by decide +kernel
theorem dX11_sort_40 : decode cX11_sort 40 = .ok (.imul, 1) := by decide +kernel
theorem dX11_sort_41 : decode cX11_sort 41 = .ok (.iload_n 2, 1) := by decide +kernel
theorem dX11_sort_42 : decode cX11_sort 42 = .ok (.iadd, 1) := by decide +kernel
theorem dX11_sort_43 : decode cX11_sort 43 = .ok (.iaload, 1) := by decide +kernel
theorem dX11_sort_44 : decode cX11_sort 44 = .ok (.ireturn, 1) := by decide +kernel
set_option maxRecDepth 20000 in
theorem ggX11_mend_X6_mendOnce : GoodIn wsX11_mend wsX6_mendOnce := goodIn_r _ [7, 8, 9, 10, 6, 11, 12, 13, 14, 15, 16, 17, 18, 19, 20, 21, 22, 23, 24, 25, 26, 27, 28, 29, 30, 31, 32, 33, 34, 35, 36, 37, 38, 39, 40, 41, 42, 43, 44, 45, 46, 47, 48, 49, 50, 51, 52, 53, 54, 55, 56, 57, 58, 59, 60, 61, 62, 63, 64, 65, 66, 67, 68, 69, 70, 71, 72, 73, 74, 75, 76, 77, 78, 79, 80, 81, 82, 83, 84, 85, 86, 87, 88, 89, 90, 91, 92, 93, 94, 95, 96, 97, 98, 99, 100, 101, 102, 103, 104, 105, 106, 107, 108, 109, 110, 111, 112, 113, 114, 115, 116, 117, 118, 119, 120, 121, 122, 123, 124, 125, 126, 127, 128, 129, 130, 151, 152, 153, 154, 155, 156, 157, 158, 159, 160, 161, 162] (by decide +kernel) (by decide +kernel)
set_option maxRecDepth 20000 in
theorem gX11_mend_X6_mendOnce : GoodIn wsX11_mend (wsV RX11 177 RX6 yX6_mendOnce wsX6_mendOnce) := goodIn_app (goodIn_of _ (by decide +kernel)) ggX11_mend_X6_mendOnce
