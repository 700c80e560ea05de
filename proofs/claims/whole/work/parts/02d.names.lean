theorem dX11_mend_0 : decode cX11_mend 0 = .ok (.iload_n 1, 1) := by decide +kernel
theorem dX11_mend_1 : decode cX11_mend 1 = .ok (.iconst 1, 1) := by decide +kernel
theorem dX11_mend_2 : decode cX11_mend 2 = .ok (.if_icmp .lt 8, 3) := by decide +kernel
theorem dX11_mend_5 : decode cX11_mend 5 = .ok (.iload_n 1, 1) := by decide +kernel
theorem dX11_mend_6 : decode cX11_mend 6 = .ok (.iconst 4, 1) := by decide +kernel
theorem dX11_mend_7 : decode cX11_mend 7 = .ok (.if_icmp .le 6, 3) := by decide +kernel
theorem dX11_mend_10 : decode cX11_mend 10 = .ok (.bipush (-2), 2) := by decide +kernel
theorem dX11_mend_12 : decode cX11_mend 12 = .ok (.ireturn, 1) := by decide +kernel
theorem dX11_mend_13 : decode cX11_mend 13 = .ok (.aload_n 0, 1) := by decide +kernel
theorem dX11_mend_14 : decode cX11_mend 14 = .ok (.getfield 41, 3) := by decide +kernel
theorem dX11_mend_17 : decode cX11_mend 17 = .ok (.iload_n 1, 1) := by decide +kernel
theorem dX11_mend_18 : decode cX11_mend 18 = .ok (.aload_n 0, 1) := by decide +kernel
theorem dX11_mend_19 : decode cX11_mend 19 = .ok (.getfield 19, 3) := by decide +kernel
theorem dX11_mend_22 : decode cX11_mend 22 = .ok (.getfield 106, 3) := by decide +kernel
theorem dX11_mend_25 : decode cX11_mend 25 = .ok (.aload_n 0, 1) := by decide +kernel
theorem dX11_mend_26 : decode cX11_mend 26 = .ok (.getfield 19, 3) := by decide +kernel
theorem dX11_mend_29 : decode cX11_mend 29 = .ok (.getfield 120, 3) := by decide +kernel
theorem dX11_mend_32 : decode cX11_mend 32 = .ok (.invokevirtual 177, 3) := by decide +kernel
theorem dX11_mend_35 : decode cX11_mend 35 = .ok (.ireturn, 1) := by decide +kernel
set_option maxRecDepth 20000 in
theorem ggX11_clean_X6_mendAll : GoodIn wsX11_clean wsX6_mendAll := goodIn_r _ [7, 8, 9, 10, 6, 11, 12, 13, 14, 15, 16, 17, 18, 19, 20, 21, 22, 23, 24, 25, 26, 27, 28, 29, 30, 31, 32, 33, 34, 35, 36, 37, 38, 39, 40, 41, 42, 43, 44, 45, 46, 47, 48, 49, 50, 51, 52, 53, 54, 55, 56, 57, 58, 59, 60, 61, 62, 63, 64, 65, 66, 67, 68, 69, 70, 71, 72, 73, 74, 75, 76, 77, 78, 79, 80, 81, 82, 83, 84, 85, 86, 87, 88, 89, 90, 91, 92, 93, 94, 95, 96, 97, 98, 99, 100, 101, 102, 103, 104, 105, 106, 107, 108, 109, 110, 111, 112, 113, 114, 115, 116, 117, 118, 119, 120, 121, 122, 123, 124, 125, 126, 127, 128, 129, 130, 131, 132, 133, 134, 157, 155, 156, 158, 159, 160, 161, 162, 163, 164, 165, 166] (by decide +kernel) (by decide +kernel)
set_option maxRecDepth 20000 in
theorem gX11_clean_X6_mendAll : GoodIn wsX11_clean (wsV RX11 181 RX6 yX6_mendAll wsX6_mendAll) := goodIn_app (goodIn_of _ (by decide +kernel)) ggX11_clean_X6_mendAll
theorem dX11_clean_0 : decode cX11_clean 0 = .ok (.aload_n 0, 1) := by decide +kernel
theorem dX11_clean_1 : decode cX11_clean 1 = .ok (.getfield 41, 3) := by decide +kernel
theorem dX11_clean_4 : decode cX11_clean 4 = .ok (.aload_n 0, 1) := by decide +kernel
theorem dX11_clean_5 : decode cX11_clean 5 = .ok (.getfield 19, 3) := by decide +kernel
theorem dX11_clean_8 : decode cX11_clean 8 = .ok (.getfield 106, 3) := by decide +kernel
theorem dX11_clean_11 : decode cX11_clean 11 = .ok (.aload_n 0, 1) := by decide +kernel
theorem dX11_clean_12 : decode cX11_clean 12 = .ok (.getfield 19, 3) := by decide +kernel
theorem dX11_clean_15 : decode cX11_clean 15 = .ok (.getfield 120, 3) := by decide +kernel
theorem dX11_clean_18 : decode cX11_clean 18 = .ok (.invokevirtual 181, 3) := by decide +kernel
theorem dX11_clean_21 : decode cX11_clean 21 = .ok (.aload_n 0, 1) := by decide +kernel
theorem dX11_clean_22 : decode cX11_clean 22 = .ok (.getfield 19, 3) := by decide +kernel
theorem dX11_clean_25 : decode cX11_clean 25 = .ok (.getfield 106, 3) := by decide +kernel
theorem dX11_clean_28 : decode cX11_clean 28 = .ok (.getfield 116, 3) := by decide +kernel
theorem dX11_clean_31 : decode cX11_clean 31 = .ok (.ireturn, 1) := by decide +kernel
set_option maxRecDepth 20000 in
theorem ggX11_behind_X11_isNoStep : GoodIn wsX11_behind wsX11_isNoStep := goodIn_r _ [7, 2, 59, 60, 61, 62, 63, 64, 65, 66, 67, 68, 69, 70, 71, 72, 73, 74, 75, 76, 77, 78, 79, 80] (by decide +kernel) (by decide +kernel)
set_option maxRecDepth 20000 in
theorem gX11_behind_X11_isNoStep : GoodIn wsX11_behind (wsV RX11 123 RX11 yX11_isNoStep wsX11_isNoStep) := goodIn_app (goodIn_of _ (by decide +kernel)) ggX11_behind_X11_isNoStep
set_option maxRecDepth 20000 in
theorem ggX11_behind_X5_follow : GoodIn wsX11_behind wsX5_follow := goodIn_r _ [12, 13, 14, 15, 16, 17, 18, 19, 20, 21, 22, 23, 24, 25, 26, 27, 28, 29, 30, 31, 32, 33, 34, 35, 11, 36, 37, 38, 6, 39, 40, 41, 42, 43, 44, 45, 46, 47, 48, 49, 50, 51, 52, 53, 54, 81, 82, 83, 84, 85, 86, 79, 80] (by decide +kernel) (by decide +kernel)
set_option maxRecDepth 20000 in
theorem gX11_behind_X5_follow : GoodIn wsX11_behind (wsV RX11 184 RX5 yX5_follow wsX5_follow) := goodIn_app (goodIn_of _ (by decide +kernel)) ggX11_behind_X5_follow
set_option maxRecDepth 20000 in
theorem ggX11_behind_X5_mustFollow : GoodIn wsX11_behind wsX5_mustFollow := goodIn_r _ [58, 16, 17, 81, 82, 83, 84, 85, 86] (by decide +kernel) (by decide +kernel)
set_option maxRecDepth 20000 in
theorem gX11_behind_X5_mustFollow : GoodIn wsX11_behind (wsV RX11 187 RX5 yX5_mustFollow wsX5_mustFollow) := goodIn_app (goodIn_of _ (by decide +kernel)) ggX11_behind_X5_mustFollow
theorem dX11_behind_0 : decode cX11_behind 0 = .ok (.aload_n 0, 1) := by decide +kernel
theorem dX11_behind_1 : decode cX11_behind 1 = .ok (.iload_n 1, 1) := by decide +kernel
theorem dX11_behind_2 : decode cX11_behind 2 = .ok (.invokevirtual 123, 3) := by decide +kernel
theorem dX11_behind_5 : decode cX11_behind 5 = .ok (.ifCond .eq 5, 3) := by decide +kernel
theorem dX11_behind_8 : decode cX11_behind 8 = .ok (.iconst (-1), 1) := by decide +kernel
theorem dX11_behind_9 : decode cX11_behind 9 = .ok (.ireturn, 1) := by decide +kernel
theorem dX11_behind_10 : decode cX11_behind 10 = .ok (.aload_n 0, 1) := by decide +kernel
theorem dX11_behind_11 : decode cX11_behind 11 = .ok (.getfield 48, 3) := by decide +kernel
theorem dX11_behind_14 : decode cX11_behind 14 = .ok (.aload_n 0, 1) := by decide +kernel
theorem dX11_behind_15 : decode cX11_behind 15 = .ok (.getfield 19, 3) := by decide +kernel
theorem dX11_behind_18 : decode cX11_behind 18 = .ok (.getfield 106, 3) := by decide +kernel
theorem dX11_behind_21 : decode cX11_behind 21 = .ok (.invokevirtual 184, 3) := by decide +kernel
theorem dX11_behind_24 : decode cX11_behind 24 = .ok (.aload_n 0, 1) := by decide +kernel
theorem dX11_behind_25 : decode cX11_behind 25 = .ok (.getfield 48, 3) := by decide +kernel
theorem dX11_behind_28 : decode cX11_behind 28 = .ok (.iload_n 1, 1) := by decide +kernel
theorem dX11_behind_29 : decode cX11_behind 29 = .ok (.invokevirtual 187, 3) := by decide +kernel
theorem dX11_behind_32 : decode cX11_behind 32 = .ok (.ireturn, 1) := by decide +kernel
set_option maxRecDepth 20000 in
theorem ggX11_orders_X5_follow : GoodIn wsX11_orders wsX5_follow := goodIn_r _ [8, 9, 10, 11, 12, 13, 14, 15, 16, 17, 18, 19, 20, 21, 22, 23, 24, 25, 26, 27, 28, 29, 30, 31, 7, 32, 33, 34, 35, 36, 37, 38, 39, 40, 41, 42, 43, 44, 45, 46, 47, 48, 49, 50, 51, 85, 86, 87, 88, 89, 90, 83, 84] (by decide +kernel) (by decide +kernel)
set_option maxRecDepth 20000 in
theorem gX11_orders_X5_follow : GoodIn wsX11_orders (wsV RX11 184 RX5 yX5_follow wsX5_follow) := goodIn_app (goodIn_of _ (by decide +kernel)) ggX11_orders_X5_follow
set_option maxRecDepth 20000 in
theorem ggX11_orders_X0_countOrders : GoodIn wsX11_orders wsX0_countOrders := goodIn_r _ [56, 57, 58, 19, 20, 21, 59, 60, 61, 7, 62, 12, 13, 91, 92, 93, 94, 95, 96, 97, 98, 99, 100, 85, 86, 87, 88, 89, 90] (by decide +kernel) (by decide +kernel)
set_option maxRecDepth 20000 in
theorem gX11_orders_X0_countOrders : GoodIn wsX11_orders (wsV RX11 190 RX0 yX0_countOrders wsX0_countOrders) := goodIn_app (goodIn_of _ (by decide +kernel)) ggX11_orders_X0_countOrders
theorem dX11_orders_0 : decode cX11_orders 0 = .ok (.aload_n 0, 1) := by decide +kernel
theorem dX11_orders_1 : decode cX11_orders 1 = .ok (.getfield 48, 3) := by decide +kernel
theorem dX11_orders_4 : decode cX11_orders 4 = .ok (.aload_n 0, 1) := by decide +kernel
theorem dX11_orders_5 : decode cX11_orders 5 = .ok (.getfield 19, 3) := by decide +kernel
theorem dX11_orders_8 : decode cX11_orders 8 = .ok (.getfield 106, 3) := by decide +kernel
theorem dX11_orders_11 : decode cX11_orders 11 = .ok (.invokevirtual 184, 3) := by decide +kernel
theorem dX11_orders_14 : decode cX11_orders 14 = .ok (.aload_n 0, 1) := by decide +kernel
theorem dX11_orders_15 : decode cX11_orders 15 = .ok (.getfield 55, 3) := by decide +kernel
theorem dX11_orders_18 : decode cX11_orders 18 = .ok (.aload_n 0, 1) := by decide +kernel
theorem dX11_orders_19 : decode cX11_orders 19 = .ok (.getfield 48, 3) := by decide +kernel
theorem dX11_orders_22 : decode cX11_orders 22 = .ok (.aload_n 0, 1) := by decide +kernel
theorem dX11_orders_23 : decode cX11_orders 23 = .ok (.getfield 19, 3) := by decide +kernel
theorem dX11_orders_26 : decode cX11_orders 26 = .ok (.getfield 106, 3) := by decide +kernel
theorem dX11_orders_29 : decode cX11_orders 29 = .ok (.getfield 116, 3) := by decide +kernel
theorem dX11_orders_32 : decode cX11_orders 32 = .ok (.invokevirtual 190, 3) := by decide +kernel
theorem dX11_orders_35 : decode cX11_orders 35 = .ok (.ireturn, 1) := by decide +kernel
theorem dX11_set_0 : decode cX11_set 0 = .ok (.iload_n 1, 1) := by decide +kernel
theorem dX11_set_1 : decode cX11_set 1 = .ok (.ifCond .lt 8, 3) := by decide +kernel
theorem dX11_set_4 : decode cX11_set 4 = .ok (.iload_n 1, 1) := by decide +kernel
theorem dX11_set_5 : decode cX11_set 5 = .ok (.iconst 5, 1) := by decide +kernel
theorem dX11_set_6 : decode cX11_set 6 = .ok (.if_icmp .lt 6, 3) := by decide +kernel
theorem dX11_set_9 : decode cX11_set 9 = .ok (.bipush (-2), 2) := by decide +kernel
theorem dX11_set_11 : decode cX11_set 11 = .ok (.ireturn, 1) := by decide +kernel
theorem dX11_set_12 : decode cX11_set 12 = .ok (.iload_n 1, 1) := by decide +kernel
theorem dX11_set_13 : decode cX11_set 13 = .ok (.ifCond .ne 7, 3) := by decide +kernel
theorem dX11_set_16 : decode cX11_set 16 = .ok (.iconst 3, 1) := by decide +kernel
theorem dX11_set_17 : decode cX11_set 17 = .ok (.goto 4, 3) := by decide +kernel
theorem dX11_set_20 : decode cX11_set 20 = .ok (.iconst 5, 1) := by decide +kernel
theorem dX11_set_21 : decode cX11_set 21 = .ok (.istore_n 3, 1) := by decide +kernel
theorem dX11_set_22 : decode cX11_set 22 = .ok (.iload_n 2, 1) := by decide +kernel
theorem dX11_set_23 : decode cX11_set 23 = .ok (.iconst 1, 1) := by decide +kernel
theorem dX11_set_24 : decode cX11_set 24 = .ok (.if_icmp .lt 8, 3) := by decide +kernel
theorem dX11_set_27 : decode cX11_set 27 = .ok (.iload_n 2, 1) := by decide +kernel
theorem dX11_set_28 : decode cX11_set 28 = .ok (.iload_n 3, 1) := by decide +kernel
theorem dX11_set_29 : decode cX11_set 29 = .ok (.if_icmp .le 6, 3) := by decide +kernel
theorem dX11_set_32 : decode cX11_set 32 = .ok (.bipush (-2), 2) := by decide +kernel
theorem dX11_set_34 : decode cX11_set 34 = .ok (.ireturn, 1) := by decide +kernel
theorem dX11_set_35 : decode cX11_set 35 = .ok (.aload_n 0, 1) := by decide +kernel
theorem dX11_set_36 : decode cX11_set 36 = .ok (.getfield 19, 3) := by decide +kernel
theorem dX11_set_39 : decode cX11_set 39 = .ok (.getfield 194, 3) := by decide +kernel
theorem dX11_set_42 : decode cX11_set 42 = .ok (.iload_n 1, 1) := by decide +kernel
theorem dX11_set_43 : decode cX11_set 43 = .ok (.iaload, 1) := by decide +kernel
theorem dX11_set_44 : decode cX11_set 44 = .ok (.istore 4, 2) := by decide +kernel
theorem dX11_set_46 : decode cX11_set 46 = .ok (.aload_n 0, 1) := by decide +kernel
theorem dX11_set_47 : decode cX11_set 47 = .ok (.getfield 19, 3) := by decide +kernel
theorem dX11_set_50 : decode cX11_set 50 = .ok (.getfield 194, 3) := by decide +kernel
theorem dX11_set_53 : decode cX11_set 53 = .ok (.iload_n 1, 1) := by decide +kernel
theorem dX11_set_54 : decode cX11_set 54 = .ok (.iload_n 2, 1) := by decide +kernel
theorem dX11_set_55 : decode cX11_set 55 = .ok (.iastore, 1) := by decide +kernel
theorem dX11_set_56 : decode cX11_set 56 = .ok (.iload 4, 2) := by decide +kernel
theorem dX11_set_58 : decode cX11_set 58 = .ok (.ireturn, 1) := by decide +kernel
set_option maxRecDepth 20000 in
theorem ggX11_tick_X11_isNoStep : GoodIn wsX11_tick wsX11_isNoStep := goodIn_r _ [6, 7, 87, 88, 89, 90, 91, 92, 93, 94, 95, 96, 97, 98, 99, 100, 111, 112, 113, 114, 115, 116, 117, 118] (by decide +kernel) (by decide +kernel)
set_option maxRecDepth 20000 in
theorem gX11_tick_X11_isNoStep : GoodIn wsX11_tick (wsV RX11 123 RX11 yX11_isNoStep wsX11_isNoStep) := goodIn_app (goodIn_of _ (by decide +kernel)) ggX11_tick_X11_isNoStep
set_option maxRecDepth 20000 in
theorem ggX11_tick_X11_windClock : GoodIn wsX11_tick wsX11_windClock := goodIn_r _ [11, 12, 7, 1, 13, 14, 15, 16, 17, 18, 19, 20, 21, 22, 23, 24, 25, 26, 27, 28, 29, 30, 31, 32, 33, 34, 35, 36, 37, 38, 39, 40, 41, 42, 43, 5, 44, 45, 46, 47, 48, 49, 50, 51, 52, 53, 54, 55, 56, 57, 58, 59, 60, 61, 62, 63, 64, 65, 66, 67, 68, 69, 70, 71, 72, 73, 87, 88, 89, 90, 91, 92, 93, 94, 95, 96, 97, 98, 99, 100, 111, 112, 113, 114, 115, 116, 119, 120, 121, 122, 123, 124, 117, 118, 101, 102, 103, 104, 105, 106, 107, 108, 109, 110] (by decide +kernel) (by decide +kernel)
set_option maxRecDepth 20000 in
theorem gX11_tick_X11_windClock : GoodIn wsX11_tick (wsV RX11 197 RX11 yX11_windClock wsX11_windClock) := goodIn_app (goodIn_of _ (by decide +kernel)) ggX11_tick_X11_windClock
set_option maxRecDepth 20000 in
theorem ggX11_tick_X0_layAsWritten : GoodIn wsX11_tick wsX0_layAsWritten := goodIn_r _ [77, 65, 78, 67, 79, 80, 81, 82, 83, 84, 85, 63, 86, 66, 68, 69, 101, 102, 103, 104, 105, 106, 107, 108, 109, 110] (by decide +kernel) (by decide +kernel)
set_option maxRecDepth 20000 in
theorem gX11_tick_X0_layAsWritten : GoodIn wsX11_tick (wsV RX11 200 RX0 yX0_layAsWritten wsX0_layAsWritten) := goodIn_app (goodIn_of _ (by decide +kernel)) ggX11_tick_X0_layAsWritten
theorem dX11_tick_0 : decode cX11_tick 0 = .ok (.aload_n 0, 1) := by decide +kernel
theorem dX11_tick_1 : decode cX11_tick 1 = .ok (.iload_n 1, 1) := by decide +kernel
theorem dX11_tick_2 : decode cX11_tick 2 = .ok (.invokevirtual 123, 3) := by decide +kernel
theorem dX11_tick_5 : decode cX11_tick 5 = .ok (.ifCond .eq 5, 3) := by decide +kernel
theorem dX11_tick_8 : decode cX11_tick 8 = .ok (.iconst (-1), 1) := by decide +kernel
theorem dX11_tick_9 : decode cX11_tick 9 = .ok (.ireturn, 1) := by decide +kernel
theorem dX11_tick_10 : decode cX11_tick 10 = .ok (.aload_n 0, 1) := by decide +kernel
theorem dX11_tick_11 : decode cX11_tick 11 = .ok (.invokevirtual 197, 3) := by decide +kernel
theorem dX11_tick_14 : decode cX11_tick 14 = .ok (.aload_n 0, 1) := by decide +kernel
theorem dX11_tick_15 : decode cX11_tick 15 = .ok (.getfield 55, 3) := by decide +kernel
theorem dX11_tick_18 : decode cX11_tick 18 = .ok (.invokevirtual 200, 3) := by decide +kernel
theorem dX11_tick_21 : decode cX11_tick 21 = .ok (.pop, 1) := by decide +kernel
theorem dX11_tick_22 : decode cX11_tick 22 = .ok (.aload_n 0, 1) := by decide +kernel
theorem dX11_tick_23 : decode cX11_tick 23 = .ok (.getfield 55, 3) := by decide +kernel
theorem dX11_tick_26 : decode cX11_tick 26 = .ok (.getfield 203, 3) := by decide +kernel
theorem dX11_tick_29 : decode cX11_tick 29 = .ok (.iload_n 1, 1) := by decide +kernel
theorem dX11_tick_30 : decode cX11_tick 30 = .ok (.iaload, 1) := by decide +kernel
theorem dX11_tick_31 : decode cX11_tick 31 = .ok (.ireturn, 1) := by decide +kernel
set_option maxRecDepth 20000 in
theorem ggX11_time_X11_windClock : GoodIn wsX11_time wsX11_windClock := goodIn_r _ [6, 7, 8, 1, 9, 10, 11, 12, 13, 14, 15, 16, 17, 18, 19, 20, 21, 22, 23, 24, 25, 26, 27, 28, 29, 30, 31, 32, 33, 34, 35, 36, 37, 38, 39, 5, 40, 41, 42, 43, 44, 45, 46, 47, 48, 49, 50, 51, 52, 53, 54, 55, 56, 57, 58, 59, 60, 61, 62, 63, 64, 65, 66, 67, 68, 69, 83, 84, 85, 86, 87, 88, 89, 90, 91, 92, 93, 94, 95, 96, 97, 98, 99, 100, 101, 102, 103, 104, 105, 106, 107, 108, 109, 110, 111, 112, 113, 114, 115, 116, 117, 118, 119, 120] (by decide +kernel) (by decide +kernel)
set_option maxRecDepth 20000 in
theorem gX11_time_X11_windClock : GoodIn wsX11_time (wsV RX11 197 RX11 yX11_windClock wsX11_windClock) := goodIn_app (goodIn_of _ (by decide +kernel)) ggX11_time_X11_windClock
set_option maxRecDepth 20000 in
theorem ggX11_time_X0_layAsWritten : GoodIn wsX11_time wsX0_layAsWritten := goodIn_r _ [73, 61, 74, 63, 75, 76, 77, 78, 79, 80, 81, 59, 82, 62, 64, 65, 111, 112, 113, 114, 115, 116, 117, 118, 119, 120] (by decide +kernel) (by decide +kernel)
set_option maxRecDepth 20000 in
theorem gX11_time_X0_layAsWritten : GoodIn wsX11_time (wsV RX11 200 RX0 yX0_layAsWritten wsX0_layAsWritten) := goodIn_app (goodIn_of _ (by decide +kernel)) ggX11_time_X0_layAsWritten
theorem dX11_time_0 : decode cX11_time 0 = .ok (.aload_n 0, 1) := by decide +kernel
theorem dX11_time_1 : decode cX11_time 1 = .ok (.invokevirtual 197, 3) := by decide +kernel
theorem dX11_time_4 : decode cX11_time 4 = .ok (.aload_n 0, 1) := by decide +kernel
theorem dX11_time_5 : decode cX11_time 5 = .ok (.getfield 55, 3) := by decide +kernel
theorem dX11_time_8 : decode cX11_time 8 = .ok (.invokevirtual 200, 3) := by decide +kernel
theorem dX11_time_11 : decode cX11_time 11 = .ok (.ireturn, 1) := by decide +kernel
set_option maxRecDepth 20000 in
theorem ggX11_quickest_X11_windClock : GoodIn wsX11_quickest wsX11_windClock := goodIn_r _ [7, 8, 1, 2, 9, 10, 11, 12, 13, 14, 15, 16, 17, 18, 19, 20, 21, 22, 23, 24, 25, 26, 27, 28, 29, 30, 31, 32, 33, 34, 35, 36, 37, 38, 39, 6, 40, 41, 42, 43, 44, 45, 46, 47, 48, 49, 50, 51, 52, 53, 54, 55, 56, 57, 58, 59, 60, 61, 62, 63, 64, 65, 66, 67, 68, 69, 92, 93, 94, 95, 96, 97, 98, 99, 100, 101, 102, 103, 104, 105, 106, 107, 108, 109, 110, 111, 124, 125, 126, 127, 128, 129, 112, 113, 114, 115, 116, 117, 118, 119, 120, 121, 122, 123] (by decide +kernel) (by decide +kernel)
set_option maxRecDepth 20000 in
theorem gX11_quickest_X11_windClock : GoodIn wsX11_quickest (wsV RX11 197 RX11 yX11_windClock wsX11_windClock) := goodIn_app (goodIn_of _ (by decide +kernel)) ggX11_quickest_X11_windClock
set_option maxRecDepth 20000 in
theorem ggX11_quickest_X0_findQuickest : GoodIn wsX11_quickest wsX0_findQuickest := goodIn_r _ [73, 74, 75, 61, 76, 77, 78, 59, 79, 80, 81, 82, 20, 21, 22, 64, 65, 83, 63, 84, 85, 86, 87, 88, 89, 90, 91, 62, 114, 115, 116, 117, 118, 119, 120, 121, 122, 123] (by decide +kernel) (by decide +kernel)
set_option maxRecDepth 20000 in
theorem gX11_quickest_X0_findQuickest : GoodIn wsX11_quickest (wsV RX11 206 RX0 yX0_findQuickest wsX0_findQuickest) := goodIn_app (goodIn_of _ (by decide +kernel)) ggX11_quickest_X0_findQuickest
theorem dX11_quickest_0 : decode cX11_quickest 0 = .ok (.aload_n 0, 1) := by decide +kernel
theorem dX11_quickest_1 : decode cX11_quickest 1 = .ok (.getfield 19, 3) := by decide +kernel
theorem dX11_quickest_4 : decode cX11_quickest 4 = .ok (.getfield 106, 3) := by decide +kernel
theorem dX11_quickest_7 : decode cX11_quickest 7 = .ok (.getfield 116, 3) := by decide +kernel
theorem dX11_quickest_10 : decode cX11_quickest 10 = .ok (.bipush 8, 2) := by decide +kernel
theorem dX11_quickest_12 : decode cX11_quickest 12 = .ok (.if_icmp .le 6, 3) := by decide +kernel
theorem dX11_quickest_15 : decode cX11_quickest 15 = .ok (.bipush (-3), 2) := by decide +kernel
theorem dX11_quickest_17 : decode cX11_quickest 17 = .ok (.ireturn, 1) := by decide +kernel
theorem dX11_quickest_18 : decode cX11_quickest 18 = .ok (.iload_n 1, 1) := by decide +kernel
theorem dX11_quickest_19 : decode cX11_quickest 19 = .ok (.iconst (-1), 1) := by decide +kernel
theorem dX11_quickest_20 : decode cX11_quickest 20 = .ok (.if_icmp .lt 17, 3) := by decide +kernel
theorem dX11_quickest_23 : decode cX11_quickest 23 = .ok (.iload_n 1, 1) := by decide +kernel
theorem dX11_quickest_24 : decode cX11_quickest 24 = .ok (.aload_n 0, 1) := by decide +kernel
theorem dX11_quickest_25 : decode cX11_quickest 25 = .ok (.getfield 19, 3) := by decide +kernel
theorem dX11_quickest_28 : decode cX11_quickest 28 = .ok (.getfield 106, 3) := by decide +kernel
theorem dX11_quickest_31 : decode cX11_quickest 31 = .ok (.getfield 116, 3) := by decide +kernel
theorem dX11_quickest_34 : decode cX11_quickest 34 = .ok (.if_icmp .lt 6, 3) := by decide +kernel
theorem dX11_quickest_37 : decode cX11_quickest 37 = .ok (.bipush (-6), 2) := by decide +kernel
theorem dX11_quickest_39 : decode cX11_quickest 39 = .ok (.ireturn, 1) := by decide +kernel
theorem dX11_quickest_40 : decode cX11_quickest 40 = .ok (.aload_n 0, 1) := by decide +kernel
theorem dX11_quickest_41 : decode cX11_quickest 41 = .ok (.invokevirtual 197, 3) := by decide +kernel
theorem dX11_quickest_44 : decode cX11_quickest 44 = .ok (.aload_n 0, 1) := by decide +kernel
theorem dX11_quickest_45 : decode cX11_quickest 45 = .ok (.getfield 55, 3) := by decide +kernel
theorem dX11_quickest_48 : decode cX11_quickest 48 = .ok (.invokevirtual 206, 3) := by decide +kernel
theorem dX11_quickest_51 : decode cX11_quickest 51 = .ok (.iload_n 1, 1) := by decide +kernel
theorem dX11_quickest_52 : decode cX11_quickest 52 = .ok (.iconst (-1), 1) := by decide +kernel
theorem dX11_quickest_53 : decode cX11_quickest 53 = .ok (.if_icmp .ne 13, 3) := by decide +kernel
theorem dX11_quickest_56 : decode cX11_quickest 56 = .ok (.aload_n 0, 1) := by decide +kernel
theorem dX11_quickest_57 : decode cX11_quickest 57 = .ok (.getfield 55, 3) := by decide +kernel
theorem dX11_quickest_60 : decode cX11_quickest 60 = .ok (.getfield 209, 3) := by decide +kernel
theorem dX11_quickest_63 : decode cX11_quickest 63 = .ok (.goto 12, 3) := by decide +kernel
theorem dX11_quickest_66 : decode cX11_quickest 66 = .ok (.aload_n 0, 1) := by decide +kernel
theorem dX11_quickest_67 : decode cX11_quickest 67 = .ok (.getfield 55, 3) := by decide +kernel
theorem dX11_quickest_70 : decode cX11_quickest 70 = .ok (.getfield 212, 3) := by decide +kernel
theorem dX11_quickest_73 : decode cX11_quickest 73 = .ok (.iload_n 1, 1) := by decide +kernel
theorem dX11_quickest_74 : decode cX11_quickest 74 = .ok (.iaload, 1) := by decide +kernel
theorem dX11_quickest_75 : decode cX11_quickest 75 = .ok (.ireturn, 1) := by decide +kernel
set_option maxRecDepth 20000 in
theorem ggX11_reads_X11_isNoStep : GoodIn wsX11_reads wsX11_isNoStep := goodIn_r _ [7, 2, 55, 56, 57, 58, 59, 60, 61, 62, 63, 64, 65, 66, 67, 68, 69, 70, 71, 72, 73, 74, 81, 82] (by decide +kernel) (by decide +kernel)
set_option maxRecDepth 20000 in
theorem gX11_reads_X11_isNoStep : GoodIn wsX11_reads (wsV RX11 123 RX11 yX11_isNoStep wsX11_isNoStep) := goodIn_app (goodIn_of _ (by decide +kernel)) ggX11_reads_X11_isNoStep
set_option maxRecDepth 20000 in
theorem ggX11_reads_X5_follow : GoodIn wsX11_reads wsX5_follow := goodIn_r _ [12, 13, 14, 15, 16, 17, 18, 19, 20, 21, 22, 23, 24, 25, 26, 27, 28, 29, 30, 31, 32, 33, 34, 35, 11, 36, 37, 38, 6, 39, 40, 41, 42, 43, 44, 45, 46, 47, 48, 49, 50, 51, 52, 53, 54, 75, 76, 77, 78, 79, 80, 81, 82] (by decide +kernel) (by decide +kernel)
set_option maxRecDepth 20000 in
theorem gX11_reads_X5_follow : GoodIn wsX11_reads (wsV RX11 184 RX5 yX5_follow wsX5_follow) := goodIn_app (goodIn_of _ (by decide +kernel)) ggX11_reads_X5_follow
theorem dX11_reads_0 : decode cX11_reads 0 = .ok (.aload_n 0, 1) := by decide +kernel
theorem dX11_reads_1 : decode cX11_reads 1 = .ok (.iload_n 1, 1) := by decide +kernel
theorem dX11_reads_2 : decode cX11_reads 2 = .ok (.invokevirtual 123, 3) := by decide +kernel
theorem dX11_reads_5 : decode cX11_reads 5 = .ok (.ifCond .eq 5, 3) := by decide +kernel
theorem dX11_reads_8 : decode cX11_reads 8 = .ok (.iconst (-1), 1) := by decide +kernel
theorem dX11_reads_9 : decode cX11_reads 9 = .ok (.ireturn, 1) := by decide +kernel
theorem dX11_reads_10 : decode cX11_reads 10 = .ok (.iload_n 2, 1) := by decide +kernel
theorem dX11_reads_11 : decode cX11_reads 11 = .ok (.ifCond .eq 11, 3) := by decide +kernel
theorem dX11_reads_14 : decode cX11_reads 14 = .ok (.iload_n 2, 1) := by decide +kernel
theorem dX11_reads_15 : decode cX11_reads 15 = .ok (.iconst 1, 1) := by decide +kernel
theorem dX11_reads_16 : decode cX11_reads 16 = .ok (.if_icmp .eq 6, 3) := by decide +kernel
theorem dX11_reads_19 : decode cX11_reads 19 = .ok (.bipush (-2), 2) := by decide +kernel
theorem dX11_reads_21 : decode cX11_reads 21 = .ok (.ireturn, 1) := by decide +kernel
theorem dX11_reads_22 : decode cX11_reads 22 = .ok (.aload_n 0, 1) := by decide +kernel
theorem dX11_reads_23 : decode cX11_reads 23 = .ok (.getfield 48, 3) := by decide +kernel
theorem dX11_reads_26 : decode cX11_reads 26 = .ok (.aload_n 0, 1) := by decide +kernel
theorem dX11_reads_27 : decode cX11_reads 27 = .ok (.getfield 19, 3) := by decide +kernel
theorem dX11_reads_30 : decode cX11_reads 30 = .ok (.getfield 106, 3) := by decide +kernel
theorem dX11_reads_33 : decode cX11_reads 33 = .ok (.invokevirtual 184, 3) := by decide +kernel
theorem dX11_reads_36 : decode cX11_reads 36 = .ok (.aload_n 0, 1) := by decide +kernel
theorem dX11_reads_37 : decode cX11_reads 37 = .ok (.getfield 48, 3) := by decide +kernel
theorem dX11_reads_40 : decode cX11_reads 40 = .ok (.getfield 215, 3) := by decide +kernel
theorem dX11_reads_43 : decode cX11_reads 43 = .ok (.iconst 2, 1) := by decide +kernel
theorem dX11_reads_44 : decode cX11_reads 44 = .ok (.iload_n 1, 1) := by decide +kernel
theorem dX11_reads_45 : decode cX11_reads 45 = .ok (.imul, 1) := by decide +kernel
theorem dX11_reads_46 : decode cX11_reads 46 = .ok (.iload_n 2, 1) := by decide +kernel
theorem dX11_reads_47 : decode cX11_reads 47 = .ok (.iadd, 1) := by decide +kernel
theorem dX11_reads_48 : decode cX11_reads 48 = .ok (.iaload, 1) := by decide +kernel
theorem dX11_reads_49 : decode cX11_reads 49 = .ok (.ireturn, 1) := by decide +kernel
set_option maxRecDepth 20000 in
theorem ggX11_held_X11_isNoPlace : GoodIn wsX11_held wsX11_isNoPlace := goodIn_r _ [6, 7, 92, 93, 94, 95, 96, 97, 98, 99, 100, 101, 102, 103, 104, 105, 106, 107, 108, 109, 110, 111, 112, 113] (by decide +kernel) (by decide +kernel)
set_option maxRecDepth 20000 in
theorem gX11_held_X11_isNoPlace : GoodIn wsX11_held (wsV RX11 145 RX11 yX11_isNoPlace wsX11_isNoPlace) := goodIn_app (goodIn_of _ (by decide +kernel)) ggX11_held_X11_isNoPlace
set_option maxRecDepth 20000 in
theorem ggX11_held_X11_weighValues : GoodIn wsX11_held wsX11_weighValues := goodIn_r _ [11, 12, 7, 13, 1, 14, 15, 16, 17, 18, 19, 20, 21, 22, 23, 24, 25, 26, 27, 28, 29, 30, 31, 32, 33, 34, 35, 36, 37, 38, 39, 40, 41, 42, 43, 44, 5, 45, 46, 47, 48, 49, 50, 51, 52, 53, 54, 55, 56, 57, 58, 59, 60, 61, 62, 63, 64, 65, 66, 67, 68, 69, 70, 71, 72, 73, 74, 75, 76, 77, 78, 79, 80, 81, 82, 83, 84, 85, 86, 87, 92, 93, 94, 95, 96, 97, 98, 99, 100, 101, 102, 103, 104, 105, 106, 107, 108, 109, 110, 111, 114, 115, 116, 117, 118, 119, 112, 113, 120, 121, 122, 123, 124, 125, 126, 127, 128, 129, 130, 131, 132, 133, 134, 135, 136, 137, 138, 139, 140, 141, 142] (by decide +kernel) (by decide +kernel)
set_option maxRecDepth 20000 in
theorem gX11_held_X11_weighValues : GoodIn wsX11_held (wsV RX11 218 RX11 yX11_weighValues wsX11_weighValues) := goodIn_app (goodIn_of _ (by decide +kernel)) ggX11_held_X11_weighValues
set_option maxRecDepth 20000 in
theorem ggX11_held_X4_heldAt : GoodIn wsX11_held wsX4_heldAt := goodIn_r _ [91, 74, 82, 129, 130, 131, 132, 133, 134, 135, 136, 137, 138, 139, 140, 141, 142] (by decide +kernel) (by decide +kernel)
set_option maxRecDepth 20000 in
theorem gX11_held_X4_heldAt : GoodIn wsX11_held (wsV RX11 221 RX4 yX4_heldAt wsX4_heldAt) := goodIn_app (goodIn_of _ (by decide +kernel)) ggX11_held_X4_heldAt
theorem dX11_held_0 : decode cX11_held 0 = .ok (.aload_n 0, 1) := by decide +kernel
theorem dX11_held_1 : decode cX11_held 1 = .ok (.iload_n 1, 1) := by decide +kernel
theorem dX11_held_2 : decode cX11_held 2 = .ok (.invokevirtual 145, 3) := by decide +kernel
theorem dX11_held_5 : decode cX11_held 5 = .ok (.ifCond .eq 5, 3) := by decide +kernel
theorem dX11_held_8 : decode cX11_held 8 = .ok (.iconst (-1), 1) := by decide +kernel
theorem dX11_held_9 : decode cX11_held 9 = .ok (.ireturn, 1) := by decide +kernel
theorem dX11_held_10 : decode cX11_held 10 = .ok (.aload_n 0, 1) := by decide +kernel
theorem dX11_held_11 : decode cX11_held 11 = .ok (.invokevirtual 218, 3) := by decide +kernel
theorem dX11_held_14 : decode cX11_held 14 = .ok (.aload_n 0, 1) := by decide +kernel
theorem dX11_held_15 : decode cX11_held 15 = .ok (.getfield 62, 3) := by decide +kernel
theorem dX11_held_18 : decode cX11_held 18 = .ok (.iload_n 1, 1) := by decide +kernel
theorem dX11_held_19 : decode cX11_held 19 = .ok (.invokevirtual 221, 3) := by decide +kernel
theorem dX11_held_22 : decode cX11_held 22 = .ok (.ireturn, 1) := by decide +kernel
set_option maxRecDepth 20000 in
theorem ggX11_width_X11_weighValues : GoodIn wsX11_width wsX11_weighValues := goodIn_r _ [6, 7, 8, 9, 1, 10, 11, 12, 13, 14, 15, 16, 17, 18, 19, 20, 21, 22, 23, 24, 25, 26, 27, 28, 29, 30, 31, 32, 33, 34, 35, 36, 37, 38, 39, 40, 5, 41, 42, 43, 44, 45, 46, 47, 48, 49, 50, 51, 52, 53, 54, 55, 56, 57, 58, 59, 60, 61, 62, 63, 64, 65, 66, 67, 68, 69, 70, 71, 72, 73, 74, 75, 76, 77, 78, 79, 80, 81, 82, 83, 99, 100, 101, 102, 103, 104, 105, 106, 107, 108, 109, 110, 111, 112, 113, 114, 115, 116, 117, 118, 119, 120, 121, 122, 123, 124, 125, 126, 127, 128, 129, 130, 131, 132, 133, 134, 135, 136, 137, 138, 139, 140, 141, 142, 143, 144, 145, 146, 147, 148, 149] (by decide +kernel) (by decide +kernel)
set_option maxRecDepth 20000 in
theorem gX11_width_X11_weighValues : GoodIn wsX11_width (wsV RX11 218 RX11 yX11_weighValues wsX11_weighValues) := goodIn_app (goodIn_of _ (by decide +kernel)) ggX11_width_X11_weighValues
set_option maxRecDepth 20000 in
theorem ggX11_width_X4_widest : GoodIn wsX11_width wsX4_widest := goodIn_r _ [87, 70, 78, 88, 89, 90, 91, 92, 93, 94, 95, 96, 97, 98, 136, 137, 138, 139, 140, 141, 142, 143, 144, 145, 146, 147, 148, 149] (by decide +kernel) (by decide +kernel)
set_option maxRecDepth 20000 in
theorem gX11_width_X4_widest : GoodIn wsX11_width (wsV RX11 224 RX4 yX4_widest wsX4_widest) := goodIn_app (goodIn_of _ (by decide +kernel)) ggX11_width_X4_widest
theorem dX11_width_0 : decode cX11_width 0 = .ok (.aload_n 0, 1) := by decide +kernel
theorem dX11_width_1 : decode cX11_width 1 = .ok (.invokevirtual 218, 3) := by decide +kernel
theorem dX11_width_4 : decode cX11_width 4 = .ok (.aload_n 0, 1) := by decide +kernel
theorem dX11_width_5 : decode cX11_width 5 = .ok (.getfield 62, 3) := by decide +kernel
theorem dX11_width_8 : decode cX11_width 8 = .ok (.invokevirtual 224, 3) := by decide +kernel
theorem dX11_width_11 : decode cX11_width 11 = .ok (.ireturn, 1) := by decide +kernel
set_option maxRecDepth 20000 in
theorem ggX11_fewest_X11_weighValues : GoodIn wsX11_fewest wsX11_weighValues := goodIn_r _ [7, 8, 1, 9, 2, 10, 11, 12, 13, 14, 15, 16, 17, 18, 19, 20, 21, 22, 23, 24, 25, 26, 27, 28, 29, 30, 31, 32, 33, 34, 35, 36, 37, 38, 39, 40, 6, 41, 42, 43, 44, 45, 46, 47, 48, 49, 50, 51, 52, 53, 54, 55, 56, 57, 58, 59, 60, 61, 62, 63, 64, 65, 66, 67, 68, 69, 70, 71, 72, 73, 74, 75, 76, 77, 78, 79, 80, 81, 82, 83, 112, 113, 114, 115, 116, 117, 118, 119, 120, 121, 122, 123, 124, 125, 126, 127, 128, 129, 130, 131, 148, 149, 150, 151, 152, 153, 132, 133, 154, 155, 156, 157, 158, 159, 160, 161, 162, 134, 135, 136, 137, 138, 139, 140, 141, 142, 143, 144, 145, 146, 147] (by decide +kernel) (by decide +kernel)
set_option maxRecDepth 20000 in
theorem gX11_fewest_X11_weighValues : GoodIn wsX11_fewest (wsV RX11 218 RX11 yX11_weighValues wsX11_weighValues) := goodIn_app (goodIn_of _ (by decide +kernel)) ggX11_fewest_X11_weighValues
set_option maxRecDepth 20000 in
theorem ggX11_fewest_X4_findFewest : GoodIn wsX11_fewest wsX4_findFewest := goodIn_r _ [87, 70, 88, 89, 90, 91, 92, 93, 94, 95, 96, 97, 98, 99, 100, 101, 68, 102, 79, 71, 103, 104, 105, 106, 76, 107, 108, 109, 110, 111, 134, 135, 136, 137, 138, 139, 140, 141, 142, 143, 144, 145, 146, 147] (by decide +kernel) (by decide +kernel)
set_option maxRecDepth 20000 in
theorem gX11_fewest_X4_findFewest : GoodIn wsX11_fewest (wsV RX11 227 RX4 yX4_findFewest wsX4_findFewest) := goodIn_app (goodIn_of _ (by decide +kernel)) ggX11_fewest_X4_findFewest
theorem dX11_fewest_0 : decode cX11_fewest 0 = .ok (.aload_n 0, 1) := by decide +kernel
theorem dX11_fewest_1 : decode cX11_fewest 1 = .ok (.getfield 19, 3) := by decide +kernel
theorem dX11_fewest_4 : decode cX11_fewest 4 = .ok (.getfield 106, 3) := by decide +kernel
theorem dX11_fewest_7 : decode cX11_fewest 7 = .ok (.getfield 116, 3) := by decide +kernel
theorem dX11_fewest_10 : decode cX11_fewest 10 = .ok (.bipush 8, 2) := by decide +kernel
theorem dX11_fewest_12 : decode cX11_fewest 12 = .ok (.if_icmp .le 6, 3) := by decide +kernel
theorem dX11_fewest_15 : decode cX11_fewest 15 = .ok (.bipush (-3), 2) := by decide +kernel
theorem dX11_fewest_17 : decode cX11_fewest 17 = .ok (.ireturn, 1) := by decide +kernel
theorem dX11_fewest_18 : decode cX11_fewest 18 = .ok (.iload_n 1, 1) := by decide +kernel
theorem dX11_fewest_19 : decode cX11_fewest 19 = .ok (.iconst (-1), 1) := by decide +kernel
theorem dX11_fewest_20 : decode cX11_fewest 20 = .ok (.if_icmp .lt 17, 3) := by decide +kernel
theorem dX11_fewest_23 : decode cX11_fewest 23 = .ok (.iload_n 1, 1) := by decide +kernel
theorem dX11_fewest_24 : decode cX11_fewest 24 = .ok (.aload_n 0, 1) := by decide +kernel
theorem dX11_fewest_25 : decode cX11_fewest 25 = .ok (.getfield 19, 3) := by decide +kernel
theorem dX11_fewest_28 : decode cX11_fewest 28 = .ok (.getfield 106, 3) := by decide +kernel
theorem dX11_fewest_31 : decode cX11_fewest 31 = .ok (.getfield 116, 3) := by decide +kernel
theorem dX11_fewest_34 : decode cX11_fewest 34 = .ok (.if_icmp .lt 6, 3) := by decide +kernel
theorem dX11_fewest_37 : decode cX11_fewest 37 = .ok (.bipush (-6), 2) := by decide +kernel
theorem dX11_fewest_39 : decode cX11_fewest 39 = .ok (.ireturn, 1) := by decide +kernel
theorem dX11_fewest_40 : decode cX11_fewest 40 = .ok (.aload_n 0, 1) := by decide +kernel
theorem dX11_fewest_41 : decode cX11_fewest 41 = .ok (.invokevirtual 218, 3) := by decide +kernel
theorem dX11_fewest_44 : decode cX11_fewest 44 = .ok (.aload_n 0, 1) := by decide +kernel
theorem dX11_fewest_45 : decode cX11_fewest 45 = .ok (.getfield 62, 3) := by decide +kernel
theorem dX11_fewest_48 : decode cX11_fewest 48 = .ok (.invokevirtual 227, 3) := by decide +kernel
theorem dX11_fewest_51 : decode cX11_fewest 51 = .ok (.iload_n 1, 1) := by decide +kernel
theorem dX11_fewest_52 : decode cX11_fewest 52 = .ok (.iconst (-1), 1) := by decide +kernel
theorem dX11_fewest_53 : decode cX11_fewest 53 = .ok (.if_icmp .ne 13, 3) := by decide +kernel
theorem dX11_fewest_56 : decode cX11_fewest 56 = .ok (.aload_n 0, 1) := by decide +kernel
theorem dX11_fewest_57 : decode cX11_fewest 57 = .ok (.getfield 62, 3) := by decide +kernel
theorem dX11_fewest_60 : decode cX11_fewest 60 = .ok (.getfield 230, 3) := by decide +kernel
theorem dX11_fewest_63 : decode cX11_fewest 63 = .ok (.goto 12, 3) := by decide +kernel
theorem dX11_fewest_66 : decode cX11_fewest 66 = .ok (.aload_n 0, 1) := by decide +kernel
theorem dX11_fewest_67 : decode cX11_fewest 67 = .ok (.getfield 62, 3) := by decide +kernel
theorem dX11_fewest_70 : decode cX11_fewest 70 = .ok (.getfield 233, 3) := by decide +kernel
theorem dX11_fewest_73 : decode cX11_fewest 73 = .ok (.iload_n 1, 1) := by decide +kernel
theorem dX11_fewest_74 : decode cX11_fewest 74 = .ok (.iaload, 1) := by decide +kernel
theorem dX11_fewest_75 : decode cX11_fewest 75 = .ok (.ireturn, 1) := by decide +kernel
set_option maxRecDepth 20000 in
theorem ggX11_spill_X11_weighValues : GoodIn wsX11_spill wsX11_weighValues := goodIn_r _ [6, 7, 8, 9, 1, 10, 11, 12, 13, 14, 15, 16, 17, 18, 19, 20, 21, 22, 23, 24, 25, 26, 27, 28, 29, 30, 31, 32, 33, 34, 35, 36, 37, 38, 39, 40, 5, 41, 42, 43, 44, 45, 46, 47, 48, 49, 50, 51, 52, 53, 54, 55, 56, 57, 58, 59, 60, 61, 62, 63, 64, 65, 66, 67, 68, 69, 70, 71, 72, 73, 74, 75, 76, 77, 78, 79, 80, 81, 82, 83, 112, 113, 114, 115, 116, 117, 118, 119, 120, 121, 122, 123, 124, 125, 126, 127, 128, 129, 130, 131, 132, 133, 134, 135, 136, 137, 138, 139, 140, 141, 142, 143, 144, 145, 146, 147, 148, 149, 150, 151, 152, 153, 154, 155, 156, 157, 158, 159, 160, 161, 162] (by decide +kernel) (by decide +kernel)
set_option maxRecDepth 20000 in
theorem gX11_spill_X11_weighValues : GoodIn wsX11_spill (wsV RX11 218 RX11 yX11_weighValues wsX11_weighValues) := goodIn_app (goodIn_of _ (by decide +kernel)) ggX11_spill_X11_weighValues
set_option maxRecDepth 20000 in
theorem ggX11_spill_X4_putBy : GoodIn wsX11_spill wsX4_putBy := goodIn_r _ [87, 77, 88, 89, 70, 90, 91, 92, 93, 94, 95, 96, 97, 98, 99, 100, 101, 102, 103, 104, 68, 105, 72, 106, 107, 108, 109, 75, 110, 111, 25, 26, 27, 149, 150, 151, 152, 153, 154, 155, 156, 157, 158, 159, 160, 161, 162] (by decide +kernel) (by decide +kernel)
set_option maxRecDepth 20000 in
theorem gX11_spill_X4_putBy : GoodIn wsX11_spill (wsV RX11 234 RX4 yX4_putBy wsX4_putBy) := goodIn_app (goodIn_of _ (by decide +kernel)) ggX11_spill_X4_putBy
theorem dX11_spill_0 : decode cX11_spill 0 = .ok (.iload_n 1, 1) := by decide +kernel
theorem dX11_spill_1 : decode cX11_spill 1 = .ok (.iconst 1, 1) := by decide +kernel
theorem dX11_spill_2 : decode cX11_spill 2 = .ok (.if_icmp .lt 9, 3) := by decide +kernel
theorem dX11_spill_5 : decode cX11_spill 5 = .ok (.iload_n 1, 1) := by decide +kernel
theorem dX11_spill_6 : decode cX11_spill 6 = .ok (.bipush 8, 2) := by decide +kernel
theorem dX11_spill_8 : decode cX11_spill 8 = .ok (.if_icmp .le 6, 3) := by decide +kernel
theorem dX11_spill_11 : decode cX11_spill 11 = .ok (.bipush (-2), 2) := by decide +kernel
theorem dX11_spill_13 : decode cX11_spill 13 = .ok (.ireturn, 1) := by decide +kernel
theorem dX11_spill_14 : decode cX11_spill 14 = .ok (.aload_n 0, 1) := by decide +kernel
theorem dX11_spill_15 : decode cX11_spill 15 = .ok (.invokevirtual 218, 3) := by decide +kernel
theorem dX11_spill_18 : decode cX11_spill 18 = .ok (.aload_n 0, 1) := by decide +kernel
theorem dX11_spill_19 : decode cX11_spill 19 = .ok (.getfield 62, 3) := by decide +kernel
theorem dX11_spill_22 : decode cX11_spill 22 = .ok (.iload_n 1, 1) := by decide +kernel
theorem dX11_spill_23 : decode cX11_spill 23 = .ok (.invokevirtual 234, 3) := by decide +kernel
theorem dX11_spill_26 : decode cX11_spill 26 = .ok (.ireturn, 1) := by decide +kernel
set_option maxRecDepth 20000 in
theorem ggX11_rule_X7_parse : GoodIn wsX11_rule wsX7_parse := goodIn_r _ [7, 8, 9, 10, 11, 12, 13, 14, 15, 16, 17, 6, 18, 19, 20, 21, 22, 23, 24, 25, 26, 27, 28, 29, 30, 31, 32, 33, 34, 35, 36, 37, 38, 39, 40, 41, 42, 43, 44, 45, 46, 47, 48, 49, 50, 51, 52, 53, 54, 55, 56, 96, 97, 98, 99, 100, 101, 102, 103, 104, 105, 106, 107] (by decide +kernel) (by decide +kernel)
set_option maxRecDepth 20000 in
theorem gX11_rule_X7_parse : GoodIn wsX11_rule (wsV RX11 102 RX7 yX7_parse wsX7_parse) := goodIn_app (goodIn_of _ (by decide +kernel)) ggX11_rule_X7_parse
set_option maxRecDepth 20000 in
theorem ggX11_rule_X9_copySides : GoodIn wsX11_rule wsX9_copySides := goodIn_r _ [61, 62, 63, 64, 65, 66, 41, 67, 48, 68, 69, 70, 71, 43, 108, 109, 110, 111, 106, 107] (by decide +kernel) (by decide +kernel)
set_option maxRecDepth 20000 in
theorem gX11_rule_X9_copySides : GoodIn wsX11_rule (wsV RX11 247 RX9 yX9_copySides wsX9_copySides) := goodIn_app (goodIn_of _ (by decide +kernel)) ggX11_rule_X9_copySides
set_option maxRecDepth 20000 in
theorem ggX11_rule_X7_empty : GoodIn wsX11_rule wsX7_empty := goodIn_r _ [75, 13, 96, 97, 98, 99, 100, 101, 102, 103, 104, 105] (by decide +kernel) (by decide +kernel)
set_option maxRecDepth 20000 in
theorem gX11_rule_X7_empty : GoodIn wsX11_rule (wsV RX11 98 RX7 yX7_empty wsX7_empty) := goodIn_app (goodIn_of _ (by decide +kernel)) ggX11_rule_X7_empty
theorem dX11_rule_0 : decode cX11_rule 0 = .ok (.aload_n 0, 1) := by decide +kernel
theorem dX11_rule_1 : decode cX11_rule 1 = .ok (.getfield 12, 3) := by decide +kernel
theorem dX11_rule_4 : decode cX11_rule 4 = .ok (.iconst 1, 1) := by decide +kernel
theorem dX11_rule_5 : decode cX11_rule 5 = .ok (.invokevirtual 102, 3) := by decide +kernel
theorem dX11_rule_8 : decode cX11_rule 8 = .ok (.bipush (-6), 2) := by decide +kernel
theorem dX11_rule_10 : decode cX11_rule 10 = .ok (.if_icmp .eq 6, 3) := by decide +kernel
theorem dX11_rule_13 : decode cX11_rule 13 = .ok (.bipush (-5), 2) := by decide +kernel
theorem dX11_rule_15 : decode cX11_rule 15 = .ok (.ireturn, 1) := by decide +kernel
theorem dX11_rule_16 : decode cX11_rule 16 = .ok (.aload_n 0, 1) := by decide +kernel
theorem dX11_rule_17 : decode cX11_rule 17 = .ok (.getfield 19, 3) := by decide +kernel
theorem dX11_rule_20 : decode cX11_rule 20 = .ok (.getfield 237, 3) := by decide +kernel
theorem dX11_rule_23 : decode cX11_rule 23 = .ok (.iconst 4, 1) := by decide +kernel
theorem dX11_rule_24 : decode cX11_rule 24 = .ok (.if_icmp .lt 6, 3) := by decide +kernel
theorem dX11_rule_27 : decode cX11_rule 27 = .ok (.bipush (-4), 2) := by decide +kernel
theorem dX11_rule_29 : decode cX11_rule 29 = .ok (.ireturn, 1) := by decide +kernel
theorem dX11_rule_30 : decode cX11_rule 30 = .ok (.aload_n 0, 1) := by decide +kernel
theorem dX11_rule_31 : decode cX11_rule 31 = .ok (.getfield 19, 3) := by decide +kernel
theorem dX11_rule_34 : decode cX11_rule 34 = .ok (.getfield 240, 3) := by decide +kernel
theorem dX11_rule_37 : decode cX11_rule 37 = .ok (.aload_n 0, 1) := by decide +kernel
theorem dX11_rule_38 : decode cX11_rule 38 = .ok (.getfield 19, 3) := by decide +kernel
theorem dX11_rule_41 : decode cX11_rule 41 = .ok (.getfield 237, 3) := by decide +kernel
theorem dX11_rule_44 : decode cX11_rule 44 = .ok (.aaload, 1) := by decide +kernel
theorem dX11_rule_45 : decode cX11_rule 45 = .ok (.aload_n 0, 1) := by decide +kernel
theorem dX11_rule_46 : decode cX11_rule 46 = .ok (.getfield 12, 3) := by decide +kernel
theorem dX11_rule_49 : decode cX11_rule 49 = .ok (.getfield 109, 3) := by decide +kernel
theorem dX11_rule_52 : decode cX11_rule 52 = .ok (.aload_n 0, 1) := by decide +kernel
theorem dX11_rule_53 : decode cX11_rule 53 = .ok (.getfield 12, 3) := by decide +kernel
theorem dX11_rule_56 : decode cX11_rule 56 = .ok (.getfield 244, 3) := by decide +kernel
theorem dX11_rule_59 : decode cX11_rule 59 = .ok (.invokevirtual 247, 3) := by decide +kernel
theorem dX11_rule_62 : decode cX11_rule 62 = .ok (.aload_n 0, 1) := by decide +kernel
theorem dX11_rule_63 : decode cX11_rule 63 = .ok (.getfield 12, 3) := by decide +kernel
theorem dX11_rule_66 : decode cX11_rule 66 = .ok (.invokevirtual 98, 3) := by decide +kernel
theorem dX11_rule_69 : decode cX11_rule 69 = .ok (.pop, 1) := by decide +kernel
theorem dX11_rule_70 : decode cX11_rule 70 = .ok (.aload_n 0, 1) := by decide +kernel
theorem dX11_rule_71 : decode cX11_rule 71 = .ok (.getfield 19, 3) := by decide +kernel
theorem dX11_rule_74 : decode cX11_rule 74 = .ok (.dup, 1) := by decide +kernel
theorem dX11_rule_75 : decode cX11_rule 75 = .ok (.getfield 237, 3) := by decide +kernel
theorem dX11_rule_78 : decode cX11_rule 78 = .ok (.dup_x1, 1) := by decide +kernel
theorem dX11_rule_79 : decode cX11_rule 79 = .ok (.iconst 1, 1) := by decide +kernel
theorem dX11_rule_80 : decode cX11_rule 80 = .ok (.iadd, 1) := by decide +kernel
theorem dX11_rule_81 : decode cX11_rule 81 = .ok (.putfield 237, 3) := by decide +kernel
theorem dX11_rule_84 : decode cX11_rule 84 = .ok (.ireturn, 1) := by decide +kernel
theorem dX11_free_0 : decode cX11_free 0 = .ok (.aload_n 0, 1) := by decide +kernel
theorem dX11_free_1 : decode cX11_free 1 = .ok (.getfield 19, 3) := by decide +kernel
theorem dX11_free_4 : decode cX11_free 4 = .ok (.getfield 237, 3) := by decide +kernel
theorem dX11_free_7 : decode cX11_free 7 = .ok (.istore_n 1, 1) := by decide +kernel
theorem dX11_free_8 : decode cX11_free 8 = .ok (.aload_n 0, 1) := by decide +kernel
theorem dX11_free_9 : decode cX11_free 9 = .ok (.getfield 19, 3) := by decide +kernel
theorem dX11_free_12 : decode cX11_free 12 = .ok (.iconst 0, 1) := by decide +kernel
theorem dX11_free_13 : decode cX11_free 13 = .ok (.putfield 237, 3) := by decide +kernel
theorem dX11_free_16 : decode cX11_free 16 = .ok (.iload_n 1, 1) := by decide +kernel
theorem dX11_free_17 : decode cX11_free 17 = .ok (.ireturn, 1) := by decide +kernel
set_option maxRecDepth 20000 in
theorem ggX11_holds_X11_isNoRule : GoodIn wsX11_holds wsX11_isNoRule := goodIn_r _ [6, 1, 76, 77, 78, 79, 80, 81, 82, 83, 84, 85, 86, 87, 88, 89, 90, 91, 92, 93, 94, 95] (by decide +kernel) (by decide +kernel)
set_option maxRecDepth 20000 in
theorem gX11_holds_X11_isNoRule : GoodIn wsX11_holds (wsV RX11 253 RX11 yX11_isNoRule wsX11_isNoRule) := goodIn_app (goodIn_of _ (by decide +kernel)) ggX11_holds_X11_isNoRule
set_option maxRecDepth 20000 in
theorem ggX11_holds_X11_firstUnlike : GoodIn wsX11_holds wsX11_firstUnlike := goodIn_r _ [10, 11, 12, 13, 14, 15, 16, 17, 18, 19, 20, 21, 22, 23, 24, 25, 26, 27, 28, 29, 30, 31, 32, 33, 34, 35, 36, 37, 38, 39, 40, 5, 41, 42, 43, 44, 45, 46, 47, 48, 49, 50, 51, 52, 53, 54, 55, 56, 57, 58, 59, 60, 61, 62, 63, 64, 65, 66, 67, 68, 69, 70, 71, 72, 73, 74, 75, 76, 77, 78, 79, 80, 81, 82, 83, 84, 85, 86, 87, 88, 89, 100, 101, 102, 103, 104, 105] (by decide +kernel) (by decide +kernel)
set_option maxRecDepth 20000 in
theorem gX11_holds_X11_firstUnlike : GoodIn wsX11_holds (wsV RX11 141 RX11 yX11_firstUnlike wsX11_firstUnlike) := goodIn_app (goodIn_of _ (by decide +kernel)) ggX11_holds_X11_firstUnlike
theorem dX11_holds_0 : decode cX11_holds 0 = .ok (.aload_n 0, 1) := by decide +kernel
theorem dX11_holds_1 : decode cX11_holds 1 = .ok (.iload_n 1, 1) := by decide +kernel
theorem dX11_holds_2 : decode cX11_holds 2 = .ok (.invokevirtual 253, 3) := by decide +kernel
theorem dX11_holds_5 : decode cX11_holds 5 = .ok (.ifCond .eq 5, 3) := by decide +kernel
theorem dX11_holds_8 : decode cX11_holds 8 = .ok (.iconst (-1), 1) := by decide +kernel
theorem dX11_holds_9 : decode cX11_holds 9 = .ok (.ireturn, 1) := by decide +kernel
theorem dX11_holds_10 : decode cX11_holds 10 = .ok (.aload_n 0, 1) := by decide +kernel
theorem dX11_holds_11 : decode cX11_holds 11 = .ok (.getfield 19, 3) := by decide +kernel
theorem dX11_holds_14 : decode cX11_holds 14 = .ok (.getfield 240, 3) := by decide +kernel
theorem dX11_holds_17 : decode cX11_holds 17 = .ok (.iload_n 1, 1) := by decide +kernel
theorem dX11_holds_18 : decode cX11_holds 18 = .ok (.aaload, 1) := by decide +kernel
theorem dX11_holds_19 : decode cX11_holds 19 = .ok (.astore_n 2, 1) := by decide +kernel
theorem dX11_holds_20 : decode cX11_holds 20 = .ok (.aload_n 0, 1) := by decide +kernel
theorem dX11_holds_21 : decode cX11_holds 21 = .ok (.aload_n 2, 1) := by decide +kernel
theorem dX11_holds_22 : decode cX11_holds 22 = .ok (.getfield 256, 3) := by decide +kernel
theorem dX11_holds_25 : decode cX11_holds 25 = .ok (.aload_n 2, 1) := by decide +kernel
theorem dX11_holds_26 : decode cX11_holds 26 = .ok (.getfield 257, 3) := by decide +kernel
theorem dX11_holds_29 : decode cX11_holds 29 = .ok (.bipush 15, 2) := by decide +kernel
theorem dX11_holds_31 : decode cX11_holds 31 = .ok (.invokevirtual 141, 3) := by decide +kernel
theorem dX11_holds_34 : decode cX11_holds 34 = .ok (.bipush (-6), 2) := by decide +kernel
theorem dX11_holds_36 : decode cX11_holds 36 = .ok (.if_icmp .ne 7, 3) := by decide +kernel
theorem dX11_holds_39 : decode cX11_holds 39 = .ok (.iconst 1, 1) := by decide +kernel
theorem dX11_holds_40 : decode cX11_holds 40 = .ok (.goto 4, 3) := by decide +kernel
theorem dX11_holds_43 : decode cX11_holds 43 = .ok (.iconst 0, 1) := by decide +kernel
theorem dX11_holds_44 : decode cX11_holds 44 = .ok (.ireturn, 1) := by decide +kernel
set_option maxRecDepth 20000 in
theorem ggX11_fits_X11_isNoRule : GoodIn wsX11_fits wsX11_isNoRule := goodIn_r _ [6, 1, 40, 41, 42, 43, 44, 45, 46, 47, 48, 49, 50, 51, 52, 53, 54, 55, 56, 57, 58, 59] (by decide +kernel) (by decide +kernel)
set_option maxRecDepth 20000 in
theorem gX11_fits_X11_isNoRule : GoodIn wsX11_fits (wsV RX11 253 RX11 yX11_isNoRule wsX11_isNoRule) := goodIn_app (goodIn_of _ (by decide +kernel)) ggX11_fits_X11_isNoRule
set_option maxRecDepth 20000 in
theorem ggX11_fits_X9_firstFit : GoodIn wsX11_fits wsX9_firstFit := goodIn_r _ [11, 12, 13, 14, 15, 10, 16, 17, 18, 19, 20, 21, 22, 23, 24, 25, 26, 27, 28, 29, 30, 31, 32, 33, 34, 5, 35, 36, 37, 38, 39, 60, 61, 62, 63, 64, 65] (by decide +kernel) (by decide +kernel)
set_option maxRecDepth 20000 in
theorem gX11_fits_X9_firstFit : GoodIn wsX11_fits (wsV RX11 258 RX9 yX9_firstFit wsX9_firstFit) := goodIn_app (goodIn_of _ (by decide +kernel)) ggX11_fits_X9_firstFit
theorem dX11_fits_0 : decode cX11_fits 0 = .ok (.aload_n 0, 1) := by decide +kernel
theorem dX11_fits_1 : decode cX11_fits 1 = .ok (.iload_n 1, 1) := by decide +kernel
theorem dX11_fits_2 : decode cX11_fits 2 = .ok (.invokevirtual 253, 3) := by decide +kernel
theorem dX11_fits_5 : decode cX11_fits 5 = .ok (.ifCond .eq 5, 3) := by decide +kernel
theorem dX11_fits_8 : decode cX11_fits 8 = .ok (.iconst (-1), 1) := by decide +kernel
theorem dX11_fits_9 : decode cX11_fits 9 = .ok (.ireturn, 1) := by decide +kernel
theorem dX11_fits_10 : decode cX11_fits 10 = .ok (.aload_n 0, 1) := by decide +kernel
theorem dX11_fits_11 : decode cX11_fits 11 = .ok (.getfield 19, 3) := by decide +kernel
theorem dX11_fits_14 : decode cX11_fits 14 = .ok (.getfield 240, 3) := by decide +kernel
theorem dX11_fits_17 : decode cX11_fits 17 = .ok (.iload_n 1, 1) := by decide +kernel
theorem dX11_fits_18 : decode cX11_fits 18 = .ok (.aaload, 1) := by decide +kernel
theorem dX11_fits_19 : decode cX11_fits 19 = .ok (.aload_n 0, 1) := by decide +kernel
theorem dX11_fits_20 : decode cX11_fits 20 = .ok (.getfield 19, 3) := by decide +kernel
theorem dX11_fits_23 : decode cX11_fits 23 = .ok (.getfield 106, 3) := by decide +kernel
theorem dX11_fits_26 : decode cX11_fits 26 = .ok (.invokevirtual 258, 3) := by decide +kernel
theorem dX11_fits_29 : decode cX11_fits 29 = .ok (.ireturn, 1) := by decide +kernel
set_option maxRecDepth 20000 in
theorem ggX11_replace_X11_isNoRule : GoodIn wsX11_replace wsX11_isNoRule := goodIn_r _ [7, 1, 99, 100, 101, 102, 103, 104, 105, 106, 107, 108, 109, 110, 111, 112, 113, 114, 115, 116, 117, 118] (by decide +kernel) (by decide +kernel)
set_option maxRecDepth 20000 in
theorem gX11_replace_X11_isNoRule : GoodIn wsX11_replace (wsV RX11 253 RX11 yX11_isNoRule wsX11_isNoRule) := goodIn_app (goodIn_of _ (by decide +kernel)) ggX11_replace_X11_isNoRule
set_option maxRecDepth 20000 in
theorem ggX11_replace_X9_firstFit : GoodIn wsX11_replace wsX9_firstFit := goodIn_r _ [12, 13, 14, 15, 16, 11, 17, 18, 19, 20, 21, 22, 23, 24, 25, 26, 27, 28, 29, 30, 31, 32, 33, 34, 35, 6, 36, 37, 38, 39, 40, 121, 122, 123, 124, 119, 120] (by decide +kernel) (by decide +kernel)
set_option maxRecDepth 20000 in
theorem gX11_replace_X9_firstFit : GoodIn wsX11_replace (wsV RX11 258 RX9 yX9_firstFit wsX9_firstFit) := goodIn_app (goodIn_of _ (by decide +kernel)) ggX11_replace_X9_firstFit
set_option maxRecDepth 20000 in
theorem ggX11_replace_X9_countAfter : GoodIn wsX11_replace wsX9_countAfter := goodIn_r _ [44, 13, 45, 119, 120, 121, 122, 123, 124] (by decide +kernel) (by decide +kernel)
set_option maxRecDepth 20000 in
theorem gX11_replace_X9_countAfter : GoodIn wsX11_replace (wsV RX11 262 RX9 yX9_countAfter wsX9_countAfter) := goodIn_app (goodIn_of _ (by decide +kernel)) ggX11_replace_X9_countAfter
set_option maxRecDepth 20000 in
theorem ggX11_replace_X9_replaceAt : GoodIn wsX11_replace wsX9_replaceAt := goodIn_r _ [49, 45, 13, 14, 15, 16, 11, 17, 18, 19, 20, 21, 22, 23, 24, 25, 26, 27, 28, 29, 30, 31, 32, 33, 34, 35, 6, 36, 37, 38, 39, 40, 50, 51, 52, 53, 54, 55, 56, 57, 58, 59, 60, 61, 62, 63, 64, 65, 66, 67, 68, 69, 70, 71, 72, 73, 74, 75, 76, 77, 78, 79, 80, 81, 82, 83, 84, 85, 86, 87, 88, 89, 90, 91, 92, 93, 94, 95, 96, 97, 98, 119, 120, 121, 122, 123, 124] (by decide +kernel) (by decide +kernel)
set_option maxRecDepth 20000 in
theorem gX11_replace_X9_replaceAt : GoodIn wsX11_replace (wsV RX11 265 RX9 yX9_replaceAt wsX9_replaceAt) := goodIn_app (goodIn_of _ (by decide +kernel)) ggX11_replace_X9_replaceAt
theorem dX11_replace_0 : decode cX11_replace 0 = .ok (.aload_n 0, 1) := by decide +kernel
theorem dX11_replace_1 : decode cX11_replace 1 = .ok (.iload_n 1, 1) := by decide +kernel
theorem dX11_replace_2 : decode cX11_replace 2 = .ok (.invokevirtual 253, 3) := by decide +kernel
theorem dX11_replace_5 : decode cX11_replace 5 = .ok (.ifCond .eq 5, 3) := by decide +kernel
theorem dX11_replace_8 : decode cX11_replace 8 = .ok (.iconst (-1), 1) := by decide +kernel
theorem dX11_replace_9 : decode cX11_replace 9 = .ok (.ireturn, 1) := by decide +kernel
theorem dX11_replace_10 : decode cX11_replace 10 = .ok (.aload_n 0, 1) := by decide +kernel
theorem dX11_replace_11 : decode cX11_replace 11 = .ok (.getfield 19, 3) := by decide +kernel
theorem dX11_replace_14 : decode cX11_replace 14 = .ok (.getfield 240, 3) := by decide +kernel
theorem dX11_replace_17 : decode cX11_replace 17 = .ok (.iload_n 1, 1) := by decide +kernel
theorem dX11_replace_18 : decode cX11_replace 18 = .ok (.aaload, 1) := by decide +kernel
theorem dX11_replace_19 : decode cX11_replace 19 = .ok (.astore_n 2, 1) := by decide +kernel
theorem dX11_replace_20 : decode cX11_replace 20 = .ok (.aload_n 2, 1) := by decide +kernel
theorem dX11_replace_21 : decode cX11_replace 21 = .ok (.aload_n 0, 1) := by decide +kernel
theorem dX11_replace_22 : decode cX11_replace 22 = .ok (.getfield 19, 3) := by decide +kernel
theorem dX11_replace_25 : decode cX11_replace 25 = .ok (.getfield 106, 3) := by decide +kernel
theorem dX11_replace_28 : decode cX11_replace 28 = .ok (.invokevirtual 258, 3) := by decide +kernel
theorem dX11_replace_31 : decode cX11_replace 31 = .ok (.istore_n 3, 1) := by decide +kernel
theorem dX11_replace_32 : decode cX11_replace 32 = .ok (.iload_n 3, 1) := by decide +kernel
theorem dX11_replace_33 : decode cX11_replace 33 = .ok (.bipush (-6), 2) := by decide +kernel
theorem dX11_replace_35 : decode cX11_replace 35 = .ok (.if_icmp .ne 6, 3) := by decide +kernel
theorem dX11_replace_38 : decode cX11_replace 38 = .ok (.bipush (-3), 2) := by decide +kernel
theorem dX11_replace_40 : decode cX11_replace 40 = .ok (.ireturn, 1) := by decide +kernel
theorem dX11_replace_41 : decode cX11_replace 41 = .ok (.aload_n 2, 1) := by decide +kernel
theorem dX11_replace_42 : decode cX11_replace 42 = .ok (.aload_n 0, 1) := by decide +kernel
theorem dX11_replace_43 : decode cX11_replace 43 = .ok (.getfield 19, 3) := by decide +kernel
theorem dX11_replace_46 : decode cX11_replace 46 = .ok (.getfield 106, 3) := by decide +kernel
theorem dX11_replace_49 : decode cX11_replace 49 = .ok (.invokevirtual 262, 3) := by decide +kernel
theorem dX11_replace_52 : decode cX11_replace 52 = .ok (.bipush 12, 2) := by decide +kernel
theorem dX11_replace_54 : decode cX11_replace 54 = .ok (.if_icmp .le 6, 3) := by decide +kernel
theorem dX11_replace_57 : decode cX11_replace 57 = .ok (.bipush (-4), 2) := by decide +kernel
theorem dX11_replace_59 : decode cX11_replace 59 = .ok (.ireturn, 1) := by decide +kernel
theorem dX11_replace_60 : decode cX11_replace 60 = .ok (.aload_n 2, 1) := by decide +kernel
theorem dX11_replace_61 : decode cX11_replace 61 = .ok (.aload_n 0, 1) := by decide +kernel
theorem dX11_replace_62 : decode cX11_replace 62 = .ok (.getfield 19, 3) := by decide +kernel
theorem dX11_replace_65 : decode cX11_replace 65 = .ok (.getfield 106, 3) := by decide +kernel
theorem dX11_replace_68 : decode cX11_replace 68 = .ok (.iload_n 3, 1) := by decide +kernel
theorem dX11_replace_69 : decode cX11_replace 69 = .ok (.aload_n 0, 1) := by decide +kernel
theorem dX11_replace_70 : decode cX11_replace 70 = .ok (.getfield 86, 3) := by decide +kernel
theorem dX11_replace_73 : decode cX11_replace 73 = .ok (.invokevirtual 265, 3) := by decide +kernel
theorem dX11_replace_76 : decode cX11_replace 76 = .ok (.aload_n 0, 1) := by decide +kernel
theorem dX11_replace_77 : decode cX11_replace 77 = .ok (.getfield 19, 3) := by decide +kernel
theorem dX11_replace_80 : decode cX11_replace 80 = .ok (.getfield 106, 3) := by decide +kernel
theorem dX11_replace_83 : decode cX11_replace 83 = .ok (.getfield 116, 3) := by decide +kernel
theorem dX11_replace_86 : decode cX11_replace 86 = .ok (.ireturn, 1) := by decide +kernel
set_option maxRecDepth 20000 in
theorem ggX11_go_X11_replaceOnce : GoodIn wsX11_go wsX11_replaceOnce := goodIn_r _ [5, 6, 7, 8, 9, 10, 11, 12, 13, 14, 15, 16, 17, 18, 19, 20, 21, 22, 23, 24, 25, 26, 27, 28, 29, 30, 31, 32, 33, 34, 35, 4, 36, 37, 38, 39, 40, 41, 42, 43, 44, 45, 46, 47, 48, 49, 50, 51, 52, 53, 54, 55, 56, 57, 58, 59, 60, 61, 62, 63, 64, 65, 66, 67, 68, 69, 70, 71, 72, 73, 74, 75, 76, 77, 78, 79, 80, 81, 82, 83, 84, 85, 86, 87, 88, 89, 90, 91, 92, 93, 94, 95, 96, 97, 98, 99, 100, 101, 102, 103, 104, 105, 106, 107, 108, 109, 110, 111, 112, 113, 114, 115, 116, 117, 118, 119, 120, 121, 122, 123, 124] (by decide +kernel) (by decide +kernel)
set_option maxRecDepth 20000 in
theorem gX11_go_X11_replaceOnce : GoodIn wsX11_go (wsV RX11 269 RX11 yX11_replaceOnce wsX11_replaceOnce) := goodIn_app (goodIn_of _ (by decide +kernel)) ggX11_go_X11_replaceOnce
theorem dX11_go_0 : decode cX11_go 0 = .ok (.iconst 0, 1) := by decide +kernel
theorem dX11_go_1 : decode cX11_go 1 = .ok (.istore_n 1, 1) := by decide +kernel
theorem dX11_go_2 : decode cX11_go 2 = .ok (.iload_n 1, 1) := by decide +kernel
theorem dX11_go_3 : decode cX11_go 3 = .ok (.bipush 20, 2) := by decide +kernel
theorem dX11_go_5 : decode cX11_go 5 = .ok (.if_icmp .ge 18, 3) := by decide +kernel
theorem dX11_go_8 : decode cX11_go 8 = .ok (.aload_n 0, 1) := by decide +kernel
theorem dX11_go_9 : decode cX11_go 9 = .ok (.invokevirtual 269, 3) := by decide +kernel
theorem dX11_go_12 : decode cX11_go 12 = .ok (.ifCond .ne 5, 3) := by decide +kernel
theorem dX11_go_15 : decode cX11_go 15 = .ok (.iload_n 1, 1) := by decide +kernel
theorem dX11_go_16 : decode cX11_go 16 = .ok (.ireturn, 1) := by decide +kernel
theorem dX11_go_17 : decode cX11_go 17 = .ok (.iinc 1 1, 3) := by decide +kernel
theorem dX11_go_20 : decode cX11_go 20 = .ok (.goto (-18), 3) := by decide +kernel
theorem dX11_go_23 : decode cX11_go 23 = .ok (.bipush 20, 2) := by decide +kernel
theorem dX11_go_25 : decode cX11_go 25 = .ok (.ireturn, 1) := by decide +kernel
set_option maxRecDepth 20000 in
theorem ggX11_shortest_X1_named : GoodIn wsX11_shortest wsX1_named := goodIn_r _ [7, 8, 9, 10, 11, 6, 12, 13, 14, 15, 16, 17, 18, 19, 20, 21, 22, 23, 24, 25, 26, 27, 136, 137] (by decide +kernel) (by decide +kernel)
set_option maxRecDepth 20000 in
theorem gX11_shortest_X1_named : GoodIn wsX11_shortest (wsV RX11 273 RX1 yX1_named wsX1_named) := goodIn_app (goodIn_of _ (by decide +kernel)) ggX11_shortest_X1_named
set_option maxRecDepth 20000 in
theorem ggX11_shortest_X10_find : GoodIn wsX11_shortest wsX10_find := goodIn_r _ [32, 33, 34, 35, 36, 37, 38, 39, 40, 41, 42, 43, 44, 45, 46, 47, 48, 49, 50, 51, 52, 53, 14, 15, 6, 16, 8, 17, 54, 55, 56, 57, 58, 59, 60, 61, 21, 22, 23, 62, 63, 64, 65, 66, 67, 68, 69, 70, 71, 72, 73, 74, 75, 76, 77, 78, 79, 80, 25, 26, 27, 13, 81, 82, 83, 84, 85, 86, 87, 88, 89, 90, 91, 31, 92, 93, 94, 95, 96, 97, 98, 99, 100, 101, 102, 103, 104, 105, 106, 107, 108, 129, 130, 131, 132, 133, 134, 135, 138, 139, 140, 141, 136, 137] (by decide +kernel) (by decide +kernel)
set_option maxRecDepth 20000 in
theorem gX11_shortest_X10_find : GoodIn wsX11_shortest (wsV RX11 276 RX10 yX10_find wsX10_find) := goodIn_app (goodIn_of _ (by decide +kernel)) ggX11_shortest_X10_find
theorem dX11_shortest_0 : decode cX11_shortest 0 = .ok (.aload_n 0, 1) := by decide +kernel
theorem dX11_shortest_1 : decode cX11_shortest 1 = .ok (.getfield 19, 3) := by decide +kernel
theorem dX11_shortest_4 : decode cX11_shortest 4 = .ok (.getfield 120, 3) := by decide +kernel
theorem dX11_shortest_7 : decode cX11_shortest 7 = .ok (.aload_n 0, 1) := by decide +kernel
theorem dX11_shortest_8 : decode cX11_shortest 8 = .ok (.getfield 19, 3) := by decide +kernel
theorem dX11_shortest_11 : decode cX11_shortest 11 = .ok (.getfield 106, 3) := by decide +kernel
theorem dX11_shortest_14 : decode cX11_shortest 14 = .ok (.invokevirtual 273, 3) := by decide +kernel
theorem dX11_shortest_17 : decode cX11_shortest 17 = .ok (.ior, 1) := by decide +kernel
theorem dX11_shortest_18 : decode cX11_shortest 18 = .ok (.iconst 3, 1) := by decide +kernel
theorem dX11_shortest_19 : decode cX11_shortest 19 = .ok (.if_icmp .le 6, 3) := by decide +kernel
theorem dX11_shortest_22 : decode cX11_shortest 22 = .ok (.bipush (-3), 2) := by decide +kernel
theorem dX11_shortest_24 : decode cX11_shortest 24 = .ok (.ireturn, 1) := by decide +kernel
theorem dX11_shortest_25 : decode cX11_shortest 25 = .ok (.aload_n 0, 1) := by decide +kernel
theorem dX11_shortest_26 : decode cX11_shortest 26 = .ok (.getfield 79, 3) := by decide +kernel
theorem dX11_shortest_29 : decode cX11_shortest 29 = .ok (.aload_n 0, 1) := by decide +kernel
theorem dX11_shortest_30 : decode cX11_shortest 30 = .ok (.getfield 19, 3) := by decide +kernel
theorem dX11_shortest_33 : decode cX11_shortest 33 = .ok (.getfield 106, 3) := by decide +kernel
theorem dX11_shortest_36 : decode cX11_shortest 36 = .ok (.aload_n 0, 1) := by decide +kernel
theorem dX11_shortest_37 : decode cX11_shortest 37 = .ok (.getfield 19, 3) := by decide +kernel
theorem dX11_shortest_40 : decode cX11_shortest 40 = .ok (.getfield 120, 3) := by decide +kernel
theorem dX11_shortest_43 : decode cX11_shortest 43 = .ok (.invokevirtual 276, 3) := by decide +kernel
theorem dX11_shortest_46 : decode cX11_shortest 46 = .ok (.iload_n 1, 1) := by decide +kernel
theorem dX11_shortest_47 : decode cX11_shortest 47 = .ok (.iconst (-1), 1) := by decide +kernel
theorem dX11_shortest_48 : decode cX11_shortest 48 = .ok (.if_icmp .ne 11, 3) := by decide +kernel
theorem dX11_shortest_51 : decode cX11_shortest 51 = .ok (.aload_n 0, 1) := by decide +kernel
theorem dX11_shortest_52 : decode cX11_shortest 52 = .ok (.getfield 79, 3) := by decide +kernel
theorem dX11_shortest_55 : decode cX11_shortest 55 = .ok (.getfield 279, 3) := by decide +kernel
theorem dX11_shortest_58 : decode cX11_shortest 58 = .ok (.ireturn, 1) := by decide +kernel
theorem dX11_shortest_59 : decode cX11_shortest 59 = .ok (.iload_n 1, 1) := by decide +kernel
theorem dX11_shortest_60 : decode cX11_shortest 60 = .ok (.ifCond .lt 26, 3) := by decide +kernel
theorem dX11_shortest_63 : decode cX11_shortest 63 = .ok (.iload_n 1, 1) := by decide +kernel
theorem dX11_shortest_64 : decode cX11_shortest 64 = .ok (.aload_n 0, 1) := by decide +kernel
theorem dX11_shortest_65 : decode cX11_shortest 65 = .ok (.getfield 79, 3) := by decide +kernel
theorem dX11_shortest_68 : decode cX11_shortest 68 = .ok (.getfield 279, 3) := by decide +kernel
theorem dX11_shortest_71 : decode cX11_shortest 71 = .ok (.if_icmp .ge 15, 3) := by decide +kernel
theorem dX11_shortest_74 : decode cX11_shortest 74 = .ok (.aload_n 0, 1) := by decide +kernel
theorem dX11_shortest_75 : decode cX11_shortest 75 = .ok (.getfield 79, 3) := by decide +kernel
theorem dX11_shortest_78 : decode cX11_shortest 78 = .ok (.getfield 282, 3) := by decide +kernel
theorem dX11_shortest_81 : decode cX11_shortest 81 = .ok (.iload_n 1, 1) := by decide +kernel
theorem dX11_shortest_82 : decode cX11_shortest 82 = .ok (.iaload, 1) := by decide +kernel
theorem dX11_shortest_83 : decode cX11_shortest 83 = .ok (.goto 5, 3) := by decide +kernel
theorem dX11_shortest_86 : decode cX11_shortest 86 = .ok (.bipush (-6), 2) := by decide +kernel
theorem dX11_shortest_88 : decode cX11_shortest 88 = .ok (.ireturn, 1) := by decide +kernel
set_option maxRecDepth 20000 in
theorem ggX11_image_X2_copyFrom : GoodIn wsX11_image wsX2_copyFrom := goodIn_r _ [8, 9, 10, 11, 12, 13, 14, 15, 16, 17, 18, 19, 20, 21, 22, 23, 24, 25, 26, 27, 28, 29, 30, 31, 32, 33, 34, 49, 50, 51, 52, 53, 54, 55, 56, 57, 58, 59, 60] (by decide +kernel) (by decide +kernel)
set_option maxRecDepth 20000 in
theorem gX11_image_X2_copyFrom : GoodIn wsX11_image (wsV RX11 285 RX2 yX2_copyFrom wsX2_copyFrom) := goodIn_app (goodIn_of _ (by decide +kernel)) ggX11_image_X2_copyFrom
theorem dX11_image_0 : decode cX11_image 0 = .ok (.iload_n 1, 1) := by decide +kernel
theorem dX11_image_1 : decode cX11_image 1 = .ok (.ifCond .lt 8, 3) := by decide +kernel
theorem dX11_image_4 : decode cX11_image 4 = .ok (.iload_n 1, 1) := by decide +kernel
theorem dX11_image_5 : decode cX11_image 5 = .ok (.iconst 2, 1) := by decide +kernel
theorem dX11_image_6 : decode cX11_image 6 = .ok (.if_icmp .lt 6, 3) := by decide +kernel
theorem dX11_image_9 : decode cX11_image 9 = .ok (.bipush (-2), 2) := by decide +kernel
theorem dX11_image_11 : decode cX11_image 11 = .ok (.ireturn, 1) := by decide +kernel
theorem dX11_image_12 : decode cX11_image 12 = .ok (.aload_n 0, 1) := by decide +kernel
theorem dX11_image_13 : decode cX11_image 13 = .ok (.getfield 23, 3) := by decide +kernel
theorem dX11_image_16 : decode cX11_image 16 = .ok (.iload_n 1, 1) := by decide +kernel
theorem dX11_image_17 : decode cX11_image 17 = .ok (.aaload, 1) := by decide +kernel
theorem dX11_image_18 : decode cX11_image 18 = .ok (.aload_n 0, 1) := by decide +kernel
theorem dX11_image_19 : decode cX11_image 19 = .ok (.getfield 19, 3) := by decide +kernel
theorem dX11_image_22 : decode cX11_image 22 = .ok (.invokevirtual 285, 3) := by decide +kernel
theorem dX11_image_25 : decode cX11_image 25 = .ok (.aload_n 0, 1) := by decide +kernel
theorem dX11_image_26 : decode cX11_image 26 = .ok (.getfield 27, 3) := by decide +kernel
theorem dX11_image_29 : decode cX11_image 29 = .ok (.iload_n 1, 1) := by decide +kernel
theorem dX11_image_30 : decode cX11_image 30 = .ok (.iconst 1, 1) := by decide +kernel
theorem dX11_image_31 : decode cX11_image 31 = .ok (.bastore, 1) := by decide +kernel
theorem dX11_image_32 : decode cX11_image 32 = .ok (.iconst 1, 1) := by decide +kernel
theorem dX11_image_33 : decode cX11_image 33 = .ok (.ireturn, 1) := by decide +kernel
set_option maxRecDepth 20000 in
theorem ggX11_restore_X2_copyFrom : GoodIn wsX11_restore wsX2_copyFrom := goodIn_r _ [8, 9, 10, 11, 12, 13, 14, 15, 16, 17, 18, 19, 20, 21, 22, 23, 24, 25, 26, 27, 28, 29, 30, 31, 32, 33, 34, 49, 50, 51, 52, 53, 54, 55, 56, 57, 58, 59, 60] (by decide +kernel) (by decide +kernel)
set_option maxRecDepth 20000 in
theorem gX11_restore_X2_copyFrom : GoodIn wsX11_restore (wsV RX11 285 RX2 yX2_copyFrom wsX2_copyFrom) := goodIn_app (goodIn_of _ (by decide +kernel)) ggX11_restore_X2_copyFrom
theorem dX11_restore_0 : decode cX11_restore 0 = .ok (.iload_n 1, 1) := by decide +kernel
theorem dX11_restore_1 : decode cX11_restore 1 = .ok (.ifCond .lt 8, 3) := by decide +kernel
theorem dX11_restore_4 : decode cX11_restore 4 = .ok (.iload_n 1, 1) := by decide +kernel
theorem dX11_restore_5 : decode cX11_restore 5 = .ok (.iconst 2, 1) := by decide +kernel
theorem dX11_restore_6 : decode cX11_restore 6 = .ok (.if_icmp .lt 6, 3) := by decide +kernel
theorem dX11_restore_9 : decode cX11_restore 9 = .ok (.bipush (-2), 2) := by decide +kernel
theorem dX11_restore_11 : decode cX11_restore 11 = .ok (.ireturn, 1) := by decide +kernel
theorem dX11_restore_12 : decode cX11_restore 12 = .ok (.aload_n 0, 1) := by decide +kernel
theorem dX11_restore_13 : decode cX11_restore 13 = .ok (.getfield 27, 3) := by decide +kernel
theorem dX11_restore_16 : decode cX11_restore 16 = .ok (.iload_n 1, 1) := by decide +kernel
theorem dX11_restore_17 : decode cX11_restore 17 = .ok (.baload, 1) := by decide +kernel
theorem dX11_restore_18 : decode cX11_restore 18 = .ok (.ifCond .ne 6, 3) := by decide +kernel
theorem dX11_restore_21 : decode cX11_restore 21 = .ok (.bipush (-3), 2) := by decide +kernel
theorem dX11_restore_23 : decode cX11_restore 23 = .ok (.ireturn, 1) := by decide +kernel
theorem dX11_restore_24 : decode cX11_restore 24 = .ok (.aload_n 0, 1) := by decide +kernel
theorem dX11_restore_25 : decode cX11_restore 25 = .ok (.getfield 19, 3) := by decide +kernel
theorem dX11_restore_28 : decode cX11_restore 28 = .ok (.aload_n 0, 1) := by decide +kernel
theorem dX11_restore_29 : decode cX11_restore 29 = .ok (.getfield 23, 3) := by decide +kernel
theorem dX11_restore_32 : decode cX11_restore 32 = .ok (.iload_n 1, 1) := by decide +kernel
theorem dX11_restore_33 : decode cX11_restore 33 = .ok (.aaload, 1) := by decide +kernel
theorem dX11_restore_34 : decode cX11_restore 34 = .ok (.invokevirtual 285, 3) := by decide +kernel
theorem dX11_restore_37 : decode cX11_restore 37 = .ok (.iconst 1, 1) := by decide +kernel
theorem dX11_restore_38 : decode cX11_restore 38 = .ok (.ireturn, 1) := by decide +kernel
theorem dX11_told_0 : decode cX11_told 0 = .ok (.iload_n 1, 1) := by decide +kernel
theorem dX11_told_1 : decode cX11_told 1 = .ok (.tableswitch 101 0 9 #[55, 66, 74, 82, 101, 101, 101, 101, 101, 90], 55) := by decide +kernel
theorem dX11_told_56 : decode cX11_told 56 = .ok (.aload_n 0, 1) := by decide +kernel
theorem dX11_told_57 : decode cX11_told 57 = .ok (.getfield 19, 3) := by decide +kernel
theorem dX11_told_60 : decode cX11_told 60 = .ok (.getfield 106, 3) := by decide +kernel
theorem dX11_told_63 : decode cX11_told 63 = .ok (.getfield 116, 3) := by decide +kernel
theorem dX11_told_66 : decode cX11_told 66 = .ok (.ireturn, 1) := by decide +kernel
theorem dX11_told_67 : decode cX11_told 67 = .ok (.aload_n 0, 1) := by decide +kernel
theorem dX11_told_68 : decode cX11_told 68 = .ok (.getfield 12, 3) := by decide +kernel
theorem dX11_told_71 : decode cX11_told 71 = .ok (.getfield 288, 3) := by decide +kernel
theorem dX11_told_74 : decode cX11_told 74 = .ok (.ireturn, 1) := by decide +kernel
theorem dX11_told_75 : decode cX11_told 75 = .ok (.aload_n 0, 1) := by decide +kernel
theorem dX11_told_76 : decode cX11_told 76 = .ok (.getfield 19, 3) := by decide +kernel
theorem dX11_told_79 : decode cX11_told 79 = .ok (.getfield 120, 3) := by decide +kernel
theorem dX11_told_82 : decode cX11_told 82 = .ok (.ireturn, 1) := by decide +kernel
theorem dX11_told_83 : decode cX11_told 83 = .ok (.aload_n 0, 1) := by decide +kernel
theorem dX11_told_84 : decode cX11_told 84 = .ok (.getfield 19, 3) := by decide +kernel
theorem dX11_told_87 : decode cX11_told 87 = .ok (.getfield 237, 3) := by decide +kernel
theorem dX11_told_90 : decode cX11_told 90 = .ok (.ireturn, 1) := by decide +kernel
theorem dX11_told_91 : decode cX11_told 91 = .ok (.aload_n 0, 1) := by decide +kernel
theorem dX11_told_92 : decode cX11_told 92 = .ok (.getfield 19, 3) := by decide +kernel
theorem dX11_told_95 : decode cX11_told 95 = .ok (.getfield 138, 3) := by decide +kernel
theorem dX11_told_98 : decode cX11_told 98 = .ok (.getfield 116, 3) := by decide +kernel
theorem dX11_told_101 : decode cX11_told 101 = .ok (.ireturn, 1) := by decide +kernel
theorem dX11_told_102 : decode cX11_told 102 = .ok (.iload_n 1, 1) := by decide +kernel
theorem dX11_told_103 : decode cX11_told 103 = .ok (.iconst 4, 1) := by decide +kernel
theorem dX11_told_104 : decode cX11_told 104 = .ok (.if_icmp .lt 23, 3) := by decide +kernel
theorem dX11_told_107 : decode cX11_told 107 = .ok (.iload_n 1, 1) := by decide +kernel
theorem dX11_told_108 : decode cX11_told 108 = .ok (.bipush 9, 2) := by decide +kernel
theorem dX11_told_110 : decode cX11_told 110 = .ok (.if_icmp .ge 17, 3) := by decide +kernel
theorem dX11_told_113 : decode cX11_told 113 = .ok (.aload_n 0, 1) := by decide +kernel
theorem dX11_told_114 : decode cX11_told 114 = .ok (.getfield 19, 3) := by decide +kernel
theorem dX11_told_117 : decode cX11_told 117 = .ok (.getfield 194, 3) := by decide +kernel
theorem dX11_told_120 : decode cX11_told 120 = .ok (.iload_n 1, 1) := by decide +kernel
theorem dX11_told_121 : decode cX11_told 121 = .ok (.iconst 4, 1) := by decide +kernel
theorem dX11_told_122 : decode cX11_told 122 = .ok (.isub, 1) := by decide +kernel
theorem dX11_told_123 : decode cX11_told 123 = .ok (.iaload, 1) := by decide +kernel
theorem dX11_told_124 : decode cX11_told 124 = .ok (.goto 5, 3) := by decide +kernel
theorem dX11_told_127 : decode cX11_told 127 = .ok (.bipush (-2), 2) := by decide +kernel
theorem dX11_told_129 : decode cX11_told 129 = .ok (.ireturn, 1) := by decide +kernel
theorem dX11_isNoStep_0 : decode cX11_isNoStep 0 = .ok (.iload_n 1, 1) := by decide +kernel
theorem dX11_isNoStep_1 : decode cX11_isNoStep 1 = .ok (.ifCond .lt 17, 3) := by decide +kernel
theorem dX11_isNoStep_4 : decode cX11_isNoStep 4 = .ok (.iload_n 1, 1) := by decide +kernel
theorem dX11_isNoStep_5 : decode cX11_isNoStep 5 = .ok (.aload_n 0, 1) := by decide +kernel
theorem dX11_isNoStep_6 : decode cX11_isNoStep 6 = .ok (.getfield 19, 3) := by decide +kernel
theorem dX11_isNoStep_9 : decode cX11_isNoStep 9 = .ok (.getfield 106, 3) := by decide +kernel
theorem dX11_isNoStep_12 : decode cX11_isNoStep 12 = .ok (.getfield 116, 3) := by decide +kernel
theorem dX11_isNoStep_15 : decode cX11_isNoStep 15 = .ok (.if_icmp .lt 7, 3) := by decide +kernel
theorem dX11_isNoStep_18 : decode cX11_isNoStep 18 = .ok (.iconst 1, 1) := by decide +kernel
theorem dX11_isNoStep_19 : decode cX11_isNoStep 19 = .ok (.goto 4, 3) := by decide +kernel
theorem dX11_isNoStep_22 : decode cX11_isNoStep 22 = .ok (.iconst 0, 1) := by decide +kernel
theorem dX11_isNoStep_23 : decode cX11_isNoStep 23 = .ok (.ireturn, 1) := by decide +kernel
theorem dX11_isNoPlace_0 : decode cX11_isNoPlace 0 = .ok (.iload_n 1, 1) := by decide +kernel
theorem dX11_isNoPlace_1 : decode cX11_isNoPlace 1 = .ok (.ifCond .lt 17, 3) := by decide +kernel
theorem dX11_isNoPlace_4 : decode cX11_isNoPlace 4 = .ok (.iload_n 1, 1) := by decide +kernel
theorem dX11_isNoPlace_5 : decode cX11_isNoPlace 5 = .ok (.aload_n 0, 1) := by decide +kernel
theorem dX11_isNoPlace_6 : decode cX11_isNoPlace 6 = .ok (.getfield 19, 3) := by decide +kernel
theorem dX11_isNoPlace_9 : decode cX11_isNoPlace 9 = .ok (.getfield 106, 3) := by decide +kernel
theorem dX11_isNoPlace_12 : decode cX11_isNoPlace 12 = .ok (.getfield 116, 3) := by decide +kernel
theorem dX11_isNoPlace_15 : decode cX11_isNoPlace 15 = .ok (.if_icmp .le 7, 3) := by decide +kernel
theorem dX11_isNoPlace_18 : decode cX11_isNoPlace 18 = .ok (.iconst 1, 1) := by decide +kernel
theorem dX11_isNoPlace_19 : decode cX11_isNoPlace 19 = .ok (.goto 4, 3) := by decide +kernel
theorem dX11_isNoPlace_22 : decode cX11_isNoPlace 22 = .ok (.iconst 0, 1) := by decide +kernel
theorem dX11_isNoPlace_23 : decode cX11_isNoPlace 23 = .ok (.ireturn, 1) := by decide +kernel
theorem dX11_isNoRule_0 : decode cX11_isNoRule 0 = .ok (.iload_n 1, 1) := by decide +kernel
theorem dX11_isNoRule_1 : decode cX11_isNoRule 1 = .ok (.ifCond .lt 14, 3) := by decide +kernel
theorem dX11_isNoRule_4 : decode cX11_isNoRule 4 = .ok (.iload_n 1, 1) := by decide +kernel
theorem dX11_isNoRule_5 : decode cX11_isNoRule 5 = .ok (.aload_n 0, 1) := by decide +kernel
theorem dX11_isNoRule_6 : decode cX11_isNoRule 6 = .ok (.getfield 19, 3) := by decide +kernel
theorem dX11_isNoRule_9 : decode cX11_isNoRule 9 = .ok (.getfield 237, 3) := by decide +kernel
theorem dX11_isNoRule_12 : decode cX11_isNoRule 12 = .ok (.if_icmp .lt 7, 3) := by decide +kernel
theorem dX11_isNoRule_15 : decode cX11_isNoRule 15 = .ok (.iconst 1, 1) := by decide +kernel
theorem dX11_isNoRule_16 : decode cX11_isNoRule 16 = .ok (.goto 4, 3) := by decide +kernel
theorem dX11_isNoRule_19 : decode cX11_isNoRule 19 = .ok (.iconst 0, 1) := by decide +kernel
theorem dX11_isNoRule_20 : decode cX11_isNoRule 20 = .ok (.ireturn, 1) := by decide +kernel
set_option maxRecDepth 20000 in
theorem ggX11_madeBy_X1_part : GoodIn wsX11_madeBy wsX1_part := goodIn_r _ [5, 6, 7, 24, 25] (by decide +kernel) (by decide +kernel)
set_option maxRecDepth 20000 in
theorem gX11_madeBy_X1_part : GoodIn wsX11_madeBy (wsV RX11 127 RX1 yX1_part wsX1_part) := goodIn_app (goodIn_of _ (by decide +kernel)) ggX11_madeBy_X1_part
set_option maxRecDepth 20000 in
theorem ggX11_madeBy_X11_numberOf : GoodIn wsX11_madeBy wsX11_numberOf := goodIn_r _ [12, 13, 14, 15, 11, 16, 26, 27, 28, 29, 30, 31, 32, 33, 34, 35, 36, 37, 38, 39] (by decide +kernel) (by decide +kernel)
set_option maxRecDepth 20000 in
theorem gX11_madeBy_X11_numberOf : GoodIn wsX11_madeBy (wsV RX11 289 RX11 yX11_numberOf wsX11_numberOf) := goodIn_app (goodIn_of _ (by decide +kernel)) ggX11_madeBy_X11_numberOf
set_option maxRecDepth 20000 in
theorem ggX11_madeBy_X11_act : GoodIn wsX11_madeBy wsX11_act := goodIn_r _ [19, 20, 21, 22, 23] (by decide +kernel) (by decide +kernel)
set_option maxRecDepth 20000 in
theorem gX11_madeBy_X11_act : GoodIn wsX11_madeBy (va_wsS RX11 292 yX11_act wsX11_act) := goodIn_app (goodIn_of _ (by decide +kernel)) ggX11_madeBy_X11_act
theorem dX11_madeBy_0 : decode cX11_madeBy 0 = .ok (.aload_n 0, 1) := by decide +kernel
theorem dX11_madeBy_1 : decode cX11_madeBy 1 = .ok (.aload_n 1, 1) := by decide +kernel
theorem dX11_madeBy_2 : decode cX11_madeBy 2 = .ok (.iload_n 2, 1) := by decide +kernel
theorem dX11_madeBy_3 : decode cX11_madeBy 3 = .ok (.iconst 2, 1) := by decide +kernel
theorem dX11_madeBy_4 : decode cX11_madeBy 4 = .ok (.invokevirtual 127, 3) := by decide +kernel
theorem dX11_madeBy_7 : decode cX11_madeBy 7 = .ok (.invokevirtual 289, 3) := by decide +kernel
theorem dX11_madeBy_10 : decode cX11_madeBy 10 = .ok (.istore_n 3, 1) := by decide +kernel
theorem dX11_madeBy_11 : decode cX11_madeBy 11 = .ok (.aload_n 0, 1) := by decide +kernel
theorem dX11_madeBy_12 : decode cX11_madeBy 12 = .ok (.aload_n 1, 1) := by decide +kernel
theorem dX11_madeBy_13 : decode cX11_madeBy 13 = .ok (.iload_n 2, 1) := by decide +kernel
theorem dX11_madeBy_14 : decode cX11_madeBy 14 = .ok (.iconst 3, 1) := by decide +kernel
theorem dX11_madeBy_15 : decode cX11_madeBy 15 = .ok (.invokevirtual 127, 3) := by decide +kernel
theorem dX11_madeBy_18 : decode cX11_madeBy 18 = .ok (.invokevirtual 289, 3) := by decide +kernel
theorem dX11_madeBy_21 : decode cX11_madeBy 21 = .ok (.istore 4, 2) := by decide +kernel
theorem dX11_madeBy_23 : decode cX11_madeBy 23 = .ok (.aload_n 1, 1) := by decide +kernel
theorem dX11_madeBy_24 : decode cX11_madeBy 24 = .ok (.iload_n 2, 1) := by decide +kernel
theorem dX11_madeBy_25 : decode cX11_madeBy 25 = .ok (.iconst 1, 1) := by decide +kernel
theorem dX11_madeBy_26 : decode cX11_madeBy 26 = .ok (.invokevirtual 127, 3) := by decide +kernel
theorem dX11_madeBy_29 : decode cX11_madeBy 29 = .ok (.iload_n 3, 1) := by decide +kernel
theorem dX11_madeBy_30 : decode cX11_madeBy 30 = .ok (.iload 4, 2) := by decide +kernel
theorem dX11_madeBy_32 : decode cX11_madeBy 32 = .ok (.invokestatic 292, 3) := by decide +kernel
theorem dX11_madeBy_35 : decode cX11_madeBy 35 = .ok (.ireturn, 1) := by decide +kernel
set_option maxRecDepth 20000 in
theorem ggX11_numberOf_X11_isNoRegister : GoodIn wsX11_numberOf wsX11_isNoRegister := goodIn_r _ [5] (by decide +kernel) (by decide +kernel)
set_option maxRecDepth 20000 in
theorem gX11_numberOf_X11_isNoRegister : GoodIn wsX11_numberOf (va_wsS RX11 165 yX11_isNoRegister wsX11_isNoRegister) := goodIn_app (goodIn_of _ (by decide +kernel)) ggX11_numberOf_X11_isNoRegister
theorem dX11_numberOf_0 : decode cX11_numberOf 0 = .ok (.iload_n 1, 1) := by decide +kernel
theorem dX11_numberOf_1 : decode cX11_numberOf 1 = .ok (.invokestatic 165, 3) := by decide +kernel
theorem dX11_numberOf_4 : decode cX11_numberOf 4 = .ok (.ifCond .eq 18, 3) := by decide +kernel
theorem dX11_numberOf_7 : decode cX11_numberOf 7 = .ok (.iload_n 1, 1) := by decide +kernel
theorem dX11_numberOf_8 : decode cX11_numberOf 8 = .ok (.bipush 10, 2) := by decide +kernel
theorem dX11_numberOf_10 : decode cX11_numberOf 10 = .ok (.if_icmp .lt 10, 3) := by decide +kernel
theorem dX11_numberOf_13 : decode cX11_numberOf 13 = .ok (.iload_n 1, 1) := by decide +kernel
theorem dX11_numberOf_14 : decode cX11_numberOf 14 = .ok (.bipush 10, 2) := by decide +kernel
theorem dX11_numberOf_16 : decode cX11_numberOf 16 = .ok (.isub, 1) := by decide +kernel
theorem dX11_numberOf_17 : decode cX11_numberOf 17 = .ok (.goto 4, 3) := by decide +kernel
theorem dX11_numberOf_20 : decode cX11_numberOf 20 = .ok (.iconst 0, 1) := by decide +kernel
theorem dX11_numberOf_21 : decode cX11_numberOf 21 = .ok (.ireturn, 1) := by decide +kernel
theorem dX11_numberOf_22 : decode cX11_numberOf 22 = .ok (.aload_n 0, 1) := by decide +kernel
theorem dX11_numberOf_23 : decode cX11_numberOf 23 = .ok (.getfield 90, 3) := by decide +kernel
theorem dX11_numberOf_26 : decode cX11_numberOf 26 = .ok (.iload_n 1, 1) := by decide +kernel
theorem dX11_numberOf_27 : decode cX11_numberOf 27 = .ok (.iaload, 1) := by decide +kernel
theorem dX11_numberOf_28 : decode cX11_numberOf 28 = .ok (.ireturn, 1) := by decide +kernel
set_option maxRecDepth 20000 in
theorem ggX11_firstUnlike_X8_beginBlock : GoodIn wsX11_firstUnlike wsX8_beginBlock := goodIn_r _ [7, 8, 9, 10, 81, 82, 83, 84] (by decide +kernel) (by decide +kernel)
set_option maxRecDepth 20000 in
theorem gX11_firstUnlike_X8_beginBlock : GoodIn wsX11_firstUnlike (wsV RX11 296 RX8 yX8_beginBlock wsX8_beginBlock) := goodIn_app (goodIn_of _ (by decide +kernel)) ggX11_firstUnlike_X8_beginBlock
set_option maxRecDepth 20000 in
theorem ggX11_firstUnlike_X8_perform : GoodIn wsX11_firstUnlike wsX8_perform := goodIn_r _ [14, 15, 16, 17, 18, 19, 20, 21, 22, 23, 24, 6, 25, 26, 27, 28, 29, 8, 30, 31, 32, 33, 34, 35, 36, 37, 38, 39, 40, 41, 42, 43, 44, 45, 46, 47, 48, 49, 50, 51, 52, 53, 54, 55, 56, 57, 58, 59, 85, 86, 81, 82, 83, 84] (by decide +kernel) (by decide +kernel)
set_option maxRecDepth 20000 in
theorem gX11_firstUnlike_X8_perform : GoodIn wsX11_firstUnlike (wsV RX11 300 RX8 yX8_perform wsX8_perform) := goodIn_app (goodIn_of _ (by decide +kernel)) ggX11_firstUnlike_X8_perform
set_option maxRecDepth 20000 in
theorem ggX11_firstUnlike_X8_unlikeIn : GoodIn wsX11_firstUnlike wsX8_unlikeIn := goodIn_r _ [63, 8, 81, 82, 83, 84] (by decide +kernel) (by decide +kernel)
set_option maxRecDepth 20000 in
theorem gX11_firstUnlike_X8_unlikeIn : GoodIn wsX11_firstUnlike (wsV RX11 303 RX8 yX8_unlikeIn wsX8_unlikeIn) := goodIn_app (goodIn_of _ (by decide +kernel)) ggX11_firstUnlike_X8_unlikeIn
set_option maxRecDepth 20000 in
theorem ggX11_firstUnlike_X11_lowestBit : GoodIn wsX11_firstUnlike wsX11_lowestBit := goodIn_r _ [66] (by decide +kernel) (by decide +kernel)
set_option maxRecDepth 20000 in
theorem gX11_firstUnlike_X11_lowestBit : GoodIn wsX11_firstUnlike (va_wsS RX11 307 yX11_lowestBit wsX11_lowestBit) := goodIn_app (goodIn_of _ (by decide +kernel)) ggX11_firstUnlike_X11_lowestBit
theorem dX11_firstUnlike_0 : decode cX11_firstUnlike 0 = .ok (.iconst 0, 1) := by decide +kernel
theorem dX11_firstUnlike_1 : decode cX11_firstUnlike 1 = .ok (.istore 4, 2) := by decide +kernel
theorem dX11_firstUnlike_3 : decode cX11_firstUnlike 3 = .ok (.iload 4, 2) := by decide +kernel
theorem dX11_firstUnlike_5 : decode cX11_firstUnlike 5 = .ok (.bipush 64, 2) := by decide +kernel
theorem dX11_firstUnlike_7 : decode cX11_firstUnlike 7 = .ok (.if_icmp .ge 108, 3) := by decide +kernel
theorem dX11_firstUnlike_10 : decode cX11_firstUnlike 10 = .ok (.aload_n 0, 1) := by decide +kernel
theorem dX11_firstUnlike_11 : decode cX11_firstUnlike 11 = .ok (.getfield 69, 3) := by decide +kernel
theorem dX11_firstUnlike_14 : decode cX11_firstUnlike 14 = .ok (.iload 4, 2) := by decide +kernel
theorem dX11_firstUnlike_16 : decode cX11_firstUnlike 16 = .ok (.invokevirtual 296, 3) := by decide +kernel
theorem dX11_firstUnlike_19 : decode cX11_firstUnlike 19 = .ok (.aload_n 0, 1) := by decide +kernel
theorem dX11_firstUnlike_20 : decode cX11_firstUnlike 20 = .ok (.getfield 69, 3) := by decide +kernel
theorem dX11_firstUnlike_23 : decode cX11_firstUnlike 23 = .ok (.aload_n 1, 1) := by decide +kernel
theorem dX11_firstUnlike_24 : decode cX11_firstUnlike 24 = .ok (.invokevirtual 300, 3) := by decide +kernel
theorem dX11_firstUnlike_27 : decode cX11_firstUnlike 27 = .ok (.aload_n 0, 1) := by decide +kernel
theorem dX11_firstUnlike_28 : decode cX11_firstUnlike 28 = .ok (.getfield 73, 3) := by decide +kernel
theorem dX11_firstUnlike_31 : decode cX11_firstUnlike 31 = .ok (.iload 4, 2) := by decide +kernel
theorem dX11_firstUnlike_33 : decode cX11_firstUnlike 33 = .ok (.invokevirtual 296, 3) := by decide +kernel
theorem dX11_firstUnlike_36 : decode cX11_firstUnlike 36 = .ok (.aload_n 0, 1) := by decide +kernel
theorem dX11_firstUnlike_37 : decode cX11_firstUnlike 37 = .ok (.getfield 73, 3) := by decide +kernel
theorem dX11_firstUnlike_40 : decode cX11_firstUnlike 40 = .ok (.aload_n 2, 1) := by decide +kernel
theorem dX11_firstUnlike_41 : decode cX11_firstUnlike 41 = .ok (.invokevirtual 300, 3) := by decide +kernel
theorem dX11_firstUnlike_44 : decode cX11_firstUnlike 44 = .ok (.lconst 0, 1) := by decide +kernel
theorem dX11_firstUnlike_45 : decode cX11_firstUnlike 45 = .ok (.lstore 5, 2) := by decide +kernel
theorem dX11_firstUnlike_47 : decode cX11_firstUnlike 47 = .ok (.iconst 0, 1) := by decide +kernel
theorem dX11_firstUnlike_48 : decode cX11_firstUnlike 48 = .ok (.istore 7, 2) := by decide +kernel
theorem dX11_firstUnlike_50 : decode cX11_firstUnlike 50 = .ok (.iload 7, 2) := by decide +kernel
theorem dX11_firstUnlike_52 : decode cX11_firstUnlike 52 = .ok (.iconst 4, 1) := by decide +kernel
theorem dX11_firstUnlike_53 : decode cX11_firstUnlike 53 = .ok (.if_icmp .ge 37, 3) := by decide +kernel
theorem dX11_firstUnlike_56 : decode cX11_firstUnlike 56 = .ok (.iload_n 3, 1) := by decide +kernel
theorem dX11_firstUnlike_57 : decode cX11_firstUnlike 57 = .ok (.iload 7, 2) := by decide +kernel
theorem dX11_firstUnlike_59 : decode cX11_firstUnlike 59 = .ok (.ishr, 1) := by decide +kernel
theorem dX11_firstUnlike_60 : decode cX11_firstUnlike 60 = .ok (.iconst 1, 1) := by decide +kernel
theorem dX11_firstUnlike_61 : decode cX11_firstUnlike 61 = .ok (.iand, 1) := by decide +kernel
theorem dX11_firstUnlike_62 : decode cX11_firstUnlike 62 = .ok (.iconst 1, 1) := by decide +kernel
theorem dX11_firstUnlike_63 : decode cX11_firstUnlike 63 = .ok (.if_icmp .ne 21, 3) := by decide +kernel
theorem dX11_firstUnlike_66 : decode cX11_firstUnlike 66 = .ok (.lload 5, 2) := by decide +kernel
theorem dX11_firstUnlike_68 : decode cX11_firstUnlike 68 = .ok (.aload_n 0, 1) := by decide +kernel
theorem dX11_firstUnlike_69 : decode cX11_firstUnlike 69 = .ok (.getfield 69, 3) := by decide +kernel
theorem dX11_firstUnlike_72 : decode cX11_firstUnlike 72 = .ok (.iload 7, 2) := by decide +kernel
theorem dX11_firstUnlike_74 : decode cX11_firstUnlike 74 = .ok (.aload_n 0, 1) := by decide +kernel
theorem dX11_firstUnlike_75 : decode cX11_firstUnlike 75 = .ok (.getfield 73, 3) := by decide +kernel
theorem dX11_firstUnlike_78 : decode cX11_firstUnlike 78 = .ok (.invokevirtual 303, 3) := by decide +kernel
theorem dX11_firstUnlike_81 : decode cX11_firstUnlike 81 = .ok (.lor, 1) := by decide +kernel
theorem dX11_firstUnlike_82 : decode cX11_firstUnlike 82 = .ok (.lstore 5, 2) := by decide +kernel
theorem dX11_firstUnlike_84 : decode cX11_firstUnlike 84 = .ok (.iinc 7 1, 3) := by decide +kernel
theorem dX11_firstUnlike_87 : decode cX11_firstUnlike 87 = .ok (.goto (-37), 3) := by decide +kernel
theorem dX11_firstUnlike_90 : decode cX11_firstUnlike 90 = .ok (.lload 5, 2) := by decide +kernel
theorem dX11_firstUnlike_92 : decode cX11_firstUnlike 92 = .ok (.lconst 0, 1) := by decide +kernel
theorem dX11_firstUnlike_93 : decode cX11_firstUnlike 93 = .ok (.lcmp, 1) := by decide +kernel
theorem dX11_firstUnlike_94 : decode cX11_firstUnlike 94 = .ok (.ifCond .eq 15, 3) := by decide +kernel
theorem dX11_firstUnlike_97 : decode cX11_firstUnlike 97 = .ok (.iload 4, 2) := by decide +kernel
theorem dX11_firstUnlike_99 : decode cX11_firstUnlike 99 = .ok (.bipush 64, 2) := by decide +kernel
theorem dX11_firstUnlike_101 : decode cX11_firstUnlike 101 = .ok (.imul, 1) := by decide +kernel
theorem dX11_firstUnlike_102 : decode cX11_firstUnlike 102 = .ok (.lload 5, 2) := by decide +kernel
theorem dX11_firstUnlike_104 : decode cX11_firstUnlike 104 = .ok (.invokestatic 307, 3) := by decide +kernel
theorem dX11_firstUnlike_107 : decode cX11_firstUnlike 107 = .ok (.iadd, 1) := by decide +kernel
theorem dX11_firstUnlike_108 : decode cX11_firstUnlike 108 = .ok (.ireturn, 1) := by decide +kernel
theorem dX11_firstUnlike_109 : decode cX11_firstUnlike 109 = .ok (.iinc 4 1, 3) := by decide +kernel
theorem dX11_firstUnlike_112 : decode cX11_firstUnlike 112 = .ok (.goto (-109), 3) := by decide +kernel
theorem dX11_firstUnlike_115 : decode cX11_firstUnlike 115 = .ok (.bipush (-6), 2) := by decide +kernel
theorem dX11_firstUnlike_117 : decode cX11_firstUnlike 117 = .ok (.ireturn, 1) := by decide +kernel
theorem dX11_lowestBit_0 : decode cX11_lowestBit 0 = .ok (.iconst 0, 1) := by decide +kernel
theorem dX11_lowestBit_1 : decode cX11_lowestBit 1 = .ok (.istore_n 2, 1) := by decide +kernel
theorem dX11_lowestBit_2 : decode cX11_lowestBit 2 = .ok (.iload_n 2, 1) := by decide +kernel
theorem dX11_lowestBit_3 : decode cX11_lowestBit 3 = .ok (.bipush 63, 2) := by decide +kernel
theorem dX11_lowestBit_5 : decode cX11_lowestBit 5 = .ok (.if_icmp .ge 19, 3) := by decide +kernel
theorem dX11_lowestBit_8 : decode cX11_lowestBit 8 = .ok (.lload_n 0, 1) := by decide +kernel
theorem dX11_lowestBit_9 : decode cX11_lowestBit 9 = .ok (.iload_n 2, 1) := by decide +kernel
theorem dX11_lowestBit_10 : decode cX11_lowestBit 10 = .ok (.lushr, 1) := by decide +kernel
theorem dX11_lowestBit_11 : decode cX11_lowestBit 11 = .ok (.lconst 1, 1) := by decide +kernel
theorem dX11_lowestBit_12 : decode cX11_lowestBit 12 = .ok (.land, 1) := by decide +kernel
theorem dX11_lowestBit_13 : decode cX11_lowestBit 13 = .ok (.lconst 0, 1) := by decide +kernel
theorem dX11_lowestBit_14 : decode cX11_lowestBit 14 = .ok (.lcmp, 1) := by decide +kernel
theorem dX11_lowestBit_15 : decode cX11_lowestBit 15 = .ok (.ifCond .ne 9, 3) := by decide +kernel
theorem dX11_lowestBit_18 : decode cX11_lowestBit 18 = .ok (.iinc 2 1, 3) := by decide +kernel
theorem dX11_lowestBit_21 : decode cX11_lowestBit 21 = .ok (.goto (-19), 3) := by decide +kernel
theorem dX11_lowestBit_24 : decode cX11_lowestBit 24 = .ok (.iload_n 2, 1) := by decide +kernel
theorem dX11_lowestBit_25 : decode cX11_lowestBit 25 = .ok (.ireturn, 1) := by decide +kernel
set_option maxRecDepth 20000 in
theorem ggX11_windClock_X5_follow : GoodIn wsX11_windClock wsX5_follow := goodIn_r _ [8, 9, 10, 11, 12, 13, 14, 15, 16, 17, 18, 19, 20, 21, 22, 23, 24, 25, 26, 27, 28, 29, 30, 31, 7, 32, 33, 34, 35, 36, 37, 38, 39, 40, 41, 42, 43, 44, 45, 46, 47, 48, 49, 50, 51, 86, 87, 88, 89, 90, 91, 92, 93] (by decide +kernel) (by decide +kernel)
set_option maxRecDepth 20000 in
theorem gX11_windClock_X5_follow : GoodIn wsX11_windClock (wsV RX11 184 RX5 yX5_follow wsX5_follow) := goodIn_app (goodIn_of _ (by decide +kernel)) ggX11_windClock_X5_follow
set_option maxRecDepth 20000 in
theorem ggX11_windClock_X0_wind : GoodIn wsX11_windClock wsX0_wind := goodIn_r _ [56, 57, 58, 59, 60, 61, 62, 23, 24, 25, 26, 27, 28, 63, 64, 55, 65, 92, 93, 94, 95, 96, 97, 98, 99, 100, 101, 102, 103, 86, 87, 88, 89, 90, 91] (by decide +kernel) (by decide +kernel)
set_option maxRecDepth 20000 in
theorem gX11_windClock_X0_wind : GoodIn wsX11_windClock (wsV RX11 311 RX0 yX0_wind wsX0_wind) := goodIn_app (goodIn_of _ (by decide +kernel)) ggX11_windClock_X0_wind
theorem dX11_windClock_0 : decode cX11_windClock 0 = .ok (.aload_n 0, 1) := by decide +kernel
theorem dX11_windClock_1 : decode cX11_windClock 1 = .ok (.getfield 48, 3) := by decide +kernel
theorem dX11_windClock_4 : decode cX11_windClock 4 = .ok (.aload_n 0, 1) := by decide +kernel
theorem dX11_windClock_5 : decode cX11_windClock 5 = .ok (.getfield 19, 3) := by decide +kernel
theorem dX11_windClock_8 : decode cX11_windClock 8 = .ok (.getfield 106, 3) := by decide +kernel
theorem dX11_windClock_11 : decode cX11_windClock 11 = .ok (.invokevirtual 184, 3) := by decide +kernel
theorem dX11_windClock_14 : decode cX11_windClock 14 = .ok (.aload_n 0, 1) := by decide +kernel
theorem dX11_windClock_15 : decode cX11_windClock 15 = .ok (.getfield 55, 3) := by decide +kernel
theorem dX11_windClock_18 : decode cX11_windClock 18 = .ok (.aload_n 0, 1) := by decide +kernel
theorem dX11_windClock_19 : decode cX11_windClock 19 = .ok (.getfield 19, 3) := by decide +kernel
theorem dX11_windClock_22 : decode cX11_windClock 22 = .ok (.getfield 106, 3) := by decide +kernel
theorem dX11_windClock_25 : decode cX11_windClock 25 = .ok (.aload_n 0, 1) := by decide +kernel
theorem dX11_windClock_26 : decode cX11_windClock 26 = .ok (.getfield 48, 3) := by decide +kernel
theorem dX11_windClock_29 : decode cX11_windClock 29 = .ok (.aload_n 0, 1) := by decide +kernel
theorem dX11_windClock_30 : decode cX11_windClock 30 = .ok (.getfield 19, 3) := by decide +kernel
theorem dX11_windClock_33 : decode cX11_windClock 33 = .ok (.getfield 194, 3) := by decide +kernel
theorem dX11_windClock_36 : decode cX11_windClock 36 = .ok (.invokevirtual 311, 3) := by decide +kernel
theorem dX11_windClock_39 : decode cX11_windClock 39 = .ok (.return_, 1) := by decide +kernel
set_option maxRecDepth 20000 in
theorem ggX11_weighValues_X5_follow : GoodIn wsX11_weighValues wsX5_follow := goodIn_r _ [9, 10, 11, 12, 13, 14, 15, 16, 17, 18, 19, 20, 21, 22, 23, 24, 25, 26, 27, 28, 29, 30, 31, 32, 8, 33, 34, 35, 36, 37, 38, 39, 40, 41, 42, 43, 44, 45, 46, 47, 48, 49, 50, 51, 52, 100, 101, 102, 103, 104, 105, 106, 107] (by decide +kernel) (by decide +kernel)
set_option maxRecDepth 20000 in
theorem gX11_weighValues_X5_follow : GoodIn wsX11_weighValues (wsV RX11 184 RX5 yX5_follow wsX5_follow) := goodIn_app (goodIn_of _ (by decide +kernel)) ggX11_weighValues_X5_follow
set_option maxRecDepth 20000 in
theorem ggX11_weighValues_X3_followLive : GoodIn wsX11_weighValues wsX3_followLive := goodIn_r _ [57, 58, 59, 42, 43, 26, 44, 45, 24, 25, 27, 28, 29, 35, 36, 37, 60, 47, 48, 49, 50, 51, 52, 108, 109, 110, 111, 112, 113, 114, 115, 116, 106, 107] (by decide +kernel) (by decide +kernel)
set_option maxRecDepth 20000 in
theorem gX11_weighValues_X3_followLive : GoodIn wsX11_weighValues (wsV RX11 148 RX3 yX3_followLive wsX3_followLive) := goodIn_app (goodIn_of _ (by decide +kernel)) ggX11_weighValues_X3_followLive
set_option maxRecDepth 20000 in
theorem ggX11_weighValues_X4_take : GoodIn wsX11_weighValues wsX4_take := goodIn_r _ [65, 66, 67, 68, 69, 70, 71, 72, 73, 74, 75, 76, 42, 43, 26, 44, 45, 24, 25, 27, 28, 29, 35, 36, 37, 77, 78, 64, 79, 106, 107, 117, 118, 119, 120, 121, 122, 123, 124, 125, 126, 127, 128, 129, 130, 100, 101, 102, 103, 104, 105, 108, 109, 110, 111, 112, 113, 114, 115, 116] (by decide +kernel) (by decide +kernel)
set_option maxRecDepth 20000 in
theorem gX11_weighValues_X4_take : GoodIn wsX11_weighValues (wsV RX11 315 RX4 yX4_take wsX4_take) := goodIn_app (goodIn_of _ (by decide +kernel)) ggX11_weighValues_X4_take
theorem dX11_weighValues_0 : decode cX11_weighValues 0 = .ok (.aload_n 0, 1) := by decide +kernel
theorem dX11_weighValues_1 : decode cX11_weighValues 1 = .ok (.getfield 48, 3) := by decide +kernel
theorem dX11_weighValues_4 : decode cX11_weighValues 4 = .ok (.aload_n 0, 1) := by decide +kernel
theorem dX11_weighValues_5 : decode cX11_weighValues 5 = .ok (.getfield 19, 3) := by decide +kernel
theorem dX11_weighValues_8 : decode cX11_weighValues 8 = .ok (.getfield 106, 3) := by decide +kernel
theorem dX11_weighValues_11 : decode cX11_weighValues 11 = .ok (.invokevirtual 184, 3) := by decide +kernel
theorem dX11_weighValues_14 : decode cX11_weighValues 14 = .ok (.aload_n 0, 1) := by decide +kernel
theorem dX11_weighValues_15 : decode cX11_weighValues 15 = .ok (.getfield 34, 3) := by decide +kernel
theorem dX11_weighValues_18 : decode cX11_weighValues 18 = .ok (.aload_n 0, 1) := by decide +kernel
theorem dX11_weighValues_19 : decode cX11_weighValues 19 = .ok (.getfield 19, 3) := by decide +kernel
theorem dX11_weighValues_22 : decode cX11_weighValues 22 = .ok (.getfield 106, 3) := by decide +kernel
theorem dX11_weighValues_25 : decode cX11_weighValues 25 = .ok (.aload_n 0, 1) := by decide +kernel
theorem dX11_weighValues_26 : decode cX11_weighValues 26 = .ok (.getfield 19, 3) := by decide +kernel
theorem dX11_weighValues_29 : decode cX11_weighValues 29 = .ok (.getfield 120, 3) := by decide +kernel
theorem dX11_weighValues_32 : decode cX11_weighValues 32 = .ok (.invokevirtual 148, 3) := by decide +kernel
theorem dX11_weighValues_35 : decode cX11_weighValues 35 = .ok (.aload_n 0, 1) := by decide +kernel
theorem dX11_weighValues_36 : decode cX11_weighValues 36 = .ok (.getfield 62, 3) := by decide +kernel
theorem dX11_weighValues_39 : decode cX11_weighValues 39 = .ok (.aload_n 0, 1) := by decide +kernel
theorem dX11_weighValues_40 : decode cX11_weighValues 40 = .ok (.getfield 19, 3) := by decide +kernel
theorem dX11_weighValues_43 : decode cX11_weighValues 43 = .ok (.getfield 106, 3) := by decide +kernel
theorem dX11_weighValues_46 : decode cX11_weighValues 46 = .ok (.aload_n 0, 1) := by decide +kernel
theorem dX11_weighValues_47 : decode cX11_weighValues 47 = .ok (.getfield 48, 3) := by decide +kernel
theorem dX11_weighValues_50 : decode cX11_weighValues 50 = .ok (.aload_n 0, 1) := by decide +kernel
theorem dX11_weighValues_51 : decode cX11_weighValues 51 = .ok (.getfield 34, 3) := by decide +kernel
theorem dX11_weighValues_54 : decode cX11_weighValues 54 = .ok (.invokevirtual 315, 3) := by decide +kernel
theorem dX11_weighValues_57 : decode cX11_weighValues 57 = .ok (.return_, 1) := by decide +kernel
set_option maxRecDepth 20000 in
theorem ggX11_replaceOnce_X9_firstFit : GoodIn wsX11_replaceOnce wsX9_firstFit := goodIn_r _ [7, 8, 9, 10, 11, 6, 12, 13, 14, 15, 16, 17, 18, 19, 20, 21, 22, 23, 24, 25, 26, 27, 28, 29, 30, 31, 32, 33, 34, 35, 36, 115, 116, 117, 118, 119, 120] (by decide +kernel) (by decide +kernel)
set_option maxRecDepth 20000 in
theorem gX11_replaceOnce_X9_firstFit : GoodIn wsX11_replaceOnce (wsV RX11 258 RX9 yX9_firstFit wsX9_firstFit) := goodIn_app (goodIn_of _ (by decide +kernel)) ggX11_replaceOnce_X9_firstFit
set_option maxRecDepth 20000 in
theorem ggX11_replaceOnce_X9_countAfter : GoodIn wsX11_replaceOnce wsX9_countAfter := goodIn_r _ [40, 8, 41, 119, 120, 115, 116, 117, 118] (by decide +kernel) (by decide +kernel)
set_option maxRecDepth 20000 in
theorem gX11_replaceOnce_X9_countAfter : GoodIn wsX11_replaceOnce (wsV RX11 262 RX9 yX9_countAfter wsX9_countAfter) := goodIn_app (goodIn_of _ (by decide +kernel)) ggX11_replaceOnce_X9_countAfter
set_option maxRecDepth 20000 in
theorem ggX11_replaceOnce_X9_replaceAt : GoodIn wsX11_replaceOnce wsX9_replaceAt := goodIn_r _ [45, 41, 8, 9, 10, 11, 6, 12, 13, 14, 15, 16, 17, 18, 19, 20, 21, 22, 23, 24, 25, 26, 27, 28, 29, 30, 31, 32, 33, 34, 35, 36, 46, 47, 48, 49, 50, 51, 52, 53, 54, 55, 56, 57, 58, 59, 60, 61, 62, 63, 64, 65, 66, 67, 68, 69, 70, 71, 72, 73, 74, 75, 76, 77, 78, 79, 80, 81, 82, 83, 84, 85, 86, 87, 88, 89, 90, 91, 92, 93, 94, 119, 120, 115, 116, 117, 118] (by decide +kernel) (by decide +kernel)
set_option maxRecDepth 20000 in
theorem gX11_replaceOnce_X9_replaceAt : GoodIn wsX11_replaceOnce (wsV RX11 265 RX9 yX9_replaceAt wsX9_replaceAt) := goodIn_app (goodIn_of _ (by decide +kernel)) ggX11_replaceOnce_X9_replaceAt
theorem dX11_replaceOnce_0 : decode cX11_replaceOnce 0 = .ok (.iconst 0, 1) := by decide +kernel
theorem dX11_replaceOnce_1 : decode cX11_replaceOnce 1 = .ok (.istore_n 1, 1) := by decide +kernel
theorem dX11_replaceOnce_2 : decode cX11_replaceOnce 2 = .ok (.iload_n 1, 1) := by decide +kernel
theorem dX11_replaceOnce_3 : decode cX11_replaceOnce 3 = .ok (.aload_n 0, 1) := by decide +kernel
theorem dX11_replaceOnce_4 : decode cX11_replaceOnce 4 = .ok (.getfield 19, 3) := by decide +kernel
theorem dX11_replaceOnce_7 : decode cX11_replaceOnce 7 = .ok (.getfield 237, 3) := by decide +kernel
theorem dX11_replaceOnce_10 : decode cX11_replaceOnce 10 = .ok (.if_icmp .ge 73, 3) := by decide +kernel
theorem dX11_replaceOnce_13 : decode cX11_replaceOnce 13 = .ok (.aload_n 0, 1) := by decide +kernel
theorem dX11_replaceOnce_14 : decode cX11_replaceOnce 14 = .ok (.getfield 19, 3) := by decide +kernel
theorem dX11_replaceOnce_17 : decode cX11_replaceOnce 17 = .ok (.getfield 240, 3) := by decide +kernel
theorem dX11_replaceOnce_20 : decode cX11_replaceOnce 20 = .ok (.iload_n 1, 1) := by decide +kernel
theorem dX11_replaceOnce_21 : decode cX11_replaceOnce 21 = .ok (.aaload, 1) := by decide +kernel
theorem dX11_replaceOnce_22 : decode cX11_replaceOnce 22 = .ok (.astore_n 2, 1) := by decide +kernel
theorem dX11_replaceOnce_23 : decode cX11_replaceOnce 23 = .ok (.aload_n 2, 1) := by decide +kernel
theorem dX11_replaceOnce_24 : decode cX11_replaceOnce 24 = .ok (.aload_n 0, 1) := by decide +kernel
theorem dX11_replaceOnce_25 : decode cX11_replaceOnce 25 = .ok (.getfield 19, 3) := by decide +kernel
theorem dX11_replaceOnce_28 : decode cX11_replaceOnce 28 = .ok (.getfield 106, 3) := by decide +kernel
theorem dX11_replaceOnce_31 : decode cX11_replaceOnce 31 = .ok (.invokevirtual 258, 3) := by decide +kernel
theorem dX11_replaceOnce_34 : decode cX11_replaceOnce 34 = .ok (.istore_n 3, 1) := by decide +kernel
theorem dX11_replaceOnce_35 : decode cX11_replaceOnce 35 = .ok (.iload_n 3, 1) := by decide +kernel
theorem dX11_replaceOnce_36 : decode cX11_replaceOnce 36 = .ok (.bipush (-6), 2) := by decide +kernel
theorem dX11_replaceOnce_38 : decode cX11_replaceOnce 38 = .ok (.if_icmp .eq 39, 3) := by decide +kernel
theorem dX11_replaceOnce_41 : decode cX11_replaceOnce 41 = .ok (.aload_n 2, 1) := by decide +kernel
theorem dX11_replaceOnce_42 : decode cX11_replaceOnce 42 = .ok (.aload_n 0, 1) := by decide +kernel
theorem dX11_replaceOnce_43 : decode cX11_replaceOnce 43 = .ok (.getfield 19, 3) := by decide +kernel
theorem dX11_replaceOnce_46 : decode cX11_replaceOnce 46 = .ok (.getfield 106, 3) := by decide +kernel
theorem dX11_replaceOnce_49 : decode cX11_replaceOnce 49 = .ok (.invokevirtual 262, 3) := by decide +kernel
theorem dX11_replaceOnce_52 : decode cX11_replaceOnce 52 = .ok (.bipush 12, 2) := by decide +kernel
theorem dX11_replaceOnce_54 : decode cX11_replaceOnce 54 = .ok (.if_icmp .le 5, 3) := by decide +kernel
theorem dX11_replaceOnce_57 : decode cX11_replaceOnce 57 = .ok (.iconst 0, 1) := by decide +kernel
theorem dX11_replaceOnce_58 : decode cX11_replaceOnce 58 = .ok (.ireturn, 1) := by decide +kernel
theorem dX11_replaceOnce_59 : decode cX11_replaceOnce 59 = .ok (.aload_n 2, 1) := by decide +kernel
theorem dX11_replaceOnce_60 : decode cX11_replaceOnce 60 = .ok (.aload_n 0, 1) := by decide +kernel
theorem dX11_replaceOnce_61 : decode cX11_replaceOnce 61 = .ok (.getfield 19, 3) := by decide +kernel
theorem dX11_replaceOnce_64 : decode cX11_replaceOnce 64 = .ok (.getfield 106, 3) := by decide +kernel
theorem dX11_replaceOnce_67 : decode cX11_replaceOnce 67 = .ok (.iload_n 3, 1) := by decide +kernel
theorem dX11_replaceOnce_68 : decode cX11_replaceOnce 68 = .ok (.aload_n 0, 1) := by decide +kernel
theorem dX11_replaceOnce_69 : decode cX11_replaceOnce 69 = .ok (.getfield 86, 3) := by decide +kernel
theorem dX11_replaceOnce_72 : decode cX11_replaceOnce 72 = .ok (.invokevirtual 265, 3) := by decide +kernel
theorem dX11_replaceOnce_75 : decode cX11_replaceOnce 75 = .ok (.iconst 1, 1) := by decide +kernel
theorem dX11_replaceOnce_76 : decode cX11_replaceOnce 76 = .ok (.ireturn, 1) := by decide +kernel
theorem dX11_replaceOnce_77 : decode cX11_replaceOnce 77 = .ok (.iinc 1 1, 3) := by decide +kernel
theorem dX11_replaceOnce_80 : decode cX11_replaceOnce 80 = .ok (.goto (-78), 3) := by decide +kernel
theorem dX11_replaceOnce_83 : decode cX11_replaceOnce 83 = .ok (.iconst 0, 1) := by decide +kernel
theorem dX11_replaceOnce_84 : decode cX11_replaceOnce 84 = .ok (.ireturn, 1) := by decide +kernel
theorem dX11_isNoRegister_0 : decode cX11_isNoRegister 0 = .ok (.iload_n 0, 1) := by decide +kernel
theorem dX11_isNoRegister_1 : decode cX11_isNoRegister 1 = .ok (.ifCond .lt 8, 3) := by decide +kernel
theorem dX11_isNoRegister_4 : decode cX11_isNoRegister 4 = .ok (.iload_n 0, 1) := by decide +kernel
theorem dX11_isNoRegister_5 : decode cX11_isNoRegister 5 = .ok (.iconst 4, 1) := by decide +kernel
theorem dX11_isNoRegister_6 : decode cX11_isNoRegister 6 = .ok (.if_icmp .lt 7, 3) := by decide +kernel
theorem dX11_isNoRegister_9 : decode cX11_isNoRegister 9 = .ok (.iconst 1, 1) := by decide +kernel
theorem dX11_isNoRegister_10 : decode cX11_isNoRegister 10 = .ok (.goto 4, 3) := by decide +kernel
theorem dX11_isNoRegister_13 : decode cX11_isNoRegister 13 = .ok (.iconst 0, 1) := by decide +kernel
theorem dX11_isNoRegister_14 : decode cX11_isNoRegister 14 = .ok (.ireturn, 1) := by decide +kernel
theorem dX11_isDigit_0 : decode cX11_isDigit 0 = .ok (.iload_n 0, 1) := by decide +kernel
theorem dX11_isDigit_1 : decode cX11_isDigit 1 = .ok (.bipush 10, 2) := by decide +kernel
theorem dX11_isDigit_3 : decode cX11_isDigit 3 = .ok (.if_icmp .lt 13, 3) := by decide +kernel
theorem dX11_isDigit_6 : decode cX11_isDigit 6 = .ok (.iload_n 0, 1) := by decide +kernel
theorem dX11_isDigit_7 : decode cX11_isDigit 7 = .ok (.bipush 18, 2) := by decide +kernel
theorem dX11_isDigit_9 : decode cX11_isDigit 9 = .ok (.if_icmp .ge 7, 3) := by decide +kernel
theorem dX11_isDigit_12 : decode cX11_isDigit 12 = .ok (.iconst 1, 1) := by decide +kernel
theorem dX11_isDigit_13 : decode cX11_isDigit 13 = .ok (.goto 4, 3) := by decide +kernel
theorem dX11_isDigit_16 : decode cX11_isDigit 16 = .ok (.iconst 0, 1) := by decide +kernel
theorem dX11_isDigit_17 : decode cX11_isDigit 17 = .ok (.ireturn, 1) := by decide +kernel
theorem dX11_isAct_0 : decode cX11_isAct 0 = .ok (.iload_n 0, 1) := by decide +kernel
theorem dX11_isAct_1 : decode cX11_isAct 1 = .ok (.bipush 43, 2) := by decide +kernel
theorem dX11_isAct_3 : decode cX11_isAct 3 = .ok (.if_icmp .eq 21, 3) := by decide +kernel
theorem dX11_isAct_6 : decode cX11_isAct 6 = .ok (.iload_n 0, 1) := by decide +kernel
theorem dX11_isAct_7 : decode cX11_isAct 7 = .ok (.bipush 45, 2) := by decide +kernel
theorem dX11_isAct_9 : decode cX11_isAct 9 = .ok (.if_icmp .eq 15, 3) := by decide +kernel
theorem dX11_isAct_12 : decode cX11_isAct 12 = .ok (.iload_n 0, 1) := by decide +kernel
theorem dX11_isAct_13 : decode cX11_isAct 13 = .ok (.bipush 42, 2) := by decide +kernel
theorem dX11_isAct_15 : decode cX11_isAct 15 = .ok (.if_icmp .eq 9, 3) := by decide +kernel
theorem dX11_isAct_18 : decode cX11_isAct 18 = .ok (.iload_n 0, 1) := by decide +kernel
theorem dX11_isAct_19 : decode cX11_isAct 19 = .ok (.bipush 109, 2) := by decide +kernel
theorem dX11_isAct_21 : decode cX11_isAct 21 = .ok (.if_icmp .ne 7, 3) := by decide +kernel
theorem dX11_isAct_24 : decode cX11_isAct 24 = .ok (.iconst 1, 1) := by decide +kernel
theorem dX11_isAct_25 : decode cX11_isAct 25 = .ok (.goto 4, 3) := by decide +kernel
theorem dX11_isAct_28 : decode cX11_isAct 28 = .ok (.iconst 0, 1) := by decide +kernel
theorem dX11_isAct_29 : decode cX11_isAct 29 = .ok (.ireturn, 1) := by decide +kernel
theorem dX11_act_0 : decode cX11_act 0 = .ok (.iload_n 0, 1) := by decide +kernel
theorem dX11_act_1 : decode cX11_act 1 = .ok (.lookupswitch 70 #[(42, 57), (43, 43), (45, 50), (109, 64)], 43) := by decide +kernel
theorem dX11_act_44 : decode cX11_act 44 = .ok (.iload_n 1, 1) := by decide +kernel
theorem dX11_act_45 : decode cX11_act 45 = .ok (.iload_n 2, 1) := by decide +kernel
theorem dX11_act_46 : decode cX11_act 46 = .ok (.iadd, 1) := by decide +kernel
theorem dX11_act_47 : decode cX11_act 47 = .ok (.bipush 7, 2) := by decide +kernel
theorem dX11_act_49 : decode cX11_act 49 = .ok (.iand, 1) := by decide +kernel
theorem dX11_act_50 : decode cX11_act 50 = .ok (.ireturn, 1) := by decide +kernel
theorem dX11_act_51 : decode cX11_act 51 = .ok (.iload_n 1, 1) := by decide +kernel
theorem dX11_act_52 : decode cX11_act 52 = .ok (.iload_n 2, 1) := by decide +kernel
theorem dX11_act_53 : decode cX11_act 53 = .ok (.isub, 1) := by decide +kernel
theorem dX11_act_54 : decode cX11_act 54 = .ok (.bipush 7, 2) := by decide +kernel
theorem dX11_act_56 : decode cX11_act 56 = .ok (.iand, 1) := by decide +kernel
theorem dX11_act_57 : decode cX11_act 57 = .ok (.ireturn, 1) := by decide +kernel
theorem dX11_act_58 : decode cX11_act 58 = .ok (.iload_n 1, 1) := by decide +kernel
theorem dX11_act_59 : decode cX11_act 59 = .ok (.iload_n 2, 1) := by decide +kernel
theorem dX11_act_60 : decode cX11_act 60 = .ok (.imul, 1) := by decide +kernel
theorem dX11_act_61 : decode cX11_act 61 = .ok (.bipush 7, 2) := by decide +kernel
theorem dX11_act_63 : decode cX11_act 63 = .ok (.iand, 1) := by decide +kernel
theorem dX11_act_64 : decode cX11_act 64 = .ok (.ireturn, 1) := by decide +kernel
theorem dX11_act_65 : decode cX11_act 65 = .ok (.iload_n 1, 1) := by decide +kernel
theorem dX11_act_66 : decode cX11_act 66 = .ok (.iload_n 2, 1) := by decide +kernel
theorem dX11_act_67 : decode cX11_act 67 = .ok (.invokestatic 319, 3) := by decide +kernel
theorem dX11_act_70 : decode cX11_act 70 = .ok (.ireturn, 1) := by decide +kernel
theorem dX11_act_71 : decode cX11_act 71 = .ok (.iload_n 1, 1) := by decide +kernel
theorem dX11_act_72 : decode cX11_act 72 = .ok (.ireturn, 1) := by decide +kernel
theorem dX12_init_0 : decode cX12_init 0 = .ok (.aload_n 0, 1) := by decide +kernel
theorem dX12_init_1 : decode cX12_init 1 = .ok (.invokespecial 1, 3) := by decide +kernel
theorem dX12_init_4 : decode cX12_init 4 = .ok (.aload_n 0, 1) := by decide +kernel
theorem dX12_init_5 : decode cX12_init 5 = .ok (.bipush 80, 2) := by decide +kernel
theorem dX12_init_7 : decode cX12_init 7 = .ok (.newarray .int, 2) := by decide +kernel
theorem dX12_init_9 : decode cX12_init 9 = .ok (.putfield 7, 3) := by decide +kernel
theorem dX12_init_12 : decode cX12_init 12 = .ok (.aload_n 0, 1) := by decide +kernel
theorem dX12_init_13 : decode cX12_init 13 = .ok (.bipush 12, 2) := by decide +kernel
theorem dX12_init_15 : decode cX12_init 15 = .ok (.newarray .int, 2) := by decide +kernel
theorem dX12_init_17 : decode cX12_init 17 = .ok (.putfield 13, 3) := by decide +kernel
theorem dX12_init_20 : decode cX12_init 20 = .ok (.aload_n 0, 1) := by decide +kernel
theorem dX12_init_21 : decode cX12_init 21 = .ok (.bipush 12, 2) := by decide +kernel
theorem dX12_init_23 : decode cX12_init 23 = .ok (.newarray .int, 2) := by decide +kernel
theorem dX12_init_25 : decode cX12_init 25 = .ok (.putfield 16, 3) := by decide +kernel
theorem dX12_init_28 : decode cX12_init 28 = .ok (.aload_n 0, 1) := by decide +kernel
theorem dX12_init_29 : decode cX12_init 29 = .ok (.bipush 12, 2) := by decide +kernel
theorem dX12_init_31 : decode cX12_init 31 = .ok (.newarray .int, 2) := by decide +kernel
theorem dX12_init_33 : decode cX12_init 33 = .ok (.putfield 19, 3) := by decide +kernel
theorem dX12_init_36 : decode cX12_init 36 = .ok (.aload_n 0, 1) := by decide +kernel
theorem dX12_init_37 : decode cX12_init 37 = .ok (.bipush 12, 2) := by decide +kernel
theorem dX12_init_39 : decode cX12_init 39 = .ok (.newarray .int, 2) := by decide +kernel
theorem dX12_init_41 : decode cX12_init 41 = .ok (.putfield 22, 3) := by decide +kernel
theorem dX12_init_44 : decode cX12_init 44 = .ok (.aload_n 0, 1) := by decide +kernel
theorem dX12_init_45 : decode cX12_init 45 = .ok (.bipush 48, 2) := by decide +kernel
theorem dX12_init_47 : decode cX12_init 47 = .ok (.newarray .int, 2) := by decide +kernel
theorem dX12_init_49 : decode cX12_init 49 = .ok (.putfield 25, 3) := by decide +kernel
theorem dX12_init_52 : decode cX12_init 52 = .ok (.aload_n 0, 1) := by decide +kernel
theorem dX12_init_53 : decode cX12_init 53 = .ok (.iconst 4, 1) := by decide +kernel
theorem dX12_init_54 : decode cX12_init 54 = .ok (.newarray .int, 2) := by decide +kernel
theorem dX12_init_56 : decode cX12_init 56 = .ok (.putfield 28, 3) := by decide +kernel
theorem dX12_init_59 : decode cX12_init 59 = .ok (.aload_n 0, 1) := by decide +kernel
theorem dX12_init_60 : decode cX12_init 60 = .ok (.bipush 48, 2) := by decide +kernel
theorem dX12_init_62 : decode cX12_init 62 = .ok (.newarray .int, 2) := by decide +kernel
theorem dX12_init_64 : decode cX12_init 64 = .ok (.putfield 31, 3) := by decide +kernel
theorem dX12_init_67 : decode cX12_init 67 = .ok (.aload_n 0, 1) := by decide +kernel
theorem dX12_init_68 : decode cX12_init 68 = .ok (.iconst 4, 1) := by decide +kernel
theorem dX12_init_69 : decode cX12_init 69 = .ok (.newarray .int, 2) := by decide +kernel
theorem dX12_init_71 : decode cX12_init 71 = .ok (.putfield 34, 3) := by decide +kernel
theorem dX12_init_74 : decode cX12_init 74 = .ok (.aload_n 0, 1) := by decide +kernel
theorem dX12_init_75 : decode cX12_init 75 = .ok (.iconst 4, 1) := by decide +kernel
theorem dX12_init_76 : decode cX12_init 76 = .ok (.newarray .int, 2) := by decide +kernel
theorem dX12_init_78 : decode cX12_init 78 = .ok (.putfield 37, 3) := by decide +kernel
theorem dX12_init_81 : decode cX12_init 81 = .ok (.aload_n 0, 1) := by decide +kernel
theorem dX12_init_82 : decode cX12_init 82 = .ok (.bipush 8, 2) := by decide +kernel
theorem dX12_init_84 : decode cX12_init 84 = .ok (.newarray .int, 2) := by decide +kernel
theorem dX12_init_86 : decode cX12_init 86 = .ok (.putfield 40, 3) := by decide +kernel
theorem dX12_init_89 : decode cX12_init 89 = .ok (.aload_n 0, 1) := by decide +kernel
theorem dX12_init_90 : decode cX12_init 90 = .ok (.bipush 12, 2) := by decide +kernel
theorem dX12_init_92 : decode cX12_init 92 = .ok (.newarray .int, 2) := by decide +kernel
theorem dX12_init_94 : decode cX12_init 94 = .ok (.putfield 43, 3) := by decide +kernel
theorem dX12_init_97 : decode cX12_init 97 = .ok (.aload_n 0, 1) := by decide +kernel
theorem dX12_init_98 : decode cX12_init 98 = .ok (.bipush 12, 2) := by decide +kernel
theorem dX12_init_100 : decode cX12_init 100 = .ok (.newarray .int, 2) := by decide +kernel
theorem dX12_init_102 : decode cX12_init 102 = .ok (.putfield 46, 3) := by decide +kernel
theorem dX12_init_105 : decode cX12_init 105 = .ok (.aload_n 0, 1) := by decide +kernel
theorem dX12_init_106 : decode cX12_init 106 = .ok (.bipush 12, 2) := by decide +kernel
theorem dX12_init_108 : decode cX12_init 108 = .ok (.newarray .int, 2) := by decide +kernel
theorem dX12_init_110 : decode cX12_init 110 = .ok (.putfield 49, 3) := by decide +kernel
theorem dX12_init_113 : decode cX12_init 113 = .ok (.aload_n 0, 1) := by decide +kernel
theorem dX12_init_114 : decode cX12_init 114 = .ok (.bipush 12, 2) := by decide +kernel
theorem dX12_init_116 : decode cX12_init 116 = .ok (.newarray .int, 2) := by decide +kernel
theorem dX12_init_118 : decode cX12_init 118 = .ok (.putfield 52, 3) := by decide +kernel
theorem dX12_init_121 : decode cX12_init 121 = .ok (.aload_n 0, 1) := by decide +kernel
theorem dX12_init_122 : decode cX12_init 122 = .ok (.bipush 12, 2) := by decide +kernel
theorem dX12_init_124 : decode cX12_init 124 = .ok (.newarray .int, 2) := by decide +kernel
theorem dX12_init_126 : decode cX12_init 126 = .ok (.putfield 55, 3) := by decide +kernel
theorem dX12_init_129 : decode cX12_init 129 = .ok (.aload_n 0, 1) := by decide +kernel
theorem dX12_init_130 : decode cX12_init 130 = .ok (.bipush 12, 2) := by decide +kernel
theorem dX12_init_132 : decode cX12_init 132 = .ok (.newarray .int, 2) := by decide +kernel
theorem dX12_init_134 : decode cX12_init 134 = .ok (.putfield 58, 3) := by decide +kernel
theorem dX12_init_137 : decode cX12_init 137 = .ok (.aload_n 0, 1) := by decide +kernel
theorem dX12_init_138 : decode cX12_init 138 = .ok (.bipush 12, 2) := by decide +kernel
theorem dX12_init_140 : decode cX12_init 140 = .ok (.newarray .boolean, 2) := by decide +kernel
theorem dX12_init_142 : decode cX12_init 142 = .ok (.putfield 61, 3) := by decide +kernel
theorem dX12_init_145 : decode cX12_init 145 = .ok (.aload_n 0, 1) := by decide +kernel
theorem dX12_init_146 : decode cX12_init 146 = .ok (.bipush 12, 2) := by decide +kernel
theorem dX12_init_148 : decode cX12_init 148 = .ok (.newarray .int, 2) := by decide +kernel
theorem dX12_init_150 : decode cX12_init 150 = .ok (.putfield 65, 3) := by decide +kernel
theorem dX12_init_153 : decode cX12_init 153 = .ok (.aload_n 0, 1) := by decide +kernel
theorem dX12_init_154 : decode cX12_init 154 = .ok (.bipush 12, 2) := by decide +kernel
theorem dX12_init_156 : decode cX12_init 156 = .ok (.newarray .int, 2) := by decide +kernel
theorem dX12_init_158 : decode cX12_init 158 = .ok (.putfield 68, 3) := by decide +kernel
theorem dX12_init_161 : decode cX12_init 161 = .ok (.aload_n 0, 1) := by decide +kernel
theorem dX12_init_162 : decode cX12_init 162 = .ok (.sipush 4096, 3) := by decide +kernel
theorem dX12_init_165 : decode cX12_init 165 = .ok (.newarray .int, 2) := by decide +kernel
theorem dX12_init_167 : decode cX12_init 167 = .ok (.putfield 71, 3) := by decide +kernel
theorem dX12_init_170 : decode cX12_init 170 = .ok (.aload_n 0, 1) := by decide +kernel
theorem dX12_init_171 : decode cX12_init 171 = .ok (.bipush 12, 2) := by decide +kernel
theorem dX12_init_173 : decode cX12_init 173 = .ok (.newarray .int, 2) := by decide +kernel
theorem dX12_init_175 : decode cX12_init 175 = .ok (.putfield 74, 3) := by decide +kernel
theorem dX12_init_178 : decode cX12_init 178 = .ok (.aload_n 0, 1) := by decide +kernel
theorem dX12_init_179 : decode cX12_init 179 = .ok (.bipush 12, 2) := by decide +kernel
theorem dX12_init_181 : decode cX12_init 181 = .ok (.newarray .int, 2) := by decide +kernel
theorem dX12_init_183 : decode cX12_init 183 = .ok (.putfield 77, 3) := by decide +kernel
theorem dX12_init_186 : decode cX12_init 186 = .ok (.aload_n 0, 1) := by decide +kernel
theorem dX12_init_187 : decode cX12_init 187 = .ok (.bipush 12, 2) := by decide +kernel
theorem dX12_init_189 : decode cX12_init 189 = .ok (.newarray .int, 2) := by decide +kernel
theorem dX12_init_191 : decode cX12_init 191 = .ok (.putfield 80, 3) := by decide +kernel
theorem dX12_init_194 : decode cX12_init 194 = .ok (.aload_n 0, 1) := by decide +kernel
theorem dX12_init_195 : decode cX12_init 195 = .ok (.bipush 13, 2) := by decide +kernel
theorem dX12_init_197 : decode cX12_init 197 = .ok (.newarray .int, 2) := by decide +kernel
theorem dX12_init_199 : decode cX12_init 199 = .ok (.putfield 83, 3) := by decide +kernel
theorem dX12_init_202 : decode cX12_init 202 = .ok (.aload_n 0, 1) := by decide +kernel
theorem dX12_init_203 : decode cX12_init 203 = .ok (.bipush 12, 2) := by decide +kernel
theorem dX12_init_205 : decode cX12_init 205 = .ok (.newarray .int, 2) := by decide +kernel
theorem dX12_init_207 : decode cX12_init 207 = .ok (.putfield 86, 3) := by decide +kernel
theorem dX12_init_210 : decode cX12_init 210 = .ok (.aload_n 0, 1) := by decide +kernel
theorem dX12_init_211 : decode cX12_init 211 = .ok (.bipush 96, 2) := by decide +kernel
theorem dX12_init_213 : decode cX12_init 213 = .ok (.newarray .int, 2) := by decide +kernel
theorem dX12_init_215 : decode cX12_init 215 = .ok (.putfield 89, 3) := by decide +kernel
theorem dX12_init_218 : decode cX12_init 218 = .ok (.aload_n 0, 1) := by decide +kernel
theorem dX12_init_219 : decode cX12_init 219 = .ok (.iconst 4, 1) := by decide +kernel
theorem dX12_init_220 : decode cX12_init 220 = .ok (.newarray .int, 2) := by decide +kernel
theorem dX12_init_222 : decode cX12_init 222 = .ok (.putfield 92, 3) := by decide +kernel
theorem dX12_init_225 : decode cX12_init 225 = .ok (.aload_n 0, 1) := by decide +kernel
theorem dX12_init_226 : decode cX12_init 226 = .ok (.iconst 4, 1) := by decide +kernel
theorem dX12_init_227 : decode cX12_init 227 = .ok (.newarray .int, 2) := by decide +kernel
theorem dX12_init_229 : decode cX12_init 229 = .ok (.putfield 95, 3) := by decide +kernel
theorem dX12_init_232 : decode cX12_init 232 = .ok (.aload_n 0, 1) := by decide +kernel
theorem dX12_init_233 : decode cX12_init 233 = .ok (.iconst 4, 1) := by decide +kernel
theorem dX12_init_234 : decode cX12_init 234 = .ok (.newarray .int, 2) := by decide +kernel
theorem dX12_init_236 : decode cX12_init 236 = .ok (.putfield 98, 3) := by decide +kernel
theorem dX12_init_239 : decode cX12_init 239 = .ok (.aload_n 0, 1) := by decide +kernel
theorem dX12_init_240 : decode cX12_init 240 = .ok (.bipush 64, 2) := by decide +kernel
theorem dX12_init_242 : decode cX12_init 242 = .ok (.newarray .int, 2) := by decide +kernel
theorem dX12_init_244 : decode cX12_init 244 = .ok (.putfield 101, 3) := by decide +kernel
theorem dX12_init_247 : decode cX12_init 247 = .ok (.aload_n 0, 1) := by decide +kernel
theorem dX12_init_248 : decode cX12_init 248 = .ok (.sipush 256, 3) := by decide +kernel
theorem dX12_init_251 : decode cX12_init 251 = .ok (.newarray .int, 2) := by decide +kernel
theorem dX12_init_253 : decode cX12_init 253 = .ok (.putfield 104, 3) := by decide +kernel
theorem dX12_init_256 : decode cX12_init 256 = .ok (.aload_n 0, 1) := by decide +kernel
theorem dX12_init_257 : decode cX12_init 257 = .ok (.iconst 3, 1) := by decide +kernel
theorem dX12_init_258 : decode cX12_init 258 = .ok (.newarray .int, 2) := by decide +kernel
theorem dX12_init_260 : decode cX12_init 260 = .ok (.putfield 107, 3) := by decide +kernel
theorem dX12_init_263 : decode cX12_init 263 = .ok (.aload_n 0, 1) := by decide +kernel
theorem dX12_init_264 : decode cX12_init 264 = .ok (.sipush 600, 3) := by decide +kernel
theorem dX12_init_267 : decode cX12_init 267 = .ok (.newarray .int, 2) := by decide +kernel
theorem dX12_init_269 : decode cX12_init 269 = .ok (.putfield 110, 3) := by decide +kernel
theorem dX12_init_272 : decode cX12_init 272 = .ok (.aload_n 0, 1) := by decide +kernel
theorem dX12_init_273 : decode cX12_init 273 = .ok (.iconst 2, 1) := by decide +kernel
theorem dX12_init_274 : decode cX12_init 274 = .ok (.newarray .boolean, 2) := by decide +kernel
theorem dX12_init_276 : decode cX12_init 276 = .ok (.putfield 113, 3) := by decide +kernel
theorem dX12_init_279 : decode cX12_init 279 = .ok (.aload_n 0, 1) := by decide +kernel
theorem dX12_init_280 : decode cX12_init 280 = .ok (.bipush 15, 2) := by decide +kernel
theorem dX12_init_282 : decode cX12_init 282 = .ok (.putfield 116, 3) := by decide +kernel
theorem dX12_init_285 : decode cX12_init 285 = .ok (.aload_n 0, 1) := by decide +kernel
theorem dX12_init_286 : decode cX12_init 286 = .ok (.iconst 1, 1) := by decide +kernel
theorem dX12_init_287 : decode cX12_init 287 = .ok (.putfield 120, 3) := by decide +kernel
theorem dX12_init_290 : decode cX12_init 290 = .ok (.iconst 0, 1) := by decide +kernel
theorem dX12_init_291 : decode cX12_init 291 = .ok (.istore_n 1, 1) := by decide +kernel
theorem dX12_init_292 : decode cX12_init 292 = .ok (.iload_n 1, 1) := by decide +kernel
theorem dX12_init_293 : decode cX12_init 293 = .ok (.iconst 4, 1) := by decide +kernel
theorem dX12_init_294 : decode cX12_init 294 = .ok (.if_icmp .ge 16, 3) := by decide +kernel
theorem dX12_init_297 : decode cX12_init 297 = .ok (.aload_n 0, 1) := by decide +kernel
theorem dX12_init_298 : decode cX12_init 298 = .ok (.getfield 28, 3) := by decide +kernel
theorem dX12_init_301 : decode cX12_init 301 = .ok (.iload_n 1, 1) := by decide +kernel
theorem dX12_init_302 : decode cX12_init 302 = .ok (.iconst 1, 1) := by decide +kernel
theorem dX12_init_303 : decode cX12_init 303 = .ok (.iastore, 1) := by decide +kernel
theorem dX12_init_304 : decode cX12_init 304 = .ok (.iinc 1 1, 3) := by decide +kernel
theorem dX12_init_307 : decode cX12_init 307 = .ok (.goto (-15), 3) := by decide +kernel
theorem dX12_init_310 : decode cX12_init 310 = .ok (.return_, 1) := by decide +kernel
theorem dX12_in_0 : decode cX12_in 0 = .ok (.lload_n 0, 1) := by decide +kernel
theorem dX12_in_1 : decode cX12_in 1 = .ok (.lload_n 2, 1) := by decide +kernel
theorem dX12_in_2 : decode cX12_in 2 = .ok (.lcmp, 1) := by decide +kernel
theorem dX12_in_3 : decode cX12_in 3 = .ok (.ifCond .lt 14, 3) := by decide +kernel
theorem dX12_in_6 : decode cX12_in 6 = .ok (.lload_n 0, 1) := by decide +kernel
theorem dX12_in_7 : decode cX12_in 7 = .ok (.lload 4, 2) := by decide +kernel
theorem dX12_in_9 : decode cX12_in 9 = .ok (.lcmp, 1) := by decide +kernel
theorem dX12_in_10 : decode cX12_in 10 = .ok (.ifCond .gt 7, 3) := by decide +kernel
theorem dX12_in_13 : decode cX12_in 13 = .ok (.iconst 1, 1) := by decide +kernel
theorem dX12_in_14 : decode cX12_in 14 = .ok (.goto 4, 3) := by decide +kernel
theorem dX12_in_17 : decode cX12_in 17 = .ok (.iconst 0, 1) := by decide +kernel
theorem dX12_in_18 : decode cX12_in 18 = .ok (.ireturn, 1) := by decide +kernel
theorem dX12_ones_0 : decode cX12_ones 0 = .ok (.iconst 0, 1) := by decide +kernel
theorem dX12_ones_1 : decode cX12_ones 1 = .ok (.istore_n 1, 1) := by decide +kernel
theorem dX12_ones_2 : decode cX12_ones 2 = .ok (.iconst 0, 1) := by decide +kernel
theorem dX12_ones_3 : decode cX12_ones 3 = .ok (.istore_n 2, 1) := by decide +kernel
theorem dX12_ones_4 : decode cX12_ones 4 = .ok (.iload_n 2, 1) := by decide +kernel
theorem dX12_ones_5 : decode cX12_ones 5 = .ok (.bipush 16, 2) := by decide +kernel
theorem dX12_ones_7 : decode cX12_ones 7 = .ok (.if_icmp .ge 17, 3) := by decide +kernel
theorem dX12_ones_10 : decode cX12_ones 10 = .ok (.iload_n 1, 1) := by decide +kernel
theorem dX12_ones_11 : decode cX12_ones 11 = .ok (.iload_n 0, 1) := by decide +kernel
theorem dX12_ones_12 : decode cX12_ones 12 = .ok (.iload_n 2, 1) := by decide +kernel
theorem dX12_ones_13 : decode cX12_ones 13 = .ok (.ishr, 1) := by decide +kernel
theorem dX12_ones_14 : decode cX12_ones 14 = .ok (.iconst 1, 1) := by decide +kernel
theorem dX12_ones_15 : decode cX12_ones 15 = .ok (.iand, 1) := by decide +kernel
theorem dX12_ones_16 : decode cX12_ones 16 = .ok (.iadd, 1) := by decide +kernel
theorem dX12_ones_17 : decode cX12_ones 17 = .ok (.istore_n 1, 1) := by decide +kernel
theorem dX12_ones_18 : decode cX12_ones 18 = .ok (.iinc 2 1, 3) := by decide +kernel
theorem dX12_ones_21 : decode cX12_ones 21 = .ok (.goto (-17), 3) := by decide +kernel
theorem dX12_ones_24 : decode cX12_ones 24 = .ok (.iload_n 1, 1) := by decide +kernel
theorem dX12_ones_25 : decode cX12_ones 25 = .ok (.ireturn, 1) := by decide +kernel
set_option maxRecDepth 20000 in
theorem ggX12_isRegister_X12_in : GoodIn wsX12_isRegister wsX12_in := goodIn_r _ [5] (by decide +kernel) (by decide +kernel)
set_option maxRecDepth 20000 in
theorem gX12_isRegister_X12_in : GoodIn wsX12_isRegister (va_wsS RX12 125 yX12_in wsX12_in) := goodIn_app (goodIn_of _ (by decide +kernel)) ggX12_isRegister_X12_in
theorem dX12_isRegister_0 : decode cX12_isRegister 0 = .ok (.iload_n 0, 1) := by decide +kernel
theorem dX12_isRegister_1 : decode cX12_isRegister 1 = .ok (.i2l, 1) := by decide +kernel
theorem dX12_isRegister_2 : decode cX12_isRegister 2 = .ok (.lconst 0, 1) := by decide +kernel
theorem dX12_isRegister_3 : decode cX12_isRegister 3 = .ok (.ldc2_w 123, 3) := by decide +kernel
theorem dX12_isRegister_6 : decode cX12_isRegister 6 = .ok (.invokestatic 125, 3) := by decide +kernel
theorem dX12_isRegister_9 : decode cX12_isRegister 9 = .ok (.ireturn, 1) := by decide +kernel
set_option maxRecDepth 20000 in
theorem ggX12_say_X12_in : GoodIn wsX12_say wsX12_in := goodIn_r _ [8] (by decide +kernel) (by decide +kernel)
set_option maxRecDepth 20000 in
theorem gX12_say_X12_in : GoodIn wsX12_say (va_wsS RX12 125 yX12_in wsX12_in) := goodIn_app (goodIn_of _ (by decide +kernel)) ggX12_say_X12_in
theorem dX12_say_0 : decode cX12_say 0 = .ok (.iload_n 1, 1) := by decide +kernel
theorem dX12_say_1 : decode cX12_say 1 = .ok (.i2l, 1) := by decide +kernel
theorem dX12_say_2 : decode cX12_say 2 = .ok (.ldc2_w 129, 3) := by decide +kernel
theorem dX12_say_5 : decode cX12_say 5 = .ok (.ldc2_w 131, 3) := by decide +kernel
theorem dX12_say_8 : decode cX12_say 8 = .ok (.invokestatic 125, 3) := by decide +kernel
theorem dX12_say_11 : decode cX12_say 11 = .ok (.ifCond .ne 6, 3) := by decide +kernel
theorem dX12_say_14 : decode cX12_say 14 = .ok (.bipush (-2), 2) := by decide +kernel
theorem dX12_say_16 : decode cX12_say 16 = .ok (.ireturn, 1) := by decide +kernel
theorem dX12_say_17 : decode cX12_say 17 = .ok (.aload_n 0, 1) := by decide +kernel
theorem dX12_say_18 : decode cX12_say 18 = .ok (.getfield 133, 3) := by decide +kernel
theorem dX12_say_21 : decode cX12_say 21 = .ok (.bipush 80, 2) := by decide +kernel
theorem dX12_say_23 : decode cX12_say 23 = .ok (.if_icmp .ne 6, 3) := by decide +kernel
theorem dX12_say_26 : decode cX12_say 26 = .ok (.bipush (-4), 2) := by decide +kernel
theorem dX12_say_28 : decode cX12_say 28 = .ok (.ireturn, 1) := by decide +kernel
theorem dX12_say_29 : decode cX12_say 29 = .ok (.aload_n 0, 1) := by decide +kernel
theorem dX12_say_30 : decode cX12_say 30 = .ok (.getfield 7, 3) := by decide +kernel
theorem dX12_say_33 : decode cX12_say 33 = .ok (.aload_n 0, 1) := by decide +kernel
theorem dX12_say_34 : decode cX12_say 34 = .ok (.getfield 133, 3) := by decide +kernel
theorem dX12_say_37 : decode cX12_say 37 = .ok (.iload_n 1, 1) := by decide +kernel
theorem dX12_say_38 : decode cX12_say 38 = .ok (.iastore, 1) := by decide +kernel
theorem dX12_say_39 : decode cX12_say 39 = .ok (.aload_n 0, 1) := by decide +kernel
theorem dX12_say_40 : decode cX12_say 40 = .ok (.dup, 1) := by decide +kernel
theorem dX12_say_41 : decode cX12_say 41 = .ok (.getfield 133, 3) := by decide +kernel
theorem dX12_say_44 : decode cX12_say 44 = .ok (.iconst 1, 1) := by decide +kernel
theorem dX12_say_45 : decode cX12_say 45 = .ok (.iadd, 1) := by decide +kernel
theorem dX12_say_46 : decode cX12_say 46 = .ok (.putfield 133, 3) := by decide +kernel
theorem dX12_say_49 : decode cX12_say 49 = .ok (.aload_n 0, 1) := by decide +kernel
theorem dX12_say_50 : decode cX12_say 50 = .ok (.getfield 133, 3) := by decide +kernel
theorem dX12_say_53 : decode cX12_say 53 = .ok (.ireturn, 1) := by decide +kernel
theorem dX12_wipe_0 : decode cX12_wipe 0 = .ok (.aload_n 0, 1) := by decide +kernel
theorem dX12_wipe_1 : decode cX12_wipe 1 = .ok (.getfield 133, 3) := by decide +kernel
theorem dX12_wipe_4 : decode cX12_wipe 4 = .ok (.istore_n 1, 1) := by decide +kernel
theorem dX12_wipe_5 : decode cX12_wipe 5 = .ok (.aload_n 0, 1) := by decide +kernel
theorem dX12_wipe_6 : decode cX12_wipe 6 = .ok (.iconst 0, 1) := by decide +kernel
theorem dX12_wipe_7 : decode cX12_wipe 7 = .ok (.putfield 133, 3) := by decide +kernel
theorem dX12_wipe_10 : decode cX12_wipe 10 = .ok (.iload_n 1, 1) := by decide +kernel
theorem dX12_wipe_11 : decode cX12_wipe 11 = .ok (.ireturn, 1) := by decide +kernel
set_option maxRecDepth 20000 in
theorem ggX12_isOperand_X12_in : GoodIn wsX12_isOperand wsX12_in := goodIn_r _ [8] (by decide +kernel) (by decide +kernel)
set_option maxRecDepth 20000 in
theorem gX12_isOperand_X12_in : GoodIn wsX12_isOperand (va_wsS RX12 125 yX12_in wsX12_in) := goodIn_app (goodIn_of _ (by decide +kernel)) ggX12_isOperand_X12_in
theorem dX12_isOperand_0 : decode cX12_isOperand 0 = .ok (.iload_n 0, 1) := by decide +kernel
theorem dX12_isOperand_1 : decode cX12_isOperand 1 = .ok (.i2l, 1) := by decide +kernel
theorem dX12_isOperand_2 : decode cX12_isOperand 2 = .ok (.ldc2_w 136, 3) := by decide +kernel
theorem dX12_isOperand_5 : decode cX12_isOperand 5 = .ok (.ldc2_w 138, 3) := by decide +kernel
theorem dX12_isOperand_8 : decode cX12_isOperand 8 = .ok (.invokestatic 125, 3) := by decide +kernel
theorem dX12_isOperand_11 : decode cX12_isOperand 11 = .ok (.ifCond .ne 17, 3) := by decide +kernel
theorem dX12_isOperand_14 : decode cX12_isOperand 14 = .ok (.iload_n 0, 1) := by decide +kernel
theorem dX12_isOperand_15 : decode cX12_isOperand 15 = .ok (.i2l, 1) := by decide +kernel
theorem dX12_isOperand_16 : decode cX12_isOperand 16 = .ok (.ldc2_w 140, 3) := by decide +kernel
theorem dX12_isOperand_19 : decode cX12_isOperand 19 = .ok (.ldc2_w 142, 3) := by decide +kernel
theorem dX12_isOperand_22 : decode cX12_isOperand 22 = .ok (.invokestatic 125, 3) := by decide +kernel
theorem dX12_isOperand_25 : decode cX12_isOperand 25 = .ok (.ifCond .eq 7, 3) := by decide +kernel
theorem dX12_isOperand_28 : decode cX12_isOperand 28 = .ok (.iconst 1, 1) := by decide +kernel
theorem dX12_isOperand_29 : decode cX12_isOperand 29 = .ok (.goto 4, 3) := by decide +kernel
theorem dX12_isOperand_32 : decode cX12_isOperand 32 = .ok (.iconst 0, 1) := by decide +kernel
theorem dX12_isOperand_33 : decode cX12_isOperand 33 = .ok (.ireturn, 1) := by decide +kernel
theorem dX12_isAct_0 : decode cX12_isAct 0 = .ok (.iload_n 0, 1) := by decide +kernel
theorem dX12_isAct_1 : decode cX12_isAct 1 = .ok (.bipush 43, 2) := by decide +kernel
theorem dX12_isAct_3 : decode cX12_isAct 3 = .ok (.if_icmp .eq 21, 3) := by decide +kernel
theorem dX12_isAct_6 : decode cX12_isAct 6 = .ok (.iload_n 0, 1) := by decide +kernel
theorem dX12_isAct_7 : decode cX12_isAct 7 = .ok (.bipush 45, 2) := by decide +kernel
theorem dX12_isAct_9 : decode cX12_isAct 9 = .ok (.if_icmp .eq 15, 3) := by decide +kernel
theorem dX12_isAct_12 : decode cX12_isAct 12 = .ok (.iload_n 0, 1) := by decide +kernel
theorem dX12_isAct_13 : decode cX12_isAct 13 = .ok (.bipush 42, 2) := by decide +kernel
theorem dX12_isAct_15 : decode cX12_isAct 15 = .ok (.if_icmp .eq 9, 3) := by decide +kernel
theorem dX12_isAct_18 : decode cX12_isAct 18 = .ok (.iload_n 0, 1) := by decide +kernel
theorem dX12_isAct_19 : decode cX12_isAct 19 = .ok (.bipush 109, 2) := by decide +kernel
theorem dX12_isAct_21 : decode cX12_isAct 21 = .ok (.if_icmp .ne 7, 3) := by decide +kernel
theorem dX12_isAct_24 : decode cX12_isAct 24 = .ok (.iconst 1, 1) := by decide +kernel
theorem dX12_isAct_25 : decode cX12_isAct 25 = .ok (.goto 4, 3) := by decide +kernel
theorem dX12_isAct_28 : decode cX12_isAct 28 = .ok (.iconst 0, 1) := by decide +kernel
theorem dX12_isAct_29 : decode cX12_isAct 29 = .ok (.ireturn, 1) := by decide +kernel
set_option maxRecDepth 20000 in
theorem ggX12_stepOf_X12_in : GoodIn wsX12_stepOf wsX12_in := goodIn_r _ [9] (by decide +kernel) (by decide +kernel)
set_option maxRecDepth 20000 in
theorem gX12_stepOf_X12_in : GoodIn wsX12_stepOf (va_wsS RX12 125 yX12_in wsX12_in) := goodIn_app (goodIn_of _ (by decide +kernel)) ggX12_stepOf_X12_in
set_option maxRecDepth 20000 in
theorem ggX12_stepOf_X12_isOperand : GoodIn wsX12_stepOf wsX12_isOperand := goodIn_r _ [12, 1, 2, 13, 14, 6, 7, 8, 9] (by decide +kernel) (by decide +kernel)
set_option maxRecDepth 20000 in
theorem gX12_stepOf_X12_isOperand : GoodIn wsX12_stepOf (va_wsS RX12 144 yX12_isOperand wsX12_isOperand) := goodIn_app (goodIn_of _ (by decide +kernel)) ggX12_stepOf_X12_isOperand
set_option maxRecDepth 20000 in
theorem ggX12_stepOf_X12_isAct : GoodIn wsX12_stepOf wsX12_isAct := goodIn_r _ [17] (by decide +kernel) (by decide +kernel)
set_option maxRecDepth 20000 in
theorem gX12_stepOf_X12_isAct : GoodIn wsX12_stepOf (va_wsS RX12 148 yX12_isAct wsX12_isAct) := goodIn_app (goodIn_of _ (by decide +kernel)) ggX12_stepOf_X12_isAct
theorem dX12_stepOf_0 : decode cX12_stepOf 0 = .ok (.iload_n 1, 1) := by decide +kernel
theorem dX12_stepOf_1 : decode cX12_stepOf 1 = .ok (.tableswitch 125 0 6 #[43, 63, 75, 99, 112, 125, 43], 43) := by decide +kernel
theorem dX12_stepOf_44 : decode cX12_stepOf 44 = .ok (.iload_n 2, 1) := by decide +kernel
theorem dX12_stepOf_45 : decode cX12_stepOf 45 = .ok (.i2l, 1) := by decide +kernel
theorem dX12_stepOf_46 : decode cX12_stepOf 46 = .ok (.ldc2_w 136, 3) := by decide +kernel
theorem dX12_stepOf_49 : decode cX12_stepOf 49 = .ok (.ldc2_w 138, 3) := by decide +kernel
theorem dX12_stepOf_52 : decode cX12_stepOf 52 = .ok (.invokestatic 125, 3) := by decide +kernel
theorem dX12_stepOf_55 : decode cX12_stepOf 55 = .ok (.ifCond .eq 7, 3) := by decide +kernel
theorem dX12_stepOf_58 : decode cX12_stepOf 58 = .ok (.iconst 1, 1) := by decide +kernel
theorem dX12_stepOf_59 : decode cX12_stepOf 59 = .ok (.goto 4, 3) := by decide +kernel
theorem dX12_stepOf_62 : decode cX12_stepOf 62 = .ok (.iconst (-1), 1) := by decide +kernel
theorem dX12_stepOf_63 : decode cX12_stepOf 63 = .ok (.ireturn, 1) := by decide +kernel
theorem dX12_stepOf_64 : decode cX12_stepOf 64 = .ok (.iload_n 2, 1) := by decide +kernel
theorem dX12_stepOf_65 : decode cX12_stepOf 65 = .ok (.bipush 61, 2) := by decide +kernel
theorem dX12_stepOf_67 : decode cX12_stepOf 67 = .ok (.if_icmp .ne 7, 3) := by decide +kernel
theorem dX12_stepOf_70 : decode cX12_stepOf 70 = .ok (.iconst 2, 1) := by decide +kernel
theorem dX12_stepOf_71 : decode cX12_stepOf 71 = .ok (.goto 4, 3) := by decide +kernel
theorem dX12_stepOf_74 : decode cX12_stepOf 74 = .ok (.iconst (-1), 1) := by decide +kernel
theorem dX12_stepOf_75 : decode cX12_stepOf 75 = .ok (.ireturn, 1) := by decide +kernel
theorem dX12_stepOf_76 : decode cX12_stepOf 76 = .ok (.iload_n 2, 1) := by decide +kernel
theorem dX12_stepOf_77 : decode cX12_stepOf 77 = .ok (.invokestatic 144, 3) := by decide +kernel
theorem dX12_stepOf_80 : decode cX12_stepOf 80 = .ok (.ifCond .eq 7, 3) := by decide +kernel
theorem dX12_stepOf_83 : decode cX12_stepOf 83 = .ok (.iconst 5, 1) := by decide +kernel
theorem dX12_stepOf_84 : decode cX12_stepOf 84 = .ok (.goto 15, 3) := by decide +kernel
theorem dX12_stepOf_87 : decode cX12_stepOf 87 = .ok (.iload_n 2, 1) := by decide +kernel
theorem dX12_stepOf_88 : decode cX12_stepOf 88 = .ok (.invokestatic 148, 3) := by decide +kernel
theorem dX12_stepOf_91 : decode cX12_stepOf 91 = .ok (.ifCond .eq 7, 3) := by decide +kernel
theorem dX12_stepOf_94 : decode cX12_stepOf 94 = .ok (.iconst 3, 1) := by decide +kernel
theorem dX12_stepOf_95 : decode cX12_stepOf 95 = .ok (.goto 4, 3) := by decide +kernel
theorem dX12_stepOf_98 : decode cX12_stepOf 98 = .ok (.iconst (-1), 1) := by decide +kernel
theorem dX12_stepOf_99 : decode cX12_stepOf 99 = .ok (.ireturn, 1) := by decide +kernel
theorem dX12_stepOf_100 : decode cX12_stepOf 100 = .ok (.iload_n 2, 1) := by decide +kernel
theorem dX12_stepOf_101 : decode cX12_stepOf 101 = .ok (.invokestatic 144, 3) := by decide +kernel
theorem dX12_stepOf_104 : decode cX12_stepOf 104 = .ok (.ifCond .eq 7, 3) := by decide +kernel
theorem dX12_stepOf_107 : decode cX12_stepOf 107 = .ok (.iconst 4, 1) := by decide +kernel
theorem dX12_stepOf_108 : decode cX12_stepOf 108 = .ok (.goto 4, 3) := by decide +kernel
theorem dX12_stepOf_111 : decode cX12_stepOf 111 = .ok (.iconst (-1), 1) := by decide +kernel
theorem dX12_stepOf_112 : decode cX12_stepOf 112 = .ok (.ireturn, 1) := by decide +kernel
theorem dX12_stepOf_113 : decode cX12_stepOf 113 = .ok (.iload_n 2, 1) := by decide +kernel
theorem dX12_stepOf_114 : decode cX12_stepOf 114 = .ok (.invokestatic 144, 3) := by decide +kernel
theorem dX12_stepOf_117 : decode cX12_stepOf 117 = .ok (.ifCond .eq 7, 3) := by decide +kernel
theorem dX12_stepOf_120 : decode cX12_stepOf 120 = .ok (.iconst 5, 1) := by decide +kernel
theorem dX12_stepOf_121 : decode cX12_stepOf 121 = .ok (.goto 4, 3) := by decide +kernel
theorem dX12_stepOf_124 : decode cX12_stepOf 124 = .ok (.iconst (-1), 1) := by decide +kernel
theorem dX12_stepOf_125 : decode cX12_stepOf 125 = .ok (.ireturn, 1) := by decide +kernel
theorem dX12_stepOf_126 : decode cX12_stepOf 126 = .ok (.iload_n 2, 1) := by decide +kernel
theorem dX12_stepOf_127 : decode cX12_stepOf 127 = .ok (.bipush 59, 2) := by decide +kernel
theorem dX12_stepOf_129 : decode cX12_stepOf 129 = .ok (.if_icmp .ne 26, 3) := by decide +kernel
theorem dX12_stepOf_132 : decode cX12_stepOf 132 = .ok (.aload_n 0, 1) := by decide +kernel
theorem dX12_stepOf_133 : decode cX12_stepOf 133 = .ok (.getfield 151, 3) := by decide +kernel
theorem dX12_stepOf_136 : decode cX12_stepOf 136 = .ok (.aload_n 0, 1) := by decide +kernel
theorem dX12_stepOf_137 : decode cX12_stepOf 137 = .ok (.getfield 154, 3) := by decide +kernel
theorem dX12_stepOf_140 : decode cX12_stepOf 140 = .ok (.if_icmp .ge 15, 3) := by decide +kernel
theorem dX12_stepOf_143 : decode cX12_stepOf 143 = .ok (.aload_n 0, 1) := by decide +kernel
theorem dX12_stepOf_144 : decode cX12_stepOf 144 = .ok (.dup, 1) := by decide +kernel
theorem dX12_stepOf_145 : decode cX12_stepOf 145 = .ok (.getfield 151, 3) := by decide +kernel
theorem dX12_stepOf_148 : decode cX12_stepOf 148 = .ok (.iconst 1, 1) := by decide +kernel
theorem dX12_stepOf_149 : decode cX12_stepOf 149 = .ok (.iadd, 1) := by decide +kernel
theorem dX12_stepOf_150 : decode cX12_stepOf 150 = .ok (.putfield 151, 3) := by decide +kernel
theorem dX12_stepOf_153 : decode cX12_stepOf 153 = .ok (.iconst 0, 1) := by decide +kernel
theorem dX12_stepOf_154 : decode cX12_stepOf 154 = .ok (.ireturn, 1) := by decide +kernel
theorem dX12_stepOf_155 : decode cX12_stepOf 155 = .ok (.iload_n 2, 1) := by decide +kernel
theorem dX12_stepOf_156 : decode cX12_stepOf 156 = .ok (.bipush 62, 2) := by decide +kernel
theorem dX12_stepOf_158 : decode cX12_stepOf 158 = .ok (.if_icmp .ne 27, 3) := by decide +kernel
theorem dX12_stepOf_161 : decode cX12_stepOf 161 = .ok (.iload_n 3, 1) := by decide +kernel
theorem dX12_stepOf_162 : decode cX12_stepOf 162 = .ok (.ifCond .eq 23, 3) := by decide +kernel
theorem dX12_stepOf_165 : decode cX12_stepOf 165 = .ok (.aload_n 0, 1) := by decide +kernel
theorem dX12_stepOf_166 : decode cX12_stepOf 166 = .ok (.getfield 157, 3) := by decide +kernel
theorem dX12_stepOf_169 : decode cX12_stepOf 169 = .ok (.ifCond .ne 16, 3) := by decide +kernel
theorem dX12_stepOf_172 : decode cX12_stepOf 172 = .ok (.aload_n 0, 1) := by decide +kernel
theorem dX12_stepOf_173 : decode cX12_stepOf 173 = .ok (.iconst 1, 1) := by decide +kernel
theorem dX12_stepOf_174 : decode cX12_stepOf 174 = .ok (.putfield 157, 3) := by decide +kernel
theorem dX12_stepOf_177 : decode cX12_stepOf 177 = .ok (.aload_n 0, 1) := by decide +kernel
theorem dX12_stepOf_178 : decode cX12_stepOf 178 = .ok (.iconst 1, 1) := by decide +kernel
theorem dX12_stepOf_179 : decode cX12_stepOf 179 = .ok (.putfield 151, 3) := by decide +kernel
theorem dX12_stepOf_182 : decode cX12_stepOf 182 = .ok (.bipush 6, 2) := by decide +kernel
theorem dX12_stepOf_184 : decode cX12_stepOf 184 = .ok (.ireturn, 1) := by decide +kernel
theorem dX12_stepOf_185 : decode cX12_stepOf 185 = .ok (.iconst (-1), 1) := by decide +kernel
theorem dX12_stepOf_186 : decode cX12_stepOf 186 = .ok (.ireturn, 1) := by decide +kernel
theorem dX12_beginRead_0 : decode cX12_beginRead 0 = .ok (.aload_n 0, 1) := by decide +kernel
theorem dX12_beginRead_1 : decode cX12_beginRead 1 = .ok (.iconst 1, 1) := by decide +kernel
theorem dX12_beginRead_2 : decode cX12_beginRead 2 = .ok (.putfield 151, 3) := by decide +kernel
theorem dX12_beginRead_5 : decode cX12_beginRead 5 = .ok (.aload_n 0, 1) := by decide +kernel
theorem dX12_beginRead_6 : decode cX12_beginRead 6 = .ok (.iload_n 1, 1) := by decide +kernel
theorem dX12_beginRead_7 : decode cX12_beginRead 7 = .ok (.ifCond .eq 7, 3) := by decide +kernel
theorem dX12_beginRead_10 : decode cX12_beginRead 10 = .ok (.iconst 3, 1) := by decide +kernel
theorem dX12_beginRead_11 : decode cX12_beginRead 11 = .ok (.goto 5, 3) := by decide +kernel
theorem dX12_beginRead_14 : decode cX12_beginRead 14 = .ok (.bipush 12, 2) := by decide +kernel
theorem dX12_beginRead_16 : decode cX12_beginRead 16 = .ok (.putfield 154, 3) := by decide +kernel
theorem dX12_beginRead_19 : decode cX12_beginRead 19 = .ok (.aload_n 0, 1) := by decide +kernel
theorem dX12_beginRead_20 : decode cX12_beginRead 20 = .ok (.iconst 0, 1) := by decide +kernel
theorem dX12_beginRead_21 : decode cX12_beginRead 21 = .ok (.putfield 157, 3) := by decide +kernel
theorem dX12_beginRead_24 : decode cX12_beginRead 24 = .ok (.return_, 1) := by decide +kernel
set_option maxRecDepth 20000 in
theorem ggX12_faultOf_X12_beginRead : GoodIn wsX12_faultOf wsX12_beginRead := goodIn_r _ [8, 9, 10, 3, 28, 29, 30, 31, 32, 33, 34, 35, 36, 37, 38, 39, 40, 41, 42, 43, 44, 45, 46, 47, 48, 49, 50, 51, 52, 53, 54, 55, 56, 57, 58, 59, 60, 61, 62, 63, 64, 65, 66, 67, 68, 69, 70, 71, 72, 73, 74, 75] (by decide +kernel) (by decide +kernel)
set_option maxRecDepth 20000 in
theorem gX12_faultOf_X12_beginRead : GoodIn wsX12_faultOf (wsV RX12 161 RX12 yX12_beginRead wsX12_beginRead) := goodIn_app (goodIn_of _ (by decide +kernel)) ggX12_faultOf_X12_beginRead
set_option maxRecDepth 20000 in
theorem ggX12_faultOf_X12_stepOf : GoodIn wsX12_faultOf wsX12_stepOf := goodIn_r _ [14, 15, 16, 9, 10, 3, 17, 18, 7, 19, 20, 21, 22, 23, 24, 25, 26, 27, 28, 29, 30, 31, 32, 33, 34, 35, 36, 37, 38, 39, 40, 41, 42, 43, 44, 45, 46, 47, 48, 49, 50, 51, 52, 53, 54, 55, 56, 57, 58, 59, 60, 61, 62, 63, 64, 65, 66, 67, 68, 69, 70, 71, 72, 73, 74, 75] (by decide +kernel) (by decide +kernel)
set_option maxRecDepth 20000 in
theorem gX12_faultOf_X12_stepOf : GoodIn wsX12_faultOf (wsV RX12 165 RX12 yX12_stepOf wsX12_stepOf) := goodIn_app (goodIn_of _ (by decide +kernel)) ggX12_faultOf_X12_stepOf
theorem dX12_faultOf_0 : decode cX12_faultOf 0 = .ok (.aload_n 0, 1) := by decide +kernel
theorem dX12_faultOf_1 : decode cX12_faultOf 1 = .ok (.iload_n 1, 1) := by decide +kernel
theorem dX12_faultOf_2 : decode cX12_faultOf 2 = .ok (.invokevirtual 161, 3) := by decide +kernel
theorem dX12_faultOf_5 : decode cX12_faultOf 5 = .ok (.iconst 0, 1) := by decide +kernel
theorem dX12_faultOf_6 : decode cX12_faultOf 6 = .ok (.istore_n 2, 1) := by decide +kernel
theorem dX12_faultOf_7 : decode cX12_faultOf 7 = .ok (.iconst 0, 1) := by decide +kernel
theorem dX12_faultOf_8 : decode cX12_faultOf 8 = .ok (.istore_n 3, 1) := by decide +kernel
theorem dX12_faultOf_9 : decode cX12_faultOf 9 = .ok (.iload_n 3, 1) := by decide +kernel
theorem dX12_faultOf_10 : decode cX12_faultOf 10 = .ok (.aload_n 0, 1) := by decide +kernel
theorem dX12_faultOf_11 : decode cX12_faultOf 11 = .ok (.getfield 133, 3) := by decide +kernel
theorem dX12_faultOf_14 : decode cX12_faultOf 14 = .ok (.if_icmp .ge 28, 3) := by decide +kernel
theorem dX12_faultOf_17 : decode cX12_faultOf 17 = .ok (.aload_n 0, 1) := by decide +kernel
theorem dX12_faultOf_18 : decode cX12_faultOf 18 = .ok (.iload_n 2, 1) := by decide +kernel
theorem dX12_faultOf_19 : decode cX12_faultOf 19 = .ok (.aload_n 0, 1) := by decide +kernel
theorem dX12_faultOf_20 : decode cX12_faultOf 20 = .ok (.getfield 7, 3) := by decide +kernel
theorem dX12_faultOf_23 : decode cX12_faultOf 23 = .ok (.iload_n 3, 1) := by decide +kernel
theorem dX12_faultOf_24 : decode cX12_faultOf 24 = .ok (.iaload, 1) := by decide +kernel
theorem dX12_faultOf_25 : decode cX12_faultOf 25 = .ok (.iload_n 1, 1) := by decide +kernel
theorem dX12_faultOf_26 : decode cX12_faultOf 26 = .ok (.invokevirtual 165, 3) := by decide +kernel
theorem dX12_faultOf_29 : decode cX12_faultOf 29 = .ok (.istore_n 2, 1) := by decide +kernel
theorem dX12_faultOf_30 : decode cX12_faultOf 30 = .ok (.iload_n 2, 1) := by decide +kernel
theorem dX12_faultOf_31 : decode cX12_faultOf 31 = .ok (.ifCond .ge 5, 3) := by decide +kernel
theorem dX12_faultOf_34 : decode cX12_faultOf 34 = .ok (.iload_n 3, 1) := by decide +kernel
theorem dX12_faultOf_35 : decode cX12_faultOf 35 = .ok (.ireturn, 1) := by decide +kernel
theorem dX12_faultOf_36 : decode cX12_faultOf 36 = .ok (.iinc 3 1, 3) := by decide +kernel
theorem dX12_faultOf_39 : decode cX12_faultOf 39 = .ok (.goto (-30), 3) := by decide +kernel
theorem dX12_faultOf_42 : decode cX12_faultOf 42 = .ok (.iload_n 1, 1) := by decide +kernel
theorem dX12_faultOf_43 : decode cX12_faultOf 43 = .ok (.ifCond .eq 29, 3) := by decide +kernel
theorem dX12_faultOf_46 : decode cX12_faultOf 46 = .ok (.aload_n 0, 1) := by decide +kernel
theorem dX12_faultOf_47 : decode cX12_faultOf 47 = .ok (.getfield 157, 3) := by decide +kernel
theorem dX12_faultOf_50 : decode cX12_faultOf 50 = .ok (.ifCond .eq 18, 3) := by decide +kernel
theorem dX12_faultOf_53 : decode cX12_faultOf 53 = .ok (.iload_n 2, 1) := by decide +kernel
theorem dX12_faultOf_54 : decode cX12_faultOf 54 = .ok (.iconst 5, 1) := by decide +kernel
theorem dX12_faultOf_55 : decode cX12_faultOf 55 = .ok (.if_icmp .eq 9, 3) := by decide +kernel
theorem dX12_faultOf_58 : decode cX12_faultOf 58 = .ok (.iload_n 2, 1) := by decide +kernel
theorem dX12_faultOf_59 : decode cX12_faultOf 59 = .ok (.bipush 6, 2) := by decide +kernel
theorem dX12_faultOf_61 : decode cX12_faultOf 61 = .ok (.if_icmp .ne 7, 3) := by decide +kernel
theorem dX12_faultOf_64 : decode cX12_faultOf 64 = .ok (.iconst 1, 1) := by decide +kernel
theorem dX12_faultOf_65 : decode cX12_faultOf 65 = .ok (.goto 17, 3) := by decide +kernel
theorem dX12_faultOf_68 : decode cX12_faultOf 68 = .ok (.iconst 0, 1) := by decide +kernel
theorem dX12_faultOf_69 : decode cX12_faultOf 69 = .ok (.goto 13, 3) := by decide +kernel
theorem dX12_faultOf_72 : decode cX12_faultOf 72 = .ok (.iload_n 2, 1) := by decide +kernel
theorem dX12_faultOf_73 : decode cX12_faultOf 73 = .ok (.iconst 5, 1) := by decide +kernel
theorem dX12_faultOf_74 : decode cX12_faultOf 74 = .ok (.if_icmp .ne 7, 3) := by decide +kernel
theorem dX12_faultOf_77 : decode cX12_faultOf 77 = .ok (.iconst 1, 1) := by decide +kernel
theorem dX12_faultOf_78 : decode cX12_faultOf 78 = .ok (.goto 4, 3) := by decide +kernel
theorem dX12_faultOf_81 : decode cX12_faultOf 81 = .ok (.iconst 0, 1) := by decide +kernel
theorem dX12_faultOf_82 : decode cX12_faultOf 82 = .ok (.istore_n 3, 1) := by decide +kernel
theorem dX12_faultOf_83 : decode cX12_faultOf 83 = .ok (.iload_n 3, 1) := by decide +kernel
theorem dX12_faultOf_84 : decode cX12_faultOf 84 = .ok (.ifCond .eq 8, 3) := by decide +kernel
theorem dX12_faultOf_87 : decode cX12_faultOf 87 = .ok (.bipush (-6), 2) := by decide +kernel
theorem dX12_faultOf_89 : decode cX12_faultOf 89 = .ok (.goto 7, 3) := by decide +kernel
theorem dX12_faultOf_92 : decode cX12_faultOf 92 = .ok (.aload_n 0, 1) := by decide +kernel
theorem dX12_faultOf_93 : decode cX12_faultOf 93 = .ok (.getfield 133, 3) := by decide +kernel
theorem dX12_faultOf_96 : decode cX12_faultOf 96 = .ok (.ireturn, 1) := by decide +kernel
set_option maxRecDepth 20000 in
theorem ggX12_fault_X12_in : GoodIn wsX12_fault wsX12_in := goodIn_r _ [4] (by decide +kernel) (by decide +kernel)
set_option maxRecDepth 20000 in
theorem gX12_fault_X12_in : GoodIn wsX12_fault (va_wsS RX12 125 yX12_in wsX12_in) := goodIn_app (goodIn_of _ (by decide +kernel)) ggX12_fault_X12_in
set_option maxRecDepth 20000 in
theorem ggX12_fault_X12_faultOf : GoodIn wsX12_fault wsX12_faultOf := goodIn_r _ [8, 9, 10, 11, 12, 13, 14, 3, 15, 16, 17, 18, 19, 20, 21, 22, 23, 1, 2, 4, 24, 25, 26, 27, 28, 29, 30, 31, 32, 33, 34, 35, 36, 37, 38, 39, 40, 41, 42, 43, 44, 45, 46, 47, 48, 49, 50, 51, 52, 53, 54, 55, 56, 57, 58, 59, 60, 61, 62, 63, 64, 65, 66, 67, 68, 69, 70, 71, 72, 73, 74, 75, 76, 77, 78, 79] (by decide +kernel) (by decide +kernel)
set_option maxRecDepth 20000 in
theorem gX12_fault_X12_faultOf : GoodIn wsX12_fault (wsV RX12 169 RX12 yX12_faultOf wsX12_faultOf) := goodIn_app (goodIn_of _ (by decide +kernel)) ggX12_fault_X12_faultOf
theorem dX12_fault_0 : decode cX12_fault 0 = .ok (.iload_n 1, 1) := by decide +kernel
theorem dX12_fault_1 : decode cX12_fault 1 = .ok (.i2l, 1) := by decide +kernel
theorem dX12_fault_2 : decode cX12_fault 2 = .ok (.lconst 0, 1) := by decide +kernel
theorem dX12_fault_3 : decode cX12_fault 3 = .ok (.lconst 1, 1) := by decide +kernel
theorem dX12_fault_4 : decode cX12_fault 4 = .ok (.invokestatic 125, 3) := by decide +kernel
theorem dX12_fault_7 : decode cX12_fault 7 = .ok (.ifCond .eq 20, 3) := by decide +kernel
theorem dX12_fault_10 : decode cX12_fault 10 = .ok (.aload_n 0, 1) := by decide +kernel
theorem dX12_fault_11 : decode cX12_fault 11 = .ok (.iload_n 1, 1) := by decide +kernel
theorem dX12_fault_12 : decode cX12_fault 12 = .ok (.iconst 1, 1) := by decide +kernel
theorem dX12_fault_13 : decode cX12_fault 13 = .ok (.if_icmp .ne 7, 3) := by decide +kernel
theorem dX12_fault_16 : decode cX12_fault 16 = .ok (.iconst 1, 1) := by decide +kernel
theorem dX12_fault_17 : decode cX12_fault 17 = .ok (.goto 4, 3) := by decide +kernel
theorem dX12_fault_20 : decode cX12_fault 20 = .ok (.iconst 0, 1) := by decide +kernel
theorem dX12_fault_21 : decode cX12_fault 21 = .ok (.invokevirtual 169, 3) := by decide +kernel
theorem dX12_fault_24 : decode cX12_fault 24 = .ok (.goto 5, 3) := by decide +kernel
theorem dX12_fault_27 : decode cX12_fault 27 = .ok (.bipush (-2), 2) := by decide +kernel
theorem dX12_fault_29 : decode cX12_fault 29 = .ok (.ireturn, 1) := by decide +kernel
set_option maxRecDepth 20000 in
theorem ggX12_operandOf_X12_in : GoodIn wsX12_operandOf wsX12_in := goodIn_r _ [6] (by decide +kernel) (by decide +kernel)
set_option maxRecDepth 20000 in
theorem gX12_operandOf_X12_in : GoodIn wsX12_operandOf (va_wsS RX12 125 yX12_in wsX12_in) := goodIn_app (goodIn_of _ (by decide +kernel)) ggX12_operandOf_X12_in
theorem dX12_operandOf_0 : decode cX12_operandOf 0 = .ok (.iload_n 0, 1) := by decide +kernel
theorem dX12_operandOf_1 : decode cX12_operandOf 1 = .ok (.i2l, 1) := by decide +kernel
theorem dX12_operandOf_2 : decode cX12_operandOf 2 = .ok (.ldc2_w 136, 3) := by decide +kernel
theorem dX12_operandOf_5 : decode cX12_operandOf 5 = .ok (.ldc2_w 138, 3) := by decide +kernel
theorem dX12_operandOf_8 : decode cX12_operandOf 8 = .ok (.invokestatic 125, 3) := by decide +kernel
theorem dX12_operandOf_11 : decode cX12_operandOf 11 = .ok (.ifCond .eq 10, 3) := by decide +kernel
theorem dX12_operandOf_14 : decode cX12_operandOf 14 = .ok (.iload_n 0, 1) := by decide +kernel
theorem dX12_operandOf_15 : decode cX12_operandOf 15 = .ok (.bipush 97, 2) := by decide +kernel
theorem dX12_operandOf_17 : decode cX12_operandOf 17 = .ok (.isub, 1) := by decide +kernel
theorem dX12_operandOf_18 : decode cX12_operandOf 18 = .ok (.goto 10, 3) := by decide +kernel
theorem dX12_operandOf_21 : decode cX12_operandOf 21 = .ok (.bipush 10, 2) := by decide +kernel
theorem dX12_operandOf_23 : decode cX12_operandOf 23 = .ok (.iload_n 0, 1) := by decide +kernel
theorem dX12_operandOf_24 : decode cX12_operandOf 24 = .ok (.iadd, 1) := by decide +kernel
theorem dX12_operandOf_25 : decode cX12_operandOf 25 = .ok (.bipush 48, 2) := by decide +kernel
theorem dX12_operandOf_27 : decode cX12_operandOf 27 = .ok (.isub, 1) := by decide +kernel
theorem dX12_operandOf_28 : decode cX12_operandOf 28 = .ok (.ireturn, 1) := by decide +kernel
set_option maxRecDepth 20000 in
theorem ggX12_readSteps_X12_isAct : GoodIn wsX12_readSteps wsX12_isAct := goodIn_r _ [6] (by decide +kernel) (by decide +kernel)
set_option maxRecDepth 20000 in
theorem gX12_readSteps_X12_isAct : GoodIn wsX12_readSteps (va_wsS RX12 148 yX12_isAct wsX12_isAct) := goodIn_app (goodIn_of _ (by decide +kernel)) ggX12_readSteps_X12_isAct
set_option maxRecDepth 20000 in
theorem ggX12_readSteps_X12_operandOf : GoodIn wsX12_readSteps wsX12_operandOf := goodIn_r _ [9, 10, 11, 12, 13, 5, 14] (by decide +kernel) (by decide +kernel)
set_option maxRecDepth 20000 in
theorem gX12_readSteps_X12_operandOf : GoodIn wsX12_readSteps (va_wsS RX12 173 yX12_operandOf wsX12_operandOf) := goodIn_app (goodIn_of _ (by decide +kernel)) ggX12_readSteps_X12_operandOf
theorem dX12_readSteps_0 : decode cX12_readSteps 0 = .ok (.iconst 0, 1) := by decide +kernel
theorem dX12_readSteps_1 : decode cX12_readSteps 1 = .ok (.istore_n 3, 1) := by decide +kernel
theorem dX12_readSteps_2 : decode cX12_readSteps 2 = .ok (.iload_n 1, 1) := by decide +kernel
theorem dX12_readSteps_3 : decode cX12_readSteps 3 = .ok (.istore 4, 2) := by decide +kernel
theorem dX12_readSteps_5 : decode cX12_readSteps 5 = .ok (.iload 4, 2) := by decide +kernel
theorem dX12_readSteps_7 : decode cX12_readSteps 7 = .ok (.iload_n 2, 1) := by decide +kernel
theorem dX12_readSteps_8 : decode cX12_readSteps 8 = .ok (.if_icmp .ge 152, 3) := by decide +kernel
theorem dX12_readSteps_11 : decode cX12_readSteps 11 = .ok (.aload_n 0, 1) := by decide +kernel
theorem dX12_readSteps_12 : decode cX12_readSteps 12 = .ok (.getfield 31, 3) := by decide +kernel
theorem dX12_readSteps_15 : decode cX12_readSteps 15 = .ok (.iconst 4, 1) := by decide +kernel
theorem dX12_readSteps_16 : decode cX12_readSteps 16 = .ok (.iload_n 3, 1) := by decide +kernel
theorem dX12_readSteps_17 : decode cX12_readSteps 17 = .ok (.imul, 1) := by decide +kernel
theorem dX12_readSteps_18 : decode cX12_readSteps 18 = .ok (.aload_n 0, 1) := by decide +kernel
theorem dX12_readSteps_19 : decode cX12_readSteps 19 = .ok (.getfield 7, 3) := by decide +kernel
theorem dX12_readSteps_22 : decode cX12_readSteps 22 = .ok (.iload 4, 2) := by decide +kernel
theorem dX12_readSteps_24 : decode cX12_readSteps 24 = .ok (.iaload, 1) := by decide +kernel
theorem dX12_readSteps_25 : decode cX12_readSteps 25 = .ok (.bipush 97, 2) := by decide +kernel
theorem dX12_readSteps_27 : decode cX12_readSteps 27 = .ok (.isub, 1) := by decide +kernel
theorem dX12_readSteps_28 : decode cX12_readSteps 28 = .ok (.iastore, 1) := by decide +kernel
theorem dX12_readSteps_29 : decode cX12_readSteps 29 = .ok (.aload_n 0, 1) := by decide +kernel
theorem dX12_readSteps_30 : decode cX12_readSteps 30 = .ok (.getfield 7, 3) := by decide +kernel
theorem dX12_readSteps_33 : decode cX12_readSteps 33 = .ok (.iload 4, 2) := by decide +kernel
theorem dX12_readSteps_35 : decode cX12_readSteps 35 = .ok (.iconst 2, 1) := by decide +kernel
theorem dX12_readSteps_36 : decode cX12_readSteps 36 = .ok (.iadd, 1) := by decide +kernel
theorem dX12_readSteps_37 : decode cX12_readSteps 37 = .ok (.iaload, 1) := by decide +kernel
theorem dX12_readSteps_38 : decode cX12_readSteps 38 = .ok (.invokestatic 148, 3) := by decide +kernel
theorem dX12_readSteps_41 : decode cX12_readSteps 41 = .ok (.istore 5, 2) := by decide +kernel
theorem dX12_readSteps_43 : decode cX12_readSteps 43 = .ok (.aload_n 0, 1) := by decide +kernel
theorem dX12_readSteps_44 : decode cX12_readSteps 44 = .ok (.getfield 31, 3) := by decide +kernel
theorem dX12_readSteps_47 : decode cX12_readSteps 47 = .ok (.iconst 4, 1) := by decide +kernel
theorem dX12_readSteps_48 : decode cX12_readSteps 48 = .ok (.iload_n 3, 1) := by decide +kernel
theorem dX12_readSteps_49 : decode cX12_readSteps 49 = .ok (.imul, 1) := by decide +kernel
theorem dX12_readSteps_50 : decode cX12_readSteps 50 = .ok (.iconst 1, 1) := by decide +kernel
theorem dX12_readSteps_51 : decode cX12_readSteps 51 = .ok (.iadd, 1) := by decide +kernel
theorem dX12_readSteps_52 : decode cX12_readSteps 52 = .ok (.iload 5, 2) := by decide +kernel
theorem dX12_readSteps_54 : decode cX12_readSteps 54 = .ok (.ifCond .eq 15, 3) := by decide +kernel
theorem dX12_readSteps_57 : decode cX12_readSteps 57 = .ok (.aload_n 0, 1) := by decide +kernel
theorem dX12_readSteps_58 : decode cX12_readSteps 58 = .ok (.getfield 7, 3) := by decide +kernel
theorem dX12_readSteps_61 : decode cX12_readSteps 61 = .ok (.iload 4, 2) := by decide +kernel
theorem dX12_readSteps_63 : decode cX12_readSteps 63 = .ok (.iconst 2, 1) := by decide +kernel
theorem dX12_readSteps_64 : decode cX12_readSteps 64 = .ok (.iadd, 1) := by decide +kernel
theorem dX12_readSteps_65 : decode cX12_readSteps 65 = .ok (.iaload, 1) := by decide +kernel
theorem dX12_readSteps_66 : decode cX12_readSteps 66 = .ok (.goto 5, 3) := by decide +kernel
theorem dX12_readSteps_69 : decode cX12_readSteps 69 = .ok (.bipush (-6), 2) := by decide +kernel
theorem dX12_readSteps_71 : decode cX12_readSteps 71 = .ok (.iastore, 1) := by decide +kernel
theorem dX12_readSteps_72 : decode cX12_readSteps 72 = .ok (.aload_n 0, 1) := by decide +kernel
theorem dX12_readSteps_73 : decode cX12_readSteps 73 = .ok (.getfield 31, 3) := by decide +kernel
theorem dX12_readSteps_76 : decode cX12_readSteps 76 = .ok (.iconst 4, 1) := by decide +kernel
theorem dX12_readSteps_77 : decode cX12_readSteps 77 = .ok (.iload_n 3, 1) := by decide +kernel
theorem dX12_readSteps_78 : decode cX12_readSteps 78 = .ok (.imul, 1) := by decide +kernel
theorem dX12_readSteps_79 : decode cX12_readSteps 79 = .ok (.iconst 2, 1) := by decide +kernel
theorem dX12_readSteps_80 : decode cX12_readSteps 80 = .ok (.iadd, 1) := by decide +kernel
theorem dX12_readSteps_81 : decode cX12_readSteps 81 = .ok (.aload_n 0, 1) := by decide +kernel
theorem dX12_readSteps_82 : decode cX12_readSteps 82 = .ok (.getfield 7, 3) := by decide +kernel
theorem dX12_readSteps_85 : decode cX12_readSteps 85 = .ok (.iload 5, 2) := by decide +kernel
theorem dX12_readSteps_87 : decode cX12_readSteps 87 = .ok (.ifCond .eq 10, 3) := by decide +kernel
theorem dX12_readSteps_90 : decode cX12_readSteps 90 = .ok (.iload 4, 2) := by decide +kernel
theorem dX12_readSteps_92 : decode cX12_readSteps 92 = .ok (.iconst 3, 1) := by decide +kernel
theorem dX12_readSteps_93 : decode cX12_readSteps 93 = .ok (.iadd, 1) := by decide +kernel
theorem dX12_readSteps_94 : decode cX12_readSteps 94 = .ok (.goto 7, 3) := by decide +kernel
theorem dX12_readSteps_97 : decode cX12_readSteps 97 = .ok (.iload 4, 2) := by decide +kernel
theorem dX12_readSteps_99 : decode cX12_readSteps 99 = .ok (.iconst 2, 1) := by decide +kernel
theorem dX12_readSteps_100 : decode cX12_readSteps 100 = .ok (.iadd, 1) := by decide +kernel
theorem dX12_readSteps_101 : decode cX12_readSteps 101 = .ok (.iaload, 1) := by decide +kernel
theorem dX12_readSteps_102 : decode cX12_readSteps 102 = .ok (.invokestatic 173, 3) := by decide +kernel
theorem dX12_readSteps_105 : decode cX12_readSteps 105 = .ok (.iastore, 1) := by decide +kernel
theorem dX12_readSteps_106 : decode cX12_readSteps 106 = .ok (.aload_n 0, 1) := by decide +kernel
theorem dX12_readSteps_107 : decode cX12_readSteps 107 = .ok (.getfield 31, 3) := by decide +kernel
theorem dX12_readSteps_110 : decode cX12_readSteps 110 = .ok (.iconst 4, 1) := by decide +kernel
theorem dX12_readSteps_111 : decode cX12_readSteps 111 = .ok (.iload_n 3, 1) := by decide +kernel
theorem dX12_readSteps_112 : decode cX12_readSteps 112 = .ok (.imul, 1) := by decide +kernel
theorem dX12_readSteps_113 : decode cX12_readSteps 113 = .ok (.iconst 3, 1) := by decide +kernel
theorem dX12_readSteps_114 : decode cX12_readSteps 114 = .ok (.iadd, 1) := by decide +kernel
theorem dX12_readSteps_115 : decode cX12_readSteps 115 = .ok (.iload 5, 2) := by decide +kernel
theorem dX12_readSteps_117 : decode cX12_readSteps 117 = .ok (.ifCond .eq 18, 3) := by decide +kernel
theorem dX12_readSteps_120 : decode cX12_readSteps 120 = .ok (.aload_n 0, 1) := by decide +kernel
theorem dX12_readSteps_121 : decode cX12_readSteps 121 = .ok (.getfield 7, 3) := by decide +kernel
theorem dX12_readSteps_124 : decode cX12_readSteps 124 = .ok (.iload 4, 2) := by decide +kernel
theorem dX12_readSteps_126 : decode cX12_readSteps 126 = .ok (.iconst 4, 1) := by decide +kernel
theorem dX12_readSteps_127 : decode cX12_readSteps 127 = .ok (.iadd, 1) := by decide +kernel
theorem dX12_readSteps_128 : decode cX12_readSteps 128 = .ok (.iaload, 1) := by decide +kernel
theorem dX12_readSteps_129 : decode cX12_readSteps 129 = .ok (.invokestatic 173, 3) := by decide +kernel
theorem dX12_readSteps_132 : decode cX12_readSteps 132 = .ok (.goto 5, 3) := by decide +kernel
theorem dX12_readSteps_135 : decode cX12_readSteps 135 = .ok (.bipush (-6), 2) := by decide +kernel
theorem dX12_readSteps_137 : decode cX12_readSteps 137 = .ok (.iastore, 1) := by decide +kernel
theorem dX12_readSteps_138 : decode cX12_readSteps 138 = .ok (.iload 4, 2) := by decide +kernel
theorem dX12_readSteps_140 : decode cX12_readSteps 140 = .ok (.iload 5, 2) := by decide +kernel
theorem dX12_readSteps_142 : decode cX12_readSteps 142 = .ok (.ifCond .eq 8, 3) := by decide +kernel
theorem dX12_readSteps_145 : decode cX12_readSteps 145 = .ok (.bipush 6, 2) := by decide +kernel
theorem dX12_readSteps_147 : decode cX12_readSteps 147 = .ok (.goto 4, 3) := by decide +kernel
theorem dX12_readSteps_150 : decode cX12_readSteps 150 = .ok (.iconst 4, 1) := by decide +kernel
theorem dX12_readSteps_151 : decode cX12_readSteps 151 = .ok (.iadd, 1) := by decide +kernel
theorem dX12_readSteps_152 : decode cX12_readSteps 152 = .ok (.istore 4, 2) := by decide +kernel
theorem dX12_readSteps_154 : decode cX12_readSteps 154 = .ok (.iinc 3 1, 3) := by decide +kernel
theorem dX12_readSteps_157 : decode cX12_readSteps 157 = .ok (.goto (-152), 3) := by decide +kernel
theorem dX12_readSteps_160 : decode cX12_readSteps 160 = .ok (.iload_n 3, 1) := by decide +kernel
theorem dX12_readSteps_161 : decode cX12_readSteps 161 = .ok (.ireturn, 1) := by decide +kernel
set_option maxRecDepth 20000 in
theorem ggX12_code_X12_faultOf : GoodIn wsX12_code wsX12_faultOf := goodIn_r _ [12, 1, 13, 14, 15, 16, 17, 11, 18, 19, 20, 21, 22, 23, 24, 25, 26, 27, 28, 29, 30, 31, 32, 33, 34, 35, 36, 37, 45, 46, 47, 48, 49, 50, 51, 52, 53, 54, 55, 56, 57, 58, 59, 60, 61, 62, 63, 64, 65, 66, 67, 68, 69, 70, 71, 72, 73, 74, 75, 76, 77, 78, 79, 80, 81, 82, 83, 84, 85, 86, 87, 88, 89, 90, 91, 92] (by decide +kernel) (by decide +kernel)
set_option maxRecDepth 20000 in
theorem gX12_code_X12_faultOf : GoodIn wsX12_code (wsV RX12 169 RX12 yX12_faultOf wsX12_faultOf) := goodIn_app (goodIn_of _ (by decide +kernel)) ggX12_code_X12_faultOf
set_option maxRecDepth 20000 in
theorem ggX12_code_X12_readSteps : GoodIn wsX12_code wsX12_readSteps := goodIn_r _ [41, 4, 13, 35, 36, 11, 37, 42, 43, 44, 25, 26, 27, 28, 29, 45, 46, 47, 48, 49, 50, 51, 52, 53, 54, 55, 56, 57, 58, 59, 60, 61, 62, 63, 64, 65, 66, 67, 68, 69, 70, 71, 72, 73, 74, 75, 76, 77, 78, 79, 80, 81, 82, 83, 84, 85, 86, 87, 88, 89, 90, 91, 92] (by decide +kernel) (by decide +kernel)
set_option maxRecDepth 20000 in
theorem gX12_code_X12_readSteps : GoodIn wsX12_code (wsV RX12 177 RX12 yX12_readSteps wsX12_readSteps) := goodIn_app (goodIn_of _ (by decide +kernel)) ggX12_code_X12_readSteps
theorem dX12_code_0 : decode cX12_code 0 = .ok (.aload_n 0, 1) := by decide +kernel
theorem dX12_code_1 : decode cX12_code 1 = .ok (.iconst 0, 1) := by decide +kernel
theorem dX12_code_2 : decode cX12_code 2 = .ok (.invokevirtual 169, 3) := by decide +kernel
theorem dX12_code_5 : decode cX12_code 5 = .ok (.ifCond .lt 6, 3) := by decide +kernel
theorem dX12_code_8 : decode cX12_code 8 = .ok (.bipush (-5), 2) := by decide +kernel
theorem dX12_code_10 : decode cX12_code 10 = .ok (.ireturn, 1) := by decide +kernel
theorem dX12_code_11 : decode cX12_code 11 = .ok (.aload_n 0, 1) := by decide +kernel
theorem dX12_code_12 : decode cX12_code 12 = .ok (.aload_n 0, 1) := by decide +kernel
theorem dX12_code_13 : decode cX12_code 13 = .ok (.iconst 0, 1) := by decide +kernel
theorem dX12_code_14 : decode cX12_code 14 = .ok (.aload_n 0, 1) := by decide +kernel
theorem dX12_code_15 : decode cX12_code 15 = .ok (.getfield 133, 3) := by decide +kernel
theorem dX12_code_18 : decode cX12_code 18 = .ok (.invokevirtual 177, 3) := by decide +kernel
theorem dX12_code_21 : decode cX12_code 21 = .ok (.putfield 181, 3) := by decide +kernel
theorem dX12_code_24 : decode cX12_code 24 = .ok (.iconst 0, 1) := by decide +kernel
theorem dX12_code_25 : decode cX12_code 25 = .ok (.istore_n 1, 1) := by decide +kernel
theorem dX12_code_26 : decode cX12_code 26 = .ok (.iload_n 1, 1) := by decide +kernel
theorem dX12_code_27 : decode cX12_code 27 = .ok (.aload_n 0, 1) := by decide +kernel
theorem dX12_code_28 : decode cX12_code 28 = .ok (.getfield 181, 3) := by decide +kernel
theorem dX12_code_31 : decode cX12_code 31 = .ok (.if_icmp .ge 71, 3) := by decide +kernel
theorem dX12_code_34 : decode cX12_code 34 = .ok (.aload_n 0, 1) := by decide +kernel
theorem dX12_code_35 : decode cX12_code 35 = .ok (.getfield 13, 3) := by decide +kernel
theorem dX12_code_38 : decode cX12_code 38 = .ok (.iload_n 1, 1) := by decide +kernel
theorem dX12_code_39 : decode cX12_code 39 = .ok (.aload_n 0, 1) := by decide +kernel
theorem dX12_code_40 : decode cX12_code 40 = .ok (.getfield 31, 3) := by decide +kernel
theorem dX12_code_43 : decode cX12_code 43 = .ok (.iconst 4, 1) := by decide +kernel
theorem dX12_code_44 : decode cX12_code 44 = .ok (.iload_n 1, 1) := by decide +kernel
theorem dX12_code_45 : decode cX12_code 45 = .ok (.imul, 1) := by decide +kernel
theorem dX12_code_46 : decode cX12_code 46 = .ok (.iaload, 1) := by decide +kernel
theorem dX12_code_47 : decode cX12_code 47 = .ok (.iastore, 1) := by decide +kernel
theorem dX12_code_48 : decode cX12_code 48 = .ok (.aload_n 0, 1) := by decide +kernel
theorem dX12_code_49 : decode cX12_code 49 = .ok (.getfield 16, 3) := by decide +kernel
theorem dX12_code_52 : decode cX12_code 52 = .ok (.iload_n 1, 1) := by decide +kernel
theorem dX12_code_53 : decode cX12_code 53 = .ok (.aload_n 0, 1) := by decide +kernel
theorem dX12_code_54 : decode cX12_code 54 = .ok (.getfield 31, 3) := by decide +kernel
theorem dX12_code_57 : decode cX12_code 57 = .ok (.iconst 4, 1) := by decide +kernel
theorem dX12_code_58 : decode cX12_code 58 = .ok (.iload_n 1, 1) := by decide +kernel
theorem dX12_code_59 : decode cX12_code 59 = .ok (.imul, 1) := by decide +kernel
theorem dX12_code_60 : decode cX12_code 60 = .ok (.iconst 1, 1) := by decide +kernel
theorem dX12_code_61 : decode cX12_code 61 = .ok (.iadd, 1) := by decide +kernel
theorem dX12_code_62 : decode cX12_code 62 = .ok (.iaload, 1) := by decide +kernel
theorem dX12_code_63 : decode cX12_code 63 = .ok (.iastore, 1) := by decide +kernel
theorem dX12_code_64 : decode cX12_code 64 = .ok (.aload_n 0, 1) := by decide +kernel
theorem dX12_code_65 : decode cX12_code 65 = .ok (.getfield 19, 3) := by decide +kernel
theorem dX12_code_68 : decode cX12_code 68 = .ok (.iload_n 1, 1) := by decide +kernel
theorem dX12_code_69 : decode cX12_code 69 = .ok (.aload_n 0, 1) := by decide +kernel
theorem dX12_code_70 : decode cX12_code 70 = .ok (.getfield 31, 3) := by decide +kernel
theorem dX12_code_73 : decode cX12_code 73 = .ok (.iconst 4, 1) := by decide +kernel
theorem dX12_code_74 : decode cX12_code 74 = .ok (.iload_n 1, 1) := by decide +kernel
theorem dX12_code_75 : decode cX12_code 75 = .ok (.imul, 1) := by decide +kernel
theorem dX12_code_76 : decode cX12_code 76 = .ok (.iconst 2, 1) := by decide +kernel
theorem dX12_code_77 : decode cX12_code 77 = .ok (.iadd, 1) := by decide +kernel
theorem dX12_code_78 : decode cX12_code 78 = .ok (.iaload, 1) := by decide +kernel
theorem dX12_code_79 : decode cX12_code 79 = .ok (.iastore, 1) := by decide +kernel
theorem dX12_code_80 : decode cX12_code 80 = .ok (.aload_n 0, 1) := by decide +kernel
theorem dX12_code_81 : decode cX12_code 81 = .ok (.getfield 22, 3) := by decide +kernel
theorem dX12_code_84 : decode cX12_code 84 = .ok (.iload_n 1, 1) := by decide +kernel
theorem dX12_code_85 : decode cX12_code 85 = .ok (.aload_n 0, 1) := by decide +kernel
theorem dX12_code_86 : decode cX12_code 86 = .ok (.getfield 31, 3) := by decide +kernel
theorem dX12_code_89 : decode cX12_code 89 = .ok (.iconst 4, 1) := by decide +kernel
theorem dX12_code_90 : decode cX12_code 90 = .ok (.iload_n 1, 1) := by decide +kernel
theorem dX12_code_91 : decode cX12_code 91 = .ok (.imul, 1) := by decide +kernel
theorem dX12_code_92 : decode cX12_code 92 = .ok (.iconst 3, 1) := by decide +kernel
theorem dX12_code_93 : decode cX12_code 93 = .ok (.iadd, 1) := by decide +kernel
theorem dX12_code_94 : decode cX12_code 94 = .ok (.iaload, 1) := by decide +kernel
theorem dX12_code_95 : decode cX12_code 95 = .ok (.iastore, 1) := by decide +kernel
theorem dX12_code_96 : decode cX12_code 96 = .ok (.iinc 1 1, 3) := by decide +kernel
theorem dX12_code_99 : decode cX12_code 99 = .ok (.goto (-73), 3) := by decide +kernel
theorem dX12_code_102 : decode cX12_code 102 = .ok (.aload_n 0, 1) := by decide +kernel
theorem dX12_code_103 : decode cX12_code 103 = .ok (.iconst 0, 1) := by decide +kernel
theorem dX12_code_104 : decode cX12_code 104 = .ok (.putfield 133, 3) := by decide +kernel
theorem dX12_code_107 : decode cX12_code 107 = .ok (.aload_n 0, 1) := by decide +kernel
theorem dX12_code_108 : decode cX12_code 108 = .ok (.getfield 181, 3) := by decide +kernel
theorem dX12_code_111 : decode cX12_code 111 = .ok (.ireturn, 1) := by decide +kernel
set_option maxRecDepth 20000 in
theorem ggX12_want_X12_in : GoodIn wsX12_want wsX12_in := goodIn_r _ [6] (by decide +kernel) (by decide +kernel)
set_option maxRecDepth 20000 in
theorem gX12_want_X12_in : GoodIn wsX12_want (va_wsS RX12 125 yX12_in wsX12_in) := goodIn_app (goodIn_of _ (by decide +kernel)) ggX12_want_X12_in
theorem dX12_want_0 : decode cX12_want 0 = .ok (.iload_n 1, 1) := by decide +kernel
theorem dX12_want_1 : decode cX12_want 1 = .ok (.i2l, 1) := by decide +kernel
theorem dX12_want_2 : decode cX12_want 2 = .ok (.lconst 1, 1) := by decide +kernel
theorem dX12_want_3 : decode cX12_want 3 = .ok (.ldc2_w 184, 3) := by decide +kernel
theorem dX12_want_6 : decode cX12_want 6 = .ok (.invokestatic 125, 3) := by decide +kernel
theorem dX12_want_9 : decode cX12_want 9 = .ok (.ifCond .ne 6, 3) := by decide +kernel
theorem dX12_want_12 : decode cX12_want 12 = .ok (.bipush (-2), 2) := by decide +kernel
theorem dX12_want_14 : decode cX12_want 14 = .ok (.ireturn, 1) := by decide +kernel
theorem dX12_want_15 : decode cX12_want 15 = .ok (.aload_n 0, 1) := by decide +kernel
theorem dX12_want_16 : decode cX12_want 16 = .ok (.getfield 116, 3) := by decide +kernel
theorem dX12_want_19 : decode cX12_want 19 = .ok (.istore_n 2, 1) := by decide +kernel
theorem dX12_want_20 : decode cX12_want 20 = .ok (.aload_n 0, 1) := by decide +kernel
theorem dX12_want_21 : decode cX12_want 21 = .ok (.iload_n 1, 1) := by decide +kernel
theorem dX12_want_22 : decode cX12_want 22 = .ok (.putfield 116, 3) := by decide +kernel
theorem dX12_want_25 : decode cX12_want 25 = .ok (.iload_n 2, 1) := by decide +kernel
theorem dX12_want_26 : decode cX12_want 26 = .ok (.ireturn, 1) := by decide +kernel
set_option maxRecDepth 20000 in
theorem ggX12_isStep_X12_in : GoodIn wsX12_isStep wsX12_in := goodIn_r _ [5] (by decide +kernel) (by decide +kernel)
set_option maxRecDepth 20000 in
theorem gX12_isStep_X12_in : GoodIn wsX12_isStep (va_wsS RX12 125 yX12_in wsX12_in) := goodIn_app (goodIn_of _ (by decide +kernel)) ggX12_isStep_X12_in
theorem dX12_isStep_0 : decode cX12_isStep 0 = .ok (.iload_n 1, 1) := by decide +kernel
theorem dX12_isStep_1 : decode cX12_isStep 1 = .ok (.i2l, 1) := by decide +kernel
theorem dX12_isStep_2 : decode cX12_isStep 2 = .ok (.lconst 0, 1) := by decide +kernel
theorem dX12_isStep_3 : decode cX12_isStep 3 = .ok (.aload_n 0, 1) := by decide +kernel
theorem dX12_isStep_4 : decode cX12_isStep 4 = .ok (.getfield 181, 3) := by decide +kernel
theorem dX12_isStep_7 : decode cX12_isStep 7 = .ok (.iconst 1, 1) := by decide +kernel
theorem dX12_isStep_8 : decode cX12_isStep 8 = .ok (.isub, 1) := by decide +kernel
theorem dX12_isStep_9 : decode cX12_isStep 9 = .ok (.i2l, 1) := by decide +kernel
theorem dX12_isStep_10 : decode cX12_isStep 10 = .ok (.invokestatic 125, 3) := by decide +kernel
theorem dX12_isStep_13 : decode cX12_isStep 13 = .ok (.ireturn, 1) := by decide +kernel
set_option maxRecDepth 20000 in
theorem ggX12_isPlace_X12_in : GoodIn wsX12_isPlace wsX12_in := goodIn_r _ [5] (by decide +kernel) (by decide +kernel)
set_option maxRecDepth 20000 in
theorem gX12_isPlace_X12_in : GoodIn wsX12_isPlace (va_wsS RX12 125 yX12_in wsX12_in) := goodIn_app (goodIn_of _ (by decide +kernel)) ggX12_isPlace_X12_in
theorem dX12_isPlace_0 : decode cX12_isPlace 0 = .ok (.iload_n 1, 1) := by decide +kernel
theorem dX12_isPlace_1 : decode cX12_isPlace 1 = .ok (.i2l, 1) := by decide +kernel
theorem dX12_isPlace_2 : decode cX12_isPlace 2 = .ok (.lconst 0, 1) := by decide +kernel
theorem dX12_isPlace_3 : decode cX12_isPlace 3 = .ok (.aload_n 0, 1) := by decide +kernel
theorem dX12_isPlace_4 : decode cX12_isPlace 4 = .ok (.getfield 181, 3) := by decide +kernel
theorem dX12_isPlace_7 : decode cX12_isPlace 7 = .ok (.i2l, 1) := by decide +kernel
theorem dX12_isPlace_8 : decode cX12_isPlace 8 = .ok (.invokestatic 125, 3) := by decide +kernel
theorem dX12_isPlace_11 : decode cX12_isPlace 11 = .ok (.ireturn, 1) := by decide +kernel
set_option maxRecDepth 20000 in
theorem ggX12_step_X12_isStep : GoodIn wsX12_step wsX12_isStep := goodIn_r _ [9, 10, 11, 12, 8, 13, 14, 15, 16, 17, 18, 19, 20, 21, 22, 23, 24, 25, 26, 27, 28, 29, 30, 31, 32, 33, 34, 35, 36, 37, 38, 39, 40, 41, 42, 43, 44, 45, 46, 47, 48, 49, 50, 51, 52, 53, 54, 55, 56, 57, 58, 59, 60, 61] (by decide +kernel) (by decide +kernel)
set_option maxRecDepth 20000 in
theorem gX12_step_X12_isStep : GoodIn wsX12_step (wsV RX12 186 RX12 yX12_isStep wsX12_isStep) := goodIn_app (goodIn_of _ (by decide +kernel)) ggX12_step_X12_isStep
theorem dX12_step_0 : decode cX12_step 0 = .ok (.aload_n 0, 1) := by decide +kernel
theorem dX12_step_1 : decode cX12_step 1 = .ok (.iload_n 1, 1) := by decide +kernel
theorem dX12_step_2 : decode cX12_step 2 = .ok (.invokevirtual 186, 3) := by decide +kernel
theorem dX12_step_5 : decode cX12_step 5 = .ok (.ifCond .ne 5, 3) := by decide +kernel
theorem dX12_step_8 : decode cX12_step 8 = .ok (.iconst (-1), 1) := by decide +kernel
theorem dX12_step_9 : decode cX12_step 9 = .ok (.ireturn, 1) := by decide +kernel
theorem dX12_step_10 : decode cX12_step 10 = .ok (.iload_n 2, 1) := by decide +kernel
theorem dX12_step_11 : decode cX12_step 11 = .ok (.tableswitch 57 0 3 #[29, 36, 43, 50], 29) := by decide +kernel
theorem dX12_step_40 : decode cX12_step 40 = .ok (.aload_n 0, 1) := by decide +kernel
theorem dX12_step_41 : decode cX12_step 41 = .ok (.getfield 13, 3) := by decide +kernel
theorem dX12_step_44 : decode cX12_step 44 = .ok (.iload_n 1, 1) := by decide +kernel
theorem dX12_step_45 : decode cX12_step 45 = .ok (.iaload, 1) := by decide +kernel
theorem dX12_step_46 : decode cX12_step 46 = .ok (.ireturn, 1) := by decide +kernel
theorem dX12_step_47 : decode cX12_step 47 = .ok (.aload_n 0, 1) := by decide +kernel
theorem dX12_step_48 : decode cX12_step 48 = .ok (.getfield 16, 3) := by decide +kernel
theorem dX12_step_51 : decode cX12_step 51 = .ok (.iload_n 1, 1) := by decide +kernel
theorem dX12_step_52 : decode cX12_step 52 = .ok (.iaload, 1) := by decide +kernel
theorem dX12_step_53 : decode cX12_step 53 = .ok (.ireturn, 1) := by decide +kernel
theorem dX12_step_54 : decode cX12_step 54 = .ok (.aload_n 0, 1) := by decide +kernel
theorem dX12_step_55 : decode cX12_step 55 = .ok (.getfield 19, 3) := by decide +kernel
theorem dX12_step_58 : decode cX12_step 58 = .ok (.iload_n 1, 1) := by decide +kernel
theorem dX12_step_59 : decode cX12_step 59 = .ok (.iaload, 1) := by decide +kernel
theorem dX12_step_60 : decode cX12_step 60 = .ok (.ireturn, 1) := by decide +kernel
theorem dX12_step_61 : decode cX12_step 61 = .ok (.aload_n 0, 1) := by decide +kernel
theorem dX12_step_62 : decode cX12_step 62 = .ok (.getfield 22, 3) := by decide +kernel
theorem dX12_step_65 : decode cX12_step 65 = .ok (.iload_n 1, 1) := by decide +kernel
theorem dX12_step_66 : decode cX12_step 66 = .ok (.iaload, 1) := by decide +kernel
theorem dX12_step_67 : decode cX12_step 67 = .ok (.ireturn, 1) := by decide +kernel
theorem dX12_step_68 : decode cX12_step 68 = .ok (.bipush (-2), 2) := by decide +kernel
theorem dX12_step_70 : decode cX12_step 70 = .ok (.ireturn, 1) := by decide +kernel
theorem dX12_scale_0 : decode cX12_scale 0 = .ok (.iconst 1, 1) := by decide +kernel
theorem dX12_scale_1 : decode cX12_scale 1 = .ok (.iconst 3, 1) := by decide +kernel
theorem dX12_scale_2 : decode cX12_scale 2 = .ok (.iconst 3, 1) := by decide +kernel
theorem dX12_scale_3 : decode cX12_scale 3 = .ok (.iload_n 0, 1) := by decide +kernel
theorem dX12_scale_4 : decode cX12_scale 4 = .ok (.isub, 1) := by decide +kernel
theorem dX12_scale_5 : decode cX12_scale 5 = .ok (.imul, 1) := by decide +kernel
theorem dX12_scale_6 : decode cX12_scale 6 = .ok (.ishl, 1) := by decide +kernel
theorem dX12_scale_7 : decode cX12_scale 7 = .ok (.ireturn, 1) := by decide +kernel
set_option maxRecDepth 20000 in
theorem ggX12_valueOf_X12_scale : GoodIn wsX12_valueOf wsX12_scale := goodIn_r _ [4] (by decide +kernel) (by decide +kernel)
set_option maxRecDepth 20000 in
theorem gX12_valueOf_X12_scale : GoodIn wsX12_valueOf (va_wsS RX12 189 yX12_scale wsX12_scale) := goodIn_app (goodIn_of _ (by decide +kernel)) ggX12_valueOf_X12_scale
theorem dX12_valueOf_0 : decode cX12_valueOf 0 = .ok (.iload_n 0, 1) := by decide +kernel
theorem dX12_valueOf_1 : decode cX12_valueOf 1 = .ok (.bipush 10, 2) := by decide +kernel
theorem dX12_valueOf_3 : decode cX12_valueOf 3 = .ok (.if_icmp .lt 10, 3) := by decide +kernel
theorem dX12_valueOf_6 : decode cX12_valueOf 6 = .ok (.iload_n 0, 1) := by decide +kernel
theorem dX12_valueOf_7 : decode cX12_valueOf 7 = .ok (.bipush 10, 2) := by decide +kernel
theorem dX12_valueOf_9 : decode cX12_valueOf 9 = .ok (.isub, 1) := by decide +kernel
theorem dX12_valueOf_10 : decode cX12_valueOf 10 = .ok (.goto 12, 3) := by decide +kernel
theorem dX12_valueOf_13 : decode cX12_valueOf 13 = .ok (.iload_n 1, 1) := by decide +kernel
theorem dX12_valueOf_14 : decode cX12_valueOf 14 = .ok (.iload_n 0, 1) := by decide +kernel
theorem dX12_valueOf_15 : decode cX12_valueOf 15 = .ok (.invokestatic 189, 3) := by decide +kernel
theorem dX12_valueOf_18 : decode cX12_valueOf 18 = .ok (.idiv, 1) := by decide +kernel
theorem dX12_valueOf_19 : decode cX12_valueOf 19 = .ok (.bipush 8, 2) := by decide +kernel
theorem dX12_valueOf_21 : decode cX12_valueOf 21 = .ok (.irem, 1) := by decide +kernel
theorem dX12_valueOf_22 : decode cX12_valueOf 22 = .ok (.ireturn, 1) := by decide +kernel
theorem dX12_acted_0 : decode cX12_acted 0 = .ok (.iload_n 0, 1) := by decide +kernel
theorem dX12_acted_1 : decode cX12_acted 1 = .ok (.bipush 43, 2) := by decide +kernel
theorem dX12_acted_3 : decode cX12_acted 3 = .ok (.if_icmp .ne 12, 3) := by decide +kernel
theorem dX12_acted_6 : decode cX12_acted 6 = .ok (.iload_n 1, 1) := by decide +kernel
theorem dX12_acted_7 : decode cX12_acted 7 = .ok (.iload_n 2, 1) := by decide +kernel
theorem dX12_acted_8 : decode cX12_acted 8 = .ok (.iadd, 1) := by decide +kernel
theorem dX12_acted_9 : decode cX12_acted 9 = .ok (.bipush 7, 2) := by decide +kernel
theorem dX12_acted_11 : decode cX12_acted 11 = .ok (.iand, 1) := by decide +kernel
theorem dX12_acted_12 : decode cX12_acted 12 = .ok (.goto 43, 3) := by decide +kernel
theorem dX12_acted_15 : decode cX12_acted 15 = .ok (.iload_n 0, 1) := by decide +kernel
theorem dX12_acted_16 : decode cX12_acted 16 = .ok (.bipush 45, 2) := by decide +kernel
theorem dX12_acted_18 : decode cX12_acted 18 = .ok (.if_icmp .ne 12, 3) := by decide +kernel
theorem dX12_acted_21 : decode cX12_acted 21 = .ok (.iload_n 1, 1) := by decide +kernel
theorem dX12_acted_22 : decode cX12_acted 22 = .ok (.iload_n 2, 1) := by decide +kernel
theorem dX12_acted_23 : decode cX12_acted 23 = .ok (.isub, 1) := by decide +kernel
theorem dX12_acted_24 : decode cX12_acted 24 = .ok (.bipush 7, 2) := by decide +kernel
theorem dX12_acted_26 : decode cX12_acted 26 = .ok (.iand, 1) := by decide +kernel
theorem dX12_acted_27 : decode cX12_acted 27 = .ok (.goto 28, 3) := by decide +kernel
theorem dX12_acted_30 : decode cX12_acted 30 = .ok (.iload_n 0, 1) := by decide +kernel
theorem dX12_acted_31 : decode cX12_acted 31 = .ok (.bipush 42, 2) := by decide +kernel
theorem dX12_acted_33 : decode cX12_acted 33 = .ok (.if_icmp .ne 12, 3) := by decide +kernel
theorem dX12_acted_36 : decode cX12_acted 36 = .ok (.iload_n 1, 1) := by decide +kernel
theorem dX12_acted_37 : decode cX12_acted 37 = .ok (.iload_n 2, 1) := by decide +kernel
theorem dX12_acted_38 : decode cX12_acted 38 = .ok (.imul, 1) := by decide +kernel
theorem dX12_acted_39 : decode cX12_acted 39 = .ok (.bipush 7, 2) := by decide +kernel
theorem dX12_acted_41 : decode cX12_acted 41 = .ok (.iand, 1) := by decide +kernel
theorem dX12_acted_42 : decode cX12_acted 42 = .ok (.goto 13, 3) := by decide +kernel
theorem dX12_acted_45 : decode cX12_acted 45 = .ok (.iload_n 1, 1) := by decide +kernel
theorem dX12_acted_46 : decode cX12_acted 46 = .ok (.iload_n 2, 1) := by decide +kernel
theorem dX12_acted_47 : decode cX12_acted 47 = .ok (.if_icmp .ge 7, 3) := by decide +kernel
theorem dX12_acted_50 : decode cX12_acted 50 = .ok (.iload_n 1, 1) := by decide +kernel
theorem dX12_acted_51 : decode cX12_acted 51 = .ok (.goto 4, 3) := by decide +kernel
theorem dX12_acted_54 : decode cX12_acted 54 = .ok (.iload_n 2, 1) := by decide +kernel
theorem dX12_acted_55 : decode cX12_acted 55 = .ok (.ireturn, 1) := by decide +kernel
set_option maxRecDepth 20000 in
theorem ggX12_done_X12_valueOf : GoodIn wsX12_done wsX12_valueOf := goodIn_r _ [4, 5, 6, 3, 7] (by decide +kernel) (by decide +kernel)
set_option maxRecDepth 20000 in
theorem gX12_done_X12_valueOf : GoodIn wsX12_done (va_wsS RX12 192 yX12_valueOf wsX12_valueOf) := goodIn_app (goodIn_of _ (by decide +kernel)) ggX12_done_X12_valueOf
set_option maxRecDepth 20000 in
theorem ggX12_done_X12_acted : GoodIn wsX12_done wsX12_acted := goodIn_r _ [10] (by decide +kernel) (by decide +kernel)
set_option maxRecDepth 20000 in
theorem gX12_done_X12_acted : GoodIn wsX12_done (va_wsS RX12 195 yX12_acted wsX12_acted) := goodIn_app (goodIn_of _ (by decide +kernel)) ggX12_done_X12_acted
set_option maxRecDepth 20000 in
theorem ggX12_done_X12_scale : GoodIn wsX12_done wsX12_scale := goodIn_r _ [7] (by decide +kernel) (by decide +kernel)
set_option maxRecDepth 20000 in
theorem gX12_done_X12_scale : GoodIn wsX12_done (va_wsS RX12 189 yX12_scale wsX12_scale) := goodIn_app (goodIn_of _ (by decide +kernel)) ggX12_done_X12_scale
theorem dX12_done_0 : decode cX12_done 0 = .ok (.iload_n 3, 1) := by decide +kernel
theorem dX12_done_1 : decode cX12_done 1 = .ok (.iload_n 0, 1) := by decide +kernel
theorem dX12_done_2 : decode cX12_done 2 = .ok (.invokestatic 192, 3) := by decide +kernel
theorem dX12_done_5 : decode cX12_done 5 = .ok (.istore 5, 2) := by decide +kernel
theorem dX12_done_7 : decode cX12_done 7 = .ok (.iload_n 2, 1) := by decide +kernel
theorem dX12_done_8 : decode cX12_done 8 = .ok (.bipush (-6), 2) := by decide +kernel
theorem dX12_done_10 : decode cX12_done 10 = .ok (.if_icmp .ne 8, 3) := by decide +kernel
theorem dX12_done_13 : decode cX12_done 13 = .ok (.iload 5, 2) := by decide +kernel
theorem dX12_done_15 : decode cX12_done 15 = .ok (.goto 15, 3) := by decide +kernel
theorem dX12_done_18 : decode cX12_done 18 = .ok (.iload_n 2, 1) := by decide +kernel
theorem dX12_done_19 : decode cX12_done 19 = .ok (.iload 5, 2) := by decide +kernel
theorem dX12_done_21 : decode cX12_done 21 = .ok (.iload 4, 2) := by decide +kernel
theorem dX12_done_23 : decode cX12_done 23 = .ok (.iload_n 0, 1) := by decide +kernel
theorem dX12_done_24 : decode cX12_done 24 = .ok (.invokestatic 192, 3) := by decide +kernel
theorem dX12_done_27 : decode cX12_done 27 = .ok (.invokestatic 195, 3) := by decide +kernel
theorem dX12_done_30 : decode cX12_done 30 = .ok (.istore 6, 2) := by decide +kernel
theorem dX12_done_32 : decode cX12_done 32 = .ok (.iload_n 0, 1) := by decide +kernel
theorem dX12_done_33 : decode cX12_done 33 = .ok (.iload 6, 2) := by decide +kernel
theorem dX12_done_35 : decode cX12_done 35 = .ok (.iload_n 1, 1) := by decide +kernel
theorem dX12_done_36 : decode cX12_done 36 = .ok (.iload_n 0, 1) := by decide +kernel
theorem dX12_done_37 : decode cX12_done 37 = .ok (.invokestatic 192, 3) := by decide +kernel
theorem dX12_done_40 : decode cX12_done 40 = .ok (.isub, 1) := by decide +kernel
theorem dX12_done_41 : decode cX12_done 41 = .ok (.iload_n 1, 1) := by decide +kernel
theorem dX12_done_42 : decode cX12_done 42 = .ok (.invokestatic 189, 3) := by decide +kernel
theorem dX12_done_45 : decode cX12_done 45 = .ok (.imul, 1) := by decide +kernel
theorem dX12_done_46 : decode cX12_done 46 = .ok (.iadd, 1) := by decide +kernel
theorem dX12_done_47 : decode cX12_done 47 = .ok (.ireturn, 1) := by decide +kernel
set_option maxRecDepth 20000 in
theorem ggX12_runOf_X12_done : GoodIn wsX12_runOf wsX12_done := goodIn_r _ [8, 9, 10, 7, 11, 12, 13, 14, 15, 16, 17] (by decide +kernel) (by decide +kernel)
set_option maxRecDepth 20000 in
theorem gX12_runOf_X12_done : GoodIn wsX12_runOf (va_wsS RX12 199 yX12_done wsX12_done) := goodIn_app (goodIn_of _ (by decide +kernel)) ggX12_runOf_X12_done
theorem dX12_runOf_0 : decode cX12_runOf 0 = .ok (.iload_n 1, 1) := by decide +kernel
theorem dX12_runOf_1 : decode cX12_runOf 1 = .ok (.istore_n 3, 1) := by decide +kernel
theorem dX12_runOf_2 : decode cX12_runOf 2 = .ok (.iconst 0, 1) := by decide +kernel
theorem dX12_runOf_3 : decode cX12_runOf 3 = .ok (.istore 4, 2) := by decide +kernel
theorem dX12_runOf_5 : decode cX12_runOf 5 = .ok (.iload 4, 2) := by decide +kernel
theorem dX12_runOf_7 : decode cX12_runOf 7 = .ok (.iload_n 2, 1) := by decide +kernel
theorem dX12_runOf_8 : decode cX12_runOf 8 = .ok (.if_icmp .ge 42, 3) := by decide +kernel
theorem dX12_runOf_11 : decode cX12_runOf 11 = .ok (.iload_n 3, 1) := by decide +kernel
theorem dX12_runOf_12 : decode cX12_runOf 12 = .ok (.aload_n 0, 1) := by decide +kernel
theorem dX12_runOf_13 : decode cX12_runOf 13 = .ok (.getfield 13, 3) := by decide +kernel
theorem dX12_runOf_16 : decode cX12_runOf 16 = .ok (.iload 4, 2) := by decide +kernel
theorem dX12_runOf_18 : decode cX12_runOf 18 = .ok (.iaload, 1) := by decide +kernel
theorem dX12_runOf_19 : decode cX12_runOf 19 = .ok (.aload_n 0, 1) := by decide +kernel
theorem dX12_runOf_20 : decode cX12_runOf 20 = .ok (.getfield 16, 3) := by decide +kernel
theorem dX12_runOf_23 : decode cX12_runOf 23 = .ok (.iload 4, 2) := by decide +kernel
theorem dX12_runOf_25 : decode cX12_runOf 25 = .ok (.iaload, 1) := by decide +kernel
theorem dX12_runOf_26 : decode cX12_runOf 26 = .ok (.aload_n 0, 1) := by decide +kernel
theorem dX12_runOf_27 : decode cX12_runOf 27 = .ok (.getfield 19, 3) := by decide +kernel
theorem dX12_runOf_30 : decode cX12_runOf 30 = .ok (.iload 4, 2) := by decide +kernel
theorem dX12_runOf_32 : decode cX12_runOf 32 = .ok (.iaload, 1) := by decide +kernel
theorem dX12_runOf_33 : decode cX12_runOf 33 = .ok (.aload_n 0, 1) := by decide +kernel
theorem dX12_runOf_34 : decode cX12_runOf 34 = .ok (.getfield 22, 3) := by decide +kernel
theorem dX12_runOf_37 : decode cX12_runOf 37 = .ok (.iload 4, 2) := by decide +kernel
theorem dX12_runOf_39 : decode cX12_runOf 39 = .ok (.iaload, 1) := by decide +kernel
theorem dX12_runOf_40 : decode cX12_runOf 40 = .ok (.invokestatic 199, 3) := by decide +kernel
theorem dX12_runOf_43 : decode cX12_runOf 43 = .ok (.istore_n 3, 1) := by decide +kernel
theorem dX12_runOf_44 : decode cX12_runOf 44 = .ok (.iinc 4 1, 3) := by decide +kernel
theorem dX12_runOf_47 : decode cX12_runOf 47 = .ok (.goto (-42), 3) := by decide +kernel
theorem dX12_runOf_50 : decode cX12_runOf 50 = .ok (.iload_n 3, 1) := by decide +kernel
theorem dX12_runOf_51 : decode cX12_runOf 51 = .ok (.ireturn, 1) := by decide +kernel
set_option maxRecDepth 20000 in
theorem ggX12_run_X12_in : GoodIn wsX12_run wsX12_in := goodIn_r _ [5] (by decide +kernel) (by decide +kernel)
set_option maxRecDepth 20000 in
theorem gX12_run_X12_in : GoodIn wsX12_run (va_wsS RX12 125 yX12_in wsX12_in) := goodIn_app (goodIn_of _ (by decide +kernel)) ggX12_run_X12_in
set_option maxRecDepth 20000 in
theorem ggX12_run_X12_isPlace : GoodIn wsX12_run wsX12_isPlace := goodIn_r _ [9, 10, 2, 3, 4, 5, 31, 32, 33, 34, 35, 36, 37, 38, 39, 40, 41, 42, 43, 44, 45, 46, 47, 48, 49, 50, 51, 52, 53, 54, 55, 56, 57, 58, 59, 60, 61, 62, 63, 64, 65, 66, 67, 68, 69, 70, 71, 72, 73, 74, 75, 76, 77, 78] (by decide +kernel) (by decide +kernel)
set_option maxRecDepth 20000 in
theorem gX12_run_X12_isPlace : GoodIn wsX12_run (wsV RX12 205 RX12 yX12_isPlace wsX12_isPlace) := goodIn_app (goodIn_of _ (by decide +kernel)) ggX12_run_X12_isPlace
set_option maxRecDepth 20000 in
theorem ggX12_run_X12_runOf : GoodIn wsX12_run wsX12_runOf := goodIn_r _ [14, 15, 16, 17, 18, 19, 20, 4, 21, 22, 23, 24, 25, 26, 27, 28, 29, 30, 31, 32, 33, 34, 35, 36, 37, 38, 39, 40, 41, 42, 43, 44, 45, 46, 47, 48, 49, 50, 51, 52, 53, 54, 55, 56, 57, 58, 59, 60, 61, 62, 63, 64, 65, 66, 67, 68, 69, 70, 71, 72, 73, 74, 75, 76, 77, 78] (by decide +kernel) (by decide +kernel)
set_option maxRecDepth 20000 in
theorem gX12_run_X12_runOf : GoodIn wsX12_run (wsV RX12 208 RX12 yX12_runOf wsX12_runOf) := goodIn_app (goodIn_of _ (by decide +kernel)) ggX12_run_X12_runOf
theorem dX12_run_0 : decode cX12_run 0 = .ok (.iload_n 1, 1) := by decide +kernel
theorem dX12_run_1 : decode cX12_run 1 = .ok (.i2l, 1) := by decide +kernel
theorem dX12_run_2 : decode cX12_run 2 = .ok (.lconst 0, 1) := by decide +kernel
theorem dX12_run_3 : decode cX12_run 3 = .ok (.ldc2_w 203, 3) := by decide +kernel
theorem dX12_run_6 : decode cX12_run 6 = .ok (.invokestatic 125, 3) := by decide +kernel
theorem dX12_run_9 : decode cX12_run 9 = .ok (.ifCond .eq 20, 3) := by decide +kernel
theorem dX12_run_12 : decode cX12_run 12 = .ok (.aload_n 0, 1) := by decide +kernel
theorem dX12_run_13 : decode cX12_run 13 = .ok (.iload_n 2, 1) := by decide +kernel
theorem dX12_run_14 : decode cX12_run 14 = .ok (.invokevirtual 205, 3) := by decide +kernel
theorem dX12_run_17 : decode cX12_run 17 = .ok (.ifCond .eq 12, 3) := by decide +kernel
theorem dX12_run_20 : decode cX12_run 20 = .ok (.aload_n 0, 1) := by decide +kernel
theorem dX12_run_21 : decode cX12_run 21 = .ok (.iload_n 1, 1) := by decide +kernel
theorem dX12_run_22 : decode cX12_run 22 = .ok (.iload_n 2, 1) := by decide +kernel
theorem dX12_run_23 : decode cX12_run 23 = .ok (.invokevirtual 208, 3) := by decide +kernel
theorem dX12_run_26 : decode cX12_run 26 = .ok (.goto 5, 3) := by decide +kernel
theorem dX12_run_29 : decode cX12_run 29 = .ok (.bipush (-2), 2) := by decide +kernel
theorem dX12_run_31 : decode cX12_run 31 = .ok (.ireturn, 1) := by decide +kernel
theorem dX12_keep_0 : decode cX12_keep 0 = .ok (.iconst 0, 1) := by decide +kernel
theorem dX12_keep_1 : decode cX12_keep 1 = .ok (.istore_n 1, 1) := by decide +kernel
theorem dX12_keep_2 : decode cX12_keep 2 = .ok (.iload_n 1, 1) := by decide +kernel
theorem dX12_keep_3 : decode cX12_keep 3 = .ok (.aload_n 0, 1) := by decide +kernel
theorem dX12_keep_4 : decode cX12_keep 4 = .ok (.getfield 181, 3) := by decide +kernel
theorem dX12_keep_7 : decode cX12_keep 7 = .ok (.if_icmp .ge 71, 3) := by decide +kernel
theorem dX12_keep_10 : decode cX12_keep 10 = .ok (.aload_n 0, 1) := by decide +kernel
theorem dX12_keep_11 : decode cX12_keep 11 = .ok (.getfield 25, 3) := by decide +kernel
theorem dX12_keep_14 : decode cX12_keep 14 = .ok (.iconst 4, 1) := by decide +kernel
theorem dX12_keep_15 : decode cX12_keep 15 = .ok (.iload_n 1, 1) := by decide +kernel
theorem dX12_keep_16 : decode cX12_keep 16 = .ok (.imul, 1) := by decide +kernel
theorem dX12_keep_17 : decode cX12_keep 17 = .ok (.aload_n 0, 1) := by decide +kernel
theorem dX12_keep_18 : decode cX12_keep 18 = .ok (.getfield 13, 3) := by decide +kernel
theorem dX12_keep_21 : decode cX12_keep 21 = .ok (.iload_n 1, 1) := by decide +kernel
theorem dX12_keep_22 : decode cX12_keep 22 = .ok (.iaload, 1) := by decide +kernel
theorem dX12_keep_23 : decode cX12_keep 23 = .ok (.iastore, 1) := by decide +kernel
theorem dX12_keep_24 : decode cX12_keep 24 = .ok (.aload_n 0, 1) := by decide +kernel
theorem dX12_keep_25 : decode cX12_keep 25 = .ok (.getfield 25, 3) := by decide +kernel
theorem dX12_keep_28 : decode cX12_keep 28 = .ok (.iconst 4, 1) := by decide +kernel
theorem dX12_keep_29 : decode cX12_keep 29 = .ok (.iload_n 1, 1) := by decide +kernel
theorem dX12_keep_30 : decode cX12_keep 30 = .ok (.imul, 1) := by decide +kernel
theorem dX12_keep_31 : decode cX12_keep 31 = .ok (.iconst 1, 1) := by decide +kernel
theorem dX12_keep_32 : decode cX12_keep 32 = .ok (.iadd, 1) := by decide +kernel
theorem dX12_keep_33 : decode cX12_keep 33 = .ok (.aload_n 0, 1) := by decide +kernel
theorem dX12_keep_34 : decode cX12_keep 34 = .ok (.getfield 16, 3) := by decide +kernel
theorem dX12_keep_37 : decode cX12_keep 37 = .ok (.iload_n 1, 1) := by decide +kernel
theorem dX12_keep_38 : decode cX12_keep 38 = .ok (.iaload, 1) := by decide +kernel
theorem dX12_keep_39 : decode cX12_keep 39 = .ok (.iastore, 1) := by decide +kernel
theorem dX12_keep_40 : decode cX12_keep 40 = .ok (.aload_n 0, 1) := by decide +kernel
theorem dX12_keep_41 : decode cX12_keep 41 = .ok (.getfield 25, 3) := by decide +kernel
theorem dX12_keep_44 : decode cX12_keep 44 = .ok (.iconst 4, 1) := by decide +kernel
theorem dX12_keep_45 : decode cX12_keep 45 = .ok (.iload_n 1, 1) := by decide +kernel
theorem dX12_keep_46 : decode cX12_keep 46 = .ok (.imul, 1) := by decide +kernel
theorem dX12_keep_47 : decode cX12_keep 47 = .ok (.iconst 2, 1) := by decide +kernel
theorem dX12_keep_48 : decode cX12_keep 48 = .ok (.iadd, 1) := by decide +kernel
theorem dX12_keep_49 : decode cX12_keep 49 = .ok (.aload_n 0, 1) := by decide +kernel
theorem dX12_keep_50 : decode cX12_keep 50 = .ok (.getfield 19, 3) := by decide +kernel
theorem dX12_keep_53 : decode cX12_keep 53 = .ok (.iload_n 1, 1) := by decide +kernel
theorem dX12_keep_54 : decode cX12_keep 54 = .ok (.iaload, 1) := by decide +kernel
theorem dX12_keep_55 : decode cX12_keep 55 = .ok (.iastore, 1) := by decide +kernel
theorem dX12_keep_56 : decode cX12_keep 56 = .ok (.aload_n 0, 1) := by decide +kernel
theorem dX12_keep_57 : decode cX12_keep 57 = .ok (.getfield 25, 3) := by decide +kernel
theorem dX12_keep_60 : decode cX12_keep 60 = .ok (.iconst 4, 1) := by decide +kernel
theorem dX12_keep_61 : decode cX12_keep 61 = .ok (.iload_n 1, 1) := by decide +kernel
theorem dX12_keep_62 : decode cX12_keep 62 = .ok (.imul, 1) := by decide +kernel
theorem dX12_keep_63 : decode cX12_keep 63 = .ok (.iconst 3, 1) := by decide +kernel
theorem dX12_keep_64 : decode cX12_keep 64 = .ok (.iadd, 1) := by decide +kernel
theorem dX12_keep_65 : decode cX12_keep 65 = .ok (.aload_n 0, 1) := by decide +kernel
theorem dX12_keep_66 : decode cX12_keep 66 = .ok (.getfield 22, 3) := by decide +kernel
theorem dX12_keep_69 : decode cX12_keep 69 = .ok (.iload_n 1, 1) := by decide +kernel
theorem dX12_keep_70 : decode cX12_keep 70 = .ok (.iaload, 1) := by decide +kernel
theorem dX12_keep_71 : decode cX12_keep 71 = .ok (.iastore, 1) := by decide +kernel
theorem dX12_keep_72 : decode cX12_keep 72 = .ok (.iinc 1 1, 3) := by decide +kernel
theorem dX12_keep_75 : decode cX12_keep 75 = .ok (.goto (-73), 3) := by decide +kernel
theorem dX12_keep_78 : decode cX12_keep 78 = .ok (.aload_n 0, 1) := by decide +kernel
theorem dX12_keep_79 : decode cX12_keep 79 = .ok (.aload_n 0, 1) := by decide +kernel
theorem dX12_keep_80 : decode cX12_keep 80 = .ok (.getfield 181, 3) := by decide +kernel
theorem dX12_keep_83 : decode cX12_keep 83 = .ok (.putfield 211, 3) := by decide +kernel
theorem dX12_keep_86 : decode cX12_keep 86 = .ok (.aload_n 0, 1) := by decide +kernel
theorem dX12_keep_87 : decode cX12_keep 87 = .ok (.getfield 181, 3) := by decide +kernel
theorem dX12_keep_90 : decode cX12_keep 90 = .ok (.ireturn, 1) := by decide +kernel
set_option maxRecDepth 20000 in
theorem ggX12_areAlike_X12_valueOf : GoodIn wsX12_areAlike wsX12_valueOf := goodIn_r _ [4, 5, 6, 3, 7] (by decide +kernel) (by decide +kernel)
set_option maxRecDepth 20000 in
theorem gX12_areAlike_X12_valueOf : GoodIn wsX12_areAlike (va_wsS RX12 192 yX12_valueOf wsX12_valueOf) := goodIn_app (goodIn_of _ (by decide +kernel)) ggX12_areAlike_X12_valueOf
theorem dX12_areAlike_0 : decode cX12_areAlike 0 = .ok (.iconst 1, 1) := by decide +kernel
theorem dX12_areAlike_1 : decode cX12_areAlike 1 = .ok (.istore 4, 2) := by decide +kernel
theorem dX12_areAlike_3 : decode cX12_areAlike 3 = .ok (.iconst 0, 1) := by decide +kernel
theorem dX12_areAlike_4 : decode cX12_areAlike 4 = .ok (.istore 5, 2) := by decide +kernel
theorem dX12_areAlike_6 : decode cX12_areAlike 6 = .ok (.iload 5, 2) := by decide +kernel
theorem dX12_areAlike_8 : decode cX12_areAlike 8 = .ok (.iconst 4, 1) := by decide +kernel
theorem dX12_areAlike_9 : decode cX12_areAlike 9 = .ok (.if_icmp .ge 45, 3) := by decide +kernel
theorem dX12_areAlike_12 : decode cX12_areAlike 12 = .ok (.iload 4, 2) := by decide +kernel
theorem dX12_areAlike_14 : decode cX12_areAlike 14 = .ok (.ifCond .eq 31, 3) := by decide +kernel
theorem dX12_areAlike_17 : decode cX12_areAlike 17 = .ok (.iload_n 3, 1) := by decide +kernel
theorem dX12_areAlike_18 : decode cX12_areAlike 18 = .ok (.iload 5, 2) := by decide +kernel
theorem dX12_areAlike_20 : decode cX12_areAlike 20 = .ok (.ishr, 1) := by decide +kernel
theorem dX12_areAlike_21 : decode cX12_areAlike 21 = .ok (.iconst 1, 1) := by decide +kernel
theorem dX12_areAlike_22 : decode cX12_areAlike 22 = .ok (.iand, 1) := by decide +kernel
theorem dX12_areAlike_23 : decode cX12_areAlike 23 = .ok (.ifCond .eq 18, 3) := by decide +kernel
theorem dX12_areAlike_26 : decode cX12_areAlike 26 = .ok (.iload 5, 2) := by decide +kernel
theorem dX12_areAlike_28 : decode cX12_areAlike 28 = .ok (.iload_n 1, 1) := by decide +kernel
theorem dX12_areAlike_29 : decode cX12_areAlike 29 = .ok (.invokestatic 192, 3) := by decide +kernel
theorem dX12_areAlike_32 : decode cX12_areAlike 32 = .ok (.iload 5, 2) := by decide +kernel
theorem dX12_areAlike_34 : decode cX12_areAlike 34 = .ok (.iload_n 2, 1) := by decide +kernel
theorem dX12_areAlike_35 : decode cX12_areAlike 35 = .ok (.invokestatic 192, 3) := by decide +kernel
theorem dX12_areAlike_38 : decode cX12_areAlike 38 = .ok (.if_icmp .ne 7, 3) := by decide +kernel
theorem dX12_areAlike_41 : decode cX12_areAlike 41 = .ok (.iconst 1, 1) := by decide +kernel
theorem dX12_areAlike_42 : decode cX12_areAlike 42 = .ok (.goto 4, 3) := by decide +kernel
theorem dX12_areAlike_45 : decode cX12_areAlike 45 = .ok (.iconst 0, 1) := by decide +kernel
theorem dX12_areAlike_46 : decode cX12_areAlike 46 = .ok (.istore 4, 2) := by decide +kernel
theorem dX12_areAlike_48 : decode cX12_areAlike 48 = .ok (.iinc 5 1, 3) := by decide +kernel
theorem dX12_areAlike_51 : decode cX12_areAlike 51 = .ok (.goto (-45), 3) := by decide +kernel
theorem dX12_areAlike_54 : decode cX12_areAlike 54 = .ok (.iload 4, 2) := by decide +kernel
theorem dX12_areAlike_56 : decode cX12_areAlike 56 = .ok (.ireturn, 1) := by decide +kernel
set_option maxRecDepth 20000 in
theorem ggX12_unlike_X12_done : GoodIn wsX12_unlike wsX12_done := goodIn_r _ [8, 9, 10, 7, 11, 12, 13, 14, 15, 16, 17] (by decide +kernel) (by decide +kernel)
set_option maxRecDepth 20000 in
theorem gX12_unlike_X12_done : GoodIn wsX12_unlike (va_wsS RX12 199 yX12_done wsX12_done) := goodIn_app (goodIn_of _ (by decide +kernel)) ggX12_unlike_X12_done
set_option maxRecDepth 20000 in
theorem ggX12_unlike_X12_runOf : GoodIn wsX12_unlike wsX12_runOf := goodIn_r _ [21, 22, 23, 24, 25, 5, 6, 7, 8, 9, 10, 11, 12, 13, 14, 15, 16, 17, 30, 31, 32, 33, 34, 35, 36, 37, 38, 39, 40, 41, 42, 43, 44, 45, 46, 47, 48, 49, 50, 51, 52, 53, 54, 55, 56, 57, 58, 59, 60, 61, 62, 63, 64, 65, 66, 67, 68, 69, 70, 71, 72, 73, 74, 75, 76, 77] (by decide +kernel) (by decide +kernel)
set_option maxRecDepth 20000 in
theorem gX12_unlike_X12_runOf : GoodIn wsX12_unlike (wsV RX12 208 RX12 yX12_runOf wsX12_runOf) := goodIn_app (goodIn_of _ (by decide +kernel)) ggX12_unlike_X12_runOf
set_option maxRecDepth 20000 in
theorem ggX12_unlike_X12_areAlike : GoodIn wsX12_unlike wsX12_areAlike := goodIn_r _ [29, 9, 10, 7, 11, 12, 13, 14] (by decide +kernel) (by decide +kernel)
set_option maxRecDepth 20000 in
theorem gX12_unlike_X12_areAlike : GoodIn wsX12_unlike (wsV RX12 214 RX12 yX12_areAlike wsX12_areAlike) := goodIn_app (goodIn_of _ (by decide +kernel)) ggX12_unlike_X12_areAlike
theorem dX12_unlike_0 : decode cX12_unlike 0 = .ok (.iconst 0, 1) := by decide +kernel
theorem dX12_unlike_1 : decode cX12_unlike 1 = .ok (.istore_n 1, 1) := by decide +kernel
theorem dX12_unlike_2 : decode cX12_unlike 2 = .ok (.iload_n 1, 1) := by decide +kernel
theorem dX12_unlike_3 : decode cX12_unlike 3 = .ok (.sipush 4096, 3) := by decide +kernel
theorem dX12_unlike_6 : decode cX12_unlike 6 = .ok (.if_icmp .ge 93, 3) := by decide +kernel
theorem dX12_unlike_9 : decode cX12_unlike 9 = .ok (.iload_n 1, 1) := by decide +kernel
theorem dX12_unlike_10 : decode cX12_unlike 10 = .ok (.istore_n 2, 1) := by decide +kernel
theorem dX12_unlike_11 : decode cX12_unlike 11 = .ok (.iconst 0, 1) := by decide +kernel
theorem dX12_unlike_12 : decode cX12_unlike 12 = .ok (.istore_n 3, 1) := by decide +kernel
theorem dX12_unlike_13 : decode cX12_unlike 13 = .ok (.iload_n 3, 1) := by decide +kernel
theorem dX12_unlike_14 : decode cX12_unlike 14 = .ok (.aload_n 0, 1) := by decide +kernel
theorem dX12_unlike_15 : decode cX12_unlike 15 = .ok (.getfield 211, 3) := by decide +kernel
theorem dX12_unlike_18 : decode cX12_unlike 18 = .ok (.if_icmp .ge 52, 3) := by decide +kernel
theorem dX12_unlike_21 : decode cX12_unlike 21 = .ok (.iload_n 2, 1) := by decide +kernel
theorem dX12_unlike_22 : decode cX12_unlike 22 = .ok (.aload_n 0, 1) := by decide +kernel
theorem dX12_unlike_23 : decode cX12_unlike 23 = .ok (.getfield 25, 3) := by decide +kernel
theorem dX12_unlike_26 : decode cX12_unlike 26 = .ok (.iconst 4, 1) := by decide +kernel
theorem dX12_unlike_27 : decode cX12_unlike 27 = .ok (.iload_n 3, 1) := by decide +kernel
theorem dX12_unlike_28 : decode cX12_unlike 28 = .ok (.imul, 1) := by decide +kernel
theorem dX12_unlike_29 : decode cX12_unlike 29 = .ok (.iaload, 1) := by decide +kernel
theorem dX12_unlike_30 : decode cX12_unlike 30 = .ok (.aload_n 0, 1) := by decide +kernel
theorem dX12_unlike_31 : decode cX12_unlike 31 = .ok (.getfield 25, 3) := by decide +kernel
theorem dX12_unlike_34 : decode cX12_unlike 34 = .ok (.iconst 4, 1) := by decide +kernel
theorem dX12_unlike_35 : decode cX12_unlike 35 = .ok (.iload_n 3, 1) := by decide +kernel
theorem dX12_unlike_36 : decode cX12_unlike 36 = .ok (.imul, 1) := by decide +kernel
theorem dX12_unlike_37 : decode cX12_unlike 37 = .ok (.iconst 1, 1) := by decide +kernel
theorem dX12_unlike_38 : decode cX12_unlike 38 = .ok (.iadd, 1) := by decide +kernel
theorem dX12_unlike_39 : decode cX12_unlike 39 = .ok (.iaload, 1) := by decide +kernel
theorem dX12_unlike_40 : decode cX12_unlike 40 = .ok (.aload_n 0, 1) := by decide +kernel
theorem dX12_unlike_41 : decode cX12_unlike 41 = .ok (.getfield 25, 3) := by decide +kernel
theorem dX12_unlike_44 : decode cX12_unlike 44 = .ok (.iconst 4, 1) := by decide +kernel
theorem dX12_unlike_45 : decode cX12_unlike 45 = .ok (.iload_n 3, 1) := by decide +kernel
theorem dX12_unlike_46 : decode cX12_unlike 46 = .ok (.imul, 1) := by decide +kernel
theorem dX12_unlike_47 : decode cX12_unlike 47 = .ok (.iconst 2, 1) := by decide +kernel
theorem dX12_unlike_48 : decode cX12_unlike 48 = .ok (.iadd, 1) := by decide +kernel
theorem dX12_unlike_49 : decode cX12_unlike 49 = .ok (.iaload, 1) := by decide +kernel
theorem dX12_unlike_50 : decode cX12_unlike 50 = .ok (.aload_n 0, 1) := by decide +kernel
theorem dX12_unlike_51 : decode cX12_unlike 51 = .ok (.getfield 25, 3) := by decide +kernel
theorem dX12_unlike_54 : decode cX12_unlike 54 = .ok (.iconst 4, 1) := by decide +kernel
theorem dX12_unlike_55 : decode cX12_unlike 55 = .ok (.iload_n 3, 1) := by decide +kernel
theorem dX12_unlike_56 : decode cX12_unlike 56 = .ok (.imul, 1) := by decide +kernel
theorem dX12_unlike_57 : decode cX12_unlike 57 = .ok (.iconst 3, 1) := by decide +kernel
theorem dX12_unlike_58 : decode cX12_unlike 58 = .ok (.iadd, 1) := by decide +kernel
theorem dX12_unlike_59 : decode cX12_unlike 59 = .ok (.iaload, 1) := by decide +kernel
theorem dX12_unlike_60 : decode cX12_unlike 60 = .ok (.invokestatic 199, 3) := by decide +kernel
theorem dX12_unlike_63 : decode cX12_unlike 63 = .ok (.istore_n 2, 1) := by decide +kernel
theorem dX12_unlike_64 : decode cX12_unlike 64 = .ok (.iinc 3 1, 3) := by decide +kernel
theorem dX12_unlike_67 : decode cX12_unlike 67 = .ok (.goto (-54), 3) := by decide +kernel
theorem dX12_unlike_70 : decode cX12_unlike 70 = .ok (.aload_n 0, 1) := by decide +kernel
theorem dX12_unlike_71 : decode cX12_unlike 71 = .ok (.aload_n 0, 1) := by decide +kernel
theorem dX12_unlike_72 : decode cX12_unlike 72 = .ok (.iload_n 1, 1) := by decide +kernel
theorem dX12_unlike_73 : decode cX12_unlike 73 = .ok (.aload_n 0, 1) := by decide +kernel
theorem dX12_unlike_74 : decode cX12_unlike 74 = .ok (.getfield 181, 3) := by decide +kernel
theorem dX12_unlike_77 : decode cX12_unlike 77 = .ok (.invokevirtual 208, 3) := by decide +kernel
theorem dX12_unlike_80 : decode cX12_unlike 80 = .ok (.iload_n 2, 1) := by decide +kernel
theorem dX12_unlike_81 : decode cX12_unlike 81 = .ok (.aload_n 0, 1) := by decide +kernel
theorem dX12_unlike_82 : decode cX12_unlike 82 = .ok (.getfield 116, 3) := by decide +kernel
theorem dX12_unlike_85 : decode cX12_unlike 85 = .ok (.invokevirtual 214, 3) := by decide +kernel
theorem dX12_unlike_88 : decode cX12_unlike 88 = .ok (.ifCond .ne 5, 3) := by decide +kernel
theorem dX12_unlike_91 : decode cX12_unlike 91 = .ok (.iload_n 1, 1) := by decide +kernel
theorem dX12_unlike_92 : decode cX12_unlike 92 = .ok (.ireturn, 1) := by decide +kernel
theorem dX12_unlike_93 : decode cX12_unlike 93 = .ok (.iinc 1 1, 3) := by decide +kernel
theorem dX12_unlike_96 : decode cX12_unlike 96 = .ok (.goto (-94), 3) := by decide +kernel
theorem dX12_unlike_99 : decode cX12_unlike 99 = .ok (.bipush (-6), 2) := by decide +kernel
theorem dX12_unlike_101 : decode cX12_unlike 101 = .ok (.ireturn, 1) := by decide +kernel
set_option maxRecDepth 20000 in
theorem ggX12_bitOf_X12_isRegister : GoodIn wsX12_bitOf wsX12_isRegister := goodIn_r _ [4, 5, 6, 7, 3, 8] (by decide +kernel) (by decide +kernel)
set_option maxRecDepth 20000 in
theorem gX12_bitOf_X12_isRegister : GoodIn wsX12_bitOf (va_wsS RX12 218 yX12_isRegister wsX12_isRegister) := goodIn_app (goodIn_of _ (by decide +kernel)) ggX12_bitOf_X12_isRegister
theorem dX12_bitOf_0 : decode cX12_bitOf 0 = .ok (.iload_n 0, 1) := by decide +kernel
theorem dX12_bitOf_1 : decode cX12_bitOf 1 = .ok (.invokestatic 218, 3) := by decide +kernel
theorem dX12_bitOf_4 : decode cX12_bitOf 4 = .ok (.ifCond .eq 9, 3) := by decide +kernel
theorem dX12_bitOf_7 : decode cX12_bitOf 7 = .ok (.iconst 1, 1) := by decide +kernel
theorem dX12_bitOf_8 : decode cX12_bitOf 8 = .ok (.iload_n 0, 1) := by decide +kernel
theorem dX12_bitOf_9 : decode cX12_bitOf 9 = .ok (.ishl, 1) := by decide +kernel
theorem dX12_bitOf_10 : decode cX12_bitOf 10 = .ok (.goto 4, 3) := by decide +kernel
theorem dX12_bitOf_13 : decode cX12_bitOf 13 = .ok (.iconst 0, 1) := by decide +kernel
theorem dX12_bitOf_14 : decode cX12_bitOf 14 = .ok (.ireturn, 1) := by decide +kernel
set_option maxRecDepth 20000 in
theorem ggX12_liveAt_X12_bitOf : GoodIn wsX12_liveAt wsX12_bitOf := goodIn_r _ [9, 10, 11, 8, 12, 13, 14, 15, 16] (by decide +kernel) (by decide +kernel)
set_option maxRecDepth 20000 in
theorem gX12_liveAt_X12_bitOf : GoodIn wsX12_liveAt (va_wsS RX12 221 yX12_bitOf wsX12_bitOf) := goodIn_app (goodIn_of _ (by decide +kernel)) ggX12_liveAt_X12_bitOf
theorem dX12_liveAt_0 : decode cX12_liveAt 0 = .ok (.aload_n 0, 1) := by decide +kernel
theorem dX12_liveAt_1 : decode cX12_liveAt 1 = .ok (.getfield 116, 3) := by decide +kernel
theorem dX12_liveAt_4 : decode cX12_liveAt 4 = .ok (.istore_n 2, 1) := by decide +kernel
theorem dX12_liveAt_5 : decode cX12_liveAt 5 = .ok (.aload_n 0, 1) := by decide +kernel
theorem dX12_liveAt_6 : decode cX12_liveAt 6 = .ok (.getfield 181, 3) := by decide +kernel
theorem dX12_liveAt_9 : decode cX12_liveAt 9 = .ok (.iconst 1, 1) := by decide +kernel
theorem dX12_liveAt_10 : decode cX12_liveAt 10 = .ok (.isub, 1) := by decide +kernel
theorem dX12_liveAt_11 : decode cX12_liveAt 11 = .ok (.istore_n 3, 1) := by decide +kernel
theorem dX12_liveAt_12 : decode cX12_liveAt 12 = .ok (.iload_n 3, 1) := by decide +kernel
theorem dX12_liveAt_13 : decode cX12_liveAt 13 = .ok (.iload_n 1, 1) := by decide +kernel
theorem dX12_liveAt_14 : decode cX12_liveAt 14 = .ok (.if_icmp .lt 42, 3) := by decide +kernel
theorem dX12_liveAt_17 : decode cX12_liveAt 17 = .ok (.iload_n 2, 1) := by decide +kernel
theorem dX12_liveAt_18 : decode cX12_liveAt 18 = .ok (.iconst 1, 1) := by decide +kernel
theorem dX12_liveAt_19 : decode cX12_liveAt 19 = .ok (.aload_n 0, 1) := by decide +kernel
theorem dX12_liveAt_20 : decode cX12_liveAt 20 = .ok (.getfield 13, 3) := by decide +kernel
theorem dX12_liveAt_23 : decode cX12_liveAt 23 = .ok (.iload_n 3, 1) := by decide +kernel
theorem dX12_liveAt_24 : decode cX12_liveAt 24 = .ok (.iaload, 1) := by decide +kernel
theorem dX12_liveAt_25 : decode cX12_liveAt 25 = .ok (.ishl, 1) := by decide +kernel
theorem dX12_liveAt_26 : decode cX12_liveAt 26 = .ok (.iconst (-1), 1) := by decide +kernel
theorem dX12_liveAt_27 : decode cX12_liveAt 27 = .ok (.ixor, 1) := by decide +kernel
theorem dX12_liveAt_28 : decode cX12_liveAt 28 = .ok (.iand, 1) := by decide +kernel
theorem dX12_liveAt_29 : decode cX12_liveAt 29 = .ok (.aload_n 0, 1) := by decide +kernel
theorem dX12_liveAt_30 : decode cX12_liveAt 30 = .ok (.getfield 19, 3) := by decide +kernel
theorem dX12_liveAt_33 : decode cX12_liveAt 33 = .ok (.iload_n 3, 1) := by decide +kernel
theorem dX12_liveAt_34 : decode cX12_liveAt 34 = .ok (.iaload, 1) := by decide +kernel
theorem dX12_liveAt_35 : decode cX12_liveAt 35 = .ok (.invokestatic 221, 3) := by decide +kernel
theorem dX12_liveAt_38 : decode cX12_liveAt 38 = .ok (.ior, 1) := by decide +kernel
theorem dX12_liveAt_39 : decode cX12_liveAt 39 = .ok (.aload_n 0, 1) := by decide +kernel
theorem dX12_liveAt_40 : decode cX12_liveAt 40 = .ok (.getfield 22, 3) := by decide +kernel
theorem dX12_liveAt_43 : decode cX12_liveAt 43 = .ok (.iload_n 3, 1) := by decide +kernel
theorem dX12_liveAt_44 : decode cX12_liveAt 44 = .ok (.iaload, 1) := by decide +kernel
theorem dX12_liveAt_45 : decode cX12_liveAt 45 = .ok (.invokestatic 221, 3) := by decide +kernel
theorem dX12_liveAt_48 : decode cX12_liveAt 48 = .ok (.ior, 1) := by decide +kernel
theorem dX12_liveAt_49 : decode cX12_liveAt 49 = .ok (.istore_n 2, 1) := by decide +kernel
theorem dX12_liveAt_50 : decode cX12_liveAt 50 = .ok (.iinc 3 (-1), 3) := by decide +kernel
theorem dX12_liveAt_53 : decode cX12_liveAt 53 = .ok (.goto (-41), 3) := by decide +kernel
theorem dX12_liveAt_56 : decode cX12_liveAt 56 = .ok (.iload_n 2, 1) := by decide +kernel
theorem dX12_liveAt_57 : decode cX12_liveAt 57 = .ok (.ireturn, 1) := by decide +kernel
set_option maxRecDepth 20000 in
theorem ggX12_live_X12_isPlace : GoodIn wsX12_live wsX12_isPlace := goodIn_r _ [5, 6, 7, 8, 4, 9, 25, 26, 27, 28, 29, 30, 31, 32, 33, 34, 35, 36, 37, 38, 39, 40, 41, 42, 43, 44, 45, 46, 47, 48, 49, 50, 51, 52, 53, 54, 55, 56, 57, 58, 59, 60, 61, 62, 63, 64, 65, 66, 67, 68, 69, 70, 71, 72] (by decide +kernel) (by decide +kernel)
set_option maxRecDepth 20000 in
theorem gX12_live_X12_isPlace : GoodIn wsX12_live (wsV RX12 205 RX12 yX12_isPlace wsX12_isPlace) := goodIn_app (goodIn_of _ (by decide +kernel)) ggX12_live_X12_isPlace
set_option maxRecDepth 20000 in
theorem ggX12_live_X12_liveAt : GoodIn wsX12_live wsX12_liveAt := goodIn_r _ [13, 14, 6, 15, 16, 17, 18, 19, 4, 20, 21, 22, 23, 24, 7, 8, 9, 25, 26, 27, 28, 29, 30, 31, 32, 33, 34, 35, 36, 37, 38, 39, 40, 41, 42, 43, 44, 45, 46, 47, 48, 49, 50, 51, 52, 53, 54, 55, 56, 57, 58, 59, 60, 61, 62, 63, 64, 65, 66, 67, 68, 69, 70, 71, 72] (by decide +kernel) (by decide +kernel)
set_option maxRecDepth 20000 in
theorem gX12_live_X12_liveAt : GoodIn wsX12_live (wsV RX12 224 RX12 yX12_liveAt wsX12_liveAt) := goodIn_app (goodIn_of _ (by decide +kernel)) ggX12_live_X12_liveAt
theorem dX12_live_0 : decode cX12_live 0 = .ok (.aload_n 0, 1) := by decide +kernel
theorem dX12_live_1 : decode cX12_live 1 = .ok (.iload_n 1, 1) := by decide +kernel
theorem dX12_live_2 : decode cX12_live 2 = .ok (.invokevirtual 205, 3) := by decide +kernel
theorem dX12_live_5 : decode cX12_live 5 = .ok (.ifCond .eq 11, 3) := by decide +kernel
theorem dX12_live_8 : decode cX12_live 8 = .ok (.aload_n 0, 1) := by decide +kernel
theorem dX12_live_9 : decode cX12_live 9 = .ok (.iload_n 1, 1) := by decide +kernel
theorem dX12_live_10 : decode cX12_live 10 = .ok (.invokevirtual 224, 3) := by decide +kernel
theorem dX12_live_13 : decode cX12_live 13 = .ok (.goto 4, 3) := by decide +kernel
theorem dX12_live_16 : decode cX12_live 16 = .ok (.iconst (-1), 1) := by decide +kernel
theorem dX12_live_17 : decode cX12_live 17 = .ok (.ireturn, 1) := by decide +kernel
set_option maxRecDepth 20000 in
theorem ggX12_isDead_X12_liveAt : GoodIn wsX12_isDead wsX12_liveAt := goodIn_r _ [6, 7, 8, 1, 9, 10, 11, 12, 5, 13, 14, 15, 16, 17, 18, 19, 20, 21, 22, 23, 24, 25, 26, 27, 28, 29, 30, 31, 32, 33, 34, 35, 36, 37, 38, 39, 40, 41, 42, 43, 44, 45, 46, 47, 48, 49, 50, 51, 52, 53, 54, 55, 56, 57, 58, 59, 60, 61, 62, 63, 64, 65, 66, 67, 68] (by decide +kernel) (by decide +kernel)
set_option maxRecDepth 20000 in
theorem gX12_isDead_X12_liveAt : GoodIn wsX12_isDead (wsV RX12 224 RX12 yX12_liveAt wsX12_liveAt) := goodIn_app (goodIn_of _ (by decide +kernel)) ggX12_isDead_X12_liveAt
theorem dX12_isDead_0 : decode cX12_isDead 0 = .ok (.aload_n 0, 1) := by decide +kernel
theorem dX12_isDead_1 : decode cX12_isDead 1 = .ok (.iload_n 1, 1) := by decide +kernel
theorem dX12_isDead_2 : decode cX12_isDead 2 = .ok (.iconst 1, 1) := by decide +kernel
theorem dX12_isDead_3 : decode cX12_isDead 3 = .ok (.iadd, 1) := by decide +kernel
theorem dX12_isDead_4 : decode cX12_isDead 4 = .ok (.invokevirtual 224, 3) := by decide +kernel
theorem dX12_isDead_7 : decode cX12_isDead 7 = .ok (.aload_n 0, 1) := by decide +kernel
theorem dX12_isDead_8 : decode cX12_isDead 8 = .ok (.getfield 13, 3) := by decide +kernel
theorem dX12_isDead_11 : decode cX12_isDead 11 = .ok (.iload_n 1, 1) := by decide +kernel
theorem dX12_isDead_12 : decode cX12_isDead 12 = .ok (.iaload, 1) := by decide +kernel
theorem dX12_isDead_13 : decode cX12_isDead 13 = .ok (.ishr, 1) := by decide +kernel
theorem dX12_isDead_14 : decode cX12_isDead 14 = .ok (.iconst 1, 1) := by decide +kernel
theorem dX12_isDead_15 : decode cX12_isDead 15 = .ok (.iand, 1) := by decide +kernel
theorem dX12_isDead_16 : decode cX12_isDead 16 = .ok (.ifCond .ne 7, 3) := by decide +kernel
theorem dX12_isDead_19 : decode cX12_isDead 19 = .ok (.iconst 1, 1) := by decide +kernel
theorem dX12_isDead_20 : decode cX12_isDead 20 = .ok (.goto 4, 3) := by decide +kernel
theorem dX12_isDead_23 : decode cX12_isDead 23 = .ok (.iconst 0, 1) := by decide +kernel
theorem dX12_isDead_24 : decode cX12_isDead 24 = .ok (.ireturn, 1) := by decide +kernel
set_option maxRecDepth 20000 in
theorem ggX12_knownOf_X12_knownHere : GoodIn wsX12_knownOf wsX12_knownHere := goodIn_r _ [10, 1, 14, 15, 16, 17, 18, 19, 20, 21, 22, 23, 24, 25, 26, 27, 28, 29, 30, 31, 32, 33, 34, 35, 36, 37, 38, 39, 40, 41, 42, 43, 44, 45, 46, 47, 48, 49, 50, 51, 52, 53, 54, 55, 56, 57, 58, 59, 60, 61] (by decide +kernel) (by decide +kernel)
set_option maxRecDepth 20000 in
theorem gX12_knownOf_X12_knownHere : GoodIn wsX12_knownOf (wsV RX12 227 RX12 yX12_knownHere wsX12_knownHere) := goodIn_app (goodIn_of _ (by decide +kernel)) ggX12_knownOf_X12_knownHere
set_option maxRecDepth 20000 in
theorem ggX12_knownOf_X12_acted : GoodIn wsX12_knownOf wsX12_acted := goodIn_r _ [13] (by decide +kernel) (by decide +kernel)
set_option maxRecDepth 20000 in
theorem gX12_knownOf_X12_acted : GoodIn wsX12_knownOf (va_wsS RX12 195 yX12_acted wsX12_acted) := goodIn_app (goodIn_of _ (by decide +kernel)) ggX12_knownOf_X12_acted
theorem dX12_knownOf_0 : decode cX12_knownOf 0 = .ok (.iload_n 1, 1) := by decide +kernel
theorem dX12_knownOf_1 : decode cX12_knownOf 1 = .ok (.bipush 10, 2) := by decide +kernel
theorem dX12_knownOf_3 : decode cX12_knownOf 3 = .ok (.if_icmp .lt 8, 3) := by decide +kernel
theorem dX12_knownOf_6 : decode cX12_knownOf 6 = .ok (.iload_n 1, 1) := by decide +kernel
theorem dX12_knownOf_7 : decode cX12_knownOf 7 = .ok (.bipush 10, 2) := by decide +kernel
theorem dX12_knownOf_9 : decode cX12_knownOf 9 = .ok (.isub, 1) := by decide +kernel
theorem dX12_knownOf_10 : decode cX12_knownOf 10 = .ok (.ireturn, 1) := by decide +kernel
theorem dX12_knownOf_11 : decode cX12_knownOf 11 = .ok (.iconst 0, 1) := by decide +kernel
theorem dX12_knownOf_12 : decode cX12_knownOf 12 = .ok (.istore_n 3, 1) := by decide +kernel
theorem dX12_knownOf_13 : decode cX12_knownOf 13 = .ok (.iload_n 3, 1) := by decide +kernel
theorem dX12_knownOf_14 : decode cX12_knownOf 14 = .ok (.iconst 4, 1) := by decide +kernel
theorem dX12_knownOf_15 : decode cX12_knownOf 15 = .ok (.if_icmp .ge 17, 3) := by decide +kernel
theorem dX12_knownOf_18 : decode cX12_knownOf 18 = .ok (.aload_n 0, 1) := by decide +kernel
theorem dX12_knownOf_19 : decode cX12_knownOf 19 = .ok (.getfield 34, 3) := by decide +kernel
theorem dX12_knownOf_22 : decode cX12_knownOf 22 = .ok (.iload_n 3, 1) := by decide +kernel
theorem dX12_knownOf_23 : decode cX12_knownOf 23 = .ok (.bipush (-6), 2) := by decide +kernel
theorem dX12_knownOf_25 : decode cX12_knownOf 25 = .ok (.iastore, 1) := by decide +kernel
theorem dX12_knownOf_26 : decode cX12_knownOf 26 = .ok (.iinc 3 1, 3) := by decide +kernel
theorem dX12_knownOf_29 : decode cX12_knownOf 29 = .ok (.goto (-16), 3) := by decide +kernel
theorem dX12_knownOf_32 : decode cX12_knownOf 32 = .ok (.iconst 0, 1) := by decide +kernel
theorem dX12_knownOf_33 : decode cX12_knownOf 33 = .ok (.istore_n 3, 1) := by decide +kernel
theorem dX12_knownOf_34 : decode cX12_knownOf 34 = .ok (.iload_n 3, 1) := by decide +kernel
theorem dX12_knownOf_35 : decode cX12_knownOf 35 = .ok (.iload_n 2, 1) := by decide +kernel
theorem dX12_knownOf_36 : decode cX12_knownOf 36 = .ok (.if_icmp .ge 103, 3) := by decide +kernel
theorem dX12_knownOf_39 : decode cX12_knownOf 39 = .ok (.aload_n 0, 1) := by decide +kernel
theorem dX12_knownOf_40 : decode cX12_knownOf 40 = .ok (.aload_n 0, 1) := by decide +kernel
theorem dX12_knownOf_41 : decode cX12_knownOf 41 = .ok (.getfield 19, 3) := by decide +kernel
theorem dX12_knownOf_44 : decode cX12_knownOf 44 = .ok (.iload_n 3, 1) := by decide +kernel
theorem dX12_knownOf_45 : decode cX12_knownOf 45 = .ok (.iaload, 1) := by decide +kernel
theorem dX12_knownOf_46 : decode cX12_knownOf 46 = .ok (.invokevirtual 227, 3) := by decide +kernel
theorem dX12_knownOf_49 : decode cX12_knownOf 49 = .ok (.istore 4, 2) := by decide +kernel
theorem dX12_knownOf_51 : decode cX12_knownOf 51 = .ok (.aload_n 0, 1) := by decide +kernel
theorem dX12_knownOf_52 : decode cX12_knownOf 52 = .ok (.getfield 16, 3) := by decide +kernel
theorem dX12_knownOf_55 : decode cX12_knownOf 55 = .ok (.iload_n 3, 1) := by decide +kernel
theorem dX12_knownOf_56 : decode cX12_knownOf 56 = .ok (.iaload, 1) := by decide +kernel
theorem dX12_knownOf_57 : decode cX12_knownOf 57 = .ok (.bipush (-6), 2) := by decide +kernel
theorem dX12_knownOf_59 : decode cX12_knownOf 59 = .ok (.if_icmp .ne 7, 3) := by decide +kernel
theorem dX12_knownOf_62 : decode cX12_knownOf 62 = .ok (.iconst 0, 1) := by decide +kernel
theorem dX12_knownOf_63 : decode cX12_knownOf 63 = .ok (.goto 13, 3) := by decide +kernel
theorem dX12_knownOf_66 : decode cX12_knownOf 66 = .ok (.aload_n 0, 1) := by decide +kernel
theorem dX12_knownOf_67 : decode cX12_knownOf 67 = .ok (.aload_n 0, 1) := by decide +kernel
theorem dX12_knownOf_68 : decode cX12_knownOf 68 = .ok (.getfield 22, 3) := by decide +kernel
theorem dX12_knownOf_71 : decode cX12_knownOf 71 = .ok (.iload_n 3, 1) := by decide +kernel
theorem dX12_knownOf_72 : decode cX12_knownOf 72 = .ok (.iaload, 1) := by decide +kernel
theorem dX12_knownOf_73 : decode cX12_knownOf 73 = .ok (.invokevirtual 227, 3) := by decide +kernel
theorem dX12_knownOf_76 : decode cX12_knownOf 76 = .ok (.istore 5, 2) := by decide +kernel
theorem dX12_knownOf_78 : decode cX12_knownOf 78 = .ok (.aload_n 0, 1) := by decide +kernel
theorem dX12_knownOf_79 : decode cX12_knownOf 79 = .ok (.getfield 34, 3) := by decide +kernel
theorem dX12_knownOf_82 : decode cX12_knownOf 82 = .ok (.aload_n 0, 1) := by decide +kernel
theorem dX12_knownOf_83 : decode cX12_knownOf 83 = .ok (.getfield 13, 3) := by decide +kernel
theorem dX12_knownOf_86 : decode cX12_knownOf 86 = .ok (.iload_n 3, 1) := by decide +kernel
theorem dX12_knownOf_87 : decode cX12_knownOf 87 = .ok (.iaload, 1) := by decide +kernel
theorem dX12_knownOf_88 : decode cX12_knownOf 88 = .ok (.iload 4, 2) := by decide +kernel
theorem dX12_knownOf_90 : decode cX12_knownOf 90 = .ok (.ifCond .lt 8, 3) := by decide +kernel
theorem dX12_knownOf_93 : decode cX12_knownOf 93 = .ok (.iload 5, 2) := by decide +kernel
theorem dX12_knownOf_95 : decode cX12_knownOf 95 = .ok (.ifCond .ge 8, 3) := by decide +kernel
theorem dX12_knownOf_98 : decode cX12_knownOf 98 = .ok (.bipush (-6), 2) := by decide +kernel
theorem dX12_knownOf_100 : decode cX12_knownOf 100 = .ok (.goto 32, 3) := by decide +kernel
theorem dX12_knownOf_103 : decode cX12_knownOf 103 = .ok (.aload_n 0, 1) := by decide +kernel
theorem dX12_knownOf_104 : decode cX12_knownOf 104 = .ok (.getfield 16, 3) := by decide +kernel
theorem dX12_knownOf_107 : decode cX12_knownOf 107 = .ok (.iload_n 3, 1) := by decide +kernel
theorem dX12_knownOf_108 : decode cX12_knownOf 108 = .ok (.iaload, 1) := by decide +kernel
theorem dX12_knownOf_109 : decode cX12_knownOf 109 = .ok (.bipush (-6), 2) := by decide +kernel
theorem dX12_knownOf_111 : decode cX12_knownOf 111 = .ok (.if_icmp .ne 8, 3) := by decide +kernel
theorem dX12_knownOf_114 : decode cX12_knownOf 114 = .ok (.iload 4, 2) := by decide +kernel
theorem dX12_knownOf_116 : decode cX12_knownOf 116 = .ok (.goto 16, 3) := by decide +kernel
theorem dX12_knownOf_119 : decode cX12_knownOf 119 = .ok (.aload_n 0, 1) := by decide +kernel
theorem dX12_knownOf_120 : decode cX12_knownOf 120 = .ok (.getfield 16, 3) := by decide +kernel
theorem dX12_knownOf_123 : decode cX12_knownOf 123 = .ok (.iload_n 3, 1) := by decide +kernel
theorem dX12_knownOf_124 : decode cX12_knownOf 124 = .ok (.iaload, 1) := by decide +kernel
theorem dX12_knownOf_125 : decode cX12_knownOf 125 = .ok (.iload 4, 2) := by decide +kernel
theorem dX12_knownOf_127 : decode cX12_knownOf 127 = .ok (.iload 5, 2) := by decide +kernel
theorem dX12_knownOf_129 : decode cX12_knownOf 129 = .ok (.invokestatic 195, 3) := by decide +kernel
theorem dX12_knownOf_132 : decode cX12_knownOf 132 = .ok (.iastore, 1) := by decide +kernel
theorem dX12_knownOf_133 : decode cX12_knownOf 133 = .ok (.iinc 3 1, 3) := by decide +kernel
theorem dX12_knownOf_136 : decode cX12_knownOf 136 = .ok (.goto (-102), 3) := by decide +kernel
theorem dX12_knownOf_139 : decode cX12_knownOf 139 = .ok (.aload_n 0, 1) := by decide +kernel
theorem dX12_knownOf_140 : decode cX12_knownOf 140 = .ok (.getfield 34, 3) := by decide +kernel
theorem dX12_knownOf_143 : decode cX12_knownOf 143 = .ok (.iload_n 1, 1) := by decide +kernel
theorem dX12_knownOf_144 : decode cX12_knownOf 144 = .ok (.iaload, 1) := by decide +kernel
theorem dX12_knownOf_145 : decode cX12_knownOf 145 = .ok (.ireturn, 1) := by decide +kernel
theorem dX12_knownHere_0 : decode cX12_knownHere 0 = .ok (.iload_n 1, 1) := by decide +kernel
theorem dX12_knownHere_1 : decode cX12_knownHere 1 = .ok (.bipush 10, 2) := by decide +kernel
theorem dX12_knownHere_3 : decode cX12_knownHere 3 = .ok (.if_icmp .lt 10, 3) := by decide +kernel
theorem dX12_knownHere_6 : decode cX12_knownHere 6 = .ok (.iload_n 1, 1) := by decide +kernel
theorem dX12_knownHere_7 : decode cX12_knownHere 7 = .ok (.bipush 10, 2) := by decide +kernel
theorem dX12_knownHere_9 : decode cX12_knownHere 9 = .ok (.isub, 1) := by decide +kernel
theorem dX12_knownHere_10 : decode cX12_knownHere 10 = .ok (.goto 9, 3) := by decide +kernel
theorem dX12_knownHere_13 : decode cX12_knownHere 13 = .ok (.aload_n 0, 1) := by decide +kernel
theorem dX12_knownHere_14 : decode cX12_knownHere 14 = .ok (.getfield 34, 3) := by decide +kernel
theorem dX12_knownHere_17 : decode cX12_knownHere 17 = .ok (.iload_n 1, 1) := by decide +kernel
theorem dX12_knownHere_18 : decode cX12_knownHere 18 = .ok (.iaload, 1) := by decide +kernel
theorem dX12_knownHere_19 : decode cX12_knownHere 19 = .ok (.ireturn, 1) := by decide +kernel
set_option maxRecDepth 20000 in
theorem ggX12_known_X12_isPlace : GoodIn wsX12_known wsX12_isPlace := goodIn_r _ [5, 6, 7, 8, 4, 9, 30, 31, 32, 33, 34, 35, 36, 37, 38, 39, 40, 41, 42, 43, 44, 45, 46, 47, 48, 49, 50, 51, 52, 53, 54, 55, 56, 57, 58, 59, 60, 61, 62, 63, 64, 65, 66, 67, 68, 69, 70, 71, 72, 73, 74, 75, 76, 77] (by decide +kernel) (by decide +kernel)
set_option maxRecDepth 20000 in
theorem gX12_known_X12_isPlace : GoodIn wsX12_known (wsV RX12 205 RX12 yX12_isPlace wsX12_isPlace) := goodIn_app (goodIn_of _ (by decide +kernel)) ggX12_known_X12_isPlace
set_option maxRecDepth 20000 in
theorem ggX12_known_X12_isRegister : GoodIn wsX12_known wsX12_isRegister := goodIn_r _ [12, 13, 7, 8, 4, 9] (by decide +kernel) (by decide +kernel)
set_option maxRecDepth 20000 in
theorem gX12_known_X12_isRegister : GoodIn wsX12_known (va_wsS RX12 218 yX12_isRegister wsX12_isRegister) := goodIn_app (goodIn_of _ (by decide +kernel)) ggX12_known_X12_isRegister
set_option maxRecDepth 20000 in
theorem ggX12_known_X12_knownOf : GoodIn wsX12_known wsX12_knownOf := goodIn_r _ [17, 18, 19, 20, 21, 22, 23, 24, 25, 4, 26, 27, 28, 29, 30, 31, 32, 33, 34, 35, 36, 37, 38, 39, 40, 41, 42, 43, 44, 45, 46, 47, 48, 49, 50, 51, 52, 53, 54, 55, 56, 57, 58, 59, 60, 61, 62, 63, 64, 65, 66, 67, 68, 69, 70, 71, 72, 73, 74, 75, 76, 77] (by decide +kernel) (by decide +kernel)
set_option maxRecDepth 20000 in
theorem gX12_known_X12_knownOf : GoodIn wsX12_known (wsV RX12 230 RX12 yX12_knownOf wsX12_knownOf) := goodIn_app (goodIn_of _ (by decide +kernel)) ggX12_known_X12_knownOf
theorem dX12_known_0 : decode cX12_known 0 = .ok (.aload_n 0, 1) := by decide +kernel
theorem dX12_known_1 : decode cX12_known 1 = .ok (.iload_n 1, 1) := by decide +kernel
theorem dX12_known_2 : decode cX12_known 2 = .ok (.invokevirtual 205, 3) := by decide +kernel
theorem dX12_known_5 : decode cX12_known 5 = .ok (.ifCond .eq 19, 3) := by decide +kernel
theorem dX12_known_8 : decode cX12_known 8 = .ok (.iload_n 2, 1) := by decide +kernel
theorem dX12_known_9 : decode cX12_known 9 = .ok (.invokestatic 218, 3) := by decide +kernel
theorem dX12_known_12 : decode cX12_known 12 = .ok (.ifCond .eq 12, 3) := by decide +kernel
theorem dX12_known_15 : decode cX12_known 15 = .ok (.aload_n 0, 1) := by decide +kernel
theorem dX12_known_16 : decode cX12_known 16 = .ok (.iload_n 2, 1) := by decide +kernel
theorem dX12_known_17 : decode cX12_known 17 = .ok (.iload_n 1, 1) := by decide +kernel
theorem dX12_known_18 : decode cX12_known 18 = .ok (.invokevirtual 230, 3) := by decide +kernel
theorem dX12_known_21 : decode cX12_known 21 = .ok (.goto 4, 3) := by decide +kernel
theorem dX12_known_24 : decode cX12_known 24 = .ok (.iconst (-1), 1) := by decide +kernel
theorem dX12_known_25 : decode cX12_known 25 = .ok (.ireturn, 1) := by decide +kernel
theorem dX12_sortOf_0 : decode cX12_sortOf 0 = .ok (.iload_n 1, 1) := by decide +kernel
theorem dX12_sortOf_1 : decode cX12_sortOf 1 = .ok (.bipush 10, 2) := by decide +kernel
theorem dX12_sortOf_3 : decode cX12_sortOf 3 = .ok (.if_icmp .ge 10, 3) := by decide +kernel
theorem dX12_sortOf_6 : decode cX12_sortOf 6 = .ok (.aload_n 0, 1) := by decide +kernel
theorem dX12_sortOf_7 : decode cX12_sortOf 7 = .ok (.getfield 37, 3) := by decide +kernel
theorem dX12_sortOf_10 : decode cX12_sortOf 10 = .ok (.iload_n 1, 1) := by decide +kernel
theorem dX12_sortOf_11 : decode cX12_sortOf 11 = .ok (.iaload, 1) := by decide +kernel
theorem dX12_sortOf_12 : decode cX12_sortOf 12 = .ok (.ireturn, 1) := by decide +kernel
theorem dX12_sortOf_13 : decode cX12_sortOf 13 = .ok (.aload_n 0, 1) := by decide +kernel
theorem dX12_sortOf_14 : decode cX12_sortOf 14 = .ok (.getfield 40, 3) := by decide +kernel
theorem dX12_sortOf_17 : decode cX12_sortOf 17 = .ok (.iload_n 1, 1) := by decide +kernel
theorem dX12_sortOf_18 : decode cX12_sortOf 18 = .ok (.bipush 10, 2) := by decide +kernel
theorem dX12_sortOf_20 : decode cX12_sortOf 20 = .ok (.isub, 1) := by decide +kernel
theorem dX12_sortOf_21 : decode cX12_sortOf 21 = .ok (.iaload, 1) := by decide +kernel
theorem dX12_sortOf_22 : decode cX12_sortOf 22 = .ok (.ifCond .ge 26, 3) := by decide +kernel
theorem dX12_sortOf_25 : decode cX12_sortOf 25 = .ok (.aload_n 0, 1) := by decide +kernel
theorem dX12_sortOf_26 : decode cX12_sortOf 26 = .ok (.getfield 40, 3) := by decide +kernel
theorem dX12_sortOf_29 : decode cX12_sortOf 29 = .ok (.iload_n 1, 1) := by decide +kernel
theorem dX12_sortOf_30 : decode cX12_sortOf 30 = .ok (.bipush 10, 2) := by decide +kernel
theorem dX12_sortOf_32 : decode cX12_sortOf 32 = .ok (.isub, 1) := by decide +kernel
