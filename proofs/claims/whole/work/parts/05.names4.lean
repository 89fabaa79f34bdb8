theorem dX11_nodeNow_127 : decode cX11_nodeNow 127 = .ok (.ireturn, 1) := by decide +kernel
theorem dX11_nodeNow_128 : decode cX11_nodeNow 128 = .ok (.aload_n 0, 1) := by decide +kernel
theorem dX11_nodeNow_129 : decode cX11_nodeNow 129 = .ok (.getfield 13, 3) := by decide +kernel
theorem dX11_nodeNow_132 : decode cX11_nodeNow 132 = .ok (.iload_n 1, 1) := by decide +kernel
theorem dX11_nodeNow_133 : decode cX11_nodeNow 133 = .ok (.baload, 1) := by decide +kernel
theorem dX11_nodeNow_134 : decode cX11_nodeNow 134 = .ok (.ifCond .eq 12, 3) := by decide +kernel
theorem dX11_nodeNow_137 : decode cX11_nodeNow 137 = .ok (.aload_n 0, 1) := by decide +kernel
theorem dX11_nodeNow_138 : decode cX11_nodeNow 138 = .ok (.getfield 35, 3) := by decide +kernel
theorem dX11_nodeNow_141 : decode cX11_nodeNow 141 = .ok (.iload_n 1, 1) := by decide +kernel
theorem dX11_nodeNow_142 : decode cX11_nodeNow 142 = .ok (.iaload, 1) := by decide +kernel
theorem dX11_nodeNow_143 : decode cX11_nodeNow 143 = .ok (.goto 4, 3) := by decide +kernel
theorem dX11_nodeNow_146 : decode cX11_nodeNow 146 = .ok (.iconst (-1), 1) := by decide +kernel
theorem dX11_nodeNow_147 : decode cX11_nodeNow 147 = .ok (.ireturn, 1) := by decide +kernel
set_option maxRecDepth 20000 in
theorem ggX11_node_X11_isNode : GoodIn wsX11_node wsX11_isNode := goodIn_r _ [7, 8, 9, 10, 6, 11, 33, 34, 35, 36, 37, 38, 39, 40, 41, 42, 43, 44, 45, 46, 47, 48, 49, 50, 51, 52, 53, 54, 55, 56, 57, 58, 59, 60, 61, 62, 63, 64, 65, 66, 67, 68, 69, 70, 71, 72, 73, 74] (by decide +kernel) (by decide +kernel)
set_option maxRecDepth 20000 in
theorem gX11_node_X11_isNode : GoodIn wsX11_node (wsV RX11 159 RX11 yX11_isNode wsX11_isNode) := goodIn_app (goodIn_of _ (by decide +kernel)) ggX11_node_X11_isNode
set_option maxRecDepth 20000 in
theorem ggX11_node_X11_within : GoodIn wsX11_node wsX11_within := goodIn_r _ [11] (by decide +kernel) (by decide +kernel)
set_option maxRecDepth 20000 in
theorem gX11_node_X11_within : GoodIn wsX11_node (va_wsS RX11 77 yX11_within wsX11_within) := goodIn_app (goodIn_of _ (by decide +kernel)) ggX11_node_X11_within
set_option maxRecDepth 20000 in
theorem ggX11_node_X11_nodeNow : GoodIn wsX11_node wsX11_nodeNow := goodIn_r _ [15, 16, 17, 18, 19, 20, 21, 22, 23, 24, 25, 26, 27, 6, 28, 29, 30, 31, 32, 33, 34, 35, 36, 37, 38, 39, 40, 41, 42, 43, 44, 45, 46, 47, 48, 49, 50, 51, 52, 53, 54, 55, 56, 57, 58, 59, 60, 61, 62, 63, 64, 65, 66, 67, 68, 69, 70, 71, 72, 73, 74] (by decide +kernel) (by decide +kernel)
set_option maxRecDepth 20000 in
theorem gX11_node_X11_nodeNow : GoodIn wsX11_node (wsV RX11 179 RX11 yX11_nodeNow wsX11_nodeNow) := goodIn_app (goodIn_of _ (by decide +kernel)) ggX11_node_X11_nodeNow
theorem dX11_node_0 : decode cX11_node 0 = .ok (.aload_n 0, 1) := by decide +kernel
theorem dX11_node_1 : decode cX11_node 1 = .ok (.iload_n 1, 1) := by decide +kernel
theorem dX11_node_2 : decode cX11_node 2 = .ok (.invokevirtual 159, 3) := by decide +kernel
theorem dX11_node_5 : decode cX11_node 5 = .ok (.ifCond .ne 8, 3) := by decide +kernel
theorem dX11_node_8 : decode cX11_node 8 = .ok (.ldc 178, 2) := by decide +kernel
theorem dX11_node_10 : decode cX11_node 10 = .ok (.goto 24, 3) := by decide +kernel
theorem dX11_node_13 : decode cX11_node 13 = .ok (.iload_n 2, 1) := by decide +kernel
theorem dX11_node_14 : decode cX11_node 14 = .ok (.iconst 0, 1) := by decide +kernel
theorem dX11_node_15 : decode cX11_node 15 = .ok (.bipush 8, 2) := by decide +kernel
theorem dX11_node_17 : decode cX11_node 17 = .ok (.invokestatic 77, 3) := by decide +kernel
theorem dX11_node_20 : decode cX11_node 20 = .ok (.ifCond .eq 12, 3) := by decide +kernel
theorem dX11_node_23 : decode cX11_node 23 = .ok (.aload_n 0, 1) := by decide +kernel
theorem dX11_node_24 : decode cX11_node 24 = .ok (.iload_n 1, 1) := by decide +kernel
theorem dX11_node_25 : decode cX11_node 25 = .ok (.iload_n 2, 1) := by decide +kernel
theorem dX11_node_26 : decode cX11_node 26 = .ok (.invokevirtual 179, 3) := by decide +kernel
theorem dX11_node_29 : decode cX11_node 29 = .ok (.goto 5, 3) := by decide +kernel
theorem dX11_node_32 : decode cX11_node 32 = .ok (.ldc 81, 2) := by decide +kernel
theorem dX11_node_34 : decode cX11_node 34 = .ok (.ireturn, 1) := by decide +kernel
set_option maxRecDepth 20000 in
theorem ggX11_flight_X11_isNode : GoodIn wsX11_flight wsX11_isNode := goodIn_r _ [6, 7, 8, 9, 5, 10, 23, 24, 25, 26, 27, 28, 29, 30, 31, 32, 33, 34, 35, 36, 37, 38, 39, 40, 41, 42, 43, 44, 45, 46, 47, 48, 49, 50, 51, 52, 53, 54, 55, 56, 57, 58, 59, 60, 61, 62, 63, 64] (by decide +kernel) (by decide +kernel)
set_option maxRecDepth 20000 in
theorem gX11_flight_X11_isNode : GoodIn wsX11_flight (wsV RX11 159 RX11 yX11_isNode wsX11_isNode) := goodIn_app (goodIn_of _ (by decide +kernel)) ggX11_flight_X11_isNode
set_option maxRecDepth 20000 in
theorem ggX11_flight_X11_flightOf : GoodIn wsX11_flight wsX11_flightOf := goodIn_r _ [14, 15, 16, 17, 18, 5, 19, 20, 21, 22, 23, 24, 25, 26, 27, 28, 29, 30, 31, 32, 33, 34, 35, 36, 37, 38, 39, 40, 41, 42, 43, 44, 45, 46, 47, 48, 49, 50, 51, 52, 53, 54, 55, 56, 57, 58, 59, 60, 61, 62, 63, 64] (by decide +kernel) (by decide +kernel)
set_option maxRecDepth 20000 in
theorem gX11_flight_X11_flightOf : GoodIn wsX11_flight (wsV RX11 182 RX11 yX11_flightOf wsX11_flightOf) := goodIn_app (goodIn_of _ (by decide +kernel)) ggX11_flight_X11_flightOf
theorem dX11_flight_0 : decode cX11_flight 0 = .ok (.aload_n 0, 1) := by decide +kernel
theorem dX11_flight_1 : decode cX11_flight 1 = .ok (.iload_n 1, 1) := by decide +kernel
theorem dX11_flight_2 : decode cX11_flight 2 = .ok (.invokevirtual 159, 3) := by decide +kernel
theorem dX11_flight_5 : decode cX11_flight 5 = .ok (.ifCond .eq 20, 3) := by decide +kernel
theorem dX11_flight_8 : decode cX11_flight 8 = .ok (.aload_n 0, 1) := by decide +kernel
theorem dX11_flight_9 : decode cX11_flight 9 = .ok (.iload_n 2, 1) := by decide +kernel
theorem dX11_flight_10 : decode cX11_flight 10 = .ok (.invokevirtual 159, 3) := by decide +kernel
theorem dX11_flight_13 : decode cX11_flight 13 = .ok (.ifCond .eq 12, 3) := by decide +kernel
theorem dX11_flight_16 : decode cX11_flight 16 = .ok (.aload_n 0, 1) := by decide +kernel
theorem dX11_flight_17 : decode cX11_flight 17 = .ok (.iload_n 1, 1) := by decide +kernel
theorem dX11_flight_18 : decode cX11_flight 18 = .ok (.iload_n 2, 1) := by decide +kernel
theorem dX11_flight_19 : decode cX11_flight 19 = .ok (.invokevirtual 182, 3) := by decide +kernel
theorem dX11_flight_22 : decode cX11_flight 22 = .ok (.goto 5, 3) := by decide +kernel
theorem dX11_flight_25 : decode cX11_flight 25 = .ok (.ldc 178, 2) := by decide +kernel
theorem dX11_flight_27 : decode cX11_flight 27 = .ok (.ireturn, 1) := by decide +kernel
set_option maxRecDepth 20000 in
theorem ggX11_clock_X11_isNode : GoodIn wsX11_clock wsX11_isNode := goodIn_r _ [8, 9, 10, 11, 7, 12, 23, 24, 25, 26, 27, 28, 29, 30, 31, 32, 33, 34, 35, 36, 37, 38, 39, 40, 41, 42, 43, 44, 45, 46, 47, 48, 49, 50, 51, 52, 53, 54, 55, 56, 57, 58, 59, 60, 61, 62, 63, 64] (by decide +kernel) (by decide +kernel)
set_option maxRecDepth 20000 in
theorem gX11_clock_X11_isNode : GoodIn wsX11_clock (wsV RX11 159 RX11 yX11_isNode wsX11_isNode) := goodIn_app (goodIn_of _ (by decide +kernel)) ggX11_clock_X11_isNode
set_option maxRecDepth 20000 in
theorem ggX11_clock_X11_within : GoodIn wsX11_clock wsX11_within := goodIn_r _ [12] (by decide +kernel) (by decide +kernel)
set_option maxRecDepth 20000 in
theorem gX11_clock_X11_within : GoodIn wsX11_clock (va_wsS RX11 77 yX11_within wsX11_within) := goodIn_app (goodIn_of _ (by decide +kernel)) ggX11_clock_X11_within
set_option maxRecDepth 20000 in
theorem ggX11_clock_X11_clockOf : GoodIn wsX11_clock wsX11_clockOf := goodIn_r _ [16, 17, 18, 19, 20, 21, 7, 22, 23, 24, 25, 26, 27, 28, 29, 30, 31, 32, 33, 34, 35, 36, 37, 38, 39, 40, 41, 42, 43, 44, 45, 46, 47, 48, 49, 50, 51, 52, 53, 54, 55, 56, 57, 58, 59, 60, 61, 62, 63, 64] (by decide +kernel) (by decide +kernel)
set_option maxRecDepth 20000 in
theorem gX11_clock_X11_clockOf : GoodIn wsX11_clock (wsV RX11 175 RX11 yX11_clockOf wsX11_clockOf) := goodIn_app (goodIn_of _ (by decide +kernel)) ggX11_clock_X11_clockOf
theorem dX11_clock_0 : decode cX11_clock 0 = .ok (.aload_n 0, 1) := by decide +kernel
theorem dX11_clock_1 : decode cX11_clock 1 = .ok (.iload_n 1, 1) := by decide +kernel
theorem dX11_clock_2 : decode cX11_clock 2 = .ok (.invokevirtual 159, 3) := by decide +kernel
theorem dX11_clock_5 : decode cX11_clock 5 = .ok (.ifCond .ne 8, 3) := by decide +kernel
theorem dX11_clock_8 : decode cX11_clock 8 = .ok (.ldc 178, 2) := by decide +kernel
theorem dX11_clock_10 : decode cX11_clock 10 = .ok (.goto 24, 3) := by decide +kernel
theorem dX11_clock_13 : decode cX11_clock 13 = .ok (.iload_n 2, 1) := by decide +kernel
theorem dX11_clock_14 : decode cX11_clock 14 = .ok (.iconst 0, 1) := by decide +kernel
theorem dX11_clock_15 : decode cX11_clock 15 = .ok (.ldc 185, 2) := by decide +kernel
theorem dX11_clock_17 : decode cX11_clock 17 = .ok (.invokestatic 77, 3) := by decide +kernel
theorem dX11_clock_20 : decode cX11_clock 20 = .ok (.ifCond .eq 12, 3) := by decide +kernel
theorem dX11_clock_23 : decode cX11_clock 23 = .ok (.aload_n 0, 1) := by decide +kernel
theorem dX11_clock_24 : decode cX11_clock 24 = .ok (.iload_n 1, 1) := by decide +kernel
theorem dX11_clock_25 : decode cX11_clock 25 = .ok (.iload_n 2, 1) := by decide +kernel
theorem dX11_clock_26 : decode cX11_clock 26 = .ok (.invokevirtual 175, 3) := by decide +kernel
theorem dX11_clock_29 : decode cX11_clock 29 = .ok (.goto 5, 3) := by decide +kernel
theorem dX11_clock_32 : decode cX11_clock 32 = .ok (.ldc 81, 2) := by decide +kernel
theorem dX11_clock_34 : decode cX11_clock 34 = .ok (.ireturn, 1) := by decide +kernel
set_option maxRecDepth 20000 in
theorem ggX11_delay_X11_isNode : GoodIn wsX11_delay wsX11_isNode := goodIn_r _ [8, 9, 10, 11, 7, 12, 13, 14, 15, 16, 17, 18, 19, 20, 21, 22, 23, 24, 25, 26, 27, 28, 29, 30, 31, 32, 33, 34, 35, 36, 37, 38, 39, 40, 41, 42, 43, 44, 45, 46, 47, 48, 49, 50, 51, 52, 53, 54] (by decide +kernel) (by decide +kernel)
set_option maxRecDepth 20000 in
theorem gX11_delay_X11_isNode : GoodIn wsX11_delay (wsV RX11 159 RX11 yX11_isNode wsX11_isNode) := goodIn_app (goodIn_of _ (by decide +kernel)) ggX11_delay_X11_isNode
set_option maxRecDepth 20000 in
theorem ggX11_delay_X11_within : GoodIn wsX11_delay wsX11_within := goodIn_r _ [12] (by decide +kernel) (by decide +kernel)
set_option maxRecDepth 20000 in
theorem gX11_delay_X11_within : GoodIn wsX11_delay (va_wsS RX11 77 yX11_within wsX11_within) := goodIn_app (goodIn_of _ (by decide +kernel)) ggX11_delay_X11_within
theorem dX11_delay_0 : decode cX11_delay 0 = .ok (.aload_n 0, 1) := by decide +kernel
theorem dX11_delay_1 : decode cX11_delay 1 = .ok (.iload_n 1, 1) := by decide +kernel
theorem dX11_delay_2 : decode cX11_delay 2 = .ok (.invokevirtual 159, 3) := by decide +kernel
theorem dX11_delay_5 : decode cX11_delay 5 = .ok (.ifCond .ne 6, 3) := by decide +kernel
theorem dX11_delay_8 : decode cX11_delay 8 = .ok (.ldc 178, 2) := by decide +kernel
theorem dX11_delay_10 : decode cX11_delay 10 = .ok (.ireturn, 1) := by decide +kernel
theorem dX11_delay_11 : decode cX11_delay 11 = .ok (.iload_n 2, 1) := by decide +kernel
theorem dX11_delay_12 : decode cX11_delay 12 = .ok (.bipush 10, 2) := by decide +kernel
theorem dX11_delay_14 : decode cX11_delay 14 = .ok (.sipush 300, 3) := by decide +kernel
theorem dX11_delay_17 : decode cX11_delay 17 = .ok (.invokestatic 77, 3) := by decide +kernel
theorem dX11_delay_20 : decode cX11_delay 20 = .ok (.ifCond .ne 6, 3) := by decide +kernel
theorem dX11_delay_23 : decode cX11_delay 23 = .ok (.ldc 81, 2) := by decide +kernel
theorem dX11_delay_25 : decode cX11_delay 25 = .ok (.ireturn, 1) := by decide +kernel
theorem dX11_delay_26 : decode cX11_delay 26 = .ok (.aload_n 0, 1) := by decide +kernel
theorem dX11_delay_27 : decode cX11_delay 27 = .ok (.getfield 29, 3) := by decide +kernel
theorem dX11_delay_30 : decode cX11_delay 30 = .ok (.iload_n 1, 1) := by decide +kernel
theorem dX11_delay_31 : decode cX11_delay 31 = .ok (.iaload, 1) := by decide +kernel
theorem dX11_delay_32 : decode cX11_delay 32 = .ok (.istore_n 3, 1) := by decide +kernel
theorem dX11_delay_33 : decode cX11_delay 33 = .ok (.aload_n 0, 1) := by decide +kernel
theorem dX11_delay_34 : decode cX11_delay 34 = .ok (.getfield 29, 3) := by decide +kernel
theorem dX11_delay_37 : decode cX11_delay 37 = .ok (.iload_n 1, 1) := by decide +kernel
theorem dX11_delay_38 : decode cX11_delay 38 = .ok (.iload_n 2, 1) := by decide +kernel
theorem dX11_delay_39 : decode cX11_delay 39 = .ok (.iastore, 1) := by decide +kernel
theorem dX11_delay_40 : decode cX11_delay 40 = .ok (.iload_n 3, 1) := by decide +kernel
theorem dX11_delay_41 : decode cX11_delay 41 = .ok (.ireturn, 1) := by decide +kernel
theorem dX11_pairOf_0 : decode cX11_pairOf 0 = .ok (.bipush 7, 2) := by decide +kernel
theorem dX11_pairOf_2 : decode cX11_pairOf 2 = .ok (.iload_n 0, 1) := by decide +kernel
theorem dX11_pairOf_3 : decode cX11_pairOf 3 = .ok (.imul, 1) := by decide +kernel
theorem dX11_pairOf_4 : decode cX11_pairOf 4 = .ok (.iload_n 1, 1) := by decide +kernel
theorem dX11_pairOf_5 : decode cX11_pairOf 5 = .ok (.iadd, 1) := by decide +kernel
theorem dX11_pairOf_6 : decode cX11_pairOf 6 = .ok (.ireturn, 1) := by decide +kernel
set_option maxRecDepth 20000 in
theorem ggX11_path_X11_isPair : GoodIn wsX11_path wsX11_isPair := goodIn_r _ [11, 12, 13, 14, 15, 10, 16, 17, 18, 19, 20, 24, 25, 26, 27, 28, 29, 30, 31, 32, 33, 34, 35, 36, 37, 38, 39, 40, 41, 42, 43, 44, 45, 46, 47, 48, 49, 50, 51, 52, 53, 54, 55, 56, 57, 58, 59, 60, 61, 62, 63, 64, 65] (by decide +kernel) (by decide +kernel)
set_option maxRecDepth 20000 in
theorem gX11_path_X11_isPair : GoodIn wsX11_path (wsV RX11 186 RX11 yX11_isPair wsX11_isPair) := goodIn_app (goodIn_of _ (by decide +kernel)) ggX11_path_X11_isPair
set_option maxRecDepth 20000 in
theorem ggX11_path_X11_within : GoodIn wsX11_path wsX11_within := goodIn_r _ [20] (by decide +kernel) (by decide +kernel)
set_option maxRecDepth 20000 in
theorem gX11_path_X11_within : GoodIn wsX11_path (va_wsS RX11 77 yX11_within wsX11_within) := goodIn_app (goodIn_of _ (by decide +kernel)) ggX11_path_X11_within
set_option maxRecDepth 20000 in
theorem ggX11_path_X11_pairOf : GoodIn wsX11_path wsX11_pairOf := goodIn_r _ [23] (by decide +kernel) (by decide +kernel)
set_option maxRecDepth 20000 in
theorem gX11_path_X11_pairOf : GoodIn wsX11_path (va_wsS RX11 190 yX11_pairOf wsX11_pairOf) := goodIn_app (goodIn_of _ (by decide +kernel)) ggX11_path_X11_pairOf
theorem dX11_path_0 : decode cX11_path 0 = .ok (.aload_n 0, 1) := by decide +kernel
theorem dX11_path_1 : decode cX11_path 1 = .ok (.iload_n 1, 1) := by decide +kernel
theorem dX11_path_2 : decode cX11_path 2 = .ok (.iload_n 2, 1) := by decide +kernel
theorem dX11_path_3 : decode cX11_path 3 = .ok (.invokevirtual 186, 3) := by decide +kernel
theorem dX11_path_6 : decode cX11_path 6 = .ok (.ifCond .ne 6, 3) := by decide +kernel
theorem dX11_path_9 : decode cX11_path 9 = .ok (.ldc 178, 2) := by decide +kernel
theorem dX11_path_11 : decode cX11_path 11 = .ok (.ireturn, 1) := by decide +kernel
theorem dX11_path_12 : decode cX11_path 12 = .ok (.iload_n 3, 1) := by decide +kernel
theorem dX11_path_13 : decode cX11_path 13 = .ok (.iconst 0, 1) := by decide +kernel
theorem dX11_path_14 : decode cX11_path 14 = .ok (.sipush 150, 3) := by decide +kernel
theorem dX11_path_17 : decode cX11_path 17 = .ok (.invokestatic 77, 3) := by decide +kernel
theorem dX11_path_20 : decode cX11_path 20 = .ok (.ifCond .eq 14, 3) := by decide +kernel
theorem dX11_path_23 : decode cX11_path 23 = .ok (.iload 4, 2) := by decide +kernel
theorem dX11_path_25 : decode cX11_path 25 = .ok (.iconst 1, 1) := by decide +kernel
theorem dX11_path_26 : decode cX11_path 26 = .ok (.bipush 9, 2) := by decide +kernel
theorem dX11_path_28 : decode cX11_path 28 = .ok (.invokestatic 77, 3) := by decide +kernel
theorem dX11_path_31 : decode cX11_path 31 = .ok (.ifCond .ne 6, 3) := by decide +kernel
theorem dX11_path_34 : decode cX11_path 34 = .ok (.ldc 81, 2) := by decide +kernel
theorem dX11_path_36 : decode cX11_path 36 = .ok (.ireturn, 1) := by decide +kernel
theorem dX11_path_37 : decode cX11_path 37 = .ok (.iload_n 1, 1) := by decide +kernel
theorem dX11_path_38 : decode cX11_path 38 = .ok (.iload_n 2, 1) := by decide +kernel
theorem dX11_path_39 : decode cX11_path 39 = .ok (.invokestatic 190, 3) := by decide +kernel
theorem dX11_path_42 : decode cX11_path 42 = .ok (.istore 5, 2) := by decide +kernel
theorem dX11_path_44 : decode cX11_path 44 = .ok (.aload_n 0, 1) := by decide +kernel
theorem dX11_path_45 : decode cX11_path 45 = .ok (.getfield 38, 3) := by decide +kernel
theorem dX11_path_48 : decode cX11_path 48 = .ok (.iload 5, 2) := by decide +kernel
theorem dX11_path_50 : decode cX11_path 50 = .ok (.iaload, 1) := by decide +kernel
theorem dX11_path_51 : decode cX11_path 51 = .ok (.bipush 6, 2) := by decide +kernel
theorem dX11_path_53 : decode cX11_path 53 = .ok (.if_icmp .ne 6, 3) := by decide +kernel
theorem dX11_path_56 : decode cX11_path 56 = .ok (.ldc 86, 2) := by decide +kernel
theorem dX11_path_58 : decode cX11_path 58 = .ok (.ireturn, 1) := by decide +kernel
theorem dX11_path_59 : decode cX11_path 59 = .ok (.aload_n 0, 1) := by decide +kernel
theorem dX11_path_60 : decode cX11_path 60 = .ok (.getfield 41, 3) := by decide +kernel
theorem dX11_path_63 : decode cX11_path 63 = .ok (.bipush 6, 2) := by decide +kernel
theorem dX11_path_65 : decode cX11_path 65 = .ok (.iload 5, 2) := by decide +kernel
theorem dX11_path_67 : decode cX11_path 67 = .ok (.imul, 1) := by decide +kernel
theorem dX11_path_68 : decode cX11_path 68 = .ok (.aload_n 0, 1) := by decide +kernel
theorem dX11_path_69 : decode cX11_path 69 = .ok (.getfield 38, 3) := by decide +kernel
theorem dX11_path_72 : decode cX11_path 72 = .ok (.iload 5, 2) := by decide +kernel
theorem dX11_path_74 : decode cX11_path 74 = .ok (.iaload, 1) := by decide +kernel
theorem dX11_path_75 : decode cX11_path 75 = .ok (.iadd, 1) := by decide +kernel
theorem dX11_path_76 : decode cX11_path 76 = .ok (.iload_n 3, 1) := by decide +kernel
theorem dX11_path_77 : decode cX11_path 77 = .ok (.iastore, 1) := by decide +kernel
theorem dX11_path_78 : decode cX11_path 78 = .ok (.aload_n 0, 1) := by decide +kernel
theorem dX11_path_79 : decode cX11_path 79 = .ok (.getfield 44, 3) := by decide +kernel
theorem dX11_path_82 : decode cX11_path 82 = .ok (.bipush 6, 2) := by decide +kernel
theorem dX11_path_84 : decode cX11_path 84 = .ok (.iload 5, 2) := by decide +kernel
theorem dX11_path_86 : decode cX11_path 86 = .ok (.imul, 1) := by decide +kernel
theorem dX11_path_87 : decode cX11_path 87 = .ok (.aload_n 0, 1) := by decide +kernel
theorem dX11_path_88 : decode cX11_path 88 = .ok (.getfield 38, 3) := by decide +kernel
theorem dX11_path_91 : decode cX11_path 91 = .ok (.iload 5, 2) := by decide +kernel
theorem dX11_path_93 : decode cX11_path 93 = .ok (.iaload, 1) := by decide +kernel
theorem dX11_path_94 : decode cX11_path 94 = .ok (.iadd, 1) := by decide +kernel
theorem dX11_path_95 : decode cX11_path 95 = .ok (.iload 4, 2) := by decide +kernel
theorem dX11_path_97 : decode cX11_path 97 = .ok (.iastore, 1) := by decide +kernel
theorem dX11_path_98 : decode cX11_path 98 = .ok (.aload_n 0, 1) := by decide +kernel
theorem dX11_path_99 : decode cX11_path 99 = .ok (.getfield 38, 3) := by decide +kernel
theorem dX11_path_102 : decode cX11_path 102 = .ok (.iload 5, 2) := by decide +kernel
theorem dX11_path_104 : decode cX11_path 104 = .ok (.dup2, 1) := by decide +kernel
theorem dX11_path_105 : decode cX11_path 105 = .ok (.iaload, 1) := by decide +kernel
theorem dX11_path_106 : decode cX11_path 106 = .ok (.iconst 1, 1) := by decide +kernel
theorem dX11_path_107 : decode cX11_path 107 = .ok (.iadd, 1) := by decide +kernel
theorem dX11_path_108 : decode cX11_path 108 = .ok (.iastore, 1) := by decide +kernel
theorem dX11_path_109 : decode cX11_path 109 = .ok (.aload_n 0, 1) := by decide +kernel
theorem dX11_path_110 : decode cX11_path 110 = .ok (.getfield 38, 3) := by decide +kernel
theorem dX11_path_113 : decode cX11_path 113 = .ok (.iload 5, 2) := by decide +kernel
theorem dX11_path_115 : decode cX11_path 115 = .ok (.iaload, 1) := by decide +kernel
theorem dX11_path_116 : decode cX11_path 116 = .ok (.ireturn, 1) := by decide +kernel
set_option maxRecDepth 20000 in
theorem ggX11_block_X11_isPair : GoodIn wsX11_block wsX11_isPair := goodIn_r _ [7, 8, 9, 10, 11, 6, 12, 13, 14, 15, 16, 20, 21, 22, 23, 24, 25, 26, 27, 28, 29, 30, 31, 32, 33, 34, 35, 36, 37, 38, 39, 40, 41, 42, 43, 44, 45, 46, 47, 48, 49, 50, 51, 52, 53, 54, 55, 56, 57, 58, 59, 60, 61] (by decide +kernel) (by decide +kernel)
set_option maxRecDepth 20000 in
theorem gX11_block_X11_isPair : GoodIn wsX11_block (wsV RX11 186 RX11 yX11_isPair wsX11_isPair) := goodIn_app (goodIn_of _ (by decide +kernel)) ggX11_block_X11_isPair
set_option maxRecDepth 20000 in
theorem ggX11_block_X11_pairOf : GoodIn wsX11_block wsX11_pairOf := goodIn_r _ [19] (by decide +kernel) (by decide +kernel)
set_option maxRecDepth 20000 in
theorem gX11_block_X11_pairOf : GoodIn wsX11_block (va_wsS RX11 190 yX11_pairOf wsX11_pairOf) := goodIn_app (goodIn_of _ (by decide +kernel)) ggX11_block_X11_pairOf
theorem dX11_block_0 : decode cX11_block 0 = .ok (.aload_n 0, 1) := by decide +kernel
theorem dX11_block_1 : decode cX11_block 1 = .ok (.iload_n 1, 1) := by decide +kernel
theorem dX11_block_2 : decode cX11_block 2 = .ok (.iload_n 2, 1) := by decide +kernel
theorem dX11_block_3 : decode cX11_block 3 = .ok (.invokevirtual 186, 3) := by decide +kernel
theorem dX11_block_6 : decode cX11_block 6 = .ok (.ifCond .ne 6, 3) := by decide +kernel
theorem dX11_block_9 : decode cX11_block 9 = .ok (.ldc 178, 2) := by decide +kernel
theorem dX11_block_11 : decode cX11_block 11 = .ok (.ireturn, 1) := by decide +kernel
theorem dX11_block_12 : decode cX11_block 12 = .ok (.aload_n 0, 1) := by decide +kernel
theorem dX11_block_13 : decode cX11_block 13 = .ok (.getfield 38, 3) := by decide +kernel
theorem dX11_block_16 : decode cX11_block 16 = .ok (.iload_n 1, 1) := by decide +kernel
theorem dX11_block_17 : decode cX11_block 17 = .ok (.iload_n 2, 1) := by decide +kernel
theorem dX11_block_18 : decode cX11_block 18 = .ok (.invokestatic 190, 3) := by decide +kernel
theorem dX11_block_21 : decode cX11_block 21 = .ok (.iaload, 1) := by decide +kernel
theorem dX11_block_22 : decode cX11_block 22 = .ok (.istore_n 3, 1) := by decide +kernel
theorem dX11_block_23 : decode cX11_block 23 = .ok (.aload_n 0, 1) := by decide +kernel
theorem dX11_block_24 : decode cX11_block 24 = .ok (.getfield 38, 3) := by decide +kernel
theorem dX11_block_27 : decode cX11_block 27 = .ok (.iload_n 1, 1) := by decide +kernel
theorem dX11_block_28 : decode cX11_block 28 = .ok (.iload_n 2, 1) := by decide +kernel
theorem dX11_block_29 : decode cX11_block 29 = .ok (.invokestatic 190, 3) := by decide +kernel
theorem dX11_block_32 : decode cX11_block 32 = .ok (.iconst 0, 1) := by decide +kernel
theorem dX11_block_33 : decode cX11_block 33 = .ok (.iastore, 1) := by decide +kernel
theorem dX11_block_34 : decode cX11_block 34 = .ok (.iload_n 3, 1) := by decide +kernel
theorem dX11_block_35 : decode cX11_block 35 = .ok (.ireturn, 1) := by decide +kernel
set_option maxRecDepth 20000 in
theorem ggX11_firstExtra_X11_pairOf : GoodIn wsX11_firstExtra wsX11_pairOf := goodIn_r _ [8] (by decide +kernel) (by decide +kernel)
set_option maxRecDepth 20000 in
theorem gX11_firstExtra_X11_pairOf : GoodIn wsX11_firstExtra (va_wsS RX11 190 yX11_pairOf wsX11_pairOf) := goodIn_app (goodIn_of _ (by decide +kernel)) ggX11_firstExtra_X11_pairOf
theorem dX11_firstExtra_0 : decode cX11_firstExtra 0 = .ok (.iload_n 1, 1) := by decide +kernel
theorem dX11_firstExtra_1 : decode cX11_firstExtra 1 = .ok (.iload_n 2, 1) := by decide +kernel
theorem dX11_firstExtra_2 : decode cX11_firstExtra 2 = .ok (.invokestatic 190, 3) := by decide +kernel
theorem dX11_firstExtra_5 : decode cX11_firstExtra 5 = .ok (.istore_n 3, 1) := by decide +kernel
theorem dX11_firstExtra_6 : decode cX11_firstExtra 6 = .ok (.iconst (-1), 1) := by decide +kernel
theorem dX11_firstExtra_7 : decode cX11_firstExtra 7 = .ok (.istore 4, 2) := by decide +kernel
theorem dX11_firstExtra_9 : decode cX11_firstExtra 9 = .ok (.iconst 0, 1) := by decide +kernel
theorem dX11_firstExtra_10 : decode cX11_firstExtra 10 = .ok (.istore 5, 2) := by decide +kernel
theorem dX11_firstExtra_12 : decode cX11_firstExtra 12 = .ok (.iload 5, 2) := by decide +kernel
theorem dX11_firstExtra_14 : decode cX11_firstExtra 14 = .ok (.aload_n 0, 1) := by decide +kernel
theorem dX11_firstExtra_15 : decode cX11_firstExtra 15 = .ok (.getfield 38, 3) := by decide +kernel
theorem dX11_firstExtra_18 : decode cX11_firstExtra 18 = .ok (.iload_n 3, 1) := by decide +kernel
theorem dX11_firstExtra_19 : decode cX11_firstExtra 19 = .ok (.iaload, 1) := by decide +kernel
theorem dX11_firstExtra_20 : decode cX11_firstExtra 20 = .ok (.if_icmp .ge 76, 3) := by decide +kernel
theorem dX11_firstExtra_23 : decode cX11_firstExtra 23 = .ok (.aload_n 0, 1) := by decide +kernel
theorem dX11_firstExtra_24 : decode cX11_firstExtra 24 = .ok (.getfield 41, 3) := by decide +kernel
theorem dX11_firstExtra_27 : decode cX11_firstExtra 27 = .ok (.bipush 6, 2) := by decide +kernel
theorem dX11_firstExtra_29 : decode cX11_firstExtra 29 = .ok (.iload_n 3, 1) := by decide +kernel
theorem dX11_firstExtra_30 : decode cX11_firstExtra 30 = .ok (.imul, 1) := by decide +kernel
theorem dX11_firstExtra_31 : decode cX11_firstExtra 31 = .ok (.iload 5, 2) := by decide +kernel
theorem dX11_firstExtra_33 : decode cX11_firstExtra 33 = .ok (.iadd, 1) := by decide +kernel
theorem dX11_firstExtra_34 : decode cX11_firstExtra 34 = .ok (.iaload, 1) := by decide +kernel
theorem dX11_firstExtra_35 : decode cX11_firstExtra 35 = .ok (.istore 6, 2) := by decide +kernel
theorem dX11_firstExtra_37 : decode cX11_firstExtra 37 = .ok (.aload_n 0, 1) := by decide +kernel
theorem dX11_firstExtra_38 : decode cX11_firstExtra 38 = .ok (.getfield 44, 3) := by decide +kernel
theorem dX11_firstExtra_41 : decode cX11_firstExtra 41 = .ok (.bipush 6, 2) := by decide +kernel
theorem dX11_firstExtra_43 : decode cX11_firstExtra 43 = .ok (.iload_n 3, 1) := by decide +kernel
theorem dX11_firstExtra_44 : decode cX11_firstExtra 44 = .ok (.imul, 1) := by decide +kernel
theorem dX11_firstExtra_45 : decode cX11_firstExtra 45 = .ok (.iload 5, 2) := by decide +kernel
theorem dX11_firstExtra_47 : decode cX11_firstExtra 47 = .ok (.iadd, 1) := by decide +kernel
theorem dX11_firstExtra_48 : decode cX11_firstExtra 48 = .ok (.iaload, 1) := by decide +kernel
theorem dX11_firstExtra_49 : decode cX11_firstExtra 49 = .ok (.aload_n 0, 1) := by decide +kernel
theorem dX11_firstExtra_50 : decode cX11_firstExtra 50 = .ok (.getfield 143, 3) := by decide +kernel
theorem dX11_firstExtra_53 : decode cX11_firstExtra 53 = .ok (.if_icmp .lt 20, 3) := by decide +kernel
theorem dX11_firstExtra_56 : decode cX11_firstExtra 56 = .ok (.iload 4, 2) := by decide +kernel
theorem dX11_firstExtra_58 : decode cX11_firstExtra 58 = .ok (.iconst (-1), 1) := by decide +kernel
theorem dX11_firstExtra_59 : decode cX11_firstExtra 59 = .ok (.if_icmp .eq 10, 3) := by decide +kernel
theorem dX11_firstExtra_62 : decode cX11_firstExtra 62 = .ok (.iload 6, 2) := by decide +kernel
theorem dX11_firstExtra_64 : decode cX11_firstExtra 64 = .ok (.iload 4, 2) := by decide +kernel
theorem dX11_firstExtra_66 : decode cX11_firstExtra 66 = .ok (.if_icmp .ge 7, 3) := by decide +kernel
theorem dX11_firstExtra_69 : decode cX11_firstExtra 69 = .ok (.iconst 1, 1) := by decide +kernel
theorem dX11_firstExtra_70 : decode cX11_firstExtra 70 = .ok (.goto 4, 3) := by decide +kernel
theorem dX11_firstExtra_73 : decode cX11_firstExtra 73 = .ok (.iconst 0, 1) := by decide +kernel
theorem dX11_firstExtra_74 : decode cX11_firstExtra 74 = .ok (.istore 7, 2) := by decide +kernel
theorem dX11_firstExtra_76 : decode cX11_firstExtra 76 = .ok (.iload 7, 2) := by decide +kernel
theorem dX11_firstExtra_78 : decode cX11_firstExtra 78 = .ok (.ifCond .eq 8, 3) := by decide +kernel
theorem dX11_firstExtra_81 : decode cX11_firstExtra 81 = .ok (.iload 6, 2) := by decide +kernel
theorem dX11_firstExtra_83 : decode cX11_firstExtra 83 = .ok (.goto 5, 3) := by decide +kernel
theorem dX11_firstExtra_86 : decode cX11_firstExtra 86 = .ok (.iload 4, 2) := by decide +kernel
theorem dX11_firstExtra_88 : decode cX11_firstExtra 88 = .ok (.istore 4, 2) := by decide +kernel
theorem dX11_firstExtra_90 : decode cX11_firstExtra 90 = .ok (.iinc 5 1, 3) := by decide +kernel
theorem dX11_firstExtra_93 : decode cX11_firstExtra 93 = .ok (.goto (-81), 3) := by decide +kernel
theorem dX11_firstExtra_96 : decode cX11_firstExtra 96 = .ok (.iload 4, 2) := by decide +kernel
theorem dX11_firstExtra_98 : decode cX11_firstExtra 98 = .ok (.ireturn, 1) := by decide +kernel
set_option maxRecDepth 20000 in
theorem ggX11_firstPath_X11_isPair : GoodIn wsX11_firstPath wsX11_isPair := goodIn_r _ [6, 7, 8, 9, 10, 5, 11, 12, 13, 14, 15, 27, 28, 29, 30, 31, 32, 33, 34, 35, 36, 37, 38, 39, 40, 41, 42, 43, 44, 45, 46, 47, 48, 49, 50, 51, 52, 53, 54, 55, 56, 57, 58, 59, 60, 61, 62, 63, 64, 65, 66, 67, 68] (by decide +kernel) (by decide +kernel)
set_option maxRecDepth 20000 in
theorem gX11_firstPath_X11_isPair : GoodIn wsX11_firstPath (wsV RX11 186 RX11 yX11_isPair wsX11_isPair) := goodIn_app (goodIn_of _ (by decide +kernel)) ggX11_firstPath_X11_isPair
set_option maxRecDepth 20000 in
theorem ggX11_firstPath_X11_firstExtra : GoodIn wsX11_firstPath wsX11_firstExtra := goodIn_r _ [19, 20, 21, 22, 23, 24, 25, 5, 26, 27, 28, 29, 30, 31, 32, 33, 34, 35, 36, 37, 38, 39, 40, 41, 42, 43, 44, 45, 46, 47, 48, 49, 50, 51, 52, 53, 54, 55, 56, 57, 58, 59, 60, 61, 62, 63, 64, 65, 66, 67, 68] (by decide +kernel) (by decide +kernel)
set_option maxRecDepth 20000 in
theorem gX11_firstPath_X11_firstExtra : GoodIn wsX11_firstPath (wsV RX11 193 RX11 yX11_firstExtra wsX11_firstExtra) := goodIn_app (goodIn_of _ (by decide +kernel)) ggX11_firstPath_X11_firstExtra
theorem dX11_firstPath_0 : decode cX11_firstPath 0 = .ok (.aload_n 0, 1) := by decide +kernel
theorem dX11_firstPath_1 : decode cX11_firstPath 1 = .ok (.iload_n 1, 1) := by decide +kernel
theorem dX11_firstPath_2 : decode cX11_firstPath 2 = .ok (.iload_n 2, 1) := by decide +kernel
theorem dX11_firstPath_3 : decode cX11_firstPath 3 = .ok (.invokevirtual 186, 3) := by decide +kernel
theorem dX11_firstPath_6 : decode cX11_firstPath 6 = .ok (.ifCond .eq 12, 3) := by decide +kernel
theorem dX11_firstPath_9 : decode cX11_firstPath 9 = .ok (.aload_n 0, 1) := by decide +kernel
theorem dX11_firstPath_10 : decode cX11_firstPath 10 = .ok (.iload_n 1, 1) := by decide +kernel
theorem dX11_firstPath_11 : decode cX11_firstPath 11 = .ok (.iload_n 2, 1) := by decide +kernel
theorem dX11_firstPath_12 : decode cX11_firstPath 12 = .ok (.invokevirtual 193, 3) := by decide +kernel
theorem dX11_firstPath_15 : decode cX11_firstPath 15 = .ok (.goto 5, 3) := by decide +kernel
theorem dX11_firstPath_18 : decode cX11_firstPath 18 = .ok (.ldc 178, 2) := by decide +kernel
theorem dX11_firstPath_20 : decode cX11_firstPath 20 = .ok (.ireturn, 1) := by decide +kernel
set_option maxRecDepth 20000 in
theorem ggX11_level_X11_isField : GoodIn wsX11_level wsX11_isField := goodIn_r _ [8, 9, 13, 14, 15, 16, 17, 18, 19, 20, 21, 22, 23, 24, 25, 26, 27, 28, 29, 30, 31, 32, 33, 34, 35, 36, 37, 38, 39, 40, 41, 42, 43, 44, 45, 46, 47, 48, 49, 50, 51, 52, 53, 54] (by decide +kernel) (by decide +kernel)
set_option maxRecDepth 20000 in
theorem gX11_level_X11_isField : GoodIn wsX11_level (wsV RX11 196 RX11 yX11_isField wsX11_isField) := goodIn_app (goodIn_of _ (by decide +kernel)) ggX11_level_X11_isField
set_option maxRecDepth 20000 in
theorem ggX11_level_X11_within : GoodIn wsX11_level wsX11_within := goodIn_r _ [12] (by decide +kernel) (by decide +kernel)
set_option maxRecDepth 20000 in
theorem gX11_level_X11_within : GoodIn wsX11_level (va_wsS RX11 77 yX11_within wsX11_within) := goodIn_app (goodIn_of _ (by decide +kernel)) ggX11_level_X11_within
theorem dX11_level_0 : decode cX11_level 0 = .ok (.aload_n 0, 1) := by decide +kernel
theorem dX11_level_1 : decode cX11_level 1 = .ok (.invokevirtual 196, 3) := by decide +kernel
theorem dX11_level_4 : decode cX11_level 4 = .ok (.ifCond .ne 6, 3) := by decide +kernel
theorem dX11_level_7 : decode cX11_level 7 = .ok (.ldc 152, 2) := by decide +kernel
theorem dX11_level_9 : decode cX11_level 9 = .ok (.ireturn, 1) := by decide +kernel
theorem dX11_level_10 : decode cX11_level 10 = .ok (.iload_n 1, 1) := by decide +kernel
theorem dX11_level_11 : decode cX11_level 11 = .ok (.iconst 1, 1) := by decide +kernel
theorem dX11_level_12 : decode cX11_level 12 = .ok (.bipush 9, 2) := by decide +kernel
theorem dX11_level_14 : decode cX11_level 14 = .ok (.invokestatic 77, 3) := by decide +kernel
theorem dX11_level_17 : decode cX11_level 17 = .ok (.ifCond .ne 6, 3) := by decide +kernel
theorem dX11_level_20 : decode cX11_level 20 = .ok (.ldc 81, 2) := by decide +kernel
theorem dX11_level_22 : decode cX11_level 22 = .ok (.ireturn, 1) := by decide +kernel
theorem dX11_level_23 : decode cX11_level 23 = .ok (.aload_n 0, 1) := by decide +kernel
theorem dX11_level_24 : decode cX11_level 24 = .ok (.getfield 143, 3) := by decide +kernel
theorem dX11_level_27 : decode cX11_level 27 = .ok (.istore_n 2, 1) := by decide +kernel
theorem dX11_level_28 : decode cX11_level 28 = .ok (.aload_n 0, 1) := by decide +kernel
theorem dX11_level_29 : decode cX11_level 29 = .ok (.iload_n 1, 1) := by decide +kernel
theorem dX11_level_30 : decode cX11_level 30 = .ok (.putfield 143, 3) := by decide +kernel
theorem dX11_level_33 : decode cX11_level 33 = .ok (.iload_n 2, 1) := by decide +kernel
theorem dX11_level_34 : decode cX11_level 34 = .ok (.ireturn, 1) := by decide +kernel
theorem dX11_layTimes_0 : decode cX11_layTimes 0 = .ok (.aload_n 0, 1) := by decide +kernel
theorem dX11_layTimes_1 : decode cX11_layTimes 1 = .ok (.getfield 56, 3) := by decide +kernel
theorem dX11_layTimes_4 : decode cX11_layTimes 4 = .ok (.iconst 1, 1) := by decide +kernel
theorem dX11_layTimes_5 : decode cX11_layTimes 5 = .ok (.aload_n 0, 1) := by decide +kernel
theorem dX11_layTimes_6 : decode cX11_layTimes 6 = .ok (.getfield 140, 3) := by decide +kernel
theorem dX11_layTimes_9 : decode cX11_layTimes 9 = .ok (.iastore, 1) := by decide +kernel
theorem dX11_layTimes_10 : decode cX11_layTimes 10 = .ok (.aload_n 0, 1) := by decide +kernel
theorem dX11_layTimes_11 : decode cX11_layTimes 11 = .ok (.getfield 56, 3) := by decide +kernel
theorem dX11_layTimes_14 : decode cX11_layTimes 14 = .ok (.iconst 2, 1) := by decide +kernel
theorem dX11_layTimes_15 : decode cX11_layTimes 15 = .ok (.aload_n 0, 1) := by decide +kernel
theorem dX11_layTimes_16 : decode cX11_layTimes 16 = .ok (.getfield 56, 3) := by decide +kernel
theorem dX11_layTimes_19 : decode cX11_layTimes 19 = .ok (.iconst 1, 1) := by decide +kernel
theorem dX11_layTimes_20 : decode cX11_layTimes 20 = .ok (.iaload, 1) := by decide +kernel
theorem dX11_layTimes_21 : decode cX11_layTimes 21 = .ok (.iload_n 3, 1) := by decide +kernel
theorem dX11_layTimes_22 : decode cX11_layTimes 22 = .ok (.iadd, 1) := by decide +kernel
theorem dX11_layTimes_23 : decode cX11_layTimes 23 = .ok (.iastore, 1) := by decide +kernel
theorem dX11_layTimes_24 : decode cX11_layTimes 24 = .ok (.aload_n 0, 1) := by decide +kernel
theorem dX11_layTimes_25 : decode cX11_layTimes 25 = .ok (.getfield 56, 3) := by decide +kernel
theorem dX11_layTimes_28 : decode cX11_layTimes 28 = .ok (.iconst 3, 1) := by decide +kernel
theorem dX11_layTimes_29 : decode cX11_layTimes 29 = .ok (.aload_n 0, 1) := by decide +kernel
theorem dX11_layTimes_30 : decode cX11_layTimes 30 = .ok (.getfield 56, 3) := by decide +kernel
theorem dX11_layTimes_33 : decode cX11_layTimes 33 = .ok (.iconst 2, 1) := by decide +kernel
theorem dX11_layTimes_34 : decode cX11_layTimes 34 = .ok (.iaload, 1) := by decide +kernel
theorem dX11_layTimes_35 : decode cX11_layTimes 35 = .ok (.aload_n 0, 1) := by decide +kernel
theorem dX11_layTimes_36 : decode cX11_layTimes 36 = .ok (.getfield 29, 3) := by decide +kernel
theorem dX11_layTimes_39 : decode cX11_layTimes 39 = .ok (.iload_n 2, 1) := by decide +kernel
theorem dX11_layTimes_40 : decode cX11_layTimes 40 = .ok (.iaload, 1) := by decide +kernel
theorem dX11_layTimes_41 : decode cX11_layTimes 41 = .ok (.iadd, 1) := by decide +kernel
theorem dX11_layTimes_42 : decode cX11_layTimes 42 = .ok (.iastore, 1) := by decide +kernel
theorem dX11_layTimes_43 : decode cX11_layTimes 43 = .ok (.aload_n 0, 1) := by decide +kernel
theorem dX11_layTimes_44 : decode cX11_layTimes 44 = .ok (.getfield 56, 3) := by decide +kernel
theorem dX11_layTimes_47 : decode cX11_layTimes 47 = .ok (.iconst 4, 1) := by decide +kernel
theorem dX11_layTimes_48 : decode cX11_layTimes 48 = .ok (.aload_n 0, 1) := by decide +kernel
theorem dX11_layTimes_49 : decode cX11_layTimes 49 = .ok (.getfield 56, 3) := by decide +kernel
theorem dX11_layTimes_52 : decode cX11_layTimes 52 = .ok (.iconst 3, 1) := by decide +kernel
theorem dX11_layTimes_53 : decode cX11_layTimes 53 = .ok (.iaload, 1) := by decide +kernel
theorem dX11_layTimes_54 : decode cX11_layTimes 54 = .ok (.iload_n 3, 1) := by decide +kernel
theorem dX11_layTimes_55 : decode cX11_layTimes 55 = .ok (.iadd, 1) := by decide +kernel
theorem dX11_layTimes_56 : decode cX11_layTimes 56 = .ok (.iastore, 1) := by decide +kernel
theorem dX11_layTimes_57 : decode cX11_layTimes 57 = .ok (.aload_n 0, 1) := by decide +kernel
theorem dX11_layTimes_58 : decode cX11_layTimes 58 = .ok (.getfield 56, 3) := by decide +kernel
theorem dX11_layTimes_61 : decode cX11_layTimes 61 = .ok (.iconst 5, 1) := by decide +kernel
theorem dX11_layTimes_62 : decode cX11_layTimes 62 = .ok (.aload_n 0, 1) := by decide +kernel
theorem dX11_layTimes_63 : decode cX11_layTimes 63 = .ok (.getfield 56, 3) := by decide +kernel
theorem dX11_layTimes_66 : decode cX11_layTimes 66 = .ok (.iconst 4, 1) := by decide +kernel
theorem dX11_layTimes_67 : decode cX11_layTimes 67 = .ok (.iaload, 1) := by decide +kernel
theorem dX11_layTimes_68 : decode cX11_layTimes 68 = .ok (.aload_n 0, 1) := by decide +kernel
theorem dX11_layTimes_69 : decode cX11_layTimes 69 = .ok (.getfield 29, 3) := by decide +kernel
theorem dX11_layTimes_72 : decode cX11_layTimes 72 = .ok (.iload_n 1, 1) := by decide +kernel
theorem dX11_layTimes_73 : decode cX11_layTimes 73 = .ok (.iaload, 1) := by decide +kernel
theorem dX11_layTimes_74 : decode cX11_layTimes 74 = .ok (.iadd, 1) := by decide +kernel
theorem dX11_layTimes_75 : decode cX11_layTimes 75 = .ok (.iastore, 1) := by decide +kernel
theorem dX11_layTimes_76 : decode cX11_layTimes 76 = .ok (.aload_n 0, 1) := by decide +kernel
theorem dX11_layTimes_77 : decode cX11_layTimes 77 = .ok (.getfield 56, 3) := by decide +kernel
theorem dX11_layTimes_80 : decode cX11_layTimes 80 = .ok (.bipush 6, 2) := by decide +kernel
theorem dX11_layTimes_82 : decode cX11_layTimes 82 = .ok (.aload_n 0, 1) := by decide +kernel
theorem dX11_layTimes_83 : decode cX11_layTimes 83 = .ok (.getfield 56, 3) := by decide +kernel
theorem dX11_layTimes_86 : decode cX11_layTimes 86 = .ok (.iconst 5, 1) := by decide +kernel
theorem dX11_layTimes_87 : decode cX11_layTimes 87 = .ok (.iaload, 1) := by decide +kernel
theorem dX11_layTimes_88 : decode cX11_layTimes 88 = .ok (.iload_n 3, 1) := by decide +kernel
theorem dX11_layTimes_89 : decode cX11_layTimes 89 = .ok (.iadd, 1) := by decide +kernel
theorem dX11_layTimes_90 : decode cX11_layTimes 90 = .ok (.iastore, 1) := by decide +kernel
theorem dX11_layTimes_91 : decode cX11_layTimes 91 = .ok (.return_, 1) := by decide +kernel
set_option maxRecDepth 20000 in
theorem ggX11_layStamps_X11_clockOf : GoodIn wsX11_layStamps wsX11_clockOf := goodIn_r _ [7, 8, 9, 10, 11, 12, 6, 13, 14, 15, 16, 17, 18, 19, 20, 21, 22, 23, 24, 25, 26, 27, 28, 29, 30, 31, 32, 33, 34, 35, 36, 37, 38, 39, 40, 41, 42, 43, 44, 45, 46, 47, 48, 49, 50, 51, 52, 53, 54, 55] (by decide +kernel) (by decide +kernel)
set_option maxRecDepth 20000 in
theorem gX11_layStamps_X11_clockOf : GoodIn wsX11_layStamps (wsV RX11 175 RX11 yX11_clockOf wsX11_clockOf) := goodIn_app (goodIn_of _ (by decide +kernel)) ggX11_layStamps_X11_clockOf
theorem dX11_layStamps_0 : decode cX11_layStamps 0 = .ok (.iconst 1, 1) := by decide +kernel
theorem dX11_layStamps_1 : decode cX11_layStamps 1 = .ok (.istore_n 3, 1) := by decide +kernel
theorem dX11_layStamps_2 : decode cX11_layStamps 2 = .ok (.iload_n 3, 1) := by decide +kernel
theorem dX11_layStamps_3 : decode cX11_layStamps 3 = .ok (.bipush 7, 2) := by decide +kernel
theorem dX11_layStamps_5 : decode cX11_layStamps 5 = .ok (.if_icmp .ge 57, 3) := by decide +kernel
theorem dX11_layStamps_8 : decode cX11_layStamps 8 = .ok (.iload_n 3, 1) := by decide +kernel
theorem dX11_layStamps_9 : decode cX11_layStamps 9 = .ok (.iconst 1, 1) := by decide +kernel
theorem dX11_layStamps_10 : decode cX11_layStamps 10 = .ok (.if_icmp .eq 13, 3) := by decide +kernel
theorem dX11_layStamps_13 : decode cX11_layStamps 13 = .ok (.iload_n 3, 1) := by decide +kernel
theorem dX11_layStamps_14 : decode cX11_layStamps 14 = .ok (.iconst 4, 1) := by decide +kernel
theorem dX11_layStamps_15 : decode cX11_layStamps 15 = .ok (.if_icmp .eq 8, 3) := by decide +kernel
theorem dX11_layStamps_18 : decode cX11_layStamps 18 = .ok (.iload_n 3, 1) := by decide +kernel
theorem dX11_layStamps_19 : decode cX11_layStamps 19 = .ok (.iconst 5, 1) := by decide +kernel
theorem dX11_layStamps_20 : decode cX11_layStamps 20 = .ok (.if_icmp .ne 7, 3) := by decide +kernel
theorem dX11_layStamps_23 : decode cX11_layStamps 23 = .ok (.iconst 1, 1) := by decide +kernel
theorem dX11_layStamps_24 : decode cX11_layStamps 24 = .ok (.goto 4, 3) := by decide +kernel
theorem dX11_layStamps_27 : decode cX11_layStamps 27 = .ok (.iconst 0, 1) := by decide +kernel
theorem dX11_layStamps_28 : decode cX11_layStamps 28 = .ok (.istore 4, 2) := by decide +kernel
theorem dX11_layStamps_30 : decode cX11_layStamps 30 = .ok (.aload_n 0, 1) := by decide +kernel
theorem dX11_layStamps_31 : decode cX11_layStamps 31 = .ok (.getfield 59, 3) := by decide +kernel
theorem dX11_layStamps_34 : decode cX11_layStamps 34 = .ok (.iload_n 3, 1) := by decide +kernel
theorem dX11_layStamps_35 : decode cX11_layStamps 35 = .ok (.aload_n 0, 1) := by decide +kernel
theorem dX11_layStamps_36 : decode cX11_layStamps 36 = .ok (.iload 4, 2) := by decide +kernel
theorem dX11_layStamps_38 : decode cX11_layStamps 38 = .ok (.ifCond .eq 7, 3) := by decide +kernel
theorem dX11_layStamps_41 : decode cX11_layStamps 41 = .ok (.iload_n 1, 1) := by decide +kernel
theorem dX11_layStamps_42 : decode cX11_layStamps 42 = .ok (.goto 4, 3) := by decide +kernel
theorem dX11_layStamps_45 : decode cX11_layStamps 45 = .ok (.iload_n 2, 1) := by decide +kernel
theorem dX11_layStamps_46 : decode cX11_layStamps 46 = .ok (.aload_n 0, 1) := by decide +kernel
theorem dX11_layStamps_47 : decode cX11_layStamps 47 = .ok (.getfield 56, 3) := by decide +kernel
theorem dX11_layStamps_50 : decode cX11_layStamps 50 = .ok (.iload_n 3, 1) := by decide +kernel
theorem dX11_layStamps_51 : decode cX11_layStamps 51 = .ok (.iaload, 1) := by decide +kernel
theorem dX11_layStamps_52 : decode cX11_layStamps 52 = .ok (.invokevirtual 175, 3) := by decide +kernel
theorem dX11_layStamps_55 : decode cX11_layStamps 55 = .ok (.iastore, 1) := by decide +kernel
theorem dX11_layStamps_56 : decode cX11_layStamps 56 = .ok (.iinc 3 1, 3) := by decide +kernel
theorem dX11_layStamps_59 : decode cX11_layStamps 59 = .ok (.goto (-57), 3) := by decide +kernel
theorem dX11_layStamps_62 : decode cX11_layStamps 62 = .ok (.return_, 1) := by decide +kernel
set_option maxRecDepth 20000 in
theorem ggX11_layTold_X11_down : GoodIn wsX11_layTold wsX11_down := goodIn_r _ [8] (by decide +kernel) (by decide +kernel)
set_option maxRecDepth 20000 in
theorem gX11_layTold_X11_down : GoodIn wsX11_layTold (va_wsS RX11 171 yX11_down wsX11_down) := goodIn_app (goodIn_of _ (by decide +kernel)) ggX11_layTold_X11_down
theorem dX11_layTold_0 : decode cX11_layTold 0 = .ok (.aload_n 0, 1) := by decide +kernel
theorem dX11_layTold_1 : decode cX11_layTold 1 = .ok (.getfield 59, 3) := by decide +kernel
theorem dX11_layTold_4 : decode cX11_layTold 4 = .ok (.iconst 4, 1) := by decide +kernel
theorem dX11_layTold_5 : decode cX11_layTold 5 = .ok (.iaload, 1) := by decide +kernel
theorem dX11_layTold_6 : decode cX11_layTold 6 = .ok (.aload_n 0, 1) := by decide +kernel
theorem dX11_layTold_7 : decode cX11_layTold 7 = .ok (.getfield 59, 3) := by decide +kernel
theorem dX11_layTold_10 : decode cX11_layTold 10 = .ok (.iconst 1, 1) := by decide +kernel
theorem dX11_layTold_11 : decode cX11_layTold 11 = .ok (.iaload, 1) := by decide +kernel
theorem dX11_layTold_12 : decode cX11_layTold 12 = .ok (.isub, 1) := by decide +kernel
theorem dX11_layTold_13 : decode cX11_layTold 13 = .ok (.i2l, 1) := by decide +kernel
theorem dX11_layTold_14 : decode cX11_layTold 14 = .ok (.lstore_n 1, 1) := by decide +kernel
theorem dX11_layTold_15 : decode cX11_layTold 15 = .ok (.aload_n 0, 1) := by decide +kernel
theorem dX11_layTold_16 : decode cX11_layTold 16 = .ok (.getfield 59, 3) := by decide +kernel
theorem dX11_layTold_19 : decode cX11_layTold 19 = .ok (.iconst 3, 1) := by decide +kernel
theorem dX11_layTold_20 : decode cX11_layTold 20 = .ok (.iaload, 1) := by decide +kernel
theorem dX11_layTold_21 : decode cX11_layTold 21 = .ok (.aload_n 0, 1) := by decide +kernel
theorem dX11_layTold_22 : decode cX11_layTold 22 = .ok (.getfield 59, 3) := by decide +kernel
theorem dX11_layTold_25 : decode cX11_layTold 25 = .ok (.iconst 2, 1) := by decide +kernel
theorem dX11_layTold_26 : decode cX11_layTold 26 = .ok (.iaload, 1) := by decide +kernel
theorem dX11_layTold_27 : decode cX11_layTold 27 = .ok (.isub, 1) := by decide +kernel
theorem dX11_layTold_28 : decode cX11_layTold 28 = .ok (.i2l, 1) := by decide +kernel
theorem dX11_layTold_29 : decode cX11_layTold 29 = .ok (.lstore_n 3, 1) := by decide +kernel
theorem dX11_layTold_30 : decode cX11_layTold 30 = .ok (.aload_n 0, 1) := by decide +kernel
theorem dX11_layTold_31 : decode cX11_layTold 31 = .ok (.getfield 59, 3) := by decide +kernel
theorem dX11_layTold_34 : decode cX11_layTold 34 = .ok (.bipush 6, 2) := by decide +kernel
theorem dX11_layTold_36 : decode cX11_layTold 36 = .ok (.iaload, 1) := by decide +kernel
theorem dX11_layTold_37 : decode cX11_layTold 37 = .ok (.aload_n 0, 1) := by decide +kernel
theorem dX11_layTold_38 : decode cX11_layTold 38 = .ok (.getfield 59, 3) := by decide +kernel
theorem dX11_layTold_41 : decode cX11_layTold 41 = .ok (.iconst 3, 1) := by decide +kernel
theorem dX11_layTold_42 : decode cX11_layTold 42 = .ok (.iaload, 1) := by decide +kernel
theorem dX11_layTold_43 : decode cX11_layTold 43 = .ok (.isub, 1) := by decide +kernel
theorem dX11_layTold_44 : decode cX11_layTold 44 = .ok (.i2l, 1) := by decide +kernel
theorem dX11_layTold_45 : decode cX11_layTold 45 = .ok (.lstore 5, 2) := by decide +kernel
theorem dX11_layTold_47 : decode cX11_layTold 47 = .ok (.aload_n 0, 1) := by decide +kernel
theorem dX11_layTold_48 : decode cX11_layTold 48 = .ok (.getfield 59, 3) := by decide +kernel
theorem dX11_layTold_51 : decode cX11_layTold 51 = .ok (.iconst 5, 1) := by decide +kernel
theorem dX11_layTold_52 : decode cX11_layTold 52 = .ok (.iaload, 1) := by decide +kernel
theorem dX11_layTold_53 : decode cX11_layTold 53 = .ok (.aload_n 0, 1) := by decide +kernel
theorem dX11_layTold_54 : decode cX11_layTold 54 = .ok (.getfield 59, 3) := by decide +kernel
theorem dX11_layTold_57 : decode cX11_layTold 57 = .ok (.iconst 4, 1) := by decide +kernel
theorem dX11_layTold_58 : decode cX11_layTold 58 = .ok (.iaload, 1) := by decide +kernel
theorem dX11_layTold_59 : decode cX11_layTold 59 = .ok (.isub, 1) := by decide +kernel
theorem dX11_layTold_60 : decode cX11_layTold 60 = .ok (.i2l, 1) := by decide +kernel
theorem dX11_layTold_61 : decode cX11_layTold 61 = .ok (.lstore 7, 2) := by decide +kernel
theorem dX11_layTold_63 : decode cX11_layTold 63 = .ok (.aload_n 0, 1) := by decide +kernel
theorem dX11_layTold_64 : decode cX11_layTold 64 = .ok (.lload_n 1, 1) := by decide +kernel
theorem dX11_layTold_65 : decode cX11_layTold 65 = .ok (.lload_n 3, 1) := by decide +kernel
theorem dX11_layTold_66 : decode cX11_layTold 66 = .ok (.lsub, 1) := by decide +kernel
theorem dX11_layTold_67 : decode cX11_layTold 67 = .ok (.ldc2_w 200, 3) := by decide +kernel
theorem dX11_layTold_70 : decode cX11_layTold 70 = .ok (.invokestatic 171, 3) := by decide +kernel
theorem dX11_layTold_73 : decode cX11_layTold 73 = .ok (.putfield 202, 3) := by decide +kernel
theorem dX11_layTold_76 : decode cX11_layTold 76 = .ok (.aload_n 0, 1) := by decide +kernel
theorem dX11_layTold_77 : decode cX11_layTold 77 = .ok (.lload_n 1, 1) := by decide +kernel
theorem dX11_layTold_78 : decode cX11_layTold 78 = .ok (.lload 5, 2) := by decide +kernel
theorem dX11_layTold_80 : decode cX11_layTold 80 = .ok (.lmul, 1) := by decide +kernel
theorem dX11_layTold_81 : decode cX11_layTold 81 = .ok (.lload_n 3, 1) := by decide +kernel
theorem dX11_layTold_82 : decode cX11_layTold 82 = .ok (.lload 7, 2) := by decide +kernel
theorem dX11_layTold_84 : decode cX11_layTold 84 = .ok (.lmul, 1) := by decide +kernel
theorem dX11_layTold_85 : decode cX11_layTold 85 = .ok (.lsub, 1) := by decide +kernel
theorem dX11_layTold_86 : decode cX11_layTold 86 = .ok (.lload_n 1, 1) := by decide +kernel
theorem dX11_layTold_87 : decode cX11_layTold 87 = .ok (.lload 5, 2) := by decide +kernel
theorem dX11_layTold_89 : decode cX11_layTold 89 = .ok (.ladd, 1) := by decide +kernel
theorem dX11_layTold_90 : decode cX11_layTold 90 = .ok (.lload_n 3, 1) := by decide +kernel
theorem dX11_layTold_91 : decode cX11_layTold 91 = .ok (.ladd, 1) := by decide +kernel
theorem dX11_layTold_92 : decode cX11_layTold 92 = .ok (.lload 7, 2) := by decide +kernel
theorem dX11_layTold_94 : decode cX11_layTold 94 = .ok (.ladd, 1) := by decide +kernel
theorem dX11_layTold_95 : decode cX11_layTold 95 = .ok (.invokestatic 171, 3) := by decide +kernel
theorem dX11_layTold_98 : decode cX11_layTold 98 = .ok (.putfield 205, 3) := by decide +kernel
theorem dX11_layTold_101 : decode cX11_layTold 101 = .ok (.return_, 1) := by decide +kernel
set_option maxRecDepth 20000 in
theorem ggX11_exchangeNow_X11_firstExtra : GoodIn wsX11_exchangeNow wsX11_firstExtra := goodIn_r _ [16, 17, 18, 19, 20, 21, 22, 15, 23, 62, 63, 64, 65, 66, 67, 68, 69, 70, 71, 72, 73, 74, 75, 76, 77, 78, 79, 80, 81, 82, 83, 84, 85, 86, 87, 88, 89, 90, 91, 92, 93, 94, 95, 96, 97, 98, 99, 100, 101, 102, 103] (by decide +kernel) (by decide +kernel)
set_option maxRecDepth 20000 in
theorem gX11_exchangeNow_X11_firstExtra : GoodIn wsX11_exchangeNow (wsV RX11 193 RX11 yX11_firstExtra wsX11_firstExtra) := goodIn_app (goodIn_of _ (by decide +kernel)) ggX11_exchangeNow_X11_firstExtra
set_option maxRecDepth 20000 in
theorem ggX11_exchangeNow_X11_flightOf : GoodIn wsX11_exchangeNow wsX11_flightOf := goodIn_r _ [27, 28, 29, 30, 31, 15, 32, 33, 34, 35, 62, 63, 64, 65, 66, 67, 68, 69, 70, 71, 72, 73, 74, 75, 76, 77, 78, 79, 80, 81, 82, 83, 84, 85, 86, 87, 88, 89, 90, 91, 92, 93, 94, 95, 96, 97, 98, 99, 100, 101, 102, 103] (by decide +kernel) (by decide +kernel)
set_option maxRecDepth 20000 in
theorem gX11_exchangeNow_X11_flightOf : GoodIn wsX11_exchangeNow (wsV RX11 182 RX11 yX11_flightOf wsX11_flightOf) := goodIn_app (goodIn_of _ (by decide +kernel)) ggX11_exchangeNow_X11_flightOf
set_option maxRecDepth 20000 in
theorem ggX11_exchangeNow_X11_layTimes : GoodIn wsX11_exchangeNow wsX11_layTimes := goodIn_r _ [39, 11, 3, 40, 62, 63, 64, 65, 66, 67, 68, 69, 70, 71, 72, 73, 74, 75, 76, 77, 78, 79, 80, 81, 82, 83, 84, 85, 86, 87, 88, 89, 90, 91, 92, 93, 94, 95, 96, 97, 98, 99, 100, 101, 102, 103] (by decide +kernel) (by decide +kernel)
set_option maxRecDepth 20000 in
theorem gX11_exchangeNow_X11_layTimes : GoodIn wsX11_exchangeNow (wsV RX11 215 RX11 yX11_layTimes wsX11_layTimes) := goodIn_app (goodIn_of _ (by decide +kernel)) ggX11_exchangeNow_X11_layTimes
set_option maxRecDepth 20000 in
theorem ggX11_exchangeNow_X11_layStamps : GoodIn wsX11_exchangeNow wsX11_layStamps := goodIn_r _ [44, 45, 11, 46, 47, 48, 15, 49, 50, 51, 52, 53, 54, 55, 62, 63, 64, 65, 66, 67, 68, 69, 70, 71, 72, 73, 74, 75, 76, 77, 78, 79, 80, 81, 82, 83, 84, 85, 86, 87, 88, 89, 90, 91, 92, 93, 94, 95, 96, 97, 98, 99, 100, 101, 102, 103] (by decide +kernel) (by decide +kernel)
set_option maxRecDepth 20000 in
theorem gX11_exchangeNow_X11_layStamps : GoodIn wsX11_exchangeNow (wsV RX11 219 RX11 yX11_layStamps wsX11_layStamps) := goodIn_app (goodIn_of _ (by decide +kernel)) ggX11_exchangeNow_X11_layStamps
set_option maxRecDepth 20000 in
theorem ggX11_exchangeNow_X11_layTold : GoodIn wsX11_exchangeNow wsX11_layTold := goodIn_r _ [59, 45, 60, 61, 9, 53, 54, 15, 55, 62, 63, 64, 65, 66, 67, 68, 69, 70, 71, 72, 73, 74, 75, 76, 77, 78, 79, 80, 81, 82, 83, 84, 85, 86, 87, 88, 89, 90, 91, 92, 93, 94, 95, 96, 97, 98, 99, 100, 101, 102, 103] (by decide +kernel) (by decide +kernel)
set_option maxRecDepth 20000 in
theorem gX11_exchangeNow_X11_layTold : GoodIn wsX11_exchangeNow (wsV RX11 223 RX11 yX11_layTold wsX11_layTold) := goodIn_app (goodIn_of _ (by decide +kernel)) ggX11_exchangeNow_X11_layTold
set_option maxRecDepth 20000 in
theorem ggX11_exchangeNow_X11_pairOf : GoodIn wsX11_exchangeNow wsX11_pairOf := goodIn_r _ [23] (by decide +kernel) (by decide +kernel)
set_option maxRecDepth 20000 in
theorem gX11_exchangeNow_X11_pairOf : GoodIn wsX11_exchangeNow (va_wsS RX11 190 yX11_pairOf wsX11_pairOf) := goodIn_app (goodIn_of _ (by decide +kernel)) ggX11_exchangeNow_X11_pairOf
theorem dX11_exchangeNow_0 : decode cX11_exchangeNow 0 = .ok (.aload_n 0, 1) := by decide +kernel
theorem dX11_exchangeNow_1 : decode cX11_exchangeNow 1 = .ok (.iload_n 1, 1) := by decide +kernel
theorem dX11_exchangeNow_2 : decode cX11_exchangeNow 2 = .ok (.iload_n 2, 1) := by decide +kernel
theorem dX11_exchangeNow_3 : decode cX11_exchangeNow 3 = .ok (.invokevirtual 193, 3) := by decide +kernel
theorem dX11_exchangeNow_6 : decode cX11_exchangeNow 6 = .ok (.istore_n 3, 1) := by decide +kernel
theorem dX11_exchangeNow_7 : decode cX11_exchangeNow 7 = .ok (.aload_n 0, 1) := by decide +kernel
theorem dX11_exchangeNow_8 : decode cX11_exchangeNow 8 = .ok (.dup, 1) := by decide +kernel
theorem dX11_exchangeNow_9 : decode cX11_exchangeNow 9 = .ok (.getfield 208, 3) := by decide +kernel
theorem dX11_exchangeNow_12 : decode cX11_exchangeNow 12 = .ok (.iconst 1, 1) := by decide +kernel
theorem dX11_exchangeNow_13 : decode cX11_exchangeNow 13 = .ok (.iadd, 1) := by decide +kernel
theorem dX11_exchangeNow_14 : decode cX11_exchangeNow 14 = .ok (.putfield 208, 3) := by decide +kernel
theorem dX11_exchangeNow_17 : decode cX11_exchangeNow 17 = .ok (.iload_n 3, 1) := by decide +kernel
theorem dX11_exchangeNow_18 : decode cX11_exchangeNow 18 = .ok (.iconst (-1), 1) := by decide +kernel
theorem dX11_exchangeNow_19 : decode cX11_exchangeNow 19 = .ok (.if_icmp .ne 26, 3) := by decide +kernel
theorem dX11_exchangeNow_22 : decode cX11_exchangeNow 22 = .ok (.aload_n 0, 1) := by decide +kernel
theorem dX11_exchangeNow_23 : decode cX11_exchangeNow 23 = .ok (.dup, 1) := by decide +kernel
theorem dX11_exchangeNow_24 : decode cX11_exchangeNow 24 = .ok (.getfield 211, 3) := by decide +kernel
theorem dX11_exchangeNow_27 : decode cX11_exchangeNow 27 = .ok (.iconst 1, 1) := by decide +kernel
theorem dX11_exchangeNow_28 : decode cX11_exchangeNow 28 = .ok (.iadd, 1) := by decide +kernel
theorem dX11_exchangeNow_29 : decode cX11_exchangeNow 29 = .ok (.putfield 211, 3) := by decide +kernel
theorem dX11_exchangeNow_32 : decode cX11_exchangeNow 32 = .ok (.aload_n 0, 1) := by decide +kernel
theorem dX11_exchangeNow_33 : decode cX11_exchangeNow 33 = .ok (.dup, 1) := by decide +kernel
theorem dX11_exchangeNow_34 : decode cX11_exchangeNow 34 = .ok (.getfield 140, 3) := by decide +kernel
theorem dX11_exchangeNow_37 : decode cX11_exchangeNow 37 = .ok (.iconst 1, 1) := by decide +kernel
theorem dX11_exchangeNow_38 : decode cX11_exchangeNow 38 = .ok (.iadd, 1) := by decide +kernel
theorem dX11_exchangeNow_39 : decode cX11_exchangeNow 39 = .ok (.putfield 140, 3) := by decide +kernel
theorem dX11_exchangeNow_42 : decode cX11_exchangeNow 42 = .ok (.ldc 214, 2) := by decide +kernel
theorem dX11_exchangeNow_44 : decode cX11_exchangeNow 44 = .ok (.ireturn, 1) := by decide +kernel
theorem dX11_exchangeNow_45 : decode cX11_exchangeNow 45 = .ok (.aload_n 0, 1) := by decide +kernel
theorem dX11_exchangeNow_46 : decode cX11_exchangeNow 46 = .ok (.iload_n 1, 1) := by decide +kernel
theorem dX11_exchangeNow_47 : decode cX11_exchangeNow 47 = .ok (.iload_n 2, 1) := by decide +kernel
theorem dX11_exchangeNow_48 : decode cX11_exchangeNow 48 = .ok (.aload_n 0, 1) := by decide +kernel
theorem dX11_exchangeNow_49 : decode cX11_exchangeNow 49 = .ok (.iload_n 1, 1) := by decide +kernel
theorem dX11_exchangeNow_50 : decode cX11_exchangeNow 50 = .ok (.iload_n 2, 1) := by decide +kernel
theorem dX11_exchangeNow_51 : decode cX11_exchangeNow 51 = .ok (.invokevirtual 182, 3) := by decide +kernel
theorem dX11_exchangeNow_54 : decode cX11_exchangeNow 54 = .ok (.iload_n 3, 1) := by decide +kernel
theorem dX11_exchangeNow_55 : decode cX11_exchangeNow 55 = .ok (.iadd, 1) := by decide +kernel
theorem dX11_exchangeNow_56 : decode cX11_exchangeNow 56 = .ok (.invokevirtual 215, 3) := by decide +kernel
theorem dX11_exchangeNow_59 : decode cX11_exchangeNow 59 = .ok (.aload_n 0, 1) := by decide +kernel
theorem dX11_exchangeNow_60 : decode cX11_exchangeNow 60 = .ok (.iload_n 1, 1) := by decide +kernel
theorem dX11_exchangeNow_61 : decode cX11_exchangeNow 61 = .ok (.iload_n 2, 1) := by decide +kernel
theorem dX11_exchangeNow_62 : decode cX11_exchangeNow 62 = .ok (.invokevirtual 219, 3) := by decide +kernel
theorem dX11_exchangeNow_65 : decode cX11_exchangeNow 65 = .ok (.aload_n 0, 1) := by decide +kernel
theorem dX11_exchangeNow_66 : decode cX11_exchangeNow 66 = .ok (.invokevirtual 223, 3) := by decide +kernel
theorem dX11_exchangeNow_69 : decode cX11_exchangeNow 69 = .ok (.aload_n 0, 1) := by decide +kernel
theorem dX11_exchangeNow_70 : decode cX11_exchangeNow 70 = .ok (.iload_n 1, 1) := by decide +kernel
theorem dX11_exchangeNow_71 : decode cX11_exchangeNow 71 = .ok (.putfield 226, 3) := by decide +kernel
theorem dX11_exchangeNow_74 : decode cX11_exchangeNow 74 = .ok (.aload_n 0, 1) := by decide +kernel
theorem dX11_exchangeNow_75 : decode cX11_exchangeNow 75 = .ok (.iload_n 2, 1) := by decide +kernel
theorem dX11_exchangeNow_76 : decode cX11_exchangeNow 76 = .ok (.putfield 229, 3) := by decide +kernel
theorem dX11_exchangeNow_79 : decode cX11_exchangeNow 79 = .ok (.aload_n 0, 1) := by decide +kernel
theorem dX11_exchangeNow_80 : decode cX11_exchangeNow 80 = .ok (.iconst 1, 1) := by decide +kernel
theorem dX11_exchangeNow_81 : decode cX11_exchangeNow 81 = .ok (.putfield 149, 3) := by decide +kernel
theorem dX11_exchangeNow_84 : decode cX11_exchangeNow 84 = .ok (.aload_n 0, 1) := by decide +kernel
theorem dX11_exchangeNow_85 : decode cX11_exchangeNow 85 = .ok (.getfield 50, 3) := by decide +kernel
theorem dX11_exchangeNow_88 : decode cX11_exchangeNow 88 = .ok (.iload_n 1, 1) := by decide +kernel
theorem dX11_exchangeNow_89 : decode cX11_exchangeNow 89 = .ok (.iload_n 2, 1) := by decide +kernel
theorem dX11_exchangeNow_90 : decode cX11_exchangeNow 90 = .ok (.invokestatic 190, 3) := by decide +kernel
theorem dX11_exchangeNow_93 : decode cX11_exchangeNow 93 = .ok (.aload_n 0, 1) := by decide +kernel
theorem dX11_exchangeNow_94 : decode cX11_exchangeNow 94 = .ok (.getfield 205, 3) := by decide +kernel
theorem dX11_exchangeNow_97 : decode cX11_exchangeNow 97 = .ok (.iastore, 1) := by decide +kernel
theorem dX11_exchangeNow_98 : decode cX11_exchangeNow 98 = .ok (.aload_n 0, 1) := by decide +kernel
theorem dX11_exchangeNow_99 : decode cX11_exchangeNow 99 = .ok (.getfield 47, 3) := by decide +kernel
theorem dX11_exchangeNow_102 : decode cX11_exchangeNow 102 = .ok (.iload_n 1, 1) := by decide +kernel
theorem dX11_exchangeNow_103 : decode cX11_exchangeNow 103 = .ok (.iload_n 2, 1) := by decide +kernel
theorem dX11_exchangeNow_104 : decode cX11_exchangeNow 104 = .ok (.invokestatic 190, 3) := by decide +kernel
theorem dX11_exchangeNow_107 : decode cX11_exchangeNow 107 = .ok (.iconst 1, 1) := by decide +kernel
theorem dX11_exchangeNow_108 : decode cX11_exchangeNow 108 = .ok (.bastore, 1) := by decide +kernel
theorem dX11_exchangeNow_109 : decode cX11_exchangeNow 109 = .ok (.aload_n 0, 1) := by decide +kernel
theorem dX11_exchangeNow_110 : decode cX11_exchangeNow 110 = .ok (.aload_n 0, 1) := by decide +kernel
theorem dX11_exchangeNow_111 : decode cX11_exchangeNow 111 = .ok (.getfield 56, 3) := by decide +kernel
theorem dX11_exchangeNow_114 : decode cX11_exchangeNow 114 = .ok (.bipush 6, 2) := by decide +kernel
theorem dX11_exchangeNow_116 : decode cX11_exchangeNow 116 = .ok (.iaload, 1) := by decide +kernel
theorem dX11_exchangeNow_117 : decode cX11_exchangeNow 117 = .ok (.bipush 10, 2) := by decide +kernel
theorem dX11_exchangeNow_119 : decode cX11_exchangeNow 119 = .ok (.iadd, 1) := by decide +kernel
theorem dX11_exchangeNow_120 : decode cX11_exchangeNow 120 = .ok (.putfield 140, 3) := by decide +kernel
theorem dX11_exchangeNow_123 : decode cX11_exchangeNow 123 = .ok (.aload_n 0, 1) := by decide +kernel
theorem dX11_exchangeNow_124 : decode cX11_exchangeNow 124 = .ok (.getfield 205, 3) := by decide +kernel
theorem dX11_exchangeNow_127 : decode cX11_exchangeNow 127 = .ok (.ireturn, 1) := by decide +kernel
set_option maxRecDepth 20000 in
theorem ggX11_exchange_X11_isPair : GoodIn wsX11_exchange wsX11_isPair := goodIn_r _ [6, 7, 8, 9, 10, 5, 11, 12, 13, 14, 15, 80, 81, 82, 83, 84, 85, 86, 87, 88, 89, 90, 91, 92, 93, 94, 95, 96, 97, 98, 99, 100, 101, 102, 103, 104, 105, 106, 107, 108, 109, 110, 111, 112, 113, 114, 115, 116, 117, 118, 119, 120, 121] (by decide +kernel) (by decide +kernel)
set_option maxRecDepth 20000 in
theorem gX11_exchange_X11_isPair : GoodIn wsX11_exchange (wsV RX11 186 RX11 yX11_isPair wsX11_isPair) := goodIn_app (goodIn_of _ (by decide +kernel)) ggX11_exchange_X11_isPair
set_option maxRecDepth 20000 in
theorem ggX11_exchange_X11_exchangeNow : GoodIn wsX11_exchange wsX11_exchangeNow := goodIn_r _ [19, 20, 21, 22, 23, 24, 25, 26, 27, 28, 29, 30, 31, 32, 33, 5, 34, 35, 36, 37, 38, 39, 40, 41, 42, 43, 44, 45, 46, 47, 48, 49, 50, 51, 52, 53, 54, 55, 56, 57, 58, 59, 60, 61, 62, 63, 64, 65, 66, 67, 68, 69, 70, 71, 72, 73, 74, 75, 76, 77, 78, 79, 80, 81, 82, 83, 84, 85, 86, 87, 88, 89, 90, 91, 92, 93, 94, 95, 96, 97, 98, 99, 100, 101, 102, 103, 104, 105, 106, 107, 108, 109, 110, 111, 112, 113, 114, 115, 116, 117, 118, 119, 120, 121] (by decide +kernel) (by decide +kernel)
set_option maxRecDepth 20000 in
theorem gX11_exchange_X11_exchangeNow : GoodIn wsX11_exchange (wsV RX11 232 RX11 yX11_exchangeNow wsX11_exchangeNow) := goodIn_app (goodIn_of _ (by decide +kernel)) ggX11_exchange_X11_exchangeNow
theorem dX11_exchange_0 : decode cX11_exchange 0 = .ok (.aload_n 0, 1) := by decide +kernel
theorem dX11_exchange_1 : decode cX11_exchange 1 = .ok (.iload_n 1, 1) := by decide +kernel
theorem dX11_exchange_2 : decode cX11_exchange 2 = .ok (.iload_n 2, 1) := by decide +kernel
theorem dX11_exchange_3 : decode cX11_exchange 3 = .ok (.invokevirtual 186, 3) := by decide +kernel
theorem dX11_exchange_6 : decode cX11_exchange 6 = .ok (.ifCond .eq 12, 3) := by decide +kernel
theorem dX11_exchange_9 : decode cX11_exchange 9 = .ok (.aload_n 0, 1) := by decide +kernel
theorem dX11_exchange_10 : decode cX11_exchange 10 = .ok (.iload_n 1, 1) := by decide +kernel
theorem dX11_exchange_11 : decode cX11_exchange 11 = .ok (.iload_n 2, 1) := by decide +kernel
theorem dX11_exchange_12 : decode cX11_exchange 12 = .ok (.invokevirtual 232, 3) := by decide +kernel
theorem dX11_exchange_15 : decode cX11_exchange 15 = .ok (.goto 5, 3) := by decide +kernel
theorem dX11_exchange_18 : decode cX11_exchange 18 = .ok (.ldc 178, 2) := by decide +kernel
theorem dX11_exchange_20 : decode cX11_exchange 20 = .ok (.ireturn, 1) := by decide +kernel
set_option maxRecDepth 20000 in
theorem ggX11_idle_X11_isField : GoodIn wsX11_idle wsX11_isField := goodIn_r _ [10, 11, 15, 16, 17, 18, 19, 20, 21, 22, 23, 24, 25, 26, 27, 28, 29, 30, 31, 32, 33, 34, 35, 36, 37, 38, 39, 40, 41, 42, 43, 44, 45, 46, 47, 48, 49, 50, 51, 52, 53, 54, 55, 56] (by decide +kernel) (by decide +kernel)
set_option maxRecDepth 20000 in
theorem gX11_idle_X11_isField : GoodIn wsX11_idle (wsV RX11 196 RX11 yX11_isField wsX11_isField) := goodIn_app (goodIn_of _ (by decide +kernel)) ggX11_idle_X11_isField
set_option maxRecDepth 20000 in
theorem ggX11_idle_X11_within : GoodIn wsX11_idle wsX11_within := goodIn_r _ [14] (by decide +kernel) (by decide +kernel)
set_option maxRecDepth 20000 in
theorem gX11_idle_X11_within : GoodIn wsX11_idle (va_wsS RX11 77 yX11_within wsX11_within) := goodIn_app (goodIn_of _ (by decide +kernel)) ggX11_idle_X11_within
theorem dX11_idle_0 : decode cX11_idle 0 = .ok (.aload_n 0, 1) := by decide +kernel
theorem dX11_idle_1 : decode cX11_idle 1 = .ok (.invokevirtual 196, 3) := by decide +kernel
theorem dX11_idle_4 : decode cX11_idle 4 = .ok (.ifCond .ne 6, 3) := by decide +kernel
theorem dX11_idle_7 : decode cX11_idle 7 = .ok (.ldc 152, 2) := by decide +kernel
theorem dX11_idle_9 : decode cX11_idle 9 = .ok (.ireturn, 1) := by decide +kernel
theorem dX11_idle_10 : decode cX11_idle 10 = .ok (.iload_n 1, 1) := by decide +kernel
theorem dX11_idle_11 : decode cX11_idle 11 = .ok (.iconst 0, 1) := by decide +kernel
theorem dX11_idle_12 : decode cX11_idle 12 = .ok (.ldc 235, 2) := by decide +kernel
theorem dX11_idle_14 : decode cX11_idle 14 = .ok (.invokestatic 77, 3) := by decide +kernel
theorem dX11_idle_17 : decode cX11_idle 17 = .ok (.ifCond .eq 14, 3) := by decide +kernel
theorem dX11_idle_20 : decode cX11_idle 20 = .ok (.aload_n 0, 1) := by decide +kernel
theorem dX11_idle_21 : decode cX11_idle 21 = .ok (.getfield 140, 3) := by decide +kernel
theorem dX11_idle_24 : decode cX11_idle 24 = .ok (.iload_n 1, 1) := by decide +kernel
theorem dX11_idle_25 : decode cX11_idle 25 = .ok (.iadd, 1) := by decide +kernel
theorem dX11_idle_26 : decode cX11_idle 26 = .ok (.ldc 236, 2) := by decide +kernel
theorem dX11_idle_28 : decode cX11_idle 28 = .ok (.if_icmp .le 6, 3) := by decide +kernel
theorem dX11_idle_31 : decode cX11_idle 31 = .ok (.ldc 81, 2) := by decide +kernel
theorem dX11_idle_33 : decode cX11_idle 33 = .ok (.ireturn, 1) := by decide +kernel
theorem dX11_idle_34 : decode cX11_idle 34 = .ok (.aload_n 0, 1) := by decide +kernel
theorem dX11_idle_35 : decode cX11_idle 35 = .ok (.dup, 1) := by decide +kernel
theorem dX11_idle_36 : decode cX11_idle 36 = .ok (.getfield 140, 3) := by decide +kernel
theorem dX11_idle_39 : decode cX11_idle 39 = .ok (.iload_n 1, 1) := by decide +kernel
theorem dX11_idle_40 : decode cX11_idle 40 = .ok (.iadd, 1) := by decide +kernel
theorem dX11_idle_41 : decode cX11_idle 41 = .ok (.putfield 140, 3) := by decide +kernel
theorem dX11_idle_44 : decode cX11_idle 44 = .ok (.aload_n 0, 1) := by decide +kernel
theorem dX11_idle_45 : decode cX11_idle 45 = .ok (.getfield 140, 3) := by decide +kernel
theorem dX11_idle_48 : decode cX11_idle 48 = .ok (.ireturn, 1) := by decide +kernel
set_option maxRecDepth 20000 in
theorem ggX11_lastNow_X11_flightOf : GoodIn wsX11_lastNow wsX11_flightOf := goodIn_r _ [10, 11, 12, 13, 14, 9, 15, 16, 17, 18, 19, 20, 21, 22, 23, 24, 25, 26, 27, 28, 29, 30, 31, 32, 33, 34, 35, 36, 37, 38, 39, 40, 41, 42, 43, 44, 45, 46, 47, 48, 49, 50, 51, 52, 53, 54, 55, 56, 57, 58, 59, 60] (by decide +kernel) (by decide +kernel)
set_option maxRecDepth 20000 in
theorem gX11_lastNow_X11_flightOf : GoodIn wsX11_lastNow (wsV RX11 182 RX11 yX11_flightOf wsX11_flightOf) := goodIn_app (goodIn_of _ (by decide +kernel)) ggX11_lastNow_X11_flightOf
theorem dX11_lastNow_0 : decode cX11_lastNow 0 = .ok (.iload_n 1, 1) := by decide +kernel
theorem dX11_lastNow_1 : decode cX11_lastNow 1 = .ok (.tableswitch 68 7 11 #[35, 40, 45, 58, 63], 35) := by decide +kernel
theorem dX11_lastNow_36 : decode cX11_lastNow 36 = .ok (.aload_n 0, 1) := by decide +kernel
theorem dX11_lastNow_37 : decode cX11_lastNow 37 = .ok (.getfield 202, 3) := by decide +kernel
theorem dX11_lastNow_40 : decode cX11_lastNow 40 = .ok (.ireturn, 1) := by decide +kernel
theorem dX11_lastNow_41 : decode cX11_lastNow 41 = .ok (.aload_n 0, 1) := by decide +kernel
theorem dX11_lastNow_42 : decode cX11_lastNow 42 = .ok (.getfield 205, 3) := by decide +kernel
theorem dX11_lastNow_45 : decode cX11_lastNow 45 = .ok (.ireturn, 1) := by decide +kernel
theorem dX11_lastNow_46 : decode cX11_lastNow 46 = .ok (.aload_n 0, 1) := by decide +kernel
theorem dX11_lastNow_47 : decode cX11_lastNow 47 = .ok (.aload_n 0, 1) := by decide +kernel
theorem dX11_lastNow_48 : decode cX11_lastNow 48 = .ok (.getfield 226, 3) := by decide +kernel
theorem dX11_lastNow_51 : decode cX11_lastNow 51 = .ok (.aload_n 0, 1) := by decide +kernel
theorem dX11_lastNow_52 : decode cX11_lastNow 52 = .ok (.getfield 229, 3) := by decide +kernel
theorem dX11_lastNow_55 : decode cX11_lastNow 55 = .ok (.invokevirtual 182, 3) := by decide +kernel
theorem dX11_lastNow_58 : decode cX11_lastNow 58 = .ok (.ireturn, 1) := by decide +kernel
theorem dX11_lastNow_59 : decode cX11_lastNow 59 = .ok (.aload_n 0, 1) := by decide +kernel
theorem dX11_lastNow_60 : decode cX11_lastNow 60 = .ok (.getfield 226, 3) := by decide +kernel
theorem dX11_lastNow_63 : decode cX11_lastNow 63 = .ok (.ireturn, 1) := by decide +kernel
theorem dX11_lastNow_64 : decode cX11_lastNow 64 = .ok (.aload_n 0, 1) := by decide +kernel
theorem dX11_lastNow_65 : decode cX11_lastNow 65 = .ok (.getfield 229, 3) := by decide +kernel
theorem dX11_lastNow_68 : decode cX11_lastNow 68 = .ok (.ireturn, 1) := by decide +kernel
theorem dX11_lastNow_69 : decode cX11_lastNow 69 = .ok (.aload_n 0, 1) := by decide +kernel
theorem dX11_lastNow_70 : decode cX11_lastNow 70 = .ok (.getfield 59, 3) := by decide +kernel
theorem dX11_lastNow_73 : decode cX11_lastNow 73 = .ok (.iload_n 1, 1) := by decide +kernel
theorem dX11_lastNow_74 : decode cX11_lastNow 74 = .ok (.iaload, 1) := by decide +kernel
theorem dX11_lastNow_75 : decode cX11_lastNow 75 = .ok (.ireturn, 1) := by decide +kernel
set_option maxRecDepth 20000 in
theorem ggX11_last_X11_within : GoodIn wsX11_last wsX11_within := goodIn_r _ [7] (by decide +kernel) (by decide +kernel)
set_option maxRecDepth 20000 in
theorem gX11_last_X11_within : GoodIn wsX11_last (va_wsS RX11 77 yX11_within wsX11_within) := goodIn_app (goodIn_of _ (by decide +kernel)) ggX11_last_X11_within
set_option maxRecDepth 20000 in
theorem ggX11_last_X11_lastNow : GoodIn wsX11_last wsX11_lastNow := goodIn_r _ [11, 12, 13, 14, 15, 16, 17, 18, 19, 6, 20, 21, 22, 23, 24, 25, 26, 27, 28, 29, 30, 31, 32, 33, 34, 35, 36, 37, 38, 39, 40, 41, 42, 43, 44, 45, 46, 47, 48, 49, 50, 51, 52, 53, 54, 55, 56, 57, 58, 59, 60, 61, 62, 63, 64, 65, 66, 67, 68, 69, 70] (by decide +kernel) (by decide +kernel)
set_option maxRecDepth 20000 in
theorem gX11_last_X11_lastNow : GoodIn wsX11_last (wsV RX11 237 RX11 yX11_lastNow wsX11_lastNow) := goodIn_app (goodIn_of _ (by decide +kernel)) ggX11_last_X11_lastNow
theorem dX11_last_0 : decode cX11_last 0 = .ok (.iload_n 1, 1) := by decide +kernel
theorem dX11_last_1 : decode cX11_last 1 = .ok (.iconst 1, 1) := by decide +kernel
theorem dX11_last_2 : decode cX11_last 2 = .ok (.bipush 11, 2) := by decide +kernel
theorem dX11_last_4 : decode cX11_last 4 = .ok (.invokestatic 77, 3) := by decide +kernel
theorem dX11_last_7 : decode cX11_last 7 = .ok (.ifCond .ne 6, 3) := by decide +kernel
theorem dX11_last_10 : decode cX11_last 10 = .ok (.ldc 81, 2) := by decide +kernel
theorem dX11_last_12 : decode cX11_last 12 = .ok (.ireturn, 1) := by decide +kernel
theorem dX11_last_13 : decode cX11_last 13 = .ok (.aload_n 0, 1) := by decide +kernel
theorem dX11_last_14 : decode cX11_last 14 = .ok (.getfield 149, 3) := by decide +kernel
theorem dX11_last_17 : decode cX11_last 17 = .ok (.ifCond .eq 11, 3) := by decide +kernel
theorem dX11_last_20 : decode cX11_last 20 = .ok (.aload_n 0, 1) := by decide +kernel
theorem dX11_last_21 : decode cX11_last 21 = .ok (.iload_n 1, 1) := by decide +kernel
theorem dX11_last_22 : decode cX11_last 22 = .ok (.invokevirtual 237, 3) := by decide +kernel
theorem dX11_last_25 : decode cX11_last 25 = .ok (.goto 5, 3) := by decide +kernel
theorem dX11_last_28 : decode cX11_last 28 = .ok (.ldc 152, 2) := by decide +kernel
theorem dX11_last_30 : decode cX11_last 30 = .ok (.ireturn, 1) := by decide +kernel
set_option maxRecDepth 20000 in
theorem ggX11_heardNow_X11_flightOf : GoodIn wsX11_heardNow wsX11_flightOf := goodIn_r _ [10, 11, 12, 13, 14, 9, 15, 16, 17, 18, 29, 30, 31, 32, 33, 34, 35, 36, 37, 38, 39, 40, 41, 42, 43, 44, 45, 46, 47, 48, 49, 50, 51, 52, 53, 54, 55, 56, 57, 58, 59, 60, 61, 62, 63, 64, 65, 66, 67, 68, 69, 70] (by decide +kernel) (by decide +kernel)
set_option maxRecDepth 20000 in
theorem gX11_heardNow_X11_flightOf : GoodIn wsX11_heardNow (wsV RX11 182 RX11 yX11_flightOf wsX11_flightOf) := goodIn_app (goodIn_of _ (by decide +kernel)) ggX11_heardNow_X11_flightOf
set_option maxRecDepth 20000 in
theorem ggX11_heardNow_X11_clockOf : GoodIn wsX11_heardNow wsX11_clockOf := goodIn_r _ [22, 23, 24, 25, 26, 27, 9, 28, 29, 30, 31, 32, 33, 34, 35, 36, 37, 38, 39, 40, 41, 42, 43, 44, 45, 46, 47, 48, 49, 50, 51, 52, 53, 54, 55, 56, 57, 58, 59, 60, 61, 62, 63, 64, 65, 66, 67, 68, 69, 70] (by decide +kernel) (by decide +kernel)
set_option maxRecDepth 20000 in
theorem gX11_heardNow_X11_clockOf : GoodIn wsX11_heardNow (wsV RX11 175 RX11 yX11_clockOf wsX11_clockOf) := goodIn_app (goodIn_of _ (by decide +kernel)) ggX11_heardNow_X11_clockOf
theorem dX11_heardNow_0 : decode cX11_heardNow 0 = .ok (.aload_n 0, 1) := by decide +kernel
theorem dX11_heardNow_1 : decode cX11_heardNow 1 = .ok (.iload_n 1, 1) := by decide +kernel
theorem dX11_heardNow_2 : decode cX11_heardNow 2 = .ok (.aload_n 0, 1) := by decide +kernel
theorem dX11_heardNow_3 : decode cX11_heardNow 3 = .ok (.getfield 56, 3) := by decide +kernel
theorem dX11_heardNow_6 : decode cX11_heardNow 6 = .ok (.iconst 3, 1) := by decide +kernel
theorem dX11_heardNow_7 : decode cX11_heardNow 7 = .ok (.iaload, 1) := by decide +kernel
theorem dX11_heardNow_8 : decode cX11_heardNow 8 = .ok (.aload_n 0, 1) := by decide +kernel
theorem dX11_heardNow_9 : decode cX11_heardNow 9 = .ok (.iload_n 1, 1) := by decide +kernel
theorem dX11_heardNow_10 : decode cX11_heardNow 10 = .ok (.aload_n 0, 1) := by decide +kernel
theorem dX11_heardNow_11 : decode cX11_heardNow 11 = .ok (.getfield 229, 3) := by decide +kernel
theorem dX11_heardNow_14 : decode cX11_heardNow 14 = .ok (.invokevirtual 182, 3) := by decide +kernel
theorem dX11_heardNow_17 : decode cX11_heardNow 17 = .ok (.iadd, 1) := by decide +kernel
theorem dX11_heardNow_18 : decode cX11_heardNow 18 = .ok (.invokevirtual 175, 3) := by decide +kernel
theorem dX11_heardNow_21 : decode cX11_heardNow 21 = .ok (.istore_n 2, 1) := by decide +kernel
theorem dX11_heardNow_22 : decode cX11_heardNow 22 = .ok (.aload_n 0, 1) := by decide +kernel
theorem dX11_heardNow_23 : decode cX11_heardNow 23 = .ok (.iload_n 1, 1) := by decide +kernel
theorem dX11_heardNow_24 : decode cX11_heardNow 24 = .ok (.aload_n 0, 1) := by decide +kernel
theorem dX11_heardNow_25 : decode cX11_heardNow 25 = .ok (.getfield 56, 3) := by decide +kernel
theorem dX11_heardNow_28 : decode cX11_heardNow 28 = .ok (.iconst 1, 1) := by decide +kernel
theorem dX11_heardNow_29 : decode cX11_heardNow 29 = .ok (.iaload, 1) := by decide +kernel
theorem dX11_heardNow_30 : decode cX11_heardNow 30 = .ok (.aload_n 0, 1) := by decide +kernel
theorem dX11_heardNow_31 : decode cX11_heardNow 31 = .ok (.iload_n 1, 1) := by decide +kernel
theorem dX11_heardNow_32 : decode cX11_heardNow 32 = .ok (.aload_n 0, 1) := by decide +kernel
theorem dX11_heardNow_33 : decode cX11_heardNow 33 = .ok (.getfield 226, 3) := by decide +kernel
theorem dX11_heardNow_36 : decode cX11_heardNow 36 = .ok (.invokevirtual 182, 3) := by decide +kernel
theorem dX11_heardNow_39 : decode cX11_heardNow 39 = .ok (.iadd, 1) := by decide +kernel
theorem dX11_heardNow_40 : decode cX11_heardNow 40 = .ok (.invokevirtual 175, 3) := by decide +kernel
theorem dX11_heardNow_43 : decode cX11_heardNow 43 = .ok (.istore_n 3, 1) := by decide +kernel
theorem dX11_heardNow_44 : decode cX11_heardNow 44 = .ok (.iload_n 2, 1) := by decide +kernel
theorem dX11_heardNow_45 : decode cX11_heardNow 45 = .ok (.iload_n 3, 1) := by decide +kernel
theorem dX11_heardNow_46 : decode cX11_heardNow 46 = .ok (.isub, 1) := by decide +kernel
theorem dX11_heardNow_47 : decode cX11_heardNow 47 = .ok (.aload_n 0, 1) := by decide +kernel
theorem dX11_heardNow_48 : decode cX11_heardNow 48 = .ok (.getfield 59, 3) := by decide +kernel
theorem dX11_heardNow_51 : decode cX11_heardNow 51 = .ok (.iconst 3, 1) := by decide +kernel
theorem dX11_heardNow_52 : decode cX11_heardNow 52 = .ok (.iaload, 1) := by decide +kernel
theorem dX11_heardNow_53 : decode cX11_heardNow 53 = .ok (.aload_n 0, 1) := by decide +kernel
theorem dX11_heardNow_54 : decode cX11_heardNow 54 = .ok (.getfield 59, 3) := by decide +kernel
theorem dX11_heardNow_57 : decode cX11_heardNow 57 = .ok (.iconst 2, 1) := by decide +kernel
theorem dX11_heardNow_58 : decode cX11_heardNow 58 = .ok (.iaload, 1) := by decide +kernel
theorem dX11_heardNow_59 : decode cX11_heardNow 59 = .ok (.isub, 1) := by decide +kernel
theorem dX11_heardNow_60 : decode cX11_heardNow 60 = .ok (.isub, 1) := by decide +kernel
theorem dX11_heardNow_61 : decode cX11_heardNow 61 = .ok (.aload_n 0, 1) := by decide +kernel
theorem dX11_heardNow_62 : decode cX11_heardNow 62 = .ok (.getfield 205, 3) := by decide +kernel
theorem dX11_heardNow_65 : decode cX11_heardNow 65 = .ok (.isub, 1) := by decide +kernel
theorem dX11_heardNow_66 : decode cX11_heardNow 66 = .ok (.ireturn, 1) := by decide +kernel
set_option maxRecDepth 20000 in
theorem ggX11_heard_X11_isNode : GoodIn wsX11_heard wsX11_isNode := goodIn_r _ [10, 11, 12, 13, 9, 14, 44, 45, 46, 47, 48, 49, 50, 51, 52, 53, 54, 55, 56, 57, 58, 59, 60, 61, 62, 63, 64, 65, 66, 67, 68, 69, 70, 71, 72, 73, 74, 75, 76, 77, 78, 79, 80, 81, 82, 83, 84, 85] (by decide +kernel) (by decide +kernel)
set_option maxRecDepth 20000 in
theorem gX11_heard_X11_isNode : GoodIn wsX11_heard (wsV RX11 159 RX11 yX11_isNode wsX11_isNode) := goodIn_app (goodIn_of _ (by decide +kernel)) ggX11_heard_X11_isNode
set_option maxRecDepth 20000 in
theorem ggX11_heard_X11_heardNow : GoodIn wsX11_heard wsX11_heardNow := goodIn_r _ [18, 19, 4, 3, 20, 21, 22, 23, 24, 9, 25, 26, 27, 28, 29, 30, 31, 32, 33, 34, 35, 36, 37, 38, 39, 40, 41, 42, 43, 44, 45, 46, 47, 48, 49, 50, 51, 52, 53, 54, 55, 56, 57, 58, 59, 60, 61, 62, 63, 64, 65, 66, 67, 68, 69, 70, 71, 72, 73, 74, 75, 76, 77, 78, 79, 80, 81, 82, 83, 84, 85] (by decide +kernel) (by decide +kernel)
set_option maxRecDepth 20000 in
theorem gX11_heard_X11_heardNow : GoodIn wsX11_heard (wsV RX11 240 RX11 yX11_heardNow wsX11_heardNow) := goodIn_app (goodIn_of _ (by decide +kernel)) ggX11_heard_X11_heardNow
theorem dX11_heard_0 : decode cX11_heard 0 = .ok (.aload_n 0, 1) := by decide +kernel
theorem dX11_heard_1 : decode cX11_heard 1 = .ok (.getfield 149, 3) := by decide +kernel
theorem dX11_heard_4 : decode cX11_heard 4 = .ok (.ifCond .ne 6, 3) := by decide +kernel
theorem dX11_heard_7 : decode cX11_heard 7 = .ok (.ldc 152, 2) := by decide +kernel
theorem dX11_heard_9 : decode cX11_heard 9 = .ok (.ireturn, 1) := by decide +kernel
theorem dX11_heard_10 : decode cX11_heard 10 = .ok (.aload_n 0, 1) := by decide +kernel
theorem dX11_heard_11 : decode cX11_heard 11 = .ok (.iload_n 1, 1) := by decide +kernel
theorem dX11_heard_12 : decode cX11_heard 12 = .ok (.invokevirtual 159, 3) := by decide +kernel
theorem dX11_heard_15 : decode cX11_heard 15 = .ok (.ifCond .eq 27, 3) := by decide +kernel
theorem dX11_heard_18 : decode cX11_heard 18 = .ok (.iload_n 1, 1) := by decide +kernel
theorem dX11_heard_19 : decode cX11_heard 19 = .ok (.aload_n 0, 1) := by decide +kernel
theorem dX11_heard_20 : decode cX11_heard 20 = .ok (.getfield 226, 3) := by decide +kernel
theorem dX11_heard_23 : decode cX11_heard 23 = .ok (.if_icmp .eq 19, 3) := by decide +kernel
theorem dX11_heard_26 : decode cX11_heard 26 = .ok (.iload_n 1, 1) := by decide +kernel
theorem dX11_heard_27 : decode cX11_heard 27 = .ok (.aload_n 0, 1) := by decide +kernel
theorem dX11_heard_28 : decode cX11_heard 28 = .ok (.getfield 229, 3) := by decide +kernel
theorem dX11_heard_31 : decode cX11_heard 31 = .ok (.if_icmp .eq 11, 3) := by decide +kernel
theorem dX11_heard_34 : decode cX11_heard 34 = .ok (.aload_n 0, 1) := by decide +kernel
theorem dX11_heard_35 : decode cX11_heard 35 = .ok (.iload_n 1, 1) := by decide +kernel
theorem dX11_heard_36 : decode cX11_heard 36 = .ok (.invokevirtual 240, 3) := by decide +kernel
theorem dX11_heard_39 : decode cX11_heard 39 = .ok (.goto 5, 3) := by decide +kernel
theorem dX11_heard_42 : decode cX11_heard 42 = .ok (.ldc 178, 2) := by decide +kernel
theorem dX11_heard_44 : decode cX11_heard 44 = .ok (.ireturn, 1) := by decide +kernel
set_option maxRecDepth 20000 in
theorem ggX11_rangeNow_X11_pairOf : GoodIn wsX11_rangeNow wsX11_pairOf := goodIn_r _ [6] (by decide +kernel) (by decide +kernel)
set_option maxRecDepth 20000 in
theorem gX11_rangeNow_X11_pairOf : GoodIn wsX11_rangeNow (va_wsS RX11 190 yX11_pairOf wsX11_pairOf) := goodIn_app (goodIn_of _ (by decide +kernel)) ggX11_rangeNow_X11_pairOf
theorem dX11_rangeNow_0 : decode cX11_rangeNow 0 = .ok (.aload_n 0, 1) := by decide +kernel
theorem dX11_rangeNow_1 : decode cX11_rangeNow 1 = .ok (.getfield 47, 3) := by decide +kernel
theorem dX11_rangeNow_4 : decode cX11_rangeNow 4 = .ok (.iload_n 1, 1) := by decide +kernel
theorem dX11_rangeNow_5 : decode cX11_rangeNow 5 = .ok (.iload_n 2, 1) := by decide +kernel
theorem dX11_rangeNow_6 : decode cX11_rangeNow 6 = .ok (.invokestatic 190, 3) := by decide +kernel
theorem dX11_rangeNow_9 : decode cX11_rangeNow 9 = .ok (.baload, 1) := by decide +kernel
theorem dX11_rangeNow_10 : decode cX11_rangeNow 10 = .ok (.ifCond .eq 16, 3) := by decide +kernel
theorem dX11_rangeNow_13 : decode cX11_rangeNow 13 = .ok (.aload_n 0, 1) := by decide +kernel
theorem dX11_rangeNow_14 : decode cX11_rangeNow 14 = .ok (.getfield 50, 3) := by decide +kernel
theorem dX11_rangeNow_17 : decode cX11_rangeNow 17 = .ok (.iload_n 1, 1) := by decide +kernel
theorem dX11_rangeNow_18 : decode cX11_rangeNow 18 = .ok (.iload_n 2, 1) := by decide +kernel
theorem dX11_rangeNow_19 : decode cX11_rangeNow 19 = .ok (.invokestatic 190, 3) := by decide +kernel
theorem dX11_rangeNow_22 : decode cX11_rangeNow 22 = .ok (.iaload, 1) := by decide +kernel
theorem dX11_rangeNow_23 : decode cX11_rangeNow 23 = .ok (.goto 4, 3) := by decide +kernel
theorem dX11_rangeNow_26 : decode cX11_rangeNow 26 = .ok (.iconst (-1), 1) := by decide +kernel
theorem dX11_rangeNow_27 : decode cX11_rangeNow 27 = .ok (.ireturn, 1) := by decide +kernel
set_option maxRecDepth 20000 in
theorem ggX11_range_X11_isPair : GoodIn wsX11_range wsX11_isPair := goodIn_r _ [6, 7, 8, 9, 10, 5, 11, 12, 13, 14, 15, 25, 26, 27, 28, 29, 30, 31, 32, 33, 34, 35, 36, 37, 38, 39, 40, 41, 42, 43, 44, 45, 46, 47, 48, 49, 50, 51, 52, 53, 54, 55, 56, 57, 58, 59, 60, 61, 62, 63, 64, 65, 66] (by decide +kernel) (by decide +kernel)
set_option maxRecDepth 20000 in
theorem gX11_range_X11_isPair : GoodIn wsX11_range (wsV RX11 186 RX11 yX11_isPair wsX11_isPair) := goodIn_app (goodIn_of _ (by decide +kernel)) ggX11_range_X11_isPair
set_option maxRecDepth 20000 in
theorem ggX11_range_X11_rangeNow : GoodIn wsX11_range wsX11_rangeNow := goodIn_r _ [19, 20, 21, 22, 23, 5, 24, 25, 26, 27, 28, 29, 30, 31, 32, 33, 34, 35, 36, 37, 38, 39, 40, 41, 42, 43, 44, 45, 46, 47, 48, 49, 50, 51, 52, 53, 54, 55, 56, 57, 58, 59, 60, 61, 62, 63, 64, 65, 66] (by decide +kernel) (by decide +kernel)
set_option maxRecDepth 20000 in
theorem gX11_range_X11_rangeNow : GoodIn wsX11_range (wsV RX11 243 RX11 yX11_rangeNow wsX11_rangeNow) := goodIn_app (goodIn_of _ (by decide +kernel)) ggX11_range_X11_rangeNow
theorem dX11_range_0 : decode cX11_range 0 = .ok (.aload_n 0, 1) := by decide +kernel
theorem dX11_range_1 : decode cX11_range 1 = .ok (.iload_n 1, 1) := by decide +kernel
theorem dX11_range_2 : decode cX11_range 2 = .ok (.iload_n 2, 1) := by decide +kernel
theorem dX11_range_3 : decode cX11_range 3 = .ok (.invokevirtual 186, 3) := by decide +kernel
theorem dX11_range_6 : decode cX11_range 6 = .ok (.ifCond .eq 12, 3) := by decide +kernel
theorem dX11_range_9 : decode cX11_range 9 = .ok (.aload_n 0, 1) := by decide +kernel
theorem dX11_range_10 : decode cX11_range 10 = .ok (.iload_n 1, 1) := by decide +kernel
theorem dX11_range_11 : decode cX11_range 11 = .ok (.iload_n 2, 1) := by decide +kernel
theorem dX11_range_12 : decode cX11_range 12 = .ok (.invokevirtual 243, 3) := by decide +kernel
theorem dX11_range_15 : decode cX11_range 15 = .ok (.goto 5, 3) := by decide +kernel
theorem dX11_range_18 : decode cX11_range 18 = .ok (.ldc 178, 2) := by decide +kernel
theorem dX11_range_20 : decode cX11_range 20 = .ok (.ireturn, 1) := by decide +kernel
set_option maxRecDepth 20000 in
theorem ggX11_rangedBy_X11_pairOf : GoodIn wsX11_rangedBy wsX11_pairOf := goodIn_r _ [7] (by decide +kernel) (by decide +kernel)
set_option maxRecDepth 20000 in
theorem gX11_rangedBy_X11_pairOf : GoodIn wsX11_rangedBy (va_wsS RX11 190 yX11_pairOf wsX11_pairOf) := goodIn_app (goodIn_of _ (by decide +kernel)) ggX11_rangedBy_X11_pairOf
theorem dX11_rangedBy_0 : decode cX11_rangedBy 0 = .ok (.iconst 0, 1) := by decide +kernel
theorem dX11_rangedBy_1 : decode cX11_rangedBy 1 = .ok (.istore_n 2, 1) := by decide +kernel
theorem dX11_rangedBy_2 : decode cX11_rangedBy 2 = .ok (.iconst 0, 1) := by decide +kernel
theorem dX11_rangedBy_3 : decode cX11_rangedBy 3 = .ok (.istore_n 3, 1) := by decide +kernel
theorem dX11_rangedBy_4 : decode cX11_rangedBy 4 = .ok (.iload_n 3, 1) := by decide +kernel
theorem dX11_rangedBy_5 : decode cX11_rangedBy 5 = .ok (.aload_n 0, 1) := by decide +kernel
theorem dX11_rangedBy_6 : decode cX11_rangedBy 6 = .ok (.getfield 129, 3) := by decide +kernel
theorem dX11_rangedBy_9 : decode cX11_rangedBy 9 = .ok (.if_icmp .ge 41, 3) := by decide +kernel
theorem dX11_rangedBy_12 : decode cX11_rangedBy 12 = .ok (.iload_n 2, 1) := by decide +kernel
theorem dX11_rangedBy_13 : decode cX11_rangedBy 13 = .ok (.aload_n 0, 1) := by decide +kernel
theorem dX11_rangedBy_14 : decode cX11_rangedBy 14 = .ok (.getfield 13, 3) := by decide +kernel
theorem dX11_rangedBy_17 : decode cX11_rangedBy 17 = .ok (.iload_n 3, 1) := by decide +kernel
theorem dX11_rangedBy_18 : decode cX11_rangedBy 18 = .ok (.baload, 1) := by decide +kernel
theorem dX11_rangedBy_19 : decode cX11_rangedBy 19 = .ok (.ifCond .ne 22, 3) := by decide +kernel
theorem dX11_rangedBy_22 : decode cX11_rangedBy 22 = .ok (.aload_n 0, 1) := by decide +kernel
theorem dX11_rangedBy_23 : decode cX11_rangedBy 23 = .ok (.getfield 47, 3) := by decide +kernel
theorem dX11_rangedBy_26 : decode cX11_rangedBy 26 = .ok (.iload_n 1, 1) := by decide +kernel
theorem dX11_rangedBy_27 : decode cX11_rangedBy 27 = .ok (.iload_n 3, 1) := by decide +kernel
theorem dX11_rangedBy_28 : decode cX11_rangedBy 28 = .ok (.invokestatic 190, 3) := by decide +kernel
theorem dX11_rangedBy_31 : decode cX11_rangedBy 31 = .ok (.baload, 1) := by decide +kernel
theorem dX11_rangedBy_32 : decode cX11_rangedBy 32 = .ok (.ifCond .eq 9, 3) := by decide +kernel
theorem dX11_rangedBy_35 : decode cX11_rangedBy 35 = .ok (.iconst 1, 1) := by decide +kernel
theorem dX11_rangedBy_36 : decode cX11_rangedBy 36 = .ok (.iload_n 3, 1) := by decide +kernel
theorem dX11_rangedBy_37 : decode cX11_rangedBy 37 = .ok (.ishl, 1) := by decide +kernel
theorem dX11_rangedBy_38 : decode cX11_rangedBy 38 = .ok (.goto 4, 3) := by decide +kernel
theorem dX11_rangedBy_41 : decode cX11_rangedBy 41 = .ok (.iconst 0, 1) := by decide +kernel
theorem dX11_rangedBy_42 : decode cX11_rangedBy 42 = .ok (.ior, 1) := by decide +kernel
theorem dX11_rangedBy_43 : decode cX11_rangedBy 43 = .ok (.istore_n 2, 1) := by decide +kernel
theorem dX11_rangedBy_44 : decode cX11_rangedBy 44 = .ok (.iinc 3 1, 3) := by decide +kernel
theorem dX11_rangedBy_47 : decode cX11_rangedBy 47 = .ok (.goto (-43), 3) := by decide +kernel
theorem dX11_rangedBy_50 : decode cX11_rangedBy 50 = .ok (.iload_n 2, 1) := by decide +kernel
theorem dX11_rangedBy_51 : decode cX11_rangedBy 51 = .ok (.ireturn, 1) := by decide +kernel
set_option maxRecDepth 20000 in
theorem ggX11_misfitBy_X11_pairOf : GoodIn wsX11_misfitBy wsX11_pairOf := goodIn_r _ [8] (by decide +kernel) (by decide +kernel)
set_option maxRecDepth 20000 in
theorem gX11_misfitBy_X11_pairOf : GoodIn wsX11_misfitBy (va_wsS RX11 190 yX11_pairOf wsX11_pairOf) := goodIn_app (goodIn_of _ (by decide +kernel)) ggX11_misfitBy_X11_pairOf
set_option maxRecDepth 20000 in
theorem ggX11_misfitBy_X11_flightBy : GoodIn wsX11_misfitBy wsX11_flightBy := goodIn_r _ [11, 12, 13, 7, 14] (by decide +kernel) (by decide +kernel)
set_option maxRecDepth 20000 in
theorem gX11_misfitBy_X11_flightBy : GoodIn wsX11_misfitBy (va_wsS RX11 165 yX11_flightBy wsX11_flightBy) := goodIn_app (goodIn_of _ (by decide +kernel)) ggX11_misfitBy_X11_flightBy
theorem dX11_misfitBy_0 : decode cX11_misfitBy 0 = .ok (.iconst 0, 1) := by decide +kernel
theorem dX11_misfitBy_1 : decode cX11_misfitBy 1 = .ok (.istore 5, 2) := by decide +kernel
theorem dX11_misfitBy_3 : decode cX11_misfitBy 3 = .ok (.iconst 0, 1) := by decide +kernel
theorem dX11_misfitBy_4 : decode cX11_misfitBy 4 = .ok (.istore 6, 2) := by decide +kernel
theorem dX11_misfitBy_6 : decode cX11_misfitBy 6 = .ok (.iload 6, 2) := by decide +kernel
theorem dX11_misfitBy_8 : decode cX11_misfitBy 8 = .ok (.aload_n 0, 1) := by decide +kernel
theorem dX11_misfitBy_9 : decode cX11_misfitBy 9 = .ok (.getfield 129, 3) := by decide +kernel
theorem dX11_misfitBy_12 : decode cX11_misfitBy 12 = .ok (.if_icmp .ge 65, 3) := by decide +kernel
theorem dX11_misfitBy_15 : decode cX11_misfitBy 15 = .ok (.iload_n 2, 1) := by decide +kernel
theorem dX11_misfitBy_16 : decode cX11_misfitBy 16 = .ok (.iload 6, 2) := by decide +kernel
theorem dX11_misfitBy_18 : decode cX11_misfitBy 18 = .ok (.ishr, 1) := by decide +kernel
theorem dX11_misfitBy_19 : decode cX11_misfitBy 19 = .ok (.iconst 1, 1) := by decide +kernel
theorem dX11_misfitBy_20 : decode cX11_misfitBy 20 = .ok (.iand, 1) := by decide +kernel
theorem dX11_misfitBy_21 : decode cX11_misfitBy 21 = .ok (.iconst 1, 1) := by decide +kernel
theorem dX11_misfitBy_22 : decode cX11_misfitBy 22 = .ok (.if_icmp .ne 49, 3) := by decide +kernel
theorem dX11_misfitBy_25 : decode cX11_misfitBy 25 = .ok (.aload_n 0, 1) := by decide +kernel
theorem dX11_misfitBy_26 : decode cX11_misfitBy 26 = .ok (.getfield 50, 3) := by decide +kernel
theorem dX11_misfitBy_29 : decode cX11_misfitBy 29 = .ok (.iload_n 1, 1) := by decide +kernel
theorem dX11_misfitBy_30 : decode cX11_misfitBy 30 = .ok (.iload 6, 2) := by decide +kernel
theorem dX11_misfitBy_32 : decode cX11_misfitBy 32 = .ok (.invokestatic 190, 3) := by decide +kernel
theorem dX11_misfitBy_35 : decode cX11_misfitBy 35 = .ok (.iaload, 1) := by decide +kernel
theorem dX11_misfitBy_36 : decode cX11_misfitBy 36 = .ok (.iload_n 3, 1) := by decide +kernel
theorem dX11_misfitBy_37 : decode cX11_misfitBy 37 = .ok (.aload_n 0, 1) := by decide +kernel
theorem dX11_misfitBy_38 : decode cX11_misfitBy 38 = .ok (.getfield 17, 3) := by decide +kernel
theorem dX11_misfitBy_41 : decode cX11_misfitBy 41 = .ok (.iload 6, 2) := by decide +kernel
theorem dX11_misfitBy_43 : decode cX11_misfitBy 43 = .ok (.iaload, 1) := by decide +kernel
theorem dX11_misfitBy_44 : decode cX11_misfitBy 44 = .ok (.isub, 1) := by decide +kernel
theorem dX11_misfitBy_45 : decode cX11_misfitBy 45 = .ok (.iload 4, 2) := by decide +kernel
theorem dX11_misfitBy_47 : decode cX11_misfitBy 47 = .ok (.aload_n 0, 1) := by decide +kernel
theorem dX11_misfitBy_48 : decode cX11_misfitBy 48 = .ok (.getfield 20, 3) := by decide +kernel
theorem dX11_misfitBy_51 : decode cX11_misfitBy 51 = .ok (.iload 6, 2) := by decide +kernel
theorem dX11_misfitBy_53 : decode cX11_misfitBy 53 = .ok (.iaload, 1) := by decide +kernel
theorem dX11_misfitBy_54 : decode cX11_misfitBy 54 = .ok (.isub, 1) := by decide +kernel
theorem dX11_misfitBy_55 : decode cX11_misfitBy 55 = .ok (.invokestatic 165, 3) := by decide +kernel
theorem dX11_misfitBy_58 : decode cX11_misfitBy 58 = .ok (.isub, 1) := by decide +kernel
theorem dX11_misfitBy_59 : decode cX11_misfitBy 59 = .ok (.istore 7, 2) := by decide +kernel
theorem dX11_misfitBy_61 : decode cX11_misfitBy 61 = .ok (.iload 5, 2) := by decide +kernel
theorem dX11_misfitBy_63 : decode cX11_misfitBy 63 = .ok (.iload 7, 2) := by decide +kernel
theorem dX11_misfitBy_65 : decode cX11_misfitBy 65 = .ok (.iload 7, 2) := by decide +kernel
theorem dX11_misfitBy_67 : decode cX11_misfitBy 67 = .ok (.imul, 1) := by decide +kernel
theorem dX11_misfitBy_68 : decode cX11_misfitBy 68 = .ok (.iadd, 1) := by decide +kernel
theorem dX11_misfitBy_69 : decode cX11_misfitBy 69 = .ok (.istore 5, 2) := by decide +kernel
theorem dX11_misfitBy_71 : decode cX11_misfitBy 71 = .ok (.iinc 6 1, 3) := by decide +kernel
theorem dX11_misfitBy_74 : decode cX11_misfitBy 74 = .ok (.goto (-68), 3) := by decide +kernel
theorem dX11_misfitBy_77 : decode cX11_misfitBy 77 = .ok (.iload 5, 2) := by decide +kernel
theorem dX11_misfitBy_79 : decode cX11_misfitBy 79 = .ok (.ireturn, 1) := by decide +kernel
set_option maxRecDepth 20000 in
theorem ggX11_fitBy_X11_misfitBy : GoodIn wsX11_fitBy wsX11_misfitBy := goodIn_r _ [5, 6, 7, 8, 9, 10, 11, 4, 12, 13, 14, 15, 16, 17, 18, 19, 20, 21, 22, 23, 24, 25, 26, 27, 28, 29, 30, 31, 32, 33, 34, 35, 36, 37, 38, 39, 40, 41, 42, 43, 44, 45, 46, 47, 48, 49, 50, 51, 52, 53, 54, 55, 56, 57, 58, 59, 60] (by decide +kernel) (by decide +kernel)
set_option maxRecDepth 20000 in
theorem gX11_fitBy_X11_misfitBy : GoodIn wsX11_fitBy (wsV RX11 246 RX11 yX11_misfitBy wsX11_misfitBy) := goodIn_app (goodIn_of _ (by decide +kernel)) ggX11_fitBy_X11_misfitBy
theorem dX11_fitBy_0 : decode cX11_fitBy 0 = .ok (.iconst 0, 1) := by decide +kernel
theorem dX11_fitBy_1 : decode cX11_fitBy 1 = .ok (.istore_n 3, 1) := by decide +kernel
theorem dX11_fitBy_2 : decode cX11_fitBy 2 = .ok (.aload_n 0, 1) := by decide +kernel
theorem dX11_fitBy_3 : decode cX11_fitBy 3 = .ok (.iload_n 1, 1) := by decide +kernel
theorem dX11_fitBy_4 : decode cX11_fitBy 4 = .ok (.iload_n 2, 1) := by decide +kernel
theorem dX11_fitBy_5 : decode cX11_fitBy 5 = .ok (.iconst 0, 1) := by decide +kernel
theorem dX11_fitBy_6 : decode cX11_fitBy 6 = .ok (.iconst 0, 1) := by decide +kernel
theorem dX11_fitBy_7 : decode cX11_fitBy 7 = .ok (.invokevirtual 246, 3) := by decide +kernel
theorem dX11_fitBy_10 : decode cX11_fitBy 10 = .ok (.istore 4, 2) := by decide +kernel
theorem dX11_fitBy_12 : decode cX11_fitBy 12 = .ok (.iconst 1, 1) := by decide +kernel
theorem dX11_fitBy_13 : decode cX11_fitBy 13 = .ok (.istore 5, 2) := by decide +kernel
theorem dX11_fitBy_15 : decode cX11_fitBy 15 = .ok (.iload 5, 2) := by decide +kernel
theorem dX11_fitBy_17 : decode cX11_fitBy 17 = .ok (.sipush 1024, 3) := by decide +kernel
theorem dX11_fitBy_20 : decode cX11_fitBy 20 = .ok (.if_icmp .ge 57, 3) := by decide +kernel
theorem dX11_fitBy_23 : decode cX11_fitBy 23 = .ok (.aload_n 0, 1) := by decide +kernel
theorem dX11_fitBy_24 : decode cX11_fitBy 24 = .ok (.iload_n 1, 1) := by decide +kernel
theorem dX11_fitBy_25 : decode cX11_fitBy 25 = .ok (.iload_n 2, 1) := by decide +kernel
theorem dX11_fitBy_26 : decode cX11_fitBy 26 = .ok (.iload 5, 2) := by decide +kernel
theorem dX11_fitBy_28 : decode cX11_fitBy 28 = .ok (.bipush 32, 2) := by decide +kernel
theorem dX11_fitBy_30 : decode cX11_fitBy 30 = .ok (.irem, 1) := by decide +kernel
theorem dX11_fitBy_31 : decode cX11_fitBy 31 = .ok (.iload 5, 2) := by decide +kernel
theorem dX11_fitBy_33 : decode cX11_fitBy 33 = .ok (.bipush 32, 2) := by decide +kernel
theorem dX11_fitBy_35 : decode cX11_fitBy 35 = .ok (.idiv, 1) := by decide +kernel
theorem dX11_fitBy_36 : decode cX11_fitBy 36 = .ok (.invokevirtual 246, 3) := by decide +kernel
theorem dX11_fitBy_39 : decode cX11_fitBy 39 = .ok (.istore 6, 2) := by decide +kernel
theorem dX11_fitBy_41 : decode cX11_fitBy 41 = .ok (.iload 6, 2) := by decide +kernel
theorem dX11_fitBy_43 : decode cX11_fitBy 43 = .ok (.iload 4, 2) := by decide +kernel
theorem dX11_fitBy_45 : decode cX11_fitBy 45 = .ok (.if_icmp .ge 8, 3) := by decide +kernel
theorem dX11_fitBy_48 : decode cX11_fitBy 48 = .ok (.iload 5, 2) := by decide +kernel
theorem dX11_fitBy_50 : decode cX11_fitBy 50 = .ok (.goto 4, 3) := by decide +kernel
theorem dX11_fitBy_53 : decode cX11_fitBy 53 = .ok (.iload_n 3, 1) := by decide +kernel
theorem dX11_fitBy_54 : decode cX11_fitBy 54 = .ok (.istore_n 3, 1) := by decide +kernel
theorem dX11_fitBy_55 : decode cX11_fitBy 55 = .ok (.iload 6, 2) := by decide +kernel
theorem dX11_fitBy_57 : decode cX11_fitBy 57 = .ok (.iload 4, 2) := by decide +kernel
theorem dX11_fitBy_59 : decode cX11_fitBy 59 = .ok (.if_icmp .ge 8, 3) := by decide +kernel
theorem dX11_fitBy_62 : decode cX11_fitBy 62 = .ok (.iload 6, 2) := by decide +kernel
theorem dX11_fitBy_64 : decode cX11_fitBy 64 = .ok (.goto 5, 3) := by decide +kernel
theorem dX11_fitBy_67 : decode cX11_fitBy 67 = .ok (.iload 4, 2) := by decide +kernel
theorem dX11_fitBy_69 : decode cX11_fitBy 69 = .ok (.istore 4, 2) := by decide +kernel
theorem dX11_fitBy_71 : decode cX11_fitBy 71 = .ok (.iinc 5 1, 3) := by decide +kernel
theorem dX11_fitBy_74 : decode cX11_fitBy 74 = .ok (.goto (-59), 3) := by decide +kernel
theorem dX11_fitBy_77 : decode cX11_fitBy 77 = .ok (.iload_n 3, 1) := by decide +kernel
theorem dX11_fitBy_78 : decode cX11_fitBy 78 = .ok (.ireturn, 1) := by decide +kernel
set_option maxRecDepth 20000 in
theorem ggX11_leastBy_X11_fitBy : GoodIn wsX11_leastBy wsX11_fitBy := goodIn_r _ [5, 6, 7, 8, 4, 9, 10, 11, 12, 13, 14, 15, 16, 17, 18, 19, 20, 21, 22, 23, 24, 25, 26, 27, 28, 29, 30, 31, 32, 33, 34, 35, 36, 37, 38, 39, 40, 41, 42, 43, 44, 45, 46, 47, 48, 49, 50, 51, 52, 53, 54, 55, 56, 57, 58, 59, 60, 61, 62, 63, 64] (by decide +kernel) (by decide +kernel)
set_option maxRecDepth 20000 in
theorem gX11_leastBy_X11_fitBy : GoodIn wsX11_leastBy (wsV RX11 250 RX11 yX11_fitBy wsX11_fitBy) := goodIn_app (goodIn_of _ (by decide +kernel)) ggX11_leastBy_X11_fitBy
set_option maxRecDepth 20000 in
theorem ggX11_leastBy_X11_misfitBy : GoodIn wsX11_leastBy wsX11_misfitBy := goodIn_r _ [9, 10, 11, 12, 13, 14, 15, 4, 16, 17, 18, 19, 20, 21, 22, 23, 24, 25, 26, 27, 28, 29, 30, 31, 32, 33, 34, 35, 36, 37, 38, 39, 40, 41, 42, 43, 44, 45, 46, 47, 48, 49, 50, 51, 52, 53, 54, 55, 56, 57, 58, 59, 60, 61, 62, 63, 64] (by decide +kernel) (by decide +kernel)
set_option maxRecDepth 20000 in
theorem gX11_leastBy_X11_misfitBy : GoodIn wsX11_leastBy (wsV RX11 246 RX11 yX11_misfitBy wsX11_misfitBy) := goodIn_app (goodIn_of _ (by decide +kernel)) ggX11_leastBy_X11_misfitBy
theorem dX11_leastBy_0 : decode cX11_leastBy 0 = .ok (.aload_n 0, 1) := by decide +kernel
theorem dX11_leastBy_1 : decode cX11_leastBy 1 = .ok (.iload_n 1, 1) := by decide +kernel
theorem dX11_leastBy_2 : decode cX11_leastBy 2 = .ok (.iload_n 2, 1) := by decide +kernel
theorem dX11_leastBy_3 : decode cX11_leastBy 3 = .ok (.invokevirtual 250, 3) := by decide +kernel
theorem dX11_leastBy_6 : decode cX11_leastBy 6 = .ok (.istore_n 3, 1) := by decide +kernel
theorem dX11_leastBy_7 : decode cX11_leastBy 7 = .ok (.aload_n 0, 1) := by decide +kernel
theorem dX11_leastBy_8 : decode cX11_leastBy 8 = .ok (.iload_n 1, 1) := by decide +kernel
theorem dX11_leastBy_9 : decode cX11_leastBy 9 = .ok (.iload_n 2, 1) := by decide +kernel
theorem dX11_leastBy_10 : decode cX11_leastBy 10 = .ok (.iload_n 3, 1) := by decide +kernel
theorem dX11_leastBy_11 : decode cX11_leastBy 11 = .ok (.bipush 32, 2) := by decide +kernel
theorem dX11_leastBy_13 : decode cX11_leastBy 13 = .ok (.irem, 1) := by decide +kernel
theorem dX11_leastBy_14 : decode cX11_leastBy 14 = .ok (.iload_n 3, 1) := by decide +kernel
theorem dX11_leastBy_15 : decode cX11_leastBy 15 = .ok (.bipush 32, 2) := by decide +kernel
theorem dX11_leastBy_17 : decode cX11_leastBy 17 = .ok (.idiv, 1) := by decide +kernel
theorem dX11_leastBy_18 : decode cX11_leastBy 18 = .ok (.invokevirtual 246, 3) := by decide +kernel
theorem dX11_leastBy_21 : decode cX11_leastBy 21 = .ok (.ireturn, 1) := by decide +kernel
theorem dX11_many_0 : decode cX11_many 0 = .ok (.iconst 0, 1) := by decide +kernel
theorem dX11_many_1 : decode cX11_many 1 = .ok (.istore_n 1, 1) := by decide +kernel
theorem dX11_many_2 : decode cX11_many 2 = .ok (.iconst 0, 1) := by decide +kernel
theorem dX11_many_3 : decode cX11_many 3 = .ok (.istore_n 2, 1) := by decide +kernel
theorem dX11_many_4 : decode cX11_many 4 = .ok (.iload_n 2, 1) := by decide +kernel
theorem dX11_many_5 : decode cX11_many 5 = .ok (.bipush 7, 2) := by decide +kernel
theorem dX11_many_7 : decode cX11_many 7 = .ok (.if_icmp .ge 17, 3) := by decide +kernel
theorem dX11_many_10 : decode cX11_many 10 = .ok (.iload_n 1, 1) := by decide +kernel
theorem dX11_many_11 : decode cX11_many 11 = .ok (.iload_n 0, 1) := by decide +kernel
theorem dX11_many_12 : decode cX11_many 12 = .ok (.iload_n 2, 1) := by decide +kernel
theorem dX11_many_13 : decode cX11_many 13 = .ok (.ishr, 1) := by decide +kernel
theorem dX11_many_14 : decode cX11_many 14 = .ok (.iconst 1, 1) := by decide +kernel
theorem dX11_many_15 : decode cX11_many 15 = .ok (.iand, 1) := by decide +kernel
theorem dX11_many_16 : decode cX11_many 16 = .ok (.iadd, 1) := by decide +kernel
theorem dX11_many_17 : decode cX11_many 17 = .ok (.istore_n 1, 1) := by decide +kernel
theorem dX11_many_18 : decode cX11_many 18 = .ok (.iinc 2 1, 3) := by decide +kernel
theorem dX11_many_21 : decode cX11_many 21 = .ok (.goto (-17), 3) := by decide +kernel
theorem dX11_many_24 : decode cX11_many 24 = .ok (.iload_n 1, 1) := by decide +kernel
theorem dX11_many_25 : decode cX11_many 25 = .ok (.ireturn, 1) := by decide +kernel
set_option maxRecDepth 20000 in
theorem ggX11_misfit_X11_isNode : GoodIn wsX11_misfit wsX11_isNode := goodIn_r _ [8, 9, 10, 11, 7, 12, 34, 35, 36, 37, 38, 39, 40, 41, 42, 43, 44, 45, 46, 47, 48, 49, 50, 51, 52, 53, 54, 55, 56, 57, 58, 59, 60, 61, 62, 63, 64, 65, 66, 67, 68, 69, 70, 71, 72, 73, 74, 75] (by decide +kernel) (by decide +kernel)
set_option maxRecDepth 20000 in
theorem gX11_misfit_X11_isNode : GoodIn wsX11_misfit (wsV RX11 159 RX11 yX11_isNode wsX11_isNode) := goodIn_app (goodIn_of _ (by decide +kernel)) ggX11_misfit_X11_isNode
set_option maxRecDepth 20000 in
theorem ggX11_misfit_X11_within : GoodIn wsX11_misfit wsX11_within := goodIn_r _ [12] (by decide +kernel) (by decide +kernel)
set_option maxRecDepth 20000 in
theorem gX11_misfit_X11_within : GoodIn wsX11_misfit (va_wsS RX11 77 yX11_within wsX11_within) := goodIn_app (goodIn_of _ (by decide +kernel)) ggX11_misfit_X11_within
set_option maxRecDepth 20000 in
theorem ggX11_misfit_X11_rangedBy : GoodIn wsX11_misfit wsX11_rangedBy := goodIn_r _ [16, 9, 1, 17, 18, 19, 7, 20, 34, 35, 36, 37, 38, 39, 40, 41, 42, 43, 44, 45, 46, 47, 48, 49, 50, 51, 52, 53, 54, 55, 56, 57, 58, 59, 60, 61, 62, 63, 64, 65, 66, 67, 68, 69, 70, 71, 72, 73, 74, 75] (by decide +kernel) (by decide +kernel)
set_option maxRecDepth 20000 in
theorem gX11_misfit_X11_rangedBy : GoodIn wsX11_misfit (wsV RX11 253 RX11 yX11_rangedBy wsX11_rangedBy) := goodIn_app (goodIn_of _ (by decide +kernel)) ggX11_misfit_X11_rangedBy
set_option maxRecDepth 20000 in
theorem ggX11_misfit_X11_misfitBy : GoodIn wsX11_misfit wsX11_misfitBy := goodIn_r _ [24, 9, 25, 26, 27, 18, 19, 7, 20, 28, 29, 30, 31, 32, 33, 34, 35, 36, 37, 38, 39, 40, 41, 42, 43, 44, 45, 46, 47, 48, 49, 50, 51, 52, 53, 54, 55, 56, 57, 58, 59, 60, 61, 62, 63, 64, 65, 66, 67, 68, 69, 70, 71, 72, 73, 74, 75] (by decide +kernel) (by decide +kernel)
set_option maxRecDepth 20000 in
theorem gX11_misfit_X11_misfitBy : GoodIn wsX11_misfit (wsV RX11 246 RX11 yX11_misfitBy wsX11_misfitBy) := goodIn_app (goodIn_of _ (by decide +kernel)) ggX11_misfit_X11_misfitBy
theorem dX11_misfit_0 : decode cX11_misfit 0 = .ok (.aload_n 0, 1) := by decide +kernel
theorem dX11_misfit_1 : decode cX11_misfit 1 = .ok (.iload_n 1, 1) := by decide +kernel
theorem dX11_misfit_2 : decode cX11_misfit 2 = .ok (.invokevirtual 159, 3) := by decide +kernel
theorem dX11_misfit_5 : decode cX11_misfit 5 = .ok (.ifCond .eq 12, 3) := by decide +kernel
theorem dX11_misfit_8 : decode cX11_misfit 8 = .ok (.aload_n 0, 1) := by decide +kernel
theorem dX11_misfit_9 : decode cX11_misfit 9 = .ok (.getfield 13, 3) := by decide +kernel
theorem dX11_misfit_12 : decode cX11_misfit 12 = .ok (.iload_n 1, 1) := by decide +kernel
theorem dX11_misfit_13 : decode cX11_misfit 13 = .ok (.baload, 1) := by decide +kernel
theorem dX11_misfit_14 : decode cX11_misfit 14 = .ok (.ifCond .ne 6, 3) := by decide +kernel
theorem dX11_misfit_17 : decode cX11_misfit 17 = .ok (.ldc 178, 2) := by decide +kernel
theorem dX11_misfit_19 : decode cX11_misfit 19 = .ok (.ireturn, 1) := by decide +kernel
theorem dX11_misfit_20 : decode cX11_misfit 20 = .ok (.iload_n 2, 1) := by decide +kernel
theorem dX11_misfit_21 : decode cX11_misfit 21 = .ok (.iconst 0, 1) := by decide +kernel
theorem dX11_misfit_22 : decode cX11_misfit 22 = .ok (.bipush 31, 2) := by decide +kernel
theorem dX11_misfit_24 : decode cX11_misfit 24 = .ok (.invokestatic 77, 3) := by decide +kernel
theorem dX11_misfit_27 : decode cX11_misfit 27 = .ok (.ifCond .eq 28, 3) := by decide +kernel
theorem dX11_misfit_30 : decode cX11_misfit 30 = .ok (.iload_n 3, 1) := by decide +kernel
theorem dX11_misfit_31 : decode cX11_misfit 31 = .ok (.iconst 0, 1) := by decide +kernel
theorem dX11_misfit_32 : decode cX11_misfit 32 = .ok (.bipush 31, 2) := by decide +kernel
theorem dX11_misfit_34 : decode cX11_misfit 34 = .ok (.invokestatic 77, 3) := by decide +kernel
theorem dX11_misfit_37 : decode cX11_misfit 37 = .ok (.ifCond .eq 18, 3) := by decide +kernel
theorem dX11_misfit_40 : decode cX11_misfit 40 = .ok (.aload_n 0, 1) := by decide +kernel
theorem dX11_misfit_41 : decode cX11_misfit 41 = .ok (.iload_n 1, 1) := by decide +kernel
theorem dX11_misfit_42 : decode cX11_misfit 42 = .ok (.aload_n 0, 1) := by decide +kernel
theorem dX11_misfit_43 : decode cX11_misfit 43 = .ok (.iload_n 1, 1) := by decide +kernel
theorem dX11_misfit_44 : decode cX11_misfit 44 = .ok (.invokevirtual 253, 3) := by decide +kernel
theorem dX11_misfit_47 : decode cX11_misfit 47 = .ok (.iload_n 2, 1) := by decide +kernel
theorem dX11_misfit_48 : decode cX11_misfit 48 = .ok (.iload_n 3, 1) := by decide +kernel
theorem dX11_misfit_49 : decode cX11_misfit 49 = .ok (.invokevirtual 246, 3) := by decide +kernel
theorem dX11_misfit_52 : decode cX11_misfit 52 = .ok (.goto 5, 3) := by decide +kernel
theorem dX11_misfit_55 : decode cX11_misfit 55 = .ok (.ldc 81, 2) := by decide +kernel
theorem dX11_misfit_57 : decode cX11_misfit 57 = .ok (.ireturn, 1) := by decide +kernel
set_option maxRecDepth 20000 in
theorem ggX11_worstOf_X11_leastBy : GoodIn wsX11_worstOf wsX11_leastBy := goodIn_r _ [6, 7, 8, 9, 5, 10, 11, 12, 13, 14, 1, 15, 16, 17, 18, 19, 20, 21, 22, 23, 24, 25, 26, 27, 28, 29, 30, 31, 32, 33, 34, 35, 36, 37, 38, 39, 40, 41, 42, 43, 44, 45, 46, 47, 48, 49, 50, 51, 52, 53, 54, 55, 56, 57, 58, 59, 60, 61, 62, 63, 64, 65, 66, 67, 68] (by decide +kernel) (by decide +kernel)
set_option maxRecDepth 20000 in
theorem gX11_worstOf_X11_leastBy : GoodIn wsX11_worstOf (wsV RX11 256 RX11 yX11_leastBy wsX11_leastBy) := goodIn_app (goodIn_of _ (by decide +kernel)) ggX11_worstOf_X11_leastBy
theorem dX11_worstOf_0 : decode cX11_worstOf 0 = .ok (.iconst (-1), 1) := by decide +kernel
theorem dX11_worstOf_1 : decode cX11_worstOf 1 = .ok (.istore_n 3, 1) := by decide +kernel
theorem dX11_worstOf_2 : decode cX11_worstOf 2 = .ok (.iconst 0, 1) := by decide +kernel
theorem dX11_worstOf_3 : decode cX11_worstOf 3 = .ok (.istore 4, 2) := by decide +kernel
theorem dX11_worstOf_5 : decode cX11_worstOf 5 = .ok (.iconst 0, 1) := by decide +kernel
theorem dX11_worstOf_6 : decode cX11_worstOf 6 = .ok (.istore 5, 2) := by decide +kernel
theorem dX11_worstOf_8 : decode cX11_worstOf 8 = .ok (.iload 5, 2) := by decide +kernel
theorem dX11_worstOf_10 : decode cX11_worstOf 10 = .ok (.aload_n 0, 1) := by decide +kernel
theorem dX11_worstOf_11 : decode cX11_worstOf 11 = .ok (.getfield 129, 3) := by decide +kernel
theorem dX11_worstOf_14 : decode cX11_worstOf 14 = .ok (.if_icmp .ge 79, 3) := by decide +kernel
theorem dX11_worstOf_17 : decode cX11_worstOf 17 = .ok (.iload_n 2, 1) := by decide +kernel
theorem dX11_worstOf_18 : decode cX11_worstOf 18 = .ok (.iload 5, 2) := by decide +kernel
theorem dX11_worstOf_20 : decode cX11_worstOf 20 = .ok (.ishr, 1) := by decide +kernel
theorem dX11_worstOf_21 : decode cX11_worstOf 21 = .ok (.iconst 1, 1) := by decide +kernel
theorem dX11_worstOf_22 : decode cX11_worstOf 22 = .ok (.iand, 1) := by decide +kernel
theorem dX11_worstOf_23 : decode cX11_worstOf 23 = .ok (.iconst 1, 1) := by decide +kernel
theorem dX11_worstOf_24 : decode cX11_worstOf 24 = .ok (.if_icmp .ne 63, 3) := by decide +kernel
theorem dX11_worstOf_27 : decode cX11_worstOf 27 = .ok (.aload_n 0, 1) := by decide +kernel
theorem dX11_worstOf_28 : decode cX11_worstOf 28 = .ok (.iload_n 1, 1) := by decide +kernel
theorem dX11_worstOf_29 : decode cX11_worstOf 29 = .ok (.iload_n 2, 1) := by decide +kernel
theorem dX11_worstOf_30 : decode cX11_worstOf 30 = .ok (.iconst 1, 1) := by decide +kernel
theorem dX11_worstOf_31 : decode cX11_worstOf 31 = .ok (.iload 5, 2) := by decide +kernel
theorem dX11_worstOf_33 : decode cX11_worstOf 33 = .ok (.ishl, 1) := by decide +kernel
theorem dX11_worstOf_34 : decode cX11_worstOf 34 = .ok (.iconst (-1), 1) := by decide +kernel
theorem dX11_worstOf_35 : decode cX11_worstOf 35 = .ok (.ixor, 1) := by decide +kernel
theorem dX11_worstOf_36 : decode cX11_worstOf 36 = .ok (.iand, 1) := by decide +kernel
theorem dX11_worstOf_37 : decode cX11_worstOf 37 = .ok (.invokevirtual 256, 3) := by decide +kernel
theorem dX11_worstOf_40 : decode cX11_worstOf 40 = .ok (.istore 6, 2) := by decide +kernel
theorem dX11_worstOf_42 : decode cX11_worstOf 42 = .ok (.iload_n 3, 1) := by decide +kernel
theorem dX11_worstOf_43 : decode cX11_worstOf 43 = .ok (.iconst (-1), 1) := by decide +kernel
theorem dX11_worstOf_44 : decode cX11_worstOf 44 = .ok (.if_icmp .eq 10, 3) := by decide +kernel
theorem dX11_worstOf_47 : decode cX11_worstOf 47 = .ok (.iload 6, 2) := by decide +kernel
theorem dX11_worstOf_49 : decode cX11_worstOf 49 = .ok (.iload 4, 2) := by decide +kernel
theorem dX11_worstOf_51 : decode cX11_worstOf 51 = .ok (.if_icmp .ge 7, 3) := by decide +kernel
theorem dX11_worstOf_54 : decode cX11_worstOf 54 = .ok (.iconst 1, 1) := by decide +kernel
theorem dX11_worstOf_55 : decode cX11_worstOf 55 = .ok (.goto 4, 3) := by decide +kernel
theorem dX11_worstOf_58 : decode cX11_worstOf 58 = .ok (.iconst 0, 1) := by decide +kernel
theorem dX11_worstOf_59 : decode cX11_worstOf 59 = .ok (.istore 7, 2) := by decide +kernel
theorem dX11_worstOf_61 : decode cX11_worstOf 61 = .ok (.iload 7, 2) := by decide +kernel
theorem dX11_worstOf_63 : decode cX11_worstOf 63 = .ok (.ifCond .eq 8, 3) := by decide +kernel
theorem dX11_worstOf_66 : decode cX11_worstOf 66 = .ok (.iload 5, 2) := by decide +kernel
theorem dX11_worstOf_68 : decode cX11_worstOf 68 = .ok (.goto 4, 3) := by decide +kernel
theorem dX11_worstOf_71 : decode cX11_worstOf 71 = .ok (.iload_n 3, 1) := by decide +kernel
theorem dX11_worstOf_72 : decode cX11_worstOf 72 = .ok (.istore_n 3, 1) := by decide +kernel
theorem dX11_worstOf_73 : decode cX11_worstOf 73 = .ok (.iload 7, 2) := by decide +kernel
theorem dX11_worstOf_75 : decode cX11_worstOf 75 = .ok (.ifCond .eq 8, 3) := by decide +kernel
theorem dX11_worstOf_78 : decode cX11_worstOf 78 = .ok (.iload 6, 2) := by decide +kernel
theorem dX11_worstOf_80 : decode cX11_worstOf 80 = .ok (.goto 5, 3) := by decide +kernel
theorem dX11_worstOf_83 : decode cX11_worstOf 83 = .ok (.iload 4, 2) := by decide +kernel
theorem dX11_worstOf_85 : decode cX11_worstOf 85 = .ok (.istore 4, 2) := by decide +kernel
theorem dX11_worstOf_87 : decode cX11_worstOf 87 = .ok (.iinc 5 1, 3) := by decide +kernel
theorem dX11_worstOf_90 : decode cX11_worstOf 90 = .ok (.goto (-82), 3) := by decide +kernel
theorem dX11_worstOf_93 : decode cX11_worstOf 93 = .ok (.iload_n 3, 1) := by decide +kernel
theorem dX11_worstOf_94 : decode cX11_worstOf 94 = .ok (.ireturn, 1) := by decide +kernel
set_option maxRecDepth 20000 in
theorem ggX11_leftOf_X11_rangedBy : GoodIn wsX11_leftOf wsX11_rangedBy := goodIn_r _ [6, 7, 8, 9, 10, 11, 5, 12, 41, 42, 43, 44, 45, 46, 47, 48, 49, 50, 51, 52, 53, 54, 55, 56, 57, 58, 59, 60, 61, 62, 63, 64, 65, 66, 67, 68, 69, 70, 71, 72, 73, 74, 75, 76, 77, 78, 79, 80, 81, 82] (by decide +kernel) (by decide +kernel)
set_option maxRecDepth 20000 in
theorem gX11_leftOf_X11_rangedBy : GoodIn wsX11_leftOf (wsV RX11 253 RX11 yX11_rangedBy wsX11_rangedBy) := goodIn_app (goodIn_of _ (by decide +kernel)) ggX11_leftOf_X11_rangedBy
set_option maxRecDepth 20000 in
theorem ggX11_leftOf_X11_many : GoodIn wsX11_leftOf wsX11_many := goodIn_r _ [15] (by decide +kernel) (by decide +kernel)
set_option maxRecDepth 20000 in
theorem gX11_leftOf_X11_many : GoodIn wsX11_leftOf (va_wsS RX11 259 yX11_many wsX11_many) := goodIn_app (goodIn_of _ (by decide +kernel)) ggX11_leftOf_X11_many
set_option maxRecDepth 20000 in
theorem ggX11_leftOf_X11_leastBy : GoodIn wsX11_leftOf wsX11_leastBy := goodIn_r _ [19, 20, 21, 22, 5, 23, 24, 25, 26, 27, 7, 28, 29, 30, 10, 11, 12, 31, 32, 33, 34, 35, 36, 41, 42, 43, 44, 45, 46, 47, 48, 49, 50, 51, 52, 53, 54, 55, 56, 57, 58, 59, 60, 61, 62, 63, 64, 65, 66, 67, 68, 69, 70, 71, 72, 73, 74, 75, 76, 77, 78, 79, 80, 81, 82] (by decide +kernel) (by decide +kernel)
set_option maxRecDepth 20000 in
theorem gX11_leftOf_X11_leastBy : GoodIn wsX11_leftOf (wsV RX11 256 RX11 yX11_leastBy wsX11_leastBy) := goodIn_app (goodIn_of _ (by decide +kernel)) ggX11_leftOf_X11_leastBy
set_option maxRecDepth 20000 in
theorem ggX11_leftOf_X11_worstOf : GoodIn wsX11_leftOf wsX11_worstOf := goodIn_r _ [40, 7, 16, 17, 18, 5, 19, 20, 21, 22, 23, 24, 25, 26, 27, 28, 29, 30, 10, 11, 12, 31, 32, 33, 34, 35, 36, 41, 42, 43, 44, 45, 46, 47, 48, 49, 50, 51, 52, 53, 54, 55, 56, 57, 58, 59, 60, 61, 62, 63, 64, 65, 66, 67, 68, 69, 70, 71, 72, 73, 74, 75, 76, 77, 78, 79, 80, 81, 82] (by decide +kernel) (by decide +kernel)
set_option maxRecDepth 20000 in
theorem gX11_leftOf_X11_worstOf : GoodIn wsX11_leftOf (wsV RX11 262 RX11 yX11_worstOf wsX11_worstOf) := goodIn_app (goodIn_of _ (by decide +kernel)) ggX11_leftOf_X11_worstOf
theorem dX11_leftOf_0 : decode cX11_leftOf 0 = .ok (.aload_n 0, 1) := by decide +kernel
theorem dX11_leftOf_1 : decode cX11_leftOf 1 = .ok (.iload_n 1, 1) := by decide +kernel
theorem dX11_leftOf_2 : decode cX11_leftOf 2 = .ok (.invokevirtual 253, 3) := by decide +kernel
theorem dX11_leftOf_5 : decode cX11_leftOf 5 = .ok (.istore_n 2, 1) := by decide +kernel
theorem dX11_leftOf_6 : decode cX11_leftOf 6 = .ok (.iload_n 2, 1) := by decide +kernel
theorem dX11_leftOf_7 : decode cX11_leftOf 7 = .ok (.invokestatic 259, 3) := by decide +kernel
theorem dX11_leftOf_10 : decode cX11_leftOf 10 = .ok (.iconst 3, 1) := by decide +kernel
theorem dX11_leftOf_11 : decode cX11_leftOf 11 = .ok (.if_icmp .le 32, 3) := by decide +kernel
theorem dX11_leftOf_14 : decode cX11_leftOf 14 = .ok (.aload_n 0, 1) := by decide +kernel
theorem dX11_leftOf_15 : decode cX11_leftOf 15 = .ok (.iload_n 1, 1) := by decide +kernel
theorem dX11_leftOf_16 : decode cX11_leftOf 16 = .ok (.iload_n 2, 1) := by decide +kernel
theorem dX11_leftOf_17 : decode cX11_leftOf 17 = .ok (.invokevirtual 256, 3) := by decide +kernel
theorem dX11_leftOf_20 : decode cX11_leftOf 20 = .ok (.aload_n 0, 1) := by decide +kernel
theorem dX11_leftOf_21 : decode cX11_leftOf 21 = .ok (.getfield 146, 3) := by decide +kernel
theorem dX11_leftOf_24 : decode cX11_leftOf 24 = .ok (.if_icmp .le 19, 3) := by decide +kernel
theorem dX11_leftOf_27 : decode cX11_leftOf 27 = .ok (.iload_n 2, 1) := by decide +kernel
theorem dX11_leftOf_28 : decode cX11_leftOf 28 = .ok (.iconst 1, 1) := by decide +kernel
theorem dX11_leftOf_29 : decode cX11_leftOf 29 = .ok (.aload_n 0, 1) := by decide +kernel
theorem dX11_leftOf_30 : decode cX11_leftOf 30 = .ok (.iload_n 1, 1) := by decide +kernel
theorem dX11_leftOf_31 : decode cX11_leftOf 31 = .ok (.iload_n 2, 1) := by decide +kernel
theorem dX11_leftOf_32 : decode cX11_leftOf 32 = .ok (.invokevirtual 262, 3) := by decide +kernel
theorem dX11_leftOf_35 : decode cX11_leftOf 35 = .ok (.ishl, 1) := by decide +kernel
theorem dX11_leftOf_36 : decode cX11_leftOf 36 = .ok (.iconst (-1), 1) := by decide +kernel
theorem dX11_leftOf_37 : decode cX11_leftOf 37 = .ok (.ixor, 1) := by decide +kernel
theorem dX11_leftOf_38 : decode cX11_leftOf 38 = .ok (.iand, 1) := by decide +kernel
theorem dX11_leftOf_39 : decode cX11_leftOf 39 = .ok (.istore_n 2, 1) := by decide +kernel
theorem dX11_leftOf_40 : decode cX11_leftOf 40 = .ok (.goto (-34), 3) := by decide +kernel
theorem dX11_leftOf_43 : decode cX11_leftOf 43 = .ok (.iload_n 2, 1) := by decide +kernel
theorem dX11_leftOf_44 : decode cX11_leftOf 44 = .ok (.ireturn, 1) := by decide +kernel
set_option maxRecDepth 20000 in
theorem ggX11_isPlaced_X11_rangedBy : GoodIn wsX11_isPlaced wsX11_rangedBy := goodIn_r _ [5, 6, 7, 8, 9, 10, 4, 11, 15, 16, 17, 18, 19, 20, 21, 22, 23, 24, 25, 26, 27, 28, 29, 30, 31, 32, 33, 34, 35, 36, 37, 38, 39, 40, 41, 42, 43, 44, 45, 46, 47, 48, 49, 50, 51, 52, 53, 54, 55, 56] (by decide +kernel) (by decide +kernel)
set_option maxRecDepth 20000 in
theorem gX11_isPlaced_X11_rangedBy : GoodIn wsX11_isPlaced (wsV RX11 253 RX11 yX11_rangedBy wsX11_rangedBy) := goodIn_app (goodIn_of _ (by decide +kernel)) ggX11_isPlaced_X11_rangedBy
set_option maxRecDepth 20000 in
theorem ggX11_isPlaced_X11_many : GoodIn wsX11_isPlaced wsX11_many := goodIn_r _ [14] (by decide +kernel) (by decide +kernel)
set_option maxRecDepth 20000 in
theorem gX11_isPlaced_X11_many : GoodIn wsX11_isPlaced (va_wsS RX11 259 yX11_many wsX11_many) := goodIn_app (goodIn_of _ (by decide +kernel)) ggX11_isPlaced_X11_many
theorem dX11_isPlaced_0 : decode cX11_isPlaced 0 = .ok (.aload_n 0, 1) := by decide +kernel
theorem dX11_isPlaced_1 : decode cX11_isPlaced 1 = .ok (.iload_n 1, 1) := by decide +kernel
theorem dX11_isPlaced_2 : decode cX11_isPlaced 2 = .ok (.invokevirtual 253, 3) := by decide +kernel
theorem dX11_isPlaced_5 : decode cX11_isPlaced 5 = .ok (.invokestatic 259, 3) := by decide +kernel
theorem dX11_isPlaced_8 : decode cX11_isPlaced 8 = .ok (.iconst 2, 1) := by decide +kernel
theorem dX11_isPlaced_9 : decode cX11_isPlaced 9 = .ok (.if_icmp .le 7, 3) := by decide +kernel
theorem dX11_isPlaced_12 : decode cX11_isPlaced 12 = .ok (.iconst 1, 1) := by decide +kernel
theorem dX11_isPlaced_13 : decode cX11_isPlaced 13 = .ok (.goto 4, 3) := by decide +kernel
theorem dX11_isPlaced_16 : decode cX11_isPlaced 16 = .ok (.iconst 0, 1) := by decide +kernel
theorem dX11_isPlaced_17 : decode cX11_isPlaced 17 = .ok (.ireturn, 1) := by decide +kernel
set_option maxRecDepth 20000 in
theorem ggX11_placedNow_X11_leftOf : GoodIn wsX11_placedNow wsX11_leftOf := goodIn_r _ [5, 6, 7, 8, 9, 4, 10, 11, 12, 13, 14, 15, 16, 17, 18, 19, 20, 21, 22, 23, 24, 25, 26, 27, 28, 29, 30, 31, 32, 33, 34, 35, 36, 37, 38, 39, 40, 41, 42, 43, 44, 45, 46, 47, 48, 49, 50, 51, 52, 53, 54, 55, 56, 57, 58, 59, 60, 61, 62, 63, 64, 65, 66, 67, 68, 69, 70, 71, 72, 73, 74, 75, 76, 77, 78, 79, 80, 81, 82, 83, 84, 85, 86] (by decide +kernel) (by decide +kernel)
set_option maxRecDepth 20000 in
theorem gX11_placedNow_X11_leftOf : GoodIn wsX11_placedNow (wsV RX11 265 RX11 yX11_leftOf wsX11_leftOf) := goodIn_app (goodIn_of _ (by decide +kernel)) ggX11_placedNow_X11_leftOf
set_option maxRecDepth 20000 in
theorem ggX11_placedNow_X11_fitBy : GoodIn wsX11_placedNow wsX11_fitBy := goodIn_r _ [27, 28, 29, 30, 4, 31, 11, 32, 33, 34, 14, 15, 16, 35, 36, 37, 38, 39, 40, 45, 46, 47, 48, 49, 50, 51, 52, 53, 54, 55, 56, 57, 58, 59, 60, 61, 62, 63, 64, 65, 66, 67, 68, 69, 70, 71, 72, 73, 74, 75, 76, 77, 78, 79, 80, 81, 82, 83, 84, 85, 86] (by decide +kernel) (by decide +kernel)
set_option maxRecDepth 20000 in
theorem gX11_placedNow_X11_fitBy : GoodIn wsX11_placedNow (wsV RX11 250 RX11 yX11_fitBy wsX11_fitBy) := goodIn_app (goodIn_of _ (by decide +kernel)) ggX11_placedNow_X11_fitBy
set_option maxRecDepth 20000 in
theorem ggX11_placedNow_X11_misfitBy : GoodIn wsX11_placedNow wsX11_misfitBy := goodIn_r _ [31, 11, 32, 33, 34, 14, 15, 4, 16, 35, 36, 37, 38, 39, 40, 45, 46, 47, 48, 49, 50, 51, 52, 53, 54, 55, 56, 57, 58, 59, 60, 61, 62, 63, 64, 65, 66, 67, 68, 69, 70, 71, 72, 73, 74, 75, 76, 77, 78, 79, 80, 81, 82, 83, 84, 85, 86] (by decide +kernel) (by decide +kernel)
set_option maxRecDepth 20000 in
theorem gX11_placedNow_X11_misfitBy : GoodIn wsX11_placedNow (wsV RX11 246 RX11 yX11_misfitBy wsX11_misfitBy) := goodIn_app (goodIn_of _ (by decide +kernel)) ggX11_placedNow_X11_misfitBy
set_option maxRecDepth 20000 in
theorem ggX11_placedNow_X11_rangedBy : GoodIn wsX11_placedNow wsX11_rangedBy := goodIn_r _ [10, 11, 12, 13, 14, 15, 4, 16, 45, 46, 47, 48, 49, 50, 51, 52, 53, 54, 55, 56, 57, 58, 59, 60, 61, 62, 63, 64, 65, 66, 67, 68, 69, 70, 71, 72, 73, 74, 75, 76, 77, 78, 79, 80, 81, 82, 83, 84, 85, 86] (by decide +kernel) (by decide +kernel)
set_option maxRecDepth 20000 in
theorem gX11_placedNow_X11_rangedBy : GoodIn wsX11_placedNow (wsV RX11 253 RX11 yX11_rangedBy wsX11_rangedBy) := goodIn_app (goodIn_of _ (by decide +kernel)) ggX11_placedNow_X11_rangedBy
theorem dX11_placedNow_0 : decode cX11_placedNow 0 = .ok (.aload_n 0, 1) := by decide +kernel
theorem dX11_placedNow_1 : decode cX11_placedNow 1 = .ok (.iload_n 1, 1) := by decide +kernel
theorem dX11_placedNow_2 : decode cX11_placedNow 2 = .ok (.invokevirtual 265, 3) := by decide +kernel
theorem dX11_placedNow_5 : decode cX11_placedNow 5 = .ok (.istore_n 3, 1) := by decide +kernel
theorem dX11_placedNow_6 : decode cX11_placedNow 6 = .ok (.aload_n 0, 1) := by decide +kernel
theorem dX11_placedNow_7 : decode cX11_placedNow 7 = .ok (.iload_n 1, 1) := by decide +kernel
theorem dX11_placedNow_8 : decode cX11_placedNow 8 = .ok (.iload_n 3, 1) := by decide +kernel
theorem dX11_placedNow_9 : decode cX11_placedNow 9 = .ok (.invokevirtual 250, 3) := by decide +kernel
theorem dX11_placedNow_12 : decode cX11_placedNow 12 = .ok (.istore 4, 2) := by decide +kernel
theorem dX11_placedNow_14 : decode cX11_placedNow 14 = .ok (.iload_n 2, 1) := by decide +kernel
theorem dX11_placedNow_15 : decode cX11_placedNow 15 = .ok (.tableswitch 60 0 3 #[29, 35, 41, 58], 29) := by decide +kernel
theorem dX11_placedNow_44 : decode cX11_placedNow 44 = .ok (.iload 4, 2) := by decide +kernel
theorem dX11_placedNow_46 : decode cX11_placedNow 46 = .ok (.bipush 32, 2) := by decide +kernel
theorem dX11_placedNow_48 : decode cX11_placedNow 48 = .ok (.irem, 1) := by decide +kernel
theorem dX11_placedNow_49 : decode cX11_placedNow 49 = .ok (.ireturn, 1) := by decide +kernel
theorem dX11_placedNow_50 : decode cX11_placedNow 50 = .ok (.iload 4, 2) := by decide +kernel
theorem dX11_placedNow_52 : decode cX11_placedNow 52 = .ok (.bipush 32, 2) := by decide +kernel
theorem dX11_placedNow_54 : decode cX11_placedNow 54 = .ok (.idiv, 1) := by decide +kernel
theorem dX11_placedNow_55 : decode cX11_placedNow 55 = .ok (.ireturn, 1) := by decide +kernel
theorem dX11_placedNow_56 : decode cX11_placedNow 56 = .ok (.aload_n 0, 1) := by decide +kernel
theorem dX11_placedNow_57 : decode cX11_placedNow 57 = .ok (.iload_n 1, 1) := by decide +kernel
theorem dX11_placedNow_58 : decode cX11_placedNow 58 = .ok (.iload_n 3, 1) := by decide +kernel
theorem dX11_placedNow_59 : decode cX11_placedNow 59 = .ok (.iload 4, 2) := by decide +kernel
theorem dX11_placedNow_61 : decode cX11_placedNow 61 = .ok (.bipush 32, 2) := by decide +kernel
theorem dX11_placedNow_63 : decode cX11_placedNow 63 = .ok (.irem, 1) := by decide +kernel
theorem dX11_placedNow_64 : decode cX11_placedNow 64 = .ok (.iload 4, 2) := by decide +kernel
theorem dX11_placedNow_66 : decode cX11_placedNow 66 = .ok (.bipush 32, 2) := by decide +kernel
theorem dX11_placedNow_68 : decode cX11_placedNow 68 = .ok (.idiv, 1) := by decide +kernel
theorem dX11_placedNow_69 : decode cX11_placedNow 69 = .ok (.invokevirtual 246, 3) := by decide +kernel
theorem dX11_placedNow_72 : decode cX11_placedNow 72 = .ok (.ireturn, 1) := by decide +kernel
theorem dX11_placedNow_73 : decode cX11_placedNow 73 = .ok (.iload_n 3, 1) := by decide +kernel
theorem dX11_placedNow_74 : decode cX11_placedNow 74 = .ok (.ireturn, 1) := by decide +kernel
theorem dX11_placedNow_75 : decode cX11_placedNow 75 = .ok (.aload_n 0, 1) := by decide +kernel
theorem dX11_placedNow_76 : decode cX11_placedNow 76 = .ok (.iload_n 1, 1) := by decide +kernel
theorem dX11_placedNow_77 : decode cX11_placedNow 77 = .ok (.invokevirtual 253, 3) := by decide +kernel
theorem dX11_placedNow_80 : decode cX11_placedNow 80 = .ok (.iload_n 3, 1) := by decide +kernel
theorem dX11_placedNow_81 : decode cX11_placedNow 81 = .ok (.iconst (-1), 1) := by decide +kernel
theorem dX11_placedNow_82 : decode cX11_placedNow 82 = .ok (.ixor, 1) := by decide +kernel
theorem dX11_placedNow_83 : decode cX11_placedNow 83 = .ok (.iand, 1) := by decide +kernel
theorem dX11_placedNow_84 : decode cX11_placedNow 84 = .ok (.ireturn, 1) := by decide +kernel
set_option maxRecDepth 20000 in
theorem ggX11_placed_X11_isNode : GoodIn wsX11_placed wsX11_isNode := goodIn_r _ [9, 10, 11, 12, 8, 13, 63, 64, 65, 66, 67, 68, 69, 70, 71, 72, 73, 74, 75, 76, 77, 78, 79, 80, 81, 82, 83, 84, 85, 86, 87, 88, 89, 90, 91, 92, 93, 94, 95, 96, 97, 98, 99, 100, 101, 102, 103, 104] (by decide +kernel) (by decide +kernel)
set_option maxRecDepth 20000 in
theorem gX11_placed_X11_isNode : GoodIn wsX11_placed (wsV RX11 159 RX11 yX11_isNode wsX11_isNode) := goodIn_app (goodIn_of _ (by decide +kernel)) ggX11_placed_X11_isNode
set_option maxRecDepth 20000 in
theorem ggX11_placed_X11_within : GoodIn wsX11_placed wsX11_within := goodIn_r _ [13] (by decide +kernel) (by decide +kernel)
set_option maxRecDepth 20000 in
theorem gX11_placed_X11_within : GoodIn wsX11_placed (va_wsS RX11 77 yX11_within wsX11_within) := goodIn_app (goodIn_of _ (by decide +kernel)) ggX11_placed_X11_within
set_option maxRecDepth 20000 in
theorem ggX11_placed_X11_isPlaced : GoodIn wsX11_placed wsX11_isPlaced := goodIn_r _ [17, 18, 19, 20, 8, 21, 10, 1, 22, 23, 24, 25, 26, 27, 28, 63, 64, 65, 66, 67, 68, 69, 70, 71, 72, 73, 74, 75, 76, 77, 78, 79, 80, 81, 82, 83, 84, 85, 86, 87, 88, 89, 90, 91, 92, 93, 94, 95, 96, 97, 98, 99, 100, 101, 102, 103, 104] (by decide +kernel) (by decide +kernel)
set_option maxRecDepth 20000 in
theorem gX11_placed_X11_isPlaced : GoodIn wsX11_placed (wsV RX11 268 RX11 yX11_isPlaced wsX11_isPlaced) := goodIn_app (goodIn_of _ (by decide +kernel)) ggX11_placed_X11_isPlaced
set_option maxRecDepth 20000 in
theorem ggX11_placed_X11_placedNow : GoodIn wsX11_placed wsX11_placedNow := goodIn_r _ [32, 33, 34, 35, 8, 36, 37, 18, 19, 20, 21, 10, 1, 22, 23, 24, 25, 26, 27, 28, 38, 39, 40, 41, 42, 43, 44, 45, 46, 47, 48, 49, 50, 51, 52, 53, 54, 55, 56, 57, 58, 59, 60, 61, 62, 63, 64, 65, 66, 67, 68, 69, 70, 71, 72, 73, 74, 75, 76, 77, 78, 79, 80, 81, 82, 83, 84, 85, 86, 87, 88, 89, 90, 91, 92, 93, 94, 95, 96, 97, 98, 99, 100, 101, 102, 103, 104] (by decide +kernel) (by decide +kernel)
set_option maxRecDepth 20000 in
theorem gX11_placed_X11_placedNow : GoodIn wsX11_placed (wsV RX11 271 RX11 yX11_placedNow wsX11_placedNow) := goodIn_app (goodIn_of _ (by decide +kernel)) ggX11_placed_X11_placedNow
theorem dX11_placed_0 : decode cX11_placed 0 = .ok (.aload_n 0, 1) := by decide +kernel
theorem dX11_placed_1 : decode cX11_placed 1 = .ok (.iload_n 1, 1) := by decide +kernel
theorem dX11_placed_2 : decode cX11_placed 2 = .ok (.invokevirtual 159, 3) := by decide +kernel
theorem dX11_placed_5 : decode cX11_placed 5 = .ok (.ifCond .eq 12, 3) := by decide +kernel
theorem dX11_placed_8 : decode cX11_placed 8 = .ok (.aload_n 0, 1) := by decide +kernel
theorem dX11_placed_9 : decode cX11_placed 9 = .ok (.getfield 13, 3) := by decide +kernel
theorem dX11_placed_12 : decode cX11_placed 12 = .ok (.iload_n 1, 1) := by decide +kernel
theorem dX11_placed_13 : decode cX11_placed 13 = .ok (.baload, 1) := by decide +kernel
theorem dX11_placed_14 : decode cX11_placed 14 = .ok (.ifCond .ne 6, 3) := by decide +kernel
theorem dX11_placed_17 : decode cX11_placed 17 = .ok (.ldc 178, 2) := by decide +kernel
theorem dX11_placed_19 : decode cX11_placed 19 = .ok (.ireturn, 1) := by decide +kernel
theorem dX11_placed_20 : decode cX11_placed 20 = .ok (.iload_n 2, 1) := by decide +kernel
theorem dX11_placed_21 : decode cX11_placed 21 = .ok (.iconst 0, 1) := by decide +kernel
theorem dX11_placed_22 : decode cX11_placed 22 = .ok (.iconst 4, 1) := by decide +kernel
theorem dX11_placed_23 : decode cX11_placed 23 = .ok (.invokestatic 77, 3) := by decide +kernel
theorem dX11_placed_26 : decode cX11_placed 26 = .ok (.ifCond .ne 6, 3) := by decide +kernel
theorem dX11_placed_29 : decode cX11_placed 29 = .ok (.ldc 81, 2) := by decide +kernel
theorem dX11_placed_31 : decode cX11_placed 31 = .ok (.ireturn, 1) := by decide +kernel
theorem dX11_placed_32 : decode cX11_placed 32 = .ok (.aload_n 0, 1) := by decide +kernel
theorem dX11_placed_33 : decode cX11_placed 33 = .ok (.iload_n 1, 1) := by decide +kernel
theorem dX11_placed_34 : decode cX11_placed 34 = .ok (.invokevirtual 268, 3) := by decide +kernel
theorem dX11_placed_37 : decode cX11_placed 37 = .ok (.ifCond .eq 12, 3) := by decide +kernel
theorem dX11_placed_40 : decode cX11_placed 40 = .ok (.aload_n 0, 1) := by decide +kernel
theorem dX11_placed_41 : decode cX11_placed 41 = .ok (.iload_n 1, 1) := by decide +kernel
theorem dX11_placed_42 : decode cX11_placed 42 = .ok (.iload_n 2, 1) := by decide +kernel
theorem dX11_placed_43 : decode cX11_placed 43 = .ok (.invokevirtual 271, 3) := by decide +kernel
theorem dX11_placed_46 : decode cX11_placed 46 = .ok (.goto 5, 3) := by decide +kernel
theorem dX11_placed_49 : decode cX11_placed 49 = .ok (.ldc 152, 2) := by decide +kernel
theorem dX11_placed_51 : decode cX11_placed 51 = .ok (.ireturn, 1) := by decide +kernel
set_option maxRecDepth 20000 in
theorem ggX11_limit_X11_isField : GoodIn wsX11_limit wsX11_isField := goodIn_r _ [8, 9, 13, 14, 15, 16, 17, 18, 19, 20, 21, 22, 23, 24, 25, 26, 27, 28, 29, 30, 31, 32, 33, 34, 35, 36, 37, 38, 39, 40, 41, 42, 43, 44, 45, 46, 47, 48, 49, 50, 51, 52, 53, 54] (by decide +kernel) (by decide +kernel)
set_option maxRecDepth 20000 in
theorem gX11_limit_X11_isField : GoodIn wsX11_limit (wsV RX11 196 RX11 yX11_isField wsX11_isField) := goodIn_app (goodIn_of _ (by decide +kernel)) ggX11_limit_X11_isField
set_option maxRecDepth 20000 in
theorem ggX11_limit_X11_within : GoodIn wsX11_limit wsX11_within := goodIn_r _ [12] (by decide +kernel) (by decide +kernel)
set_option maxRecDepth 20000 in
theorem gX11_limit_X11_within : GoodIn wsX11_limit (va_wsS RX11 77 yX11_within wsX11_within) := goodIn_app (goodIn_of _ (by decide +kernel)) ggX11_limit_X11_within
theorem dX11_limit_0 : decode cX11_limit 0 = .ok (.aload_n 0, 1) := by decide +kernel
theorem dX11_limit_1 : decode cX11_limit 1 = .ok (.invokevirtual 196, 3) := by decide +kernel
theorem dX11_limit_4 : decode cX11_limit 4 = .ok (.ifCond .ne 6, 3) := by decide +kernel
theorem dX11_limit_7 : decode cX11_limit 7 = .ok (.ldc 152, 2) := by decide +kernel
theorem dX11_limit_9 : decode cX11_limit 9 = .ok (.ireturn, 1) := by decide +kernel
theorem dX11_limit_10 : decode cX11_limit 10 = .ok (.iload_n 1, 1) := by decide +kernel
theorem dX11_limit_11 : decode cX11_limit 11 = .ok (.iconst 0, 1) := by decide +kernel
theorem dX11_limit_12 : decode cX11_limit 12 = .ok (.sipush 9999, 3) := by decide +kernel
theorem dX11_limit_15 : decode cX11_limit 15 = .ok (.invokestatic 77, 3) := by decide +kernel
theorem dX11_limit_18 : decode cX11_limit 18 = .ok (.ifCond .ne 6, 3) := by decide +kernel
theorem dX11_limit_21 : decode cX11_limit 21 = .ok (.ldc 81, 2) := by decide +kernel
theorem dX11_limit_23 : decode cX11_limit 23 = .ok (.ireturn, 1) := by decide +kernel
theorem dX11_limit_24 : decode cX11_limit 24 = .ok (.aload_n 0, 1) := by decide +kernel
theorem dX11_limit_25 : decode cX11_limit 25 = .ok (.getfield 146, 3) := by decide +kernel
theorem dX11_limit_28 : decode cX11_limit 28 = .ok (.istore_n 2, 1) := by decide +kernel
theorem dX11_limit_29 : decode cX11_limit 29 = .ok (.aload_n 0, 1) := by decide +kernel
theorem dX11_limit_30 : decode cX11_limit 30 = .ok (.iload_n 1, 1) := by decide +kernel
theorem dX11_limit_31 : decode cX11_limit 31 = .ok (.putfield 146, 3) := by decide +kernel
theorem dX11_limit_34 : decode cX11_limit 34 = .ok (.iload_n 2, 1) := by decide +kernel
theorem dX11_limit_35 : decode cX11_limit 35 = .ok (.ireturn, 1) := by decide +kernel
set_option maxRecDepth 20000 in
theorem ggX11_want_X11_isNode : GoodIn wsX11_want wsX11_isNode := goodIn_r _ [9, 10, 11, 12, 8, 13, 14, 15, 16, 17, 18, 19, 20, 21, 22, 23, 24, 25, 26, 27, 28, 29, 30, 31, 32, 33, 34, 35, 36, 37, 38, 39, 40, 41, 42, 43, 44, 45, 46, 47, 48, 49, 50, 51, 52, 53, 54, 55] (by decide +kernel) (by decide +kernel)
set_option maxRecDepth 20000 in
theorem gX11_want_X11_isNode : GoodIn wsX11_want (wsV RX11 159 RX11 yX11_isNode wsX11_isNode) := goodIn_app (goodIn_of _ (by decide +kernel)) ggX11_want_X11_isNode
theorem dX11_want_0 : decode cX11_want 0 = .ok (.aload_n 0, 1) := by decide +kernel
theorem dX11_want_1 : decode cX11_want 1 = .ok (.iload_n 1, 1) := by decide +kernel
theorem dX11_want_2 : decode cX11_want 2 = .ok (.invokevirtual 159, 3) := by decide +kernel
theorem dX11_want_5 : decode cX11_want 5 = .ok (.ifCond .eq 12, 3) := by decide +kernel
theorem dX11_want_8 : decode cX11_want 8 = .ok (.aload_n 0, 1) := by decide +kernel
theorem dX11_want_9 : decode cX11_want 9 = .ok (.getfield 13, 3) := by decide +kernel
theorem dX11_want_12 : decode cX11_want 12 = .ok (.iload_n 1, 1) := by decide +kernel
theorem dX11_want_13 : decode cX11_want 13 = .ok (.baload, 1) := by decide +kernel
theorem dX11_want_14 : decode cX11_want 14 = .ok (.ifCond .ne 6, 3) := by decide +kernel
theorem dX11_want_17 : decode cX11_want 17 = .ok (.ldc 178, 2) := by decide +kernel
theorem dX11_want_19 : decode cX11_want 19 = .ok (.ireturn, 1) := by decide +kernel
theorem dX11_want_20 : decode cX11_want 20 = .ok (.iload_n 2, 1) := by decide +kernel
theorem dX11_want_21 : decode cX11_want 21 = .ok (.ifCond .eq 30, 3) := by decide +kernel
theorem dX11_want_24 : decode cX11_want 24 = .ok (.iload_n 2, 1) := by decide +kernel
theorem dX11_want_25 : decode cX11_want 25 = .ok (.iconst 1, 1) := by decide +kernel
theorem dX11_want_26 : decode cX11_want 26 = .ok (.if_icmp .eq 25, 3) := by decide +kernel
theorem dX11_want_29 : decode cX11_want 29 = .ok (.iload_n 2, 1) := by decide +kernel
theorem dX11_want_30 : decode cX11_want 30 = .ok (.iconst 2, 1) := by decide +kernel
theorem dX11_want_31 : decode cX11_want 31 = .ok (.if_icmp .eq 20, 3) := by decide +kernel
theorem dX11_want_34 : decode cX11_want 34 = .ok (.iload_n 2, 1) := by decide +kernel
theorem dX11_want_35 : decode cX11_want 35 = .ok (.iconst 4, 1) := by decide +kernel
theorem dX11_want_36 : decode cX11_want 36 = .ok (.if_icmp .eq 15, 3) := by decide +kernel
theorem dX11_want_39 : decode cX11_want 39 = .ok (.iload_n 2, 1) := by decide +kernel
theorem dX11_want_40 : decode cX11_want 40 = .ok (.bipush 8, 2) := by decide +kernel
theorem dX11_want_42 : decode cX11_want 42 = .ok (.if_icmp .eq 9, 3) := by decide +kernel
theorem dX11_want_45 : decode cX11_want 45 = .ok (.iload_n 2, 1) := by decide +kernel
theorem dX11_want_46 : decode cX11_want 46 = .ok (.bipush 16, 2) := by decide +kernel
theorem dX11_want_48 : decode cX11_want 48 = .ok (.if_icmp .ne 7, 3) := by decide +kernel
theorem dX11_want_51 : decode cX11_want 51 = .ok (.iconst 1, 1) := by decide +kernel
theorem dX11_want_52 : decode cX11_want 52 = .ok (.goto 4, 3) := by decide +kernel
theorem dX11_want_55 : decode cX11_want 55 = .ok (.iconst 0, 1) := by decide +kernel
theorem dX11_want_56 : decode cX11_want 56 = .ok (.istore_n 3, 1) := by decide +kernel
theorem dX11_want_57 : decode cX11_want 57 = .ok (.iload_n 3, 1) := by decide +kernel
theorem dX11_want_58 : decode cX11_want 58 = .ok (.ifCond .ne 6, 3) := by decide +kernel
theorem dX11_want_61 : decode cX11_want 61 = .ok (.ldc 81, 2) := by decide +kernel
theorem dX11_want_63 : decode cX11_want 63 = .ok (.ireturn, 1) := by decide +kernel
theorem dX11_want_64 : decode cX11_want 64 = .ok (.aload_n 0, 1) := by decide +kernel
theorem dX11_want_65 : decode cX11_want 65 = .ok (.getfield 32, 3) := by decide +kernel
theorem dX11_want_68 : decode cX11_want 68 = .ok (.iload_n 1, 1) := by decide +kernel
theorem dX11_want_69 : decode cX11_want 69 = .ok (.iaload, 1) := by decide +kernel
theorem dX11_want_70 : decode cX11_want 70 = .ok (.istore 4, 2) := by decide +kernel
theorem dX11_want_72 : decode cX11_want 72 = .ok (.aload_n 0, 1) := by decide +kernel
theorem dX11_want_73 : decode cX11_want 73 = .ok (.getfield 32, 3) := by decide +kernel
theorem dX11_want_76 : decode cX11_want 76 = .ok (.iload_n 1, 1) := by decide +kernel
theorem dX11_want_77 : decode cX11_want 77 = .ok (.iload_n 2, 1) := by decide +kernel
theorem dX11_want_78 : decode cX11_want 78 = .ok (.iastore, 1) := by decide +kernel
theorem dX11_want_79 : decode cX11_want 79 = .ok (.iload 4, 2) := by decide +kernel
theorem dX11_want_81 : decode cX11_want 81 = .ok (.ireturn, 1) := by decide +kernel
theorem dX11_isFree_0 : decode cX11_isFree 0 = .ok (.iconst 1, 1) := by decide +kernel
theorem dX11_isFree_1 : decode cX11_isFree 1 = .ok (.istore_n 3, 1) := by decide +kernel
theorem dX11_isFree_2 : decode cX11_isFree 2 = .ok (.iload_n 1, 1) := by decide +kernel
theorem dX11_isFree_3 : decode cX11_isFree 3 = .ok (.istore 4, 2) := by decide +kernel
theorem dX11_isFree_5 : decode cX11_isFree 5 = .ok (.iload 4, 2) := by decide +kernel
theorem dX11_isFree_7 : decode cX11_isFree 7 = .ok (.bipush 16, 2) := by decide +kernel
theorem dX11_isFree_9 : decode cX11_isFree 9 = .ok (.if_icmp .ge 33, 3) := by decide +kernel
theorem dX11_isFree_12 : decode cX11_isFree 12 = .ok (.iload_n 3, 1) := by decide +kernel
theorem dX11_isFree_13 : decode cX11_isFree 13 = .ok (.ifCond .eq 18, 3) := by decide +kernel
theorem dX11_isFree_16 : decode cX11_isFree 16 = .ok (.aload_n 0, 1) := by decide +kernel
theorem dX11_isFree_17 : decode cX11_isFree 17 = .ok (.getfield 53, 3) := by decide +kernel
theorem dX11_isFree_20 : decode cX11_isFree 20 = .ok (.iload 4, 2) := by decide +kernel
theorem dX11_isFree_22 : decode cX11_isFree 22 = .ok (.iaload, 1) := by decide +kernel
theorem dX11_isFree_23 : decode cX11_isFree 23 = .ok (.iconst (-1), 1) := by decide +kernel
theorem dX11_isFree_24 : decode cX11_isFree 24 = .ok (.if_icmp .ne 7, 3) := by decide +kernel
theorem dX11_isFree_27 : decode cX11_isFree 27 = .ok (.iconst 1, 1) := by decide +kernel
theorem dX11_isFree_28 : decode cX11_isFree 28 = .ok (.goto 4, 3) := by decide +kernel
theorem dX11_isFree_31 : decode cX11_isFree 31 = .ok (.iconst 0, 1) := by decide +kernel
theorem dX11_isFree_32 : decode cX11_isFree 32 = .ok (.istore_n 3, 1) := by decide +kernel
theorem dX11_isFree_33 : decode cX11_isFree 33 = .ok (.iload 4, 2) := by decide +kernel
theorem dX11_isFree_35 : decode cX11_isFree 35 = .ok (.iload_n 2, 1) := by decide +kernel
theorem dX11_isFree_36 : decode cX11_isFree 36 = .ok (.iadd, 1) := by decide +kernel
theorem dX11_isFree_37 : decode cX11_isFree 37 = .ok (.istore 4, 2) := by decide +kernel
theorem dX11_isFree_39 : decode cX11_isFree 39 = .ok (.goto (-34), 3) := by decide +kernel
theorem dX11_isFree_42 : decode cX11_isFree 42 = .ok (.iload_n 3, 1) := by decide +kernel
theorem dX11_isFree_43 : decode cX11_isFree 43 = .ok (.ireturn, 1) := by decide +kernel
set_option maxRecDepth 20000 in
theorem ggX11_dealTo_X11_isFree : GoodIn wsX11_dealTo wsX11_isFree := goodIn_r _ [7, 2, 8, 9, 10, 11, 12, 13, 14, 15, 16, 17, 18, 19, 20, 21, 22, 23, 24, 25, 26, 27, 28, 29, 30, 31, 32, 33, 34, 35, 36, 37, 38, 39, 40, 41, 42, 43, 44, 45, 46, 47, 48, 49] (by decide +kernel) (by decide +kernel)
set_option maxRecDepth 20000 in
theorem gX11_dealTo_X11_isFree : GoodIn wsX11_dealTo (wsV RX11 274 RX11 yX11_isFree wsX11_isFree) := goodIn_app (goodIn_of _ (by decide +kernel)) ggX11_dealTo_X11_isFree
theorem dX11_dealTo_0 : decode cX11_dealTo 0 = .ok (.aload_n 0, 1) := by decide +kernel
theorem dX11_dealTo_1 : decode cX11_dealTo 1 = .ok (.getfield 32, 3) := by decide +kernel
theorem dX11_dealTo_4 : decode cX11_dealTo 4 = .ok (.iload_n 1, 1) := by decide +kernel
theorem dX11_dealTo_5 : decode cX11_dealTo 5 = .ok (.iaload, 1) := by decide +kernel
theorem dX11_dealTo_6 : decode cX11_dealTo 6 = .ok (.istore_n 2, 1) := by decide +kernel
theorem dX11_dealTo_7 : decode cX11_dealTo 7 = .ok (.iconst 0, 1) := by decide +kernel
theorem dX11_dealTo_8 : decode cX11_dealTo 8 = .ok (.istore_n 3, 1) := by decide +kernel
theorem dX11_dealTo_9 : decode cX11_dealTo 9 = .ok (.iload_n 3, 1) := by decide +kernel
theorem dX11_dealTo_10 : decode cX11_dealTo 10 = .ok (.iload_n 2, 1) := by decide +kernel
theorem dX11_dealTo_11 : decode cX11_dealTo 11 = .ok (.if_icmp .ge 18, 3) := by decide +kernel
theorem dX11_dealTo_14 : decode cX11_dealTo 14 = .ok (.aload_n 0, 1) := by decide +kernel
theorem dX11_dealTo_15 : decode cX11_dealTo 15 = .ok (.iload_n 3, 1) := by decide +kernel
theorem dX11_dealTo_16 : decode cX11_dealTo 16 = .ok (.iload_n 2, 1) := by decide +kernel
theorem dX11_dealTo_17 : decode cX11_dealTo 17 = .ok (.invokevirtual 274, 3) := by decide +kernel
theorem dX11_dealTo_20 : decode cX11_dealTo 20 = .ok (.ifCond .ne 9, 3) := by decide +kernel
theorem dX11_dealTo_23 : decode cX11_dealTo 23 = .ok (.iinc 3 1, 3) := by decide +kernel
theorem dX11_dealTo_26 : decode cX11_dealTo 26 = .ok (.goto (-17), 3) := by decide +kernel
theorem dX11_dealTo_29 : decode cX11_dealTo 29 = .ok (.iload_n 3, 1) := by decide +kernel
theorem dX11_dealTo_30 : decode cX11_dealTo 30 = .ok (.istore 4, 2) := by decide +kernel
theorem dX11_dealTo_32 : decode cX11_dealTo 32 = .ok (.iload 4, 2) := by decide +kernel
theorem dX11_dealTo_34 : decode cX11_dealTo 34 = .ok (.bipush 16, 2) := by decide +kernel
theorem dX11_dealTo_36 : decode cX11_dealTo 36 = .ok (.if_icmp .ge 25, 3) := by decide +kernel
theorem dX11_dealTo_39 : decode cX11_dealTo 39 = .ok (.iload_n 3, 1) := by decide +kernel
theorem dX11_dealTo_40 : decode cX11_dealTo 40 = .ok (.iload_n 2, 1) := by decide +kernel
theorem dX11_dealTo_41 : decode cX11_dealTo 41 = .ok (.if_icmp .ge 20, 3) := by decide +kernel
theorem dX11_dealTo_44 : decode cX11_dealTo 44 = .ok (.aload_n 0, 1) := by decide +kernel
theorem dX11_dealTo_45 : decode cX11_dealTo 45 = .ok (.getfield 53, 3) := by decide +kernel
theorem dX11_dealTo_48 : decode cX11_dealTo 48 = .ok (.iload 4, 2) := by decide +kernel
theorem dX11_dealTo_50 : decode cX11_dealTo 50 = .ok (.iload_n 1, 1) := by decide +kernel
theorem dX11_dealTo_51 : decode cX11_dealTo 51 = .ok (.iastore, 1) := by decide +kernel
theorem dX11_dealTo_52 : decode cX11_dealTo 52 = .ok (.iload 4, 2) := by decide +kernel
theorem dX11_dealTo_54 : decode cX11_dealTo 54 = .ok (.iload_n 2, 1) := by decide +kernel
theorem dX11_dealTo_55 : decode cX11_dealTo 55 = .ok (.iadd, 1) := by decide +kernel
theorem dX11_dealTo_56 : decode cX11_dealTo 56 = .ok (.istore 4, 2) := by decide +kernel
theorem dX11_dealTo_58 : decode cX11_dealTo 58 = .ok (.goto (-26), 3) := by decide +kernel
theorem dX11_dealTo_61 : decode cX11_dealTo 61 = .ok (.iload_n 3, 1) := by decide +kernel
theorem dX11_dealTo_62 : decode cX11_dealTo 62 = .ok (.iload_n 2, 1) := by decide +kernel
theorem dX11_dealTo_63 : decode cX11_dealTo 63 = .ok (.if_icmp .ge 7, 3) := by decide +kernel
theorem dX11_dealTo_66 : decode cX11_dealTo 66 = .ok (.iconst 1, 1) := by decide +kernel
theorem dX11_dealTo_67 : decode cX11_dealTo 67 = .ok (.goto 4, 3) := by decide +kernel
theorem dX11_dealTo_70 : decode cX11_dealTo 70 = .ok (.iconst 0, 1) := by decide +kernel
theorem dX11_dealTo_71 : decode cX11_dealTo 71 = .ok (.ireturn, 1) := by decide +kernel
set_option maxRecDepth 20000 in
theorem ggX11_dealNow_X11_dealTo : GoodIn wsX11_dealNow wsX11_dealTo := goodIn_r _ [9, 4, 1, 10, 11, 12, 8, 13, 14, 15, 16, 17, 18, 19, 20, 21, 22, 23, 24, 25, 26, 27, 28, 29, 30, 31, 32, 33, 34, 35, 36, 37, 38, 39, 40, 41, 42, 43, 44, 45, 46, 47, 48, 49, 50, 51, 52, 53, 54, 55] (by decide +kernel) (by decide +kernel)
set_option maxRecDepth 20000 in
theorem gX11_dealNow_X11_dealTo : GoodIn wsX11_dealNow (wsV RX11 277 RX11 yX11_dealTo wsX11_dealTo) := goodIn_app (goodIn_of _ (by decide +kernel)) ggX11_dealNow_X11_dealTo
theorem dX11_dealNow_0 : decode cX11_dealNow 0 = .ok (.iconst 0, 1) := by decide +kernel
theorem dX11_dealNow_1 : decode cX11_dealNow 1 = .ok (.istore_n 1, 1) := by decide +kernel
theorem dX11_dealNow_2 : decode cX11_dealNow 2 = .ok (.iload_n 1, 1) := by decide +kernel
theorem dX11_dealNow_3 : decode cX11_dealNow 3 = .ok (.bipush 16, 2) := by decide +kernel
theorem dX11_dealNow_5 : decode cX11_dealNow 5 = .ok (.if_icmp .ge 16, 3) := by decide +kernel
theorem dX11_dealNow_8 : decode cX11_dealNow 8 = .ok (.aload_n 0, 1) := by decide +kernel
theorem dX11_dealNow_9 : decode cX11_dealNow 9 = .ok (.getfield 53, 3) := by decide +kernel
theorem dX11_dealNow_12 : decode cX11_dealNow 12 = .ok (.iload_n 1, 1) := by decide +kernel
theorem dX11_dealNow_13 : decode cX11_dealNow 13 = .ok (.iconst (-1), 1) := by decide +kernel
theorem dX11_dealNow_14 : decode cX11_dealNow 14 = .ok (.iastore, 1) := by decide +kernel
theorem dX11_dealNow_15 : decode cX11_dealNow 15 = .ok (.iinc 1 1, 3) := by decide +kernel
theorem dX11_dealNow_18 : decode cX11_dealNow 18 = .ok (.goto (-16), 3) := by decide +kernel
theorem dX11_dealNow_21 : decode cX11_dealNow 21 = .ok (.iconst 0, 1) := by decide +kernel
theorem dX11_dealNow_22 : decode cX11_dealNow 22 = .ok (.istore_n 1, 1) := by decide +kernel
theorem dX11_dealNow_23 : decode cX11_dealNow 23 = .ok (.iconst 1, 1) := by decide +kernel
theorem dX11_dealNow_24 : decode cX11_dealNow 24 = .ok (.istore_n 2, 1) := by decide +kernel
theorem dX11_dealNow_25 : decode cX11_dealNow 25 = .ok (.iload_n 2, 1) := by decide +kernel
theorem dX11_dealNow_26 : decode cX11_dealNow 26 = .ok (.bipush 16, 2) := by decide +kernel
theorem dX11_dealNow_28 : decode cX11_dealNow 28 = .ok (.if_icmp .gt 61, 3) := by decide +kernel
theorem dX11_dealNow_31 : decode cX11_dealNow 31 = .ok (.iconst 0, 1) := by decide +kernel
theorem dX11_dealNow_32 : decode cX11_dealNow 32 = .ok (.istore_n 3, 1) := by decide +kernel
theorem dX11_dealNow_33 : decode cX11_dealNow 33 = .ok (.iload_n 3, 1) := by decide +kernel
theorem dX11_dealNow_34 : decode cX11_dealNow 34 = .ok (.aload_n 0, 1) := by decide +kernel
theorem dX11_dealNow_35 : decode cX11_dealNow 35 = .ok (.getfield 129, 3) := by decide +kernel
theorem dX11_dealNow_38 : decode cX11_dealNow 38 = .ok (.if_icmp .ge 44, 3) := by decide +kernel
theorem dX11_dealNow_41 : decode cX11_dealNow 41 = .ok (.iload_n 1, 1) := by decide +kernel
theorem dX11_dealNow_42 : decode cX11_dealNow 42 = .ok (.aload_n 0, 1) := by decide +kernel
theorem dX11_dealNow_43 : decode cX11_dealNow 43 = .ok (.getfield 13, 3) := by decide +kernel
theorem dX11_dealNow_46 : decode cX11_dealNow 46 = .ok (.iload_n 3, 1) := by decide +kernel
theorem dX11_dealNow_47 : decode cX11_dealNow 47 = .ok (.baload, 1) := by decide +kernel
theorem dX11_dealNow_48 : decode cX11_dealNow 48 = .ok (.ifCond .eq 25, 3) := by decide +kernel
theorem dX11_dealNow_51 : decode cX11_dealNow 51 = .ok (.aload_n 0, 1) := by decide +kernel
theorem dX11_dealNow_52 : decode cX11_dealNow 52 = .ok (.getfield 32, 3) := by decide +kernel
theorem dX11_dealNow_55 : decode cX11_dealNow 55 = .ok (.iload_n 3, 1) := by decide +kernel
theorem dX11_dealNow_56 : decode cX11_dealNow 56 = .ok (.iaload, 1) := by decide +kernel
theorem dX11_dealNow_57 : decode cX11_dealNow 57 = .ok (.iload_n 2, 1) := by decide +kernel
theorem dX11_dealNow_58 : decode cX11_dealNow 58 = .ok (.if_icmp .ne 15, 3) := by decide +kernel
theorem dX11_dealNow_61 : decode cX11_dealNow 61 = .ok (.aload_n 0, 1) := by decide +kernel
theorem dX11_dealNow_62 : decode cX11_dealNow 62 = .ok (.iload_n 3, 1) := by decide +kernel
theorem dX11_dealNow_63 : decode cX11_dealNow 63 = .ok (.invokevirtual 277, 3) := by decide +kernel
theorem dX11_dealNow_66 : decode cX11_dealNow 66 = .ok (.ifCond .eq 7, 3) := by decide +kernel
theorem dX11_dealNow_69 : decode cX11_dealNow 69 = .ok (.iconst 1, 1) := by decide +kernel
theorem dX11_dealNow_70 : decode cX11_dealNow 70 = .ok (.goto 4, 3) := by decide +kernel
theorem dX11_dealNow_73 : decode cX11_dealNow 73 = .ok (.iconst 0, 1) := by decide +kernel
theorem dX11_dealNow_74 : decode cX11_dealNow 74 = .ok (.iadd, 1) := by decide +kernel
theorem dX11_dealNow_75 : decode cX11_dealNow 75 = .ok (.istore_n 1, 1) := by decide +kernel
theorem dX11_dealNow_76 : decode cX11_dealNow 76 = .ok (.iinc 3 1, 3) := by decide +kernel
theorem dX11_dealNow_79 : decode cX11_dealNow 79 = .ok (.goto (-46), 3) := by decide +kernel
theorem dX11_dealNow_82 : decode cX11_dealNow 82 = .ok (.iload_n 2, 1) := by decide +kernel
theorem dX11_dealNow_83 : decode cX11_dealNow 83 = .ok (.iconst 2, 1) := by decide +kernel
theorem dX11_dealNow_84 : decode cX11_dealNow 84 = .ok (.imul, 1) := by decide +kernel
theorem dX11_dealNow_85 : decode cX11_dealNow 85 = .ok (.istore_n 2, 1) := by decide +kernel
theorem dX11_dealNow_86 : decode cX11_dealNow 86 = .ok (.goto (-61), 3) := by decide +kernel
theorem dX11_dealNow_89 : decode cX11_dealNow 89 = .ok (.iload_n 1, 1) := by decide +kernel
theorem dX11_dealNow_90 : decode cX11_dealNow 90 = .ok (.ireturn, 1) := by decide +kernel
set_option maxRecDepth 20000 in
theorem ggX11_deal_X11_isField : GoodIn wsX11_deal wsX11_isField := goodIn_r _ [6, 7, 23, 24, 25, 26, 27, 28, 29, 30, 31, 32, 33, 34, 35, 36, 37, 38, 39, 40, 41, 42, 43, 44, 45, 46, 47, 48, 49, 50, 51, 52, 53, 54, 55, 56, 57, 58, 59, 60, 61, 62, 63, 64] (by decide +kernel) (by decide +kernel)
set_option maxRecDepth 20000 in
theorem gX11_deal_X11_isField : GoodIn wsX11_deal (wsV RX11 196 RX11 yX11_isField wsX11_isField) := goodIn_app (goodIn_of _ (by decide +kernel)) ggX11_deal_X11_isField
set_option maxRecDepth 20000 in
theorem ggX11_deal_X11_dealNow : GoodIn wsX11_deal wsX11_dealNow := goodIn_r _ [11, 12, 7, 13, 14, 15, 16, 17, 5, 18, 19, 20, 21, 22, 23, 24, 25, 26, 27, 28, 29, 30, 31, 32, 33, 34, 35, 36, 37, 38, 39, 40, 41, 42, 43, 44, 45, 46, 47, 48, 49, 50, 51, 52, 53, 54, 55, 56, 57, 58, 59, 60, 61, 62, 63, 64] (by decide +kernel) (by decide +kernel)
set_option maxRecDepth 20000 in
theorem gX11_deal_X11_dealNow : GoodIn wsX11_deal (wsV RX11 280 RX11 yX11_dealNow wsX11_dealNow) := goodIn_app (goodIn_of _ (by decide +kernel)) ggX11_deal_X11_dealNow
theorem dX11_deal_0 : decode cX11_deal 0 = .ok (.aload_n 0, 1) := by decide +kernel
theorem dX11_deal_1 : decode cX11_deal 1 = .ok (.invokevirtual 196, 3) := by decide +kernel
theorem dX11_deal_4 : decode cX11_deal 4 = .ok (.ifCond .eq 10, 3) := by decide +kernel
theorem dX11_deal_7 : decode cX11_deal 7 = .ok (.aload_n 0, 1) := by decide +kernel
theorem dX11_deal_8 : decode cX11_deal 8 = .ok (.invokevirtual 280, 3) := by decide +kernel
theorem dX11_deal_11 : decode cX11_deal 11 = .ok (.goto 5, 3) := by decide +kernel
theorem dX11_deal_14 : decode cX11_deal 14 = .ok (.ldc 152, 2) := by decide +kernel
theorem dX11_deal_16 : decode cX11_deal 16 = .ok (.ireturn, 1) := by decide +kernel
set_option maxRecDepth 20000 in
theorem ggX11_slot_X11_isField : GoodIn wsX11_slot wsX11_isField := goodIn_r _ [8, 9, 13, 14, 15, 16, 17, 18, 19, 20, 21, 22, 23, 24, 25, 26, 27, 28, 29, 30, 31, 32, 33, 34, 35, 36, 37, 38, 39, 40, 41, 42, 43, 44, 45, 46, 47, 48, 49, 50, 51, 52, 53, 54] (by decide +kernel) (by decide +kernel)
set_option maxRecDepth 20000 in
theorem gX11_slot_X11_isField : GoodIn wsX11_slot (wsV RX11 196 RX11 yX11_isField wsX11_isField) := goodIn_app (goodIn_of _ (by decide +kernel)) ggX11_slot_X11_isField
set_option maxRecDepth 20000 in
theorem ggX11_slot_X11_within : GoodIn wsX11_slot wsX11_within := goodIn_r _ [12] (by decide +kernel) (by decide +kernel)
set_option maxRecDepth 20000 in
theorem gX11_slot_X11_within : GoodIn wsX11_slot (va_wsS RX11 77 yX11_within wsX11_within) := goodIn_app (goodIn_of _ (by decide +kernel)) ggX11_slot_X11_within
theorem dX11_slot_0 : decode cX11_slot 0 = .ok (.aload_n 0, 1) := by decide +kernel
theorem dX11_slot_1 : decode cX11_slot 1 = .ok (.invokevirtual 196, 3) := by decide +kernel
theorem dX11_slot_4 : decode cX11_slot 4 = .ok (.ifCond .ne 6, 3) := by decide +kernel
theorem dX11_slot_7 : decode cX11_slot 7 = .ok (.ldc 152, 2) := by decide +kernel
theorem dX11_slot_9 : decode cX11_slot 9 = .ok (.ireturn, 1) := by decide +kernel
theorem dX11_slot_10 : decode cX11_slot 10 = .ok (.iload_n 1, 1) := by decide +kernel
theorem dX11_slot_11 : decode cX11_slot 11 = .ok (.iconst 0, 1) := by decide +kernel
theorem dX11_slot_12 : decode cX11_slot 12 = .ok (.bipush 15, 2) := by decide +kernel
theorem dX11_slot_14 : decode cX11_slot 14 = .ok (.invokestatic 77, 3) := by decide +kernel
theorem dX11_slot_17 : decode cX11_slot 17 = .ok (.ifCond .eq 12, 3) := by decide +kernel
theorem dX11_slot_20 : decode cX11_slot 20 = .ok (.aload_n 0, 1) := by decide +kernel
theorem dX11_slot_21 : decode cX11_slot 21 = .ok (.getfield 53, 3) := by decide +kernel
theorem dX11_slot_24 : decode cX11_slot 24 = .ok (.iload_n 1, 1) := by decide +kernel
theorem dX11_slot_25 : decode cX11_slot 25 = .ok (.iaload, 1) := by decide +kernel
theorem dX11_slot_26 : decode cX11_slot 26 = .ok (.goto 5, 3) := by decide +kernel
theorem dX11_slot_29 : decode cX11_slot 29 = .ok (.ldc 178, 2) := by decide +kernel
theorem dX11_slot_31 : decode cX11_slot 31 = .ok (.ireturn, 1) := by decide +kernel
set_option maxRecDepth 20000 in
theorem ggX11_frameNow_X11_exchangeNow : GoodIn wsX11_frameNow wsX11_exchangeNow := goodIn_r _ [11, 12, 13, 1, 4, 14, 15, 16, 17, 18, 19, 20, 21, 22, 23, 10, 24, 25, 26, 27, 28, 29, 30, 31, 32, 33, 34, 35, 36, 37, 38, 39, 40, 41, 42, 43, 44, 45, 46, 47, 48, 49, 50, 51, 52, 53, 54, 55, 56, 57, 58, 59, 60, 61, 62, 63, 64, 65, 66, 67, 68, 69, 76, 77, 78, 79, 80, 81, 82, 83, 84, 85, 86, 87, 88, 89, 90, 91, 92, 93, 94, 95, 96, 97, 98, 99, 100, 101, 102, 103, 104, 105, 106, 107, 108, 109, 110, 111, 112, 113, 114, 115, 116, 117] (by decide +kernel) (by decide +kernel)
set_option maxRecDepth 20000 in
theorem gX11_frameNow_X11_exchangeNow : GoodIn wsX11_frameNow (wsV RX11 232 RX11 yX11_exchangeNow wsX11_exchangeNow) := goodIn_app (goodIn_of _ (by decide +kernel)) ggX11_frameNow_X11_exchangeNow
set_option maxRecDepth 20000 in
theorem ggX11_frameNow_X11_anchorFrom : GoodIn wsX11_frameNow wsX11_anchorFrom := goodIn_r _ [73, 74, 75, 76, 77, 78, 79, 80, 81, 82, 83, 84, 85, 86, 87, 88, 89, 90, 91, 92, 93, 94, 95, 96, 97, 98, 99, 100, 101, 102, 103, 104, 105, 106, 107, 108, 109, 110, 111, 112, 113, 114, 115, 116, 117] (by decide +kernel) (by decide +kernel)
set_option maxRecDepth 20000 in
theorem gX11_frameNow_X11_anchorFrom : GoodIn wsX11_frameNow (wsV RX11 136 RX11 yX11_anchorFrom wsX11_anchorFrom) := goodIn_app (goodIn_of _ (by decide +kernel)) ggX11_frameNow_X11_anchorFrom
theorem dX11_frameNow_0 : decode cX11_frameNow 0 = .ok (.aload_n 0, 1) := by decide +kernel
theorem dX11_frameNow_1 : decode cX11_frameNow 1 = .ok (.getfield 140, 3) := by decide +kernel
theorem dX11_frameNow_4 : decode cX11_frameNow 4 = .ok (.istore_n 1, 1) := by decide +kernel
theorem dX11_frameNow_5 : decode cX11_frameNow 5 = .ok (.iconst 0, 1) := by decide +kernel
theorem dX11_frameNow_6 : decode cX11_frameNow 6 = .ok (.istore_n 2, 1) := by decide +kernel
theorem dX11_frameNow_7 : decode cX11_frameNow 7 = .ok (.iconst 0, 1) := by decide +kernel
theorem dX11_frameNow_8 : decode cX11_frameNow 8 = .ok (.istore_n 3, 1) := by decide +kernel
theorem dX11_frameNow_9 : decode cX11_frameNow 9 = .ok (.iload_n 3, 1) := by decide +kernel
theorem dX11_frameNow_10 : decode cX11_frameNow 10 = .ok (.bipush 16, 2) := by decide +kernel
theorem dX11_frameNow_12 : decode cX11_frameNow 12 = .ok (.if_icmp .ge 101, 3) := by decide +kernel
theorem dX11_frameNow_15 : decode cX11_frameNow 15 = .ok (.aload_n 0, 1) := by decide +kernel
theorem dX11_frameNow_16 : decode cX11_frameNow 16 = .ok (.aload_n 0, 1) := by decide +kernel
theorem dX11_frameNow_17 : decode cX11_frameNow 17 = .ok (.getfield 140, 3) := by decide +kernel
theorem dX11_frameNow_20 : decode cX11_frameNow 20 = .ok (.iload_n 1, 1) := by decide +kernel
theorem dX11_frameNow_21 : decode cX11_frameNow 21 = .ok (.sipush 3000, 3) := by decide +kernel
theorem dX11_frameNow_24 : decode cX11_frameNow 24 = .ok (.iload_n 3, 1) := by decide +kernel
theorem dX11_frameNow_25 : decode cX11_frameNow 25 = .ok (.imul, 1) := by decide +kernel
theorem dX11_frameNow_26 : decode cX11_frameNow 26 = .ok (.iadd, 1) := by decide +kernel
theorem dX11_frameNow_27 : decode cX11_frameNow 27 = .ok (.if_icmp .ge 13, 3) := by decide +kernel
theorem dX11_frameNow_30 : decode cX11_frameNow 30 = .ok (.iload_n 1, 1) := by decide +kernel
theorem dX11_frameNow_31 : decode cX11_frameNow 31 = .ok (.sipush 3000, 3) := by decide +kernel
theorem dX11_frameNow_34 : decode cX11_frameNow 34 = .ok (.iload_n 3, 1) := by decide +kernel
theorem dX11_frameNow_35 : decode cX11_frameNow 35 = .ok (.imul, 1) := by decide +kernel
theorem dX11_frameNow_36 : decode cX11_frameNow 36 = .ok (.iadd, 1) := by decide +kernel
theorem dX11_frameNow_37 : decode cX11_frameNow 37 = .ok (.goto 7, 3) := by decide +kernel
theorem dX11_frameNow_40 : decode cX11_frameNow 40 = .ok (.aload_n 0, 1) := by decide +kernel
theorem dX11_frameNow_41 : decode cX11_frameNow 41 = .ok (.getfield 140, 3) := by decide +kernel
theorem dX11_frameNow_44 : decode cX11_frameNow 44 = .ok (.putfield 140, 3) := by decide +kernel
theorem dX11_frameNow_47 : decode cX11_frameNow 47 = .ok (.aload_n 0, 1) := by decide +kernel
theorem dX11_frameNow_48 : decode cX11_frameNow 48 = .ok (.getfield 53, 3) := by decide +kernel
theorem dX11_frameNow_51 : decode cX11_frameNow 51 = .ok (.iload_n 3, 1) := by decide +kernel
theorem dX11_frameNow_52 : decode cX11_frameNow 52 = .ok (.iaload, 1) := by decide +kernel
theorem dX11_frameNow_53 : decode cX11_frameNow 53 = .ok (.istore 4, 2) := by decide +kernel
theorem dX11_frameNow_55 : decode cX11_frameNow 55 = .ok (.iload 4, 2) := by decide +kernel
theorem dX11_frameNow_57 : decode cX11_frameNow 57 = .ok (.iconst (-1), 1) := by decide +kernel
theorem dX11_frameNow_58 : decode cX11_frameNow 58 = .ok (.if_icmp .eq 49, 3) := by decide +kernel
theorem dX11_frameNow_61 : decode cX11_frameNow 61 = .ok (.iload_n 2, 1) := by decide +kernel
theorem dX11_frameNow_62 : decode cX11_frameNow 62 = .ok (.aload_n 0, 1) := by decide +kernel
theorem dX11_frameNow_63 : decode cX11_frameNow 63 = .ok (.iload 4, 2) := by decide +kernel
theorem dX11_frameNow_65 : decode cX11_frameNow 65 = .ok (.aload_n 0, 1) := by decide +kernel
theorem dX11_frameNow_66 : decode cX11_frameNow 66 = .ok (.getfield 35, 3) := by decide +kernel
theorem dX11_frameNow_69 : decode cX11_frameNow 69 = .ok (.iload 4, 2) := by decide +kernel
theorem dX11_frameNow_71 : decode cX11_frameNow 71 = .ok (.iaload, 1) := by decide +kernel
theorem dX11_frameNow_72 : decode cX11_frameNow 72 = .ok (.invokevirtual 232, 3) := by decide +kernel
theorem dX11_frameNow_75 : decode cX11_frameNow 75 = .ok (.ldc 214, 2) := by decide +kernel
theorem dX11_frameNow_77 : decode cX11_frameNow 77 = .ok (.if_icmp .ne 7, 3) := by decide +kernel
theorem dX11_frameNow_80 : decode cX11_frameNow 80 = .ok (.iconst 0, 1) := by decide +kernel
theorem dX11_frameNow_81 : decode cX11_frameNow 81 = .ok (.goto 4, 3) := by decide +kernel
theorem dX11_frameNow_84 : decode cX11_frameNow 84 = .ok (.iconst 1, 1) := by decide +kernel
theorem dX11_frameNow_85 : decode cX11_frameNow 85 = .ok (.iadd, 1) := by decide +kernel
theorem dX11_frameNow_86 : decode cX11_frameNow 86 = .ok (.istore_n 2, 1) := by decide +kernel
theorem dX11_frameNow_87 : decode cX11_frameNow 87 = .ok (.aload_n 0, 1) := by decide +kernel
theorem dX11_frameNow_88 : decode cX11_frameNow 88 = .ok (.getfield 35, 3) := by decide +kernel
theorem dX11_frameNow_91 : decode cX11_frameNow 91 = .ok (.iload 4, 2) := by decide +kernel
theorem dX11_frameNow_93 : decode cX11_frameNow 93 = .ok (.aload_n 0, 1) := by decide +kernel
theorem dX11_frameNow_94 : decode cX11_frameNow 94 = .ok (.aload_n 0, 1) := by decide +kernel
theorem dX11_frameNow_95 : decode cX11_frameNow 95 = .ok (.getfield 35, 3) := by decide +kernel
theorem dX11_frameNow_98 : decode cX11_frameNow 98 = .ok (.iload 4, 2) := by decide +kernel
theorem dX11_frameNow_100 : decode cX11_frameNow 100 = .ok (.iaload, 1) := by decide +kernel
theorem dX11_frameNow_101 : decode cX11_frameNow 101 = .ok (.iconst 1, 1) := by decide +kernel
theorem dX11_frameNow_102 : decode cX11_frameNow 102 = .ok (.iadd, 1) := by decide +kernel
theorem dX11_frameNow_103 : decode cX11_frameNow 103 = .ok (.invokevirtual 136, 3) := by decide +kernel
theorem dX11_frameNow_106 : decode cX11_frameNow 106 = .ok (.iastore, 1) := by decide +kernel
theorem dX11_frameNow_107 : decode cX11_frameNow 107 = .ok (.iinc 3 1, 3) := by decide +kernel
theorem dX11_frameNow_110 : decode cX11_frameNow 110 = .ok (.goto (-101), 3) := by decide +kernel
theorem dX11_frameNow_113 : decode cX11_frameNow 113 = .ok (.aload_n 0, 1) := by decide +kernel
theorem dX11_frameNow_114 : decode cX11_frameNow 114 = .ok (.aload_n 0, 1) := by decide +kernel
theorem dX11_frameNow_115 : decode cX11_frameNow 115 = .ok (.getfield 140, 3) := by decide +kernel
theorem dX11_frameNow_118 : decode cX11_frameNow 118 = .ok (.iload_n 1, 1) := by decide +kernel
theorem dX11_frameNow_119 : decode cX11_frameNow 119 = .ok (.ldc_w 283, 3) := by decide +kernel
theorem dX11_frameNow_122 : decode cX11_frameNow 122 = .ok (.iadd, 1) := by decide +kernel
theorem dX11_frameNow_123 : decode cX11_frameNow 123 = .ok (.if_icmp .ge 11, 3) := by decide +kernel
theorem dX11_frameNow_126 : decode cX11_frameNow 126 = .ok (.iload_n 1, 1) := by decide +kernel
theorem dX11_frameNow_127 : decode cX11_frameNow 127 = .ok (.ldc_w 283, 3) := by decide +kernel
theorem dX11_frameNow_130 : decode cX11_frameNow 130 = .ok (.iadd, 1) := by decide +kernel
theorem dX11_frameNow_131 : decode cX11_frameNow 131 = .ok (.goto 7, 3) := by decide +kernel
theorem dX11_frameNow_134 : decode cX11_frameNow 134 = .ok (.aload_n 0, 1) := by decide +kernel
theorem dX11_frameNow_135 : decode cX11_frameNow 135 = .ok (.getfield 140, 3) := by decide +kernel
theorem dX11_frameNow_138 : decode cX11_frameNow 138 = .ok (.putfield 140, 3) := by decide +kernel
theorem dX11_frameNow_141 : decode cX11_frameNow 141 = .ok (.aload_n 0, 1) := by decide +kernel
theorem dX11_frameNow_142 : decode cX11_frameNow 142 = .ok (.dup, 1) := by decide +kernel
theorem dX11_frameNow_143 : decode cX11_frameNow 143 = .ok (.getfield 284, 3) := by decide +kernel
theorem dX11_frameNow_146 : decode cX11_frameNow 146 = .ok (.iconst 1, 1) := by decide +kernel
theorem dX11_frameNow_147 : decode cX11_frameNow 147 = .ok (.iadd, 1) := by decide +kernel
theorem dX11_frameNow_148 : decode cX11_frameNow 148 = .ok (.putfield 284, 3) := by decide +kernel
theorem dX11_frameNow_151 : decode cX11_frameNow 151 = .ok (.iload_n 2, 1) := by decide +kernel
theorem dX11_frameNow_152 : decode cX11_frameNow 152 = .ok (.ireturn, 1) := by decide +kernel
set_option maxRecDepth 20000 in
theorem ggX11_frame_X11_isField : GoodIn wsX11_frame wsX11_isField := goodIn_r _ [9, 10, 86, 87, 88, 89, 90, 91, 92, 93, 94, 95, 96, 97, 98, 99, 100, 101, 102, 103, 104, 105, 106, 107, 108, 109, 110, 111, 112, 113, 114, 115, 116, 117, 118, 119, 120, 121, 122, 123, 124, 125, 126, 127] (by decide +kernel) (by decide +kernel)
set_option maxRecDepth 20000 in
theorem gX11_frame_X11_isField : GoodIn wsX11_frame (wsV RX11 196 RX11 yX11_isField wsX11_isField) := goodIn_app (goodIn_of _ (by decide +kernel)) ggX11_frame_X11_isField
set_option maxRecDepth 20000 in
theorem ggX11_frame_X11_frameNow : GoodIn wsX11_frame wsX11_frameNow := goodIn_r _ [14, 1, 15, 16, 17, 2, 18, 19, 20, 21, 8, 22, 23, 24, 25, 26, 27, 28, 29, 30, 31, 32, 33, 34, 35, 36, 37, 38, 39, 40, 41, 42, 43, 44, 45, 46, 47, 48, 49, 50, 51, 52, 53, 54, 55, 56, 57, 58, 59, 60, 61, 62, 63, 64, 65, 66, 67, 68, 69, 70, 71, 72, 73, 74, 75, 76, 77, 78, 79, 80, 81, 82, 83, 84, 10, 85, 86, 87, 88, 89, 90, 91, 92, 93, 94, 95, 96, 97, 98, 99, 100, 101, 102, 103, 104, 105, 106, 107, 108, 109, 110, 111, 112, 113, 114, 115, 116, 117, 118, 119, 120, 121, 122, 123, 124, 125, 126, 127] (by decide +kernel) (by decide +kernel)
set_option maxRecDepth 20000 in
theorem gX11_frame_X11_frameNow : GoodIn wsX11_frame (wsV RX11 287 RX11 yX11_frameNow wsX11_frameNow) := goodIn_app (goodIn_of _ (by decide +kernel)) ggX11_frame_X11_frameNow
theorem dX11_frame_0 : decode cX11_frame 0 = .ok (.aload_n 0, 1) := by decide +kernel
theorem dX11_frame_1 : decode cX11_frame 1 = .ok (.invokevirtual 196, 3) := by decide +kernel
theorem dX11_frame_4 : decode cX11_frame 4 = .ok (.ifCond .eq 23, 3) := by decide +kernel
theorem dX11_frame_7 : decode cX11_frame 7 = .ok (.aload_n 0, 1) := by decide +kernel
theorem dX11_frame_8 : decode cX11_frame 8 = .ok (.getfield 140, 3) := by decide +kernel
theorem dX11_frame_11 : decode cX11_frame 11 = .ok (.ldc_w 283, 3) := by decide +kernel
theorem dX11_frame_14 : decode cX11_frame 14 = .ok (.iadd, 1) := by decide +kernel
theorem dX11_frame_15 : decode cX11_frame 15 = .ok (.ldc 236, 2) := by decide +kernel
theorem dX11_frame_17 : decode cX11_frame 17 = .ok (.if_icmp .gt 10, 3) := by decide +kernel
theorem dX11_frame_20 : decode cX11_frame 20 = .ok (.aload_n 0, 1) := by decide +kernel
theorem dX11_frame_21 : decode cX11_frame 21 = .ok (.invokevirtual 287, 3) := by decide +kernel
theorem dX11_frame_24 : decode cX11_frame 24 = .ok (.goto 5, 3) := by decide +kernel
theorem dX11_frame_27 : decode cX11_frame 27 = .ok (.ldc 152, 2) := by decide +kernel
theorem dX11_frame_29 : decode cX11_frame 29 = .ok (.ireturn, 1) := by decide +kernel
theorem dX11_tagsMany_0 : decode cX11_tagsMany 0 = .ok (.iconst 0, 1) := by decide +kernel
theorem dX11_tagsMany_1 : decode cX11_tagsMany 1 = .ok (.istore_n 1, 1) := by decide +kernel
theorem dX11_tagsMany_2 : decode cX11_tagsMany 2 = .ok (.iconst 0, 1) := by decide +kernel
theorem dX11_tagsMany_3 : decode cX11_tagsMany 3 = .ok (.istore_n 2, 1) := by decide +kernel
theorem dX11_tagsMany_4 : decode cX11_tagsMany 4 = .ok (.iload_n 2, 1) := by decide +kernel
theorem dX11_tagsMany_5 : decode cX11_tagsMany 5 = .ok (.aload_n 0, 1) := by decide +kernel
theorem dX11_tagsMany_6 : decode cX11_tagsMany 6 = .ok (.getfield 129, 3) := by decide +kernel
theorem dX11_tagsMany_9 : decode cX11_tagsMany 9 = .ok (.if_icmp .ge 26, 3) := by decide +kernel
theorem dX11_tagsMany_12 : decode cX11_tagsMany 12 = .ok (.iload_n 1, 1) := by decide +kernel
theorem dX11_tagsMany_13 : decode cX11_tagsMany 13 = .ok (.aload_n 0, 1) := by decide +kernel
theorem dX11_tagsMany_14 : decode cX11_tagsMany 14 = .ok (.getfield 13, 3) := by decide +kernel
theorem dX11_tagsMany_17 : decode cX11_tagsMany 17 = .ok (.iload_n 2, 1) := by decide +kernel
theorem dX11_tagsMany_18 : decode cX11_tagsMany 18 = .ok (.baload, 1) := by decide +kernel
theorem dX11_tagsMany_19 : decode cX11_tagsMany 19 = .ok (.ifCond .eq 7, 3) := by decide +kernel
theorem dX11_tagsMany_22 : decode cX11_tagsMany 22 = .ok (.iconst 1, 1) := by decide +kernel
theorem dX11_tagsMany_23 : decode cX11_tagsMany 23 = .ok (.goto 4, 3) := by decide +kernel
theorem dX11_tagsMany_26 : decode cX11_tagsMany 26 = .ok (.iconst 0, 1) := by decide +kernel
theorem dX11_tagsMany_27 : decode cX11_tagsMany 27 = .ok (.iadd, 1) := by decide +kernel
theorem dX11_tagsMany_28 : decode cX11_tagsMany 28 = .ok (.istore_n 1, 1) := by decide +kernel
theorem dX11_tagsMany_29 : decode cX11_tagsMany 29 = .ok (.iinc 2 1, 3) := by decide +kernel
theorem dX11_tagsMany_32 : decode cX11_tagsMany 32 = .ok (.goto (-28), 3) := by decide +kernel
theorem dX11_tagsMany_35 : decode cX11_tagsMany 35 = .ok (.iload_n 1, 1) := by decide +kernel
theorem dX11_tagsMany_36 : decode cX11_tagsMany 36 = .ok (.ireturn, 1) := by decide +kernel
theorem dX11_dealtMany_0 : decode cX11_dealtMany 0 = .ok (.iconst 0, 1) := by decide +kernel
theorem dX11_dealtMany_1 : decode cX11_dealtMany 1 = .ok (.istore_n 1, 1) := by decide +kernel
theorem dX11_dealtMany_2 : decode cX11_dealtMany 2 = .ok (.iconst 0, 1) := by decide +kernel
theorem dX11_dealtMany_3 : decode cX11_dealtMany 3 = .ok (.istore_n 2, 1) := by decide +kernel
theorem dX11_dealtMany_4 : decode cX11_dealtMany 4 = .ok (.iload_n 2, 1) := by decide +kernel
theorem dX11_dealtMany_5 : decode cX11_dealtMany 5 = .ok (.bipush 16, 2) := by decide +kernel
theorem dX11_dealtMany_7 : decode cX11_dealtMany 7 = .ok (.if_icmp .ge 27, 3) := by decide +kernel
theorem dX11_dealtMany_10 : decode cX11_dealtMany 10 = .ok (.iload_n 1, 1) := by decide +kernel
theorem dX11_dealtMany_11 : decode cX11_dealtMany 11 = .ok (.aload_n 0, 1) := by decide +kernel
theorem dX11_dealtMany_12 : decode cX11_dealtMany 12 = .ok (.getfield 53, 3) := by decide +kernel
theorem dX11_dealtMany_15 : decode cX11_dealtMany 15 = .ok (.iload_n 2, 1) := by decide +kernel
theorem dX11_dealtMany_16 : decode cX11_dealtMany 16 = .ok (.iaload, 1) := by decide +kernel
theorem dX11_dealtMany_17 : decode cX11_dealtMany 17 = .ok (.iconst (-1), 1) := by decide +kernel
theorem dX11_dealtMany_18 : decode cX11_dealtMany 18 = .ok (.if_icmp .ne 7, 3) := by decide +kernel
theorem dX11_dealtMany_21 : decode cX11_dealtMany 21 = .ok (.iconst 0, 1) := by decide +kernel
theorem dX11_dealtMany_22 : decode cX11_dealtMany 22 = .ok (.goto 4, 3) := by decide +kernel
theorem dX11_dealtMany_25 : decode cX11_dealtMany 25 = .ok (.iconst 1, 1) := by decide +kernel
theorem dX11_dealtMany_26 : decode cX11_dealtMany 26 = .ok (.iadd, 1) := by decide +kernel
theorem dX11_dealtMany_27 : decode cX11_dealtMany 27 = .ok (.istore_n 1, 1) := by decide +kernel
theorem dX11_dealtMany_28 : decode cX11_dealtMany 28 = .ok (.iinc 2 1, 3) := by decide +kernel
theorem dX11_dealtMany_31 : decode cX11_dealtMany 31 = .ok (.goto (-27), 3) := by decide +kernel
theorem dX11_dealtMany_34 : decode cX11_dealtMany 34 = .ok (.iload_n 1, 1) := by decide +kernel
theorem dX11_dealtMany_35 : decode cX11_dealtMany 35 = .ok (.ireturn, 1) := by decide +kernel
set_option maxRecDepth 20000 in
theorem ggX11_placedMany_X11_isPlaced : GoodIn wsX11_placedMany wsX11_isPlaced := goodIn_r _ [7, 8, 9, 10, 6, 11, 1, 2, 12, 13, 14, 15, 16, 17, 18, 19, 20, 21, 22, 23, 24, 25, 26, 27, 28, 29, 30, 31, 32, 33, 34, 35, 36, 37, 38, 39, 40, 41, 42, 43, 44, 45, 46, 47, 48, 49, 50, 51, 52, 53, 54, 55, 56, 57, 58, 59, 60] (by decide +kernel) (by decide +kernel)
set_option maxRecDepth 20000 in
theorem gX11_placedMany_X11_isPlaced : GoodIn wsX11_placedMany (wsV RX11 268 RX11 yX11_isPlaced wsX11_isPlaced) := goodIn_app (goodIn_of _ (by decide +kernel)) ggX11_placedMany_X11_isPlaced
theorem dX11_placedMany_0 : decode cX11_placedMany 0 = .ok (.iconst 0, 1) := by decide +kernel
theorem dX11_placedMany_1 : decode cX11_placedMany 1 = .ok (.istore_n 1, 1) := by decide +kernel
theorem dX11_placedMany_2 : decode cX11_placedMany 2 = .ok (.iconst 0, 1) := by decide +kernel
theorem dX11_placedMany_3 : decode cX11_placedMany 3 = .ok (.istore_n 2, 1) := by decide +kernel
theorem dX11_placedMany_4 : decode cX11_placedMany 4 = .ok (.iload_n 2, 1) := by decide +kernel
theorem dX11_placedMany_5 : decode cX11_placedMany 5 = .ok (.aload_n 0, 1) := by decide +kernel
theorem dX11_placedMany_6 : decode cX11_placedMany 6 = .ok (.getfield 129, 3) := by decide +kernel
theorem dX11_placedMany_9 : decode cX11_placedMany 9 = .ok (.if_icmp .ge 34, 3) := by decide +kernel
theorem dX11_placedMany_12 : decode cX11_placedMany 12 = .ok (.iload_n 1, 1) := by decide +kernel
theorem dX11_placedMany_13 : decode cX11_placedMany 13 = .ok (.aload_n 0, 1) := by decide +kernel
theorem dX11_placedMany_14 : decode cX11_placedMany 14 = .ok (.getfield 13, 3) := by decide +kernel
theorem dX11_placedMany_17 : decode cX11_placedMany 17 = .ok (.iload_n 2, 1) := by decide +kernel
theorem dX11_placedMany_18 : decode cX11_placedMany 18 = .ok (.baload, 1) := by decide +kernel
theorem dX11_placedMany_19 : decode cX11_placedMany 19 = .ok (.ifCond .eq 15, 3) := by decide +kernel
theorem dX11_placedMany_22 : decode cX11_placedMany 22 = .ok (.aload_n 0, 1) := by decide +kernel
theorem dX11_placedMany_23 : decode cX11_placedMany 23 = .ok (.iload_n 2, 1) := by decide +kernel
theorem dX11_placedMany_24 : decode cX11_placedMany 24 = .ok (.invokevirtual 268, 3) := by decide +kernel
theorem dX11_placedMany_27 : decode cX11_placedMany 27 = .ok (.ifCond .eq 7, 3) := by decide +kernel
theorem dX11_placedMany_30 : decode cX11_placedMany 30 = .ok (.iconst 1, 1) := by decide +kernel
theorem dX11_placedMany_31 : decode cX11_placedMany 31 = .ok (.goto 4, 3) := by decide +kernel
theorem dX11_placedMany_34 : decode cX11_placedMany 34 = .ok (.iconst 0, 1) := by decide +kernel
theorem dX11_placedMany_35 : decode cX11_placedMany 35 = .ok (.iadd, 1) := by decide +kernel
theorem dX11_placedMany_36 : decode cX11_placedMany 36 = .ok (.istore_n 1, 1) := by decide +kernel
theorem dX11_placedMany_37 : decode cX11_placedMany 37 = .ok (.iinc 2 1, 3) := by decide +kernel
theorem dX11_placedMany_40 : decode cX11_placedMany 40 = .ok (.goto (-36), 3) := by decide +kernel
theorem dX11_placedMany_43 : decode cX11_placedMany 43 = .ok (.iload_n 1, 1) := by decide +kernel
theorem dX11_placedMany_44 : decode cX11_placedMany 44 = .ok (.ireturn, 1) := by decide +kernel
set_option maxRecDepth 20000 in
theorem ggX11_aboutNow_X11_tagsMany : GoodIn wsX11_aboutNow wsX11_tagsMany := goodIn_r _ [9, 1, 10, 35, 36, 37, 38, 39, 40, 41, 42, 43, 44, 45, 46, 47, 48, 49, 50, 51, 52, 53, 54, 55, 56, 57, 58, 59, 60, 61, 62, 63, 64, 65, 66, 67, 68, 69, 70, 71, 72, 73, 74, 75, 76] (by decide +kernel) (by decide +kernel)
set_option maxRecDepth 20000 in
theorem gX11_aboutNow_X11_tagsMany : GoodIn wsX11_aboutNow (wsV RX11 290 RX11 yX11_tagsMany wsX11_tagsMany) := goodIn_app (goodIn_of _ (by decide +kernel)) ggX11_aboutNow_X11_tagsMany
set_option maxRecDepth 20000 in
theorem ggX11_aboutNow_X11_dealtMany : GoodIn wsX11_aboutNow wsX11_dealtMany := goodIn_r _ [14, 15, 35, 36, 37, 38, 39, 40, 41, 42, 43, 44, 45, 46, 47, 48, 49, 50, 51, 52, 53, 54, 55, 56, 57, 58, 59, 60, 61, 62, 63, 64, 65, 66, 67, 68, 69, 70, 71, 72, 73, 74, 75, 76] (by decide +kernel) (by decide +kernel)
set_option maxRecDepth 20000 in
theorem gX11_aboutNow_X11_dealtMany : GoodIn wsX11_aboutNow (wsV RX11 293 RX11 yX11_dealtMany wsX11_dealtMany) := goodIn_app (goodIn_of _ (by decide +kernel)) ggX11_aboutNow_X11_dealtMany
set_option maxRecDepth 20000 in
theorem ggX11_aboutNow_X11_placedMany : GoodIn wsX11_aboutNow wsX11_placedMany := goodIn_r _ [19, 1, 10, 20, 21, 22, 8, 23, 24, 25, 26, 27, 28, 29, 30, 31, 32, 33, 34, 35, 36, 37, 38, 39, 40, 41, 42, 43, 44, 45, 46, 47, 48, 49, 50, 51, 52, 53, 54, 55, 56, 57, 58, 59, 60, 61, 62, 63, 64, 65, 66, 67, 68, 69, 70, 71, 72, 73, 74, 75, 76] (by decide +kernel) (by decide +kernel)
set_option maxRecDepth 20000 in
theorem gX11_aboutNow_X11_placedMany : GoodIn wsX11_aboutNow (wsV RX11 296 RX11 yX11_placedMany wsX11_placedMany) := goodIn_app (goodIn_of _ (by decide +kernel)) ggX11_aboutNow_X11_placedMany
theorem dX11_aboutNow_0 : decode cX11_aboutNow 0 = .ok (.iload_n 1, 1) := by decide +kernel
theorem dX11_aboutNow_1 : decode cX11_aboutNow 1 = .ok (.tableswitch 83 0 6 #[43, 48, 53, 63, 68, 73, 78], 43) := by decide +kernel
theorem dX11_aboutNow_44 : decode cX11_aboutNow 44 = .ok (.aload_n 0, 1) := by decide +kernel
theorem dX11_aboutNow_45 : decode cX11_aboutNow 45 = .ok (.getfield 129, 3) := by decide +kernel
theorem dX11_aboutNow_48 : decode cX11_aboutNow 48 = .ok (.ireturn, 1) := by decide +kernel
theorem dX11_aboutNow_49 : decode cX11_aboutNow 49 = .ok (.aload_n 0, 1) := by decide +kernel
theorem dX11_aboutNow_50 : decode cX11_aboutNow 50 = .ok (.invokevirtual 290, 3) := by decide +kernel
theorem dX11_aboutNow_53 : decode cX11_aboutNow 53 = .ok (.ireturn, 1) := by decide +kernel
theorem dX11_aboutNow_54 : decode cX11_aboutNow 54 = .ok (.aload_n 0, 1) := by decide +kernel
theorem dX11_aboutNow_55 : decode cX11_aboutNow 55 = .ok (.getfield 129, 3) := by decide +kernel
theorem dX11_aboutNow_58 : decode cX11_aboutNow 58 = .ok (.aload_n 0, 1) := by decide +kernel
theorem dX11_aboutNow_59 : decode cX11_aboutNow 59 = .ok (.invokevirtual 290, 3) := by decide +kernel
theorem dX11_aboutNow_62 : decode cX11_aboutNow 62 = .ok (.isub, 1) := by decide +kernel
theorem dX11_aboutNow_63 : decode cX11_aboutNow 63 = .ok (.ireturn, 1) := by decide +kernel
theorem dX11_aboutNow_64 : decode cX11_aboutNow 64 = .ok (.aload_n 0, 1) := by decide +kernel
theorem dX11_aboutNow_65 : decode cX11_aboutNow 65 = .ok (.getfield 140, 3) := by decide +kernel
theorem dX11_aboutNow_68 : decode cX11_aboutNow 68 = .ok (.ireturn, 1) := by decide +kernel
theorem dX11_aboutNow_69 : decode cX11_aboutNow 69 = .ok (.aload_n 0, 1) := by decide +kernel
theorem dX11_aboutNow_70 : decode cX11_aboutNow 70 = .ok (.getfield 143, 3) := by decide +kernel
theorem dX11_aboutNow_73 : decode cX11_aboutNow 73 = .ok (.ireturn, 1) := by decide +kernel
theorem dX11_aboutNow_74 : decode cX11_aboutNow 74 = .ok (.aload_n 0, 1) := by decide +kernel
theorem dX11_aboutNow_75 : decode cX11_aboutNow 75 = .ok (.getfield 146, 3) := by decide +kernel
theorem dX11_aboutNow_78 : decode cX11_aboutNow 78 = .ok (.ireturn, 1) := by decide +kernel
theorem dX11_aboutNow_79 : decode cX11_aboutNow 79 = .ok (.aload_n 0, 1) := by decide +kernel
theorem dX11_aboutNow_80 : decode cX11_aboutNow 80 = .ok (.invokevirtual 293, 3) := by decide +kernel
theorem dX11_aboutNow_83 : decode cX11_aboutNow 83 = .ok (.ireturn, 1) := by decide +kernel
theorem dX11_aboutNow_84 : decode cX11_aboutNow 84 = .ok (.aload_n 0, 1) := by decide +kernel
theorem dX11_aboutNow_85 : decode cX11_aboutNow 85 = .ok (.invokevirtual 296, 3) := by decide +kernel
theorem dX11_aboutNow_88 : decode cX11_aboutNow 88 = .ok (.ireturn, 1) := by decide +kernel
set_option maxRecDepth 20000 in
theorem ggX11_about_X11_isField : GoodIn wsX11_about wsX11_isField := goodIn_r _ [7, 8, 48, 49, 50, 51, 52, 53, 54, 55, 56, 57, 58, 59, 60, 61, 62, 63, 64, 65, 66, 67, 68, 69, 70, 71, 72, 73, 74, 75, 76, 77, 78, 79, 80, 81, 82, 83, 84, 85, 86, 87, 88, 89] (by decide +kernel) (by decide +kernel)
set_option maxRecDepth 20000 in
theorem gX11_about_X11_isField : GoodIn wsX11_about (wsV RX11 196 RX11 yX11_isField wsX11_isField) := goodIn_app (goodIn_of _ (by decide +kernel)) ggX11_about_X11_isField
set_option maxRecDepth 20000 in
theorem ggX11_about_X11_within : GoodIn wsX11_about wsX11_within := goodIn_r _ [11] (by decide +kernel) (by decide +kernel)
set_option maxRecDepth 20000 in
theorem gX11_about_X11_within : GoodIn wsX11_about (va_wsS RX11 77 yX11_within wsX11_within) := goodIn_app (goodIn_of _ (by decide +kernel)) ggX11_about_X11_within
set_option maxRecDepth 20000 in
theorem ggX11_about_X11_aboutNow : GoodIn wsX11_about wsX11_aboutNow := goodIn_r _ [15, 8, 16, 17, 18, 19, 20, 21, 6, 22, 23, 24, 25, 26, 27, 28, 29, 30, 31, 32, 33, 34, 35, 36, 37, 38, 39, 40, 41, 42, 43, 44, 45, 46, 47, 48, 49, 50, 51, 52, 53, 54, 55, 56, 57, 58, 59, 60, 61, 62, 63, 64, 65, 66, 67, 68, 69, 70, 71, 72, 73, 74, 75, 76, 77, 78, 79, 80, 81, 82, 83, 84, 85, 86, 87, 88, 89] (by decide +kernel) (by decide +kernel)
set_option maxRecDepth 20000 in
theorem gX11_about_X11_aboutNow : GoodIn wsX11_about (wsV RX11 299 RX11 yX11_aboutNow wsX11_aboutNow) := goodIn_app (goodIn_of _ (by decide +kernel)) ggX11_about_X11_aboutNow
theorem dX11_about_0 : decode cX11_about 0 = .ok (.aload_n 0, 1) := by decide +kernel
theorem dX11_about_1 : decode cX11_about 1 = .ok (.invokevirtual 196, 3) := by decide +kernel
theorem dX11_about_4 : decode cX11_about 4 = .ok (.ifCond .ne 6, 3) := by decide +kernel
theorem dX11_about_7 : decode cX11_about 7 = .ok (.ldc 152, 2) := by decide +kernel
theorem dX11_about_9 : decode cX11_about 9 = .ok (.ireturn, 1) := by decide +kernel
theorem dX11_about_10 : decode cX11_about 10 = .ok (.iload_n 1, 1) := by decide +kernel
theorem dX11_about_11 : decode cX11_about 11 = .ok (.iconst 0, 1) := by decide +kernel
theorem dX11_about_12 : decode cX11_about 12 = .ok (.bipush 7, 2) := by decide +kernel
theorem dX11_about_14 : decode cX11_about 14 = .ok (.invokestatic 77, 3) := by decide +kernel
theorem dX11_about_17 : decode cX11_about 17 = .ok (.ifCond .eq 11, 3) := by decide +kernel
theorem dX11_about_20 : decode cX11_about 20 = .ok (.aload_n 0, 1) := by decide +kernel
theorem dX11_about_21 : decode cX11_about 21 = .ok (.iload_n 1, 1) := by decide +kernel
theorem dX11_about_22 : decode cX11_about 22 = .ok (.invokevirtual 299, 3) := by decide +kernel
theorem dX11_about_25 : decode cX11_about 25 = .ok (.goto 5, 3) := by decide +kernel
theorem dX11_about_28 : decode cX11_about 28 = .ok (.ldc 81, 2) := by decide +kernel
theorem dX11_about_30 : decode cX11_about 30 = .ok (.ireturn, 1) := by decide +kernel
theorem dX11_howMany_0 : decode cX11_howMany 0 = .ok (.iload_n 1, 1) := by decide +kernel
theorem dX11_howMany_1 : decode cX11_howMany 1 = .ok (.tableswitch 60 0 4 #[35, 40, 45, 50, 55], 35) := by decide +kernel
theorem dX11_howMany_36 : decode cX11_howMany 36 = .ok (.aload_n 0, 1) := by decide +kernel
theorem dX11_howMany_37 : decode cX11_howMany 37 = .ok (.getfield 82, 3) := by decide +kernel
theorem dX11_howMany_40 : decode cX11_howMany 40 = .ok (.ireturn, 1) := by decide +kernel
theorem dX11_howMany_41 : decode cX11_howMany 41 = .ok (.aload_n 0, 1) := by decide +kernel
theorem dX11_howMany_42 : decode cX11_howMany 42 = .ok (.getfield 208, 3) := by decide +kernel
theorem dX11_howMany_45 : decode cX11_howMany 45 = .ok (.ireturn, 1) := by decide +kernel
theorem dX11_howMany_46 : decode cX11_howMany 46 = .ok (.aload_n 0, 1) := by decide +kernel
theorem dX11_howMany_47 : decode cX11_howMany 47 = .ok (.getfield 211, 3) := by decide +kernel
theorem dX11_howMany_50 : decode cX11_howMany 50 = .ok (.ireturn, 1) := by decide +kernel
theorem dX11_howMany_51 : decode cX11_howMany 51 = .ok (.aload_n 0, 1) := by decide +kernel
theorem dX11_howMany_52 : decode cX11_howMany 52 = .ok (.getfield 156, 3) := by decide +kernel
theorem dX11_howMany_55 : decode cX11_howMany 55 = .ok (.ireturn, 1) := by decide +kernel
theorem dX11_howMany_56 : decode cX11_howMany 56 = .ok (.aload_n 0, 1) := by decide +kernel
theorem dX11_howMany_57 : decode cX11_howMany 57 = .ok (.getfield 284, 3) := by decide +kernel
theorem dX11_howMany_60 : decode cX11_howMany 60 = .ok (.ireturn, 1) := by decide +kernel
theorem dX11_howMany_61 : decode cX11_howMany 61 = .ok (.ldc 81, 2) := by decide +kernel
theorem dX11_howMany_63 : decode cX11_howMany 63 = .ok (.ireturn, 1) := by decide +kernel
set_option maxRecDepth 20000 in
theorem ggX11_count_X11_howMany : GoodIn wsX11_count wsX11_howMany := goodIn_r _ [5, 6, 7, 8, 9, 10, 11, 12, 13, 14, 15, 16, 17, 18, 19, 20, 21, 22, 23, 24, 25, 26, 27, 28, 29, 30, 31, 32, 33, 34, 35, 36, 37, 38, 39, 40, 41, 42, 43, 44, 45, 46, 47, 48, 49, 50, 51, 52, 53] (by decide +kernel) (by decide +kernel)
set_option maxRecDepth 20000 in
theorem gX11_count_X11_howMany : GoodIn wsX11_count (wsV RX11 302 RX11 yX11_howMany wsX11_howMany) := goodIn_app (goodIn_of _ (by decide +kernel)) ggX11_count_X11_howMany
theorem dX11_count_0 : decode cX11_count 0 = .ok (.aload_n 0, 1) := by decide +kernel
theorem dX11_count_1 : decode cX11_count 1 = .ok (.iload_n 1, 1) := by decide +kernel
theorem dX11_count_2 : decode cX11_count 2 = .ok (.invokevirtual 302, 3) := by decide +kernel
theorem dX11_count_5 : decode cX11_count 5 = .ok (.ireturn, 1) := by decide +kernel
theorem dX11_mix_0 : decode cX11_mix 0 = .ok (.aload_n 0, 1) := by decide +kernel
theorem dX11_mix_1 : decode cX11_mix 1 = .ok (.ldc2_w 305, 3) := by decide +kernel
theorem dX11_mix_4 : decode cX11_mix 4 = .ok (.aload_n 0, 1) := by decide +kernel
theorem dX11_mix_5 : decode cX11_mix 5 = .ok (.getfield 307, 3) := by decide +kernel
theorem dX11_mix_8 : decode cX11_mix 8 = .ok (.lmul, 1) := by decide +kernel
theorem dX11_mix_9 : decode cX11_mix 9 = .ok (.lload_n 1, 1) := by decide +kernel
theorem dX11_mix_10 : decode cX11_mix 10 = .ok (.ladd, 1) := by decide +kernel
theorem dX11_mix_11 : decode cX11_mix 11 = .ok (.putfield 307, 3) := by decide +kernel
theorem dX11_mix_14 : decode cX11_mix 14 = .ok (.return_, 1) := by decide +kernel
set_option maxRecDepth 20000 in
theorem ggX11_mixPairs_X11_isPair : GoodIn wsX11_mixPairs wsX11_isPair := goodIn_r _ [9, 10, 11, 12, 13, 8, 14, 1, 15, 16, 17, 75, 76, 77, 78, 79, 80, 81, 82, 83, 84, 85, 86, 87, 88, 89, 90, 91, 92, 93, 94, 95, 96, 97, 98, 99, 100, 101, 102, 103, 104, 105, 106, 107, 108, 109, 110, 111, 112, 113, 114, 115, 116] (by decide +kernel) (by decide +kernel)
set_option maxRecDepth 20000 in
theorem gX11_mixPairs_X11_isPair : GoodIn wsX11_mixPairs (wsV RX11 186 RX11 yX11_isPair wsX11_isPair) := goodIn_app (goodIn_of _ (by decide +kernel)) ggX11_mixPairs_X11_isPair
set_option maxRecDepth 20000 in
theorem ggX11_mixPairs_X11_flightOf : GoodIn wsX11_mixPairs wsX11_flightOf := goodIn_r _ [21, 22, 23, 24, 25, 8, 26, 27, 28, 29, 75, 76, 77, 78, 79, 80, 81, 82, 83, 84, 85, 86, 87, 88, 89, 90, 91, 92, 93, 94, 95, 96, 97, 98, 99, 100, 101, 102, 103, 104, 105, 106, 107, 108, 109, 110, 111, 112, 113, 114, 115, 116] (by decide +kernel) (by decide +kernel)
set_option maxRecDepth 20000 in
theorem gX11_mixPairs_X11_flightOf : GoodIn wsX11_mixPairs (wsV RX11 182 RX11 yX11_flightOf wsX11_flightOf) := goodIn_app (goodIn_of _ (by decide +kernel)) ggX11_mixPairs_X11_flightOf
set_option maxRecDepth 20000 in
theorem ggX11_mixPairs_X11_mix : GoodIn wsX11_mixPairs wsX11_mix := goodIn_r _ [33, 34, 35, 75, 76, 77, 78, 79, 80, 81, 82, 83, 84, 85, 86, 87, 88, 89, 90, 91, 92, 93, 94, 95, 96, 97, 98, 99, 100, 101, 102, 103, 104, 105, 106, 107, 108, 109, 110, 111, 112, 113, 114, 115, 116] (by decide +kernel) (by decide +kernel)
set_option maxRecDepth 20000 in
theorem gX11_mixPairs_X11_mix : GoodIn wsX11_mixPairs (wsV RX11 311 RX11 yX11_mix wsX11_mix) := goodIn_app (goodIn_of _ (by decide +kernel)) ggX11_mixPairs_X11_mix
set_option maxRecDepth 20000 in
theorem ggX11_mixPairs_X11_firstExtra : GoodIn wsX11_mixPairs wsX11_firstExtra := goodIn_r _ [39, 40, 41, 42, 43, 44, 45, 8, 46, 75, 76, 77, 78, 79, 80, 81, 82, 83, 84, 85, 86, 87, 88, 89, 90, 91, 92, 93, 94, 95, 96, 97, 98, 99, 100, 101, 102, 103, 104, 105, 106, 107, 108, 109, 110, 111, 112, 113, 114, 115, 116] (by decide +kernel) (by decide +kernel)
set_option maxRecDepth 20000 in
theorem gX11_mixPairs_X11_firstExtra : GoodIn wsX11_mixPairs (wsV RX11 193 RX11 yX11_firstExtra wsX11_firstExtra) := goodIn_app (goodIn_of _ (by decide +kernel)) ggX11_mixPairs_X11_firstExtra
set_option maxRecDepth 20000 in
theorem ggX11_mixPairs_X11_rangeNow : GoodIn wsX11_mixPairs wsX11_rangeNow := goodIn_r _ [50, 51, 52, 44, 45, 8, 46, 75, 76, 77, 78, 79, 80, 81, 82, 83, 84, 85, 86, 87, 88, 89, 90, 91, 92, 93, 94, 95, 96, 97, 98, 99, 100, 101, 102, 103, 104, 105, 106, 107, 108, 109, 110, 111, 112, 113, 114, 115, 116] (by decide +kernel) (by decide +kernel)
set_option maxRecDepth 20000 in
theorem gX11_mixPairs_X11_rangeNow : GoodIn wsX11_mixPairs (wsV RX11 243 RX11 yX11_rangeNow wsX11_rangeNow) := goodIn_app (goodIn_of _ (by decide +kernel)) ggX11_mixPairs_X11_rangeNow
set_option maxRecDepth 20000 in
theorem ggX11_mixPairs_X11_lastNow : GoodIn wsX11_mixPairs wsX11_lastNow := goodIn_r _ [56, 57, 58, 3, 4, 59, 18, 19, 20, 8, 21, 22, 23, 24, 25, 26, 27, 28, 29, 75, 76, 77, 78, 79, 80, 81, 82, 83, 84, 85, 86, 87, 88, 89, 90, 91, 92, 93, 94, 95, 96, 97, 98, 99, 100, 101, 102, 103, 104, 105, 106, 107, 108, 109, 110, 111, 112, 113, 114, 115, 116] (by decide +kernel) (by decide +kernel)
set_option maxRecDepth 20000 in
theorem gX11_mixPairs_X11_lastNow : GoodIn wsX11_mixPairs (wsV RX11 237 RX11 yX11_lastNow wsX11_lastNow) := goodIn_app (goodIn_of _ (by decide +kernel)) ggX11_mixPairs_X11_lastNow
set_option maxRecDepth 20000 in
theorem ggX11_mixPairs_X11_heardNow : GoodIn wsX11_mixPairs wsX11_heardNow := goodIn_r _ [63, 64, 4, 3, 59, 58, 18, 19, 20, 8, 21, 22, 23, 24, 25, 26, 27, 28, 29, 65, 66, 67, 68, 69, 70, 71, 72, 73, 74, 75, 76, 77, 78, 79, 80, 81, 82, 83, 84, 85, 86, 87, 88, 89, 90, 91, 92, 93, 94, 95, 96, 97, 98, 99, 100, 101, 102, 103, 104, 105, 106, 107, 108, 109, 110, 111, 112, 113, 114, 115, 116] (by decide +kernel) (by decide +kernel)
set_option maxRecDepth 20000 in
theorem gX11_mixPairs_X11_heardNow : GoodIn wsX11_mixPairs (wsV RX11 240 RX11 yX11_heardNow wsX11_heardNow) := goodIn_app (goodIn_of _ (by decide +kernel)) ggX11_mixPairs_X11_heardNow
theorem dX11_mixPairs_0 : decode cX11_mixPairs 0 = .ok (.iconst 0, 1) := by decide +kernel
theorem dX11_mixPairs_1 : decode cX11_mixPairs 1 = .ok (.istore_n 1, 1) := by decide +kernel
theorem dX11_mixPairs_2 : decode cX11_mixPairs 2 = .ok (.iload_n 1, 1) := by decide +kernel
theorem dX11_mixPairs_3 : decode cX11_mixPairs 3 = .ok (.aload_n 0, 1) := by decide +kernel
theorem dX11_mixPairs_4 : decode cX11_mixPairs 4 = .ok (.getfield 129, 3) := by decide +kernel
theorem dX11_mixPairs_7 : decode cX11_mixPairs 7 = .ok (.if_icmp .ge 67, 3) := by decide +kernel
theorem dX11_mixPairs_10 : decode cX11_mixPairs 10 = .ok (.iconst 0, 1) := by decide +kernel
theorem dX11_mixPairs_11 : decode cX11_mixPairs 11 = .ok (.istore_n 2, 1) := by decide +kernel
theorem dX11_mixPairs_12 : decode cX11_mixPairs 12 = .ok (.iload_n 2, 1) := by decide +kernel
theorem dX11_mixPairs_13 : decode cX11_mixPairs 13 = .ok (.aload_n 0, 1) := by decide +kernel
theorem dX11_mixPairs_14 : decode cX11_mixPairs 14 = .ok (.getfield 129, 3) := by decide +kernel
theorem dX11_mixPairs_17 : decode cX11_mixPairs 17 = .ok (.if_icmp .ge 51, 3) := by decide +kernel
theorem dX11_mixPairs_20 : decode cX11_mixPairs 20 = .ok (.aload_n 0, 1) := by decide +kernel
theorem dX11_mixPairs_21 : decode cX11_mixPairs 21 = .ok (.iload_n 1, 1) := by decide +kernel
theorem dX11_mixPairs_22 : decode cX11_mixPairs 22 = .ok (.iload_n 2, 1) := by decide +kernel
theorem dX11_mixPairs_23 : decode cX11_mixPairs 23 = .ok (.invokevirtual 186, 3) := by decide +kernel
theorem dX11_mixPairs_26 : decode cX11_mixPairs 26 = .ok (.ifCond .eq 36, 3) := by decide +kernel
theorem dX11_mixPairs_29 : decode cX11_mixPairs 29 = .ok (.aload_n 0, 1) := by decide +kernel
theorem dX11_mixPairs_30 : decode cX11_mixPairs 30 = .ok (.aload_n 0, 1) := by decide +kernel
theorem dX11_mixPairs_31 : decode cX11_mixPairs 31 = .ok (.iload_n 1, 1) := by decide +kernel
theorem dX11_mixPairs_32 : decode cX11_mixPairs 32 = .ok (.iload_n 2, 1) := by decide +kernel
theorem dX11_mixPairs_33 : decode cX11_mixPairs 33 = .ok (.invokevirtual 182, 3) := by decide +kernel
theorem dX11_mixPairs_36 : decode cX11_mixPairs 36 = .ok (.i2l, 1) := by decide +kernel
theorem dX11_mixPairs_37 : decode cX11_mixPairs 37 = .ok (.invokevirtual 311, 3) := by decide +kernel
theorem dX11_mixPairs_40 : decode cX11_mixPairs 40 = .ok (.aload_n 0, 1) := by decide +kernel
theorem dX11_mixPairs_41 : decode cX11_mixPairs 41 = .ok (.aload_n 0, 1) := by decide +kernel
theorem dX11_mixPairs_42 : decode cX11_mixPairs 42 = .ok (.iload_n 1, 1) := by decide +kernel
theorem dX11_mixPairs_43 : decode cX11_mixPairs 43 = .ok (.iload_n 2, 1) := by decide +kernel
theorem dX11_mixPairs_44 : decode cX11_mixPairs 44 = .ok (.invokevirtual 193, 3) := by decide +kernel
theorem dX11_mixPairs_47 : decode cX11_mixPairs 47 = .ok (.i2l, 1) := by decide +kernel
theorem dX11_mixPairs_48 : decode cX11_mixPairs 48 = .ok (.invokevirtual 311, 3) := by decide +kernel
theorem dX11_mixPairs_51 : decode cX11_mixPairs 51 = .ok (.aload_n 0, 1) := by decide +kernel
theorem dX11_mixPairs_52 : decode cX11_mixPairs 52 = .ok (.aload_n 0, 1) := by decide +kernel
theorem dX11_mixPairs_53 : decode cX11_mixPairs 53 = .ok (.iload_n 1, 1) := by decide +kernel
theorem dX11_mixPairs_54 : decode cX11_mixPairs 54 = .ok (.iload_n 2, 1) := by decide +kernel
theorem dX11_mixPairs_55 : decode cX11_mixPairs 55 = .ok (.invokevirtual 243, 3) := by decide +kernel
theorem dX11_mixPairs_58 : decode cX11_mixPairs 58 = .ok (.i2l, 1) := by decide +kernel
theorem dX11_mixPairs_59 : decode cX11_mixPairs 59 = .ok (.invokevirtual 311, 3) := by decide +kernel
theorem dX11_mixPairs_62 : decode cX11_mixPairs 62 = .ok (.iinc 2 1, 3) := by decide +kernel
theorem dX11_mixPairs_65 : decode cX11_mixPairs 65 = .ok (.goto (-53), 3) := by decide +kernel
theorem dX11_mixPairs_68 : decode cX11_mixPairs 68 = .ok (.iinc 1 1, 3) := by decide +kernel
theorem dX11_mixPairs_71 : decode cX11_mixPairs 71 = .ok (.goto (-69), 3) := by decide +kernel
theorem dX11_mixPairs_74 : decode cX11_mixPairs 74 = .ok (.iconst 1, 1) := by decide +kernel
theorem dX11_mixPairs_75 : decode cX11_mixPairs 75 = .ok (.istore_n 1, 1) := by decide +kernel
theorem dX11_mixPairs_76 : decode cX11_mixPairs 76 = .ok (.iload_n 1, 1) := by decide +kernel
theorem dX11_mixPairs_77 : decode cX11_mixPairs 77 = .ok (.bipush 12, 2) := by decide +kernel
theorem dX11_mixPairs_79 : decode cX11_mixPairs 79 = .ok (.if_icmp .ge 26, 3) := by decide +kernel
theorem dX11_mixPairs_82 : decode cX11_mixPairs 82 = .ok (.aload_n 0, 1) := by decide +kernel
theorem dX11_mixPairs_83 : decode cX11_mixPairs 83 = .ok (.getfield 149, 3) := by decide +kernel
theorem dX11_mixPairs_86 : decode cX11_mixPairs 86 = .ok (.ifCond .eq 19, 3) := by decide +kernel
theorem dX11_mixPairs_89 : decode cX11_mixPairs 89 = .ok (.aload_n 0, 1) := by decide +kernel
theorem dX11_mixPairs_90 : decode cX11_mixPairs 90 = .ok (.aload_n 0, 1) := by decide +kernel
theorem dX11_mixPairs_91 : decode cX11_mixPairs 91 = .ok (.iload_n 1, 1) := by decide +kernel
theorem dX11_mixPairs_92 : decode cX11_mixPairs 92 = .ok (.invokevirtual 237, 3) := by decide +kernel
theorem dX11_mixPairs_95 : decode cX11_mixPairs 95 = .ok (.i2l, 1) := by decide +kernel
theorem dX11_mixPairs_96 : decode cX11_mixPairs 96 = .ok (.invokevirtual 311, 3) := by decide +kernel
theorem dX11_mixPairs_99 : decode cX11_mixPairs 99 = .ok (.iinc 1 1, 3) := by decide +kernel
theorem dX11_mixPairs_102 : decode cX11_mixPairs 102 = .ok (.goto (-26), 3) := by decide +kernel
theorem dX11_mixPairs_105 : decode cX11_mixPairs 105 = .ok (.iconst 0, 1) := by decide +kernel
theorem dX11_mixPairs_106 : decode cX11_mixPairs 106 = .ok (.istore_n 1, 1) := by decide +kernel
theorem dX11_mixPairs_107 : decode cX11_mixPairs 107 = .ok (.iload_n 1, 1) := by decide +kernel
theorem dX11_mixPairs_108 : decode cX11_mixPairs 108 = .ok (.aload_n 0, 1) := by decide +kernel
theorem dX11_mixPairs_109 : decode cX11_mixPairs 109 = .ok (.getfield 129, 3) := by decide +kernel
theorem dX11_mixPairs_112 : decode cX11_mixPairs 112 = .ok (.if_icmp .ge 42, 3) := by decide +kernel
theorem dX11_mixPairs_115 : decode cX11_mixPairs 115 = .ok (.aload_n 0, 1) := by decide +kernel
theorem dX11_mixPairs_116 : decode cX11_mixPairs 116 = .ok (.getfield 149, 3) := by decide +kernel
theorem dX11_mixPairs_119 : decode cX11_mixPairs 119 = .ok (.ifCond .eq 35, 3) := by decide +kernel
theorem dX11_mixPairs_122 : decode cX11_mixPairs 122 = .ok (.iload_n 1, 1) := by decide +kernel
theorem dX11_mixPairs_123 : decode cX11_mixPairs 123 = .ok (.aload_n 0, 1) := by decide +kernel
theorem dX11_mixPairs_124 : decode cX11_mixPairs 124 = .ok (.getfield 226, 3) := by decide +kernel
theorem dX11_mixPairs_127 : decode cX11_mixPairs 127 = .ok (.if_icmp .eq 21, 3) := by decide +kernel
theorem dX11_mixPairs_130 : decode cX11_mixPairs 130 = .ok (.iload_n 1, 1) := by decide +kernel
theorem dX11_mixPairs_131 : decode cX11_mixPairs 131 = .ok (.aload_n 0, 1) := by decide +kernel
theorem dX11_mixPairs_132 : decode cX11_mixPairs 132 = .ok (.getfield 229, 3) := by decide +kernel
theorem dX11_mixPairs_135 : decode cX11_mixPairs 135 = .ok (.if_icmp .eq 13, 3) := by decide +kernel
theorem dX11_mixPairs_138 : decode cX11_mixPairs 138 = .ok (.aload_n 0, 1) := by decide +kernel
theorem dX11_mixPairs_139 : decode cX11_mixPairs 139 = .ok (.aload_n 0, 1) := by decide +kernel
theorem dX11_mixPairs_140 : decode cX11_mixPairs 140 = .ok (.iload_n 1, 1) := by decide +kernel
theorem dX11_mixPairs_141 : decode cX11_mixPairs 141 = .ok (.invokevirtual 240, 3) := by decide +kernel
theorem dX11_mixPairs_144 : decode cX11_mixPairs 144 = .ok (.i2l, 1) := by decide +kernel
theorem dX11_mixPairs_145 : decode cX11_mixPairs 145 = .ok (.invokevirtual 311, 3) := by decide +kernel
theorem dX11_mixPairs_148 : decode cX11_mixPairs 148 = .ok (.iinc 1 1, 3) := by decide +kernel
theorem dX11_mixPairs_151 : decode cX11_mixPairs 151 = .ok (.goto (-44), 3) := by decide +kernel
theorem dX11_mixPairs_154 : decode cX11_mixPairs 154 = .ok (.return_, 1) := by decide +kernel
set_option maxRecDepth 20000 in
theorem ggX11_mixField_X11_aboutNow : GoodIn wsX11_mixField wsX11_aboutNow := goodIn_r _ [8, 1, 9, 10, 11, 12, 13, 14, 7, 15, 2, 16, 17, 18, 19, 3, 20, 21, 22, 23, 24, 25, 26, 27, 28, 29, 30, 31, 32, 33, 34, 35, 36, 37, 38, 140, 141, 142, 143, 144, 145, 146, 147, 148, 149, 150, 151, 152, 153, 154, 155, 156, 157, 158, 159, 160, 161, 162, 163, 164, 165, 166, 167, 168, 169, 170, 171, 172, 173, 174, 175, 176, 177, 178, 179, 180, 181] (by decide +kernel) (by decide +kernel)
set_option maxRecDepth 20000 in
theorem gX11_mixField_X11_aboutNow : GoodIn wsX11_mixField (wsV RX11 299 RX11 yX11_aboutNow wsX11_aboutNow) := goodIn_app (goodIn_of _ (by decide +kernel)) ggX11_mixField_X11_aboutNow
set_option maxRecDepth 20000 in
theorem ggX11_mixField_X11_mix : GoodIn wsX11_mixField wsX11_mix := goodIn_r _ [42, 43, 44, 140, 141, 142, 143, 144, 145, 146, 147, 148, 149, 150, 151, 152, 153, 154, 155, 156, 157, 158, 159, 160, 161, 162, 163, 164, 165, 166, 167, 168, 169, 170, 171, 172, 173, 174, 175, 176, 177, 178, 179, 180, 181] (by decide +kernel) (by decide +kernel)
set_option maxRecDepth 20000 in
theorem gX11_mixField_X11_mix : GoodIn wsX11_mixField (wsV RX11 311 RX11 yX11_mix wsX11_mix) := goodIn_app (goodIn_of _ (by decide +kernel)) ggX11_mixField_X11_mix
set_option maxRecDepth 20000 in
theorem ggX11_mixField_X11_nodeNow : GoodIn wsX11_mixField wsX11_nodeNow := goodIn_r _ [48, 2, 49, 50, 51, 52, 53, 9, 54, 55, 56, 57, 58, 7, 59, 60, 61, 62, 63, 140, 141, 142, 143, 144, 145, 146, 147, 148, 149, 150, 151, 152, 153, 154, 155, 156, 157, 158, 159, 160, 161, 162, 163, 164, 165, 166, 167, 168, 169, 170, 171, 172, 173, 174, 175, 176, 177, 178, 179, 180, 181] (by decide +kernel) (by decide +kernel)
set_option maxRecDepth 20000 in
theorem gX11_mixField_X11_nodeNow : GoodIn wsX11_mixField (wsV RX11 179 RX11 yX11_nodeNow wsX11_nodeNow) := goodIn_app (goodIn_of _ (by decide +kernel)) ggX11_mixField_X11_nodeNow
set_option maxRecDepth 20000 in
theorem ggX11_mixField_X11_mixPairs : GoodIn wsX11_mixField wsX11_mixPairs := goodIn_r _ [67, 1, 68, 69, 70, 71, 72, 73, 7, 74, 2, 75, 76, 77, 78, 79, 80, 81, 82, 83, 84, 85, 49, 50, 86, 87, 88, 89, 90, 91, 39, 40, 41, 42, 43, 44, 92, 93, 94, 95, 96, 97, 98, 10, 33, 34, 35, 99, 100, 101, 102, 32, 103, 104, 105, 106, 107, 108, 109, 110, 111, 112, 113, 114, 115, 56, 57, 58, 59, 52, 51, 60, 61, 62, 63, 140, 141, 142, 143, 144, 145, 146, 147, 148, 149, 150, 151, 152, 153, 154, 155, 156, 157, 158, 159, 160, 161, 162, 163, 164, 165, 166, 167, 168, 169, 170, 171, 172, 173, 174, 175, 176, 177, 178, 179, 180, 181] (by decide +kernel) (by decide +kernel)
set_option maxRecDepth 20000 in
theorem gX11_mixField_X11_mixPairs : GoodIn wsX11_mixField (wsV RX11 315 RX11 yX11_mixPairs wsX11_mixPairs) := goodIn_app (goodIn_of _ (by decide +kernel)) ggX11_mixField_X11_mixPairs
set_option maxRecDepth 20000 in
theorem ggX11_mixField_X11_isPlaced : GoodIn wsX11_mixField wsX11_isPlaced := goodIn_r _ [27, 28, 29, 30, 7, 31, 1, 2, 32, 33, 34, 35, 36, 37, 38, 140, 141, 142, 143, 144, 145, 146, 147, 148, 149, 150, 151, 152, 153, 154, 155, 156, 157, 158, 159, 160, 161, 162, 163, 164, 165, 166, 167, 168, 169, 170, 171, 172, 173, 174, 175, 176, 177, 178, 179, 180, 181] (by decide +kernel) (by decide +kernel)
set_option maxRecDepth 20000 in
theorem gX11_mixField_X11_isPlaced : GoodIn wsX11_mixField (wsV RX11 268 RX11 yX11_isPlaced wsX11_isPlaced) := goodIn_app (goodIn_of _ (by decide +kernel)) ggX11_mixField_X11_isPlaced
set_option maxRecDepth 20000 in
theorem ggX11_mixField_X11_placedNow : GoodIn wsX11_mixField wsX11_placedNow := goodIn_r _ [119, 120, 121, 122, 7, 123, 11, 28, 29, 30, 31, 1, 2, 32, 33, 34, 35, 36, 37, 38, 124, 125, 126, 127, 128, 129, 130, 131, 132, 133, 134, 135, 103, 49, 50, 86, 87, 88, 89, 90, 91, 136, 137, 138, 139, 140, 141, 142, 143, 144, 145, 146, 147, 148, 149, 150, 151, 152, 153, 154, 155, 156, 157, 158, 159, 160, 161, 162, 163, 164, 165, 166, 167, 168, 169, 170, 171, 172, 173, 174, 175, 176, 177, 178, 179, 180, 181] (by decide +kernel) (by decide +kernel)
set_option maxRecDepth 20000 in
theorem gX11_mixField_X11_placedNow : GoodIn wsX11_mixField (wsV RX11 271 RX11 yX11_placedNow wsX11_placedNow) := goodIn_app (goodIn_of _ (by decide +kernel)) ggX11_mixField_X11_placedNow
theorem dX11_mixField_0 : decode cX11_mixField 0 = .ok (.iconst 0, 1) := by decide +kernel
theorem dX11_mixField_1 : decode cX11_mixField 1 = .ok (.istore_n 1, 1) := by decide +kernel
theorem dX11_mixField_2 : decode cX11_mixField 2 = .ok (.iload_n 1, 1) := by decide +kernel
theorem dX11_mixField_3 : decode cX11_mixField 3 = .ok (.bipush 8, 2) := by decide +kernel
theorem dX11_mixField_5 : decode cX11_mixField 5 = .ok (.if_icmp .ge 19, 3) := by decide +kernel
theorem dX11_mixField_8 : decode cX11_mixField 8 = .ok (.aload_n 0, 1) := by decide +kernel
theorem dX11_mixField_9 : decode cX11_mixField 9 = .ok (.aload_n 0, 1) := by decide +kernel
theorem dX11_mixField_10 : decode cX11_mixField 10 = .ok (.iload_n 1, 1) := by decide +kernel
theorem dX11_mixField_11 : decode cX11_mixField 11 = .ok (.invokevirtual 299, 3) := by decide +kernel
theorem dX11_mixField_14 : decode cX11_mixField 14 = .ok (.i2l, 1) := by decide +kernel
theorem dX11_mixField_15 : decode cX11_mixField 15 = .ok (.invokevirtual 311, 3) := by decide +kernel
theorem dX11_mixField_18 : decode cX11_mixField 18 = .ok (.iinc 1 1, 3) := by decide +kernel
theorem dX11_mixField_21 : decode cX11_mixField 21 = .ok (.goto (-19), 3) := by decide +kernel
theorem dX11_mixField_24 : decode cX11_mixField 24 = .ok (.iconst 0, 1) := by decide +kernel
theorem dX11_mixField_25 : decode cX11_mixField 25 = .ok (.istore_n 1, 1) := by decide +kernel
theorem dX11_mixField_26 : decode cX11_mixField 26 = .ok (.iload_n 1, 1) := by decide +kernel
theorem dX11_mixField_27 : decode cX11_mixField 27 = .ok (.bipush 9, 2) := by decide +kernel
theorem dX11_mixField_29 : decode cX11_mixField 29 = .ok (.aload_n 0, 1) := by decide +kernel
theorem dX11_mixField_30 : decode cX11_mixField 30 = .ok (.getfield 129, 3) := by decide +kernel
theorem dX11_mixField_33 : decode cX11_mixField 33 = .ok (.imul, 1) := by decide +kernel
theorem dX11_mixField_34 : decode cX11_mixField 34 = .ok (.if_icmp .ge 26, 3) := by decide +kernel
theorem dX11_mixField_37 : decode cX11_mixField 37 = .ok (.aload_n 0, 1) := by decide +kernel
theorem dX11_mixField_38 : decode cX11_mixField 38 = .ok (.aload_n 0, 1) := by decide +kernel
theorem dX11_mixField_39 : decode cX11_mixField 39 = .ok (.iload_n 1, 1) := by decide +kernel
theorem dX11_mixField_40 : decode cX11_mixField 40 = .ok (.bipush 9, 2) := by decide +kernel
theorem dX11_mixField_42 : decode cX11_mixField 42 = .ok (.idiv, 1) := by decide +kernel
theorem dX11_mixField_43 : decode cX11_mixField 43 = .ok (.iload_n 1, 1) := by decide +kernel
theorem dX11_mixField_44 : decode cX11_mixField 44 = .ok (.bipush 9, 2) := by decide +kernel
theorem dX11_mixField_46 : decode cX11_mixField 46 = .ok (.irem, 1) := by decide +kernel
theorem dX11_mixField_47 : decode cX11_mixField 47 = .ok (.invokevirtual 179, 3) := by decide +kernel
theorem dX11_mixField_50 : decode cX11_mixField 50 = .ok (.i2l, 1) := by decide +kernel
theorem dX11_mixField_51 : decode cX11_mixField 51 = .ok (.invokevirtual 311, 3) := by decide +kernel
theorem dX11_mixField_54 : decode cX11_mixField 54 = .ok (.iinc 1 1, 3) := by decide +kernel
theorem dX11_mixField_57 : decode cX11_mixField 57 = .ok (.goto (-31), 3) := by decide +kernel
theorem dX11_mixField_60 : decode cX11_mixField 60 = .ok (.aload_n 0, 1) := by decide +kernel
theorem dX11_mixField_61 : decode cX11_mixField 61 = .ok (.invokevirtual 315, 3) := by decide +kernel
theorem dX11_mixField_64 : decode cX11_mixField 64 = .ok (.iconst 0, 1) := by decide +kernel
theorem dX11_mixField_65 : decode cX11_mixField 65 = .ok (.istore_n 1, 1) := by decide +kernel
theorem dX11_mixField_66 : decode cX11_mixField 66 = .ok (.iload_n 1, 1) := by decide +kernel
theorem dX11_mixField_67 : decode cX11_mixField 67 = .ok (.aload_n 0, 1) := by decide +kernel
theorem dX11_mixField_68 : decode cX11_mixField 68 = .ok (.getfield 129, 3) := by decide +kernel
theorem dX11_mixField_71 : decode cX11_mixField 71 = .ok (.if_icmp .ge 50, 3) := by decide +kernel
theorem dX11_mixField_74 : decode cX11_mixField 74 = .ok (.iconst 0, 1) := by decide +kernel
theorem dX11_mixField_75 : decode cX11_mixField 75 = .ok (.istore_n 2, 1) := by decide +kernel
theorem dX11_mixField_76 : decode cX11_mixField 76 = .ok (.iload_n 2, 1) := by decide +kernel
theorem dX11_mixField_77 : decode cX11_mixField 77 = .ok (.iconst 5, 1) := by decide +kernel
theorem dX11_mixField_78 : decode cX11_mixField 78 = .ok (.if_icmp .ge 37, 3) := by decide +kernel
theorem dX11_mixField_81 : decode cX11_mixField 81 = .ok (.aload_n 0, 1) := by decide +kernel
theorem dX11_mixField_82 : decode cX11_mixField 82 = .ok (.getfield 13, 3) := by decide +kernel
theorem dX11_mixField_85 : decode cX11_mixField 85 = .ok (.iload_n 1, 1) := by decide +kernel
theorem dX11_mixField_86 : decode cX11_mixField 86 = .ok (.baload, 1) := by decide +kernel
theorem dX11_mixField_87 : decode cX11_mixField 87 = .ok (.ifCond .eq 28, 3) := by decide +kernel
theorem dX11_mixField_90 : decode cX11_mixField 90 = .ok (.aload_n 0, 1) := by decide +kernel
theorem dX11_mixField_91 : decode cX11_mixField 91 = .ok (.iload_n 1, 1) := by decide +kernel
theorem dX11_mixField_92 : decode cX11_mixField 92 = .ok (.invokevirtual 268, 3) := by decide +kernel
theorem dX11_mixField_95 : decode cX11_mixField 95 = .ok (.ifCond .eq 20, 3) := by decide +kernel
theorem dX11_mixField_98 : decode cX11_mixField 98 = .ok (.aload_n 0, 1) := by decide +kernel
theorem dX11_mixField_99 : decode cX11_mixField 99 = .ok (.aload_n 0, 1) := by decide +kernel
theorem dX11_mixField_100 : decode cX11_mixField 100 = .ok (.iload_n 1, 1) := by decide +kernel
theorem dX11_mixField_101 : decode cX11_mixField 101 = .ok (.iload_n 2, 1) := by decide +kernel
theorem dX11_mixField_102 : decode cX11_mixField 102 = .ok (.invokevirtual 271, 3) := by decide +kernel
theorem dX11_mixField_105 : decode cX11_mixField 105 = .ok (.i2l, 1) := by decide +kernel
theorem dX11_mixField_106 : decode cX11_mixField 106 = .ok (.invokevirtual 311, 3) := by decide +kernel
theorem dX11_mixField_109 : decode cX11_mixField 109 = .ok (.iinc 2 1, 3) := by decide +kernel
theorem dX11_mixField_112 : decode cX11_mixField 112 = .ok (.goto (-36), 3) := by decide +kernel
theorem dX11_mixField_115 : decode cX11_mixField 115 = .ok (.iinc 1 1, 3) := by decide +kernel
theorem dX11_mixField_118 : decode cX11_mixField 118 = .ok (.goto (-52), 3) := by decide +kernel
theorem dX11_mixField_121 : decode cX11_mixField 121 = .ok (.iconst 0, 1) := by decide +kernel
theorem dX11_mixField_122 : decode cX11_mixField 122 = .ok (.istore_n 1, 1) := by decide +kernel
theorem dX11_mixField_123 : decode cX11_mixField 123 = .ok (.iload_n 1, 1) := by decide +kernel
theorem dX11_mixField_124 : decode cX11_mixField 124 = .ok (.bipush 16, 2) := by decide +kernel
theorem dX11_mixField_126 : decode cX11_mixField 126 = .ok (.if_icmp .ge 20, 3) := by decide +kernel
theorem dX11_mixField_129 : decode cX11_mixField 129 = .ok (.aload_n 0, 1) := by decide +kernel
theorem dX11_mixField_130 : decode cX11_mixField 130 = .ok (.aload_n 0, 1) := by decide +kernel
theorem dX11_mixField_131 : decode cX11_mixField 131 = .ok (.getfield 53, 3) := by decide +kernel
theorem dX11_mixField_134 : decode cX11_mixField 134 = .ok (.iload_n 1, 1) := by decide +kernel
theorem dX11_mixField_135 : decode cX11_mixField 135 = .ok (.iaload, 1) := by decide +kernel
theorem dX11_mixField_136 : decode cX11_mixField 136 = .ok (.i2l, 1) := by decide +kernel
theorem dX11_mixField_137 : decode cX11_mixField 137 = .ok (.invokevirtual 311, 3) := by decide +kernel
theorem dX11_mixField_140 : decode cX11_mixField 140 = .ok (.iinc 1 1, 3) := by decide +kernel
theorem dX11_mixField_143 : decode cX11_mixField 143 = .ok (.goto (-20), 3) := by decide +kernel
theorem dX11_mixField_146 : decode cX11_mixField 146 = .ok (.return_, 1) := by decide +kernel
set_option maxRecDepth 20000 in
theorem ggX11_digest_X11_isField : GoodIn wsX11_digest wsX11_isField := goodIn_r _ [9, 10, 160, 161, 162, 163, 164, 165, 166, 167, 168, 169, 170, 171, 172, 173, 174, 175, 176, 177, 178, 179, 180, 181, 182, 183, 184, 185, 186, 187, 188, 189, 190, 191, 192, 193, 194, 195, 196, 197, 198, 199, 200, 201] (by decide +kernel) (by decide +kernel)
set_option maxRecDepth 20000 in
theorem gX11_digest_X11_isField : GoodIn wsX11_digest (wsV RX11 196 RX11 yX11_isField wsX11_isField) := goodIn_app (goodIn_of _ (by decide +kernel)) ggX11_digest_X11_isField
set_option maxRecDepth 20000 in
theorem ggX11_digest_X11_mixField : GoodIn wsX11_digest wsX11_mixField := goodIn_r _ [14, 10, 15, 16, 17, 18, 19, 8, 20, 21, 22, 23, 24, 25, 26, 27, 28, 29, 30, 31, 32, 33, 34, 35, 36, 37, 38, 39, 40, 41, 42, 43, 44, 45, 46, 47, 48, 49, 50, 51, 52, 53, 54, 55, 2, 56, 57, 58, 59, 60, 61, 62, 63, 64, 65, 66, 67, 68, 69, 70, 71, 72, 73, 74, 75, 76, 77, 78, 79, 80, 81, 82, 83, 84, 85, 86, 87, 88, 89, 90, 91, 92, 93, 94, 95, 96, 97, 98, 99, 100, 101, 102, 103, 104, 105, 106, 107, 108, 109, 110, 111, 112, 113, 114, 115, 116, 117, 118, 119, 120, 121, 122, 123, 124, 125, 126, 127, 128, 129, 130, 131, 132, 133, 134, 135, 136, 137, 138, 139, 140, 141, 142, 143, 144, 145, 146, 147, 148, 149, 150, 160, 161, 162, 163, 164, 165, 166, 167, 168, 169, 170, 171, 172, 173, 174, 175, 176, 177, 178, 179, 180, 181, 182, 183, 184, 185, 186, 187, 188, 189, 190, 191, 192, 193, 194, 195, 196, 197, 198, 199, 200, 201] (by decide +kernel) (by decide +kernel)
set_option maxRecDepth 20000 in
theorem gX11_digest_X11_mixField : GoodIn wsX11_digest (wsV RX11 320 RX11 yX11_mixField wsX11_mixField) := goodIn_app (goodIn_of _ (by decide +kernel)) ggX11_digest_X11_mixField
set_option maxRecDepth 20000 in
theorem ggX11_digest_X11_mix : GoodIn wsX11_digest wsX11_mix := goodIn_r _ [54, 55, 2, 160, 161, 162, 163, 164, 165, 166, 167, 168, 169, 170, 171, 172, 173, 174, 175, 176, 177, 178, 179, 180, 181, 182, 183, 184, 185, 186, 187, 188, 189, 190, 191, 192, 193, 194, 195, 196, 197, 198, 199, 200, 201] (by decide +kernel) (by decide +kernel)
set_option maxRecDepth 20000 in
theorem gX11_digest_X11_mix : GoodIn wsX11_digest (wsV RX11 311 RX11 yX11_mix wsX11_mix) := goodIn_app (goodIn_of _ (by decide +kernel)) ggX11_digest_X11_mix
set_option maxRecDepth 20000 in
theorem ggX11_digest_X11_howMany : GoodIn wsX11_digest wsX11_howMany := goodIn_r _ [154, 3, 155, 156, 157, 158, 159, 160, 161, 162, 163, 164, 165, 166, 167, 168, 169, 170, 171, 172, 173, 174, 175, 176, 177, 178, 179, 180, 181, 182, 183, 184, 185, 186, 187, 188, 189, 190, 191, 192, 193, 194, 195, 196, 197, 198, 199, 200, 201] (by decide +kernel) (by decide +kernel)
set_option maxRecDepth 20000 in
theorem gX11_digest_X11_howMany : GoodIn wsX11_digest (wsV RX11 302 RX11 yX11_howMany wsX11_howMany) := goodIn_app (goodIn_of _ (by decide +kernel)) ggX11_digest_X11_howMany
theorem dX11_digest_0 : decode cX11_digest 0 = .ok (.aload_n 0, 1) := by decide +kernel
theorem dX11_digest_1 : decode cX11_digest 1 = .ok (.ldc2_w 318, 3) := by decide +kernel
theorem dX11_digest_4 : decode cX11_digest 4 = .ok (.putfield 307, 3) := by decide +kernel
theorem dX11_digest_7 : decode cX11_digest 7 = .ok (.aload_n 0, 1) := by decide +kernel
theorem dX11_digest_8 : decode cX11_digest 8 = .ok (.invokevirtual 196, 3) := by decide +kernel
theorem dX11_digest_11 : decode cX11_digest 11 = .ok (.ifCond .eq 7, 3) := by decide +kernel
theorem dX11_digest_14 : decode cX11_digest 14 = .ok (.aload_n 0, 1) := by decide +kernel
theorem dX11_digest_15 : decode cX11_digest 15 = .ok (.invokevirtual 320, 3) := by decide +kernel
theorem dX11_digest_18 : decode cX11_digest 18 = .ok (.iconst 0, 1) := by decide +kernel
theorem dX11_digest_19 : decode cX11_digest 19 = .ok (.istore_n 1, 1) := by decide +kernel
theorem dX11_digest_20 : decode cX11_digest 20 = .ok (.iload_n 1, 1) := by decide +kernel
theorem dX11_digest_21 : decode cX11_digest 21 = .ok (.aload_n 0, 1) := by decide +kernel
theorem dX11_digest_22 : decode cX11_digest 22 = .ok (.getfield 82, 3) := by decide +kernel
theorem dX11_digest_25 : decode cX11_digest 25 = .ok (.if_icmp .ge 20, 3) := by decide +kernel
theorem dX11_digest_28 : decode cX11_digest 28 = .ok (.aload_n 0, 1) := by decide +kernel
theorem dX11_digest_29 : decode cX11_digest 29 = .ok (.aload_n 0, 1) := by decide +kernel
theorem dX11_digest_30 : decode cX11_digest 30 = .ok (.getfield 7, 3) := by decide +kernel
theorem dX11_digest_33 : decode cX11_digest 33 = .ok (.iload_n 1, 1) := by decide +kernel
theorem dX11_digest_34 : decode cX11_digest 34 = .ok (.iaload, 1) := by decide +kernel
theorem dX11_digest_35 : decode cX11_digest 35 = .ok (.i2l, 1) := by decide +kernel
theorem dX11_digest_36 : decode cX11_digest 36 = .ok (.invokevirtual 311, 3) := by decide +kernel
theorem dX11_digest_39 : decode cX11_digest 39 = .ok (.iinc 1 1, 3) := by decide +kernel
theorem dX11_digest_42 : decode cX11_digest 42 = .ok (.goto (-22), 3) := by decide +kernel
theorem dX11_digest_45 : decode cX11_digest 45 = .ok (.iconst 0, 1) := by decide +kernel
theorem dX11_digest_46 : decode cX11_digest 46 = .ok (.istore_n 1, 1) := by decide +kernel
theorem dX11_digest_47 : decode cX11_digest 47 = .ok (.iload_n 1, 1) := by decide +kernel
theorem dX11_digest_48 : decode cX11_digest 48 = .ok (.iconst 5, 1) := by decide +kernel
theorem dX11_digest_49 : decode cX11_digest 49 = .ok (.if_icmp .ge 19, 3) := by decide +kernel
theorem dX11_digest_52 : decode cX11_digest 52 = .ok (.aload_n 0, 1) := by decide +kernel
theorem dX11_digest_53 : decode cX11_digest 53 = .ok (.aload_n 0, 1) := by decide +kernel
theorem dX11_digest_54 : decode cX11_digest 54 = .ok (.iload_n 1, 1) := by decide +kernel
theorem dX11_digest_55 : decode cX11_digest 55 = .ok (.invokevirtual 302, 3) := by decide +kernel
theorem dX11_digest_58 : decode cX11_digest 58 = .ok (.i2l, 1) := by decide +kernel
theorem dX11_digest_59 : decode cX11_digest 59 = .ok (.invokevirtual 311, 3) := by decide +kernel
theorem dX11_digest_62 : decode cX11_digest 62 = .ok (.iinc 1 1, 3) := by decide +kernel
theorem dX11_digest_65 : decode cX11_digest 65 = .ok (.goto (-18), 3) := by decide +kernel
theorem dX11_digest_68 : decode cX11_digest 68 = .ok (.aload_n 0, 1) := by decide +kernel
theorem dX11_digest_69 : decode cX11_digest 69 = .ok (.getfield 307, 3) := by decide +kernel
theorem dX11_digest_72 : decode cX11_digest 72 = .ok (.lreturn, 1) := by decide +kernel
theorem dJ6_bitCount_0f7a4_0 : decode cJ6_bitCount_0f7a4 0 = .ok (.iload_n 0, 1) := by decide +kernel
theorem dJ6_bitCount_0f7a4_1 : decode cJ6_bitCount_0f7a4 1 = .ok (.iload_n 0, 1) := by decide +kernel
theorem dJ6_bitCount_0f7a4_2 : decode cJ6_bitCount_0f7a4 2 = .ok (.iconst 1, 1) := by decide +kernel
theorem dJ6_bitCount_0f7a4_3 : decode cJ6_bitCount_0f7a4 3 = .ok (.iushr, 1) := by decide +kernel
theorem dJ6_bitCount_0f7a4_4 : decode cJ6_bitCount_0f7a4 4 = .ok (.ldc_w 265, 3) := by decide +kernel
theorem dJ6_bitCount_0f7a4_7 : decode cJ6_bitCount_0f7a4 7 = .ok (.iand, 1) := by decide +kernel
theorem dJ6_bitCount_0f7a4_8 : decode cJ6_bitCount_0f7a4 8 = .ok (.isub, 1) := by decide +kernel
theorem dJ6_bitCount_0f7a4_9 : decode cJ6_bitCount_0f7a4 9 = .ok (.istore_n 0, 1) := by decide +kernel
theorem dJ6_bitCount_0f7a4_10 : decode cJ6_bitCount_0f7a4 10 = .ok (.iload_n 0, 1) := by decide +kernel
theorem dJ6_bitCount_0f7a4_11 : decode cJ6_bitCount_0f7a4 11 = .ok (.ldc_w 266, 3) := by decide +kernel
theorem dJ6_bitCount_0f7a4_14 : decode cJ6_bitCount_0f7a4 14 = .ok (.iand, 1) := by decide +kernel
theorem dJ6_bitCount_0f7a4_15 : decode cJ6_bitCount_0f7a4 15 = .ok (.iload_n 0, 1) := by decide +kernel
theorem dJ6_bitCount_0f7a4_16 : decode cJ6_bitCount_0f7a4 16 = .ok (.iconst 2, 1) := by decide +kernel
theorem dJ6_bitCount_0f7a4_17 : decode cJ6_bitCount_0f7a4 17 = .ok (.iushr, 1) := by decide +kernel
theorem dJ6_bitCount_0f7a4_18 : decode cJ6_bitCount_0f7a4 18 = .ok (.ldc_w 266, 3) := by decide +kernel
theorem dJ6_bitCount_0f7a4_21 : decode cJ6_bitCount_0f7a4 21 = .ok (.iand, 1) := by decide +kernel
theorem dJ6_bitCount_0f7a4_22 : decode cJ6_bitCount_0f7a4 22 = .ok (.iadd, 1) := by decide +kernel
theorem dJ6_bitCount_0f7a4_23 : decode cJ6_bitCount_0f7a4 23 = .ok (.istore_n 0, 1) := by decide +kernel
theorem dJ6_bitCount_0f7a4_24 : decode cJ6_bitCount_0f7a4 24 = .ok (.iload_n 0, 1) := by decide +kernel
theorem dJ6_bitCount_0f7a4_25 : decode cJ6_bitCount_0f7a4 25 = .ok (.iload_n 0, 1) := by decide +kernel
theorem dJ6_bitCount_0f7a4_26 : decode cJ6_bitCount_0f7a4 26 = .ok (.iconst 4, 1) := by decide +kernel
theorem dJ6_bitCount_0f7a4_27 : decode cJ6_bitCount_0f7a4 27 = .ok (.iushr, 1) := by decide +kernel
theorem dJ6_bitCount_0f7a4_28 : decode cJ6_bitCount_0f7a4 28 = .ok (.iadd, 1) := by decide +kernel
theorem dJ6_bitCount_0f7a4_29 : decode cJ6_bitCount_0f7a4 29 = .ok (.ldc_w 267, 3) := by decide +kernel
theorem dJ6_bitCount_0f7a4_32 : decode cJ6_bitCount_0f7a4 32 = .ok (.iand, 1) := by decide +kernel
theorem dJ6_bitCount_0f7a4_33 : decode cJ6_bitCount_0f7a4 33 = .ok (.istore_n 0, 1) := by decide +kernel
theorem dJ6_bitCount_0f7a4_34 : decode cJ6_bitCount_0f7a4 34 = .ok (.iload_n 0, 1) := by decide +kernel
theorem dJ6_bitCount_0f7a4_35 : decode cJ6_bitCount_0f7a4 35 = .ok (.iload_n 0, 1) := by decide +kernel
theorem dJ6_bitCount_0f7a4_36 : decode cJ6_bitCount_0f7a4 36 = .ok (.bipush 8, 2) := by decide +kernel
theorem dJ6_bitCount_0f7a4_38 : decode cJ6_bitCount_0f7a4 38 = .ok (.iushr, 1) := by decide +kernel
theorem dJ6_bitCount_0f7a4_39 : decode cJ6_bitCount_0f7a4 39 = .ok (.iadd, 1) := by decide +kernel
theorem dJ6_bitCount_0f7a4_40 : decode cJ6_bitCount_0f7a4 40 = .ok (.istore_n 0, 1) := by decide +kernel
theorem dJ6_bitCount_0f7a4_41 : decode cJ6_bitCount_0f7a4 41 = .ok (.iload_n 0, 1) := by decide +kernel
theorem dJ6_bitCount_0f7a4_42 : decode cJ6_bitCount_0f7a4 42 = .ok (.iload_n 0, 1) := by decide +kernel
theorem dJ6_bitCount_0f7a4_43 : decode cJ6_bitCount_0f7a4 43 = .ok (.bipush 16, 2) := by decide +kernel
theorem dJ6_bitCount_0f7a4_45 : decode cJ6_bitCount_0f7a4 45 = .ok (.iushr, 1) := by decide +kernel
theorem dJ6_bitCount_0f7a4_46 : decode cJ6_bitCount_0f7a4 46 = .ok (.iadd, 1) := by decide +kernel
theorem dJ6_bitCount_0f7a4_47 : decode cJ6_bitCount_0f7a4 47 = .ok (.istore_n 0, 1) := by decide +kernel
theorem dJ6_bitCount_0f7a4_48 : decode cJ6_bitCount_0f7a4 48 = .ok (.iload_n 0, 1) := by decide +kernel
theorem dJ6_bitCount_0f7a4_49 : decode cJ6_bitCount_0f7a4 49 = .ok (.bipush 63, 2) := by decide +kernel
theorem dJ6_bitCount_0f7a4_51 : decode cJ6_bitCount_0f7a4 51 = .ok (.iand, 1) := by decide +kernel
theorem dJ6_bitCount_0f7a4_52 : decode cJ6_bitCount_0f7a4 52 = .ok (.ireturn, 1) := by decide +kernel
theorem dJ9_floorDiv_f86c9_0 : decode cJ9_floorDiv_f86c9 0 = .ok (.lload_n 0, 1) := by decide +kernel
theorem dJ9_floorDiv_f86c9_1 : decode cJ9_floorDiv_f86c9 1 = .ok (.lload_n 2, 1) := by decide +kernel
theorem dJ9_floorDiv_f86c9_2 : decode cJ9_floorDiv_f86c9 2 = .ok (.ldiv, 1) := by decide +kernel
theorem dJ9_floorDiv_f86c9_3 : decode cJ9_floorDiv_f86c9 3 = .ok (.lstore 4, 2) := by decide +kernel
theorem dJ9_floorDiv_f86c9_5 : decode cJ9_floorDiv_f86c9 5 = .ok (.lload_n 0, 1) := by decide +kernel
theorem dJ9_floorDiv_f86c9_6 : decode cJ9_floorDiv_f86c9 6 = .ok (.lload_n 2, 1) := by decide +kernel
theorem dJ9_floorDiv_f86c9_7 : decode cJ9_floorDiv_f86c9 7 = .ok (.lxor, 1) := by decide +kernel
theorem dJ9_floorDiv_f86c9_8 : decode cJ9_floorDiv_f86c9 8 = .ok (.lconst 0, 1) := by decide +kernel
theorem dJ9_floorDiv_f86c9_9 : decode cJ9_floorDiv_f86c9 9 = .ok (.lcmp, 1) := by decide +kernel
theorem dJ9_floorDiv_f86c9_10 : decode cJ9_floorDiv_f86c9 10 = .ok (.ifCond .ge 17, 3) := by decide +kernel
theorem dJ9_floorDiv_f86c9_13 : decode cJ9_floorDiv_f86c9 13 = .ok (.lload 4, 2) := by decide +kernel
theorem dJ9_floorDiv_f86c9_15 : decode cJ9_floorDiv_f86c9 15 = .ok (.lload_n 2, 1) := by decide +kernel
theorem dJ9_floorDiv_f86c9_16 : decode cJ9_floorDiv_f86c9 16 = .ok (.lmul, 1) := by decide +kernel
theorem dJ9_floorDiv_f86c9_17 : decode cJ9_floorDiv_f86c9 17 = .ok (.lload_n 0, 1) := by decide +kernel
theorem dJ9_floorDiv_f86c9_18 : decode cJ9_floorDiv_f86c9 18 = .ok (.lcmp, 1) := by decide +kernel
theorem dJ9_floorDiv_f86c9_19 : decode cJ9_floorDiv_f86c9 19 = .ok (.ifCond .eq 8, 3) := by decide +kernel
theorem dJ9_floorDiv_f86c9_22 : decode cJ9_floorDiv_f86c9 22 = .ok (.lload 4, 2) := by decide +kernel
theorem dJ9_floorDiv_f86c9_24 : decode cJ9_floorDiv_f86c9 24 = .ok (.lconst 1, 1) := by decide +kernel
theorem dJ9_floorDiv_f86c9_25 : decode cJ9_floorDiv_f86c9 25 = .ok (.lsub, 1) := by decide +kernel
theorem dJ9_floorDiv_f86c9_26 : decode cJ9_floorDiv_f86c9 26 = .ok (.lreturn, 1) := by decide +kernel
theorem dJ9_floorDiv_f86c9_27 : decode cJ9_floorDiv_f86c9 27 = .ok (.lload 4, 2) := by decide +kernel
theorem dJ9_floorDiv_f86c9_29 : decode cJ9_floorDiv_f86c9 29 = .ok (.lreturn, 1) := by decide +kernel
theorem dJ9_max_7cf53_0 : decode cJ9_max_7cf53 0 = .ok (.iload_n 0, 1) := by decide +kernel
theorem dJ9_max_7cf53_1 : decode cJ9_max_7cf53 1 = .ok (.iload_n 1, 1) := by decide +kernel
theorem dJ9_max_7cf53_2 : decode cJ9_max_7cf53 2 = .ok (.if_icmp .lt 7, 3) := by decide +kernel
theorem dJ9_max_7cf53_5 : decode cJ9_max_7cf53 5 = .ok (.iload_n 0, 1) := by decide +kernel
theorem dJ9_max_7cf53_6 : decode cJ9_max_7cf53 6 = .ok (.goto 4, 3) := by decide +kernel
theorem dJ9_max_7cf53_9 : decode cJ9_max_7cf53 9 = .ok (.iload_n 1, 1) := by decide +kernel
theorem dJ9_max_7cf53_10 : decode cJ9_max_7cf53 10 = .ok (.ireturn, 1) := by decide +kernel
theorem dJ9_max_f86c9_0 : decode cJ9_max_f86c9 0 = .ok (.lload_n 0, 1) := by decide +kernel
theorem dJ9_max_f86c9_1 : decode cJ9_max_f86c9 1 = .ok (.lload_n 2, 1) := by decide +kernel
theorem dJ9_max_f86c9_2 : decode cJ9_max_f86c9 2 = .ok (.lcmp, 1) := by decide +kernel
theorem dJ9_max_f86c9_3 : decode cJ9_max_f86c9 3 = .ok (.ifCond .lt 7, 3) := by decide +kernel
theorem dJ9_max_f86c9_6 : decode cJ9_max_f86c9 6 = .ok (.lload_n 0, 1) := by decide +kernel
theorem dJ9_max_f86c9_7 : decode cJ9_max_f86c9 7 = .ok (.goto 4, 3) := by decide +kernel
theorem dJ9_max_f86c9_10 : decode cJ9_max_f86c9 10 = .ok (.lload_n 2, 1) := by decide +kernel
theorem dJ9_max_f86c9_11 : decode cJ9_max_f86c9 11 = .ok (.lreturn, 1) := by decide +kernel
theorem dJ7_fill_53178_0 : decode cJ7_fill_53178 0 = .ok (.iconst 0, 1) := by decide +kernel
theorem dJ7_fill_53178_1 : decode cJ7_fill_53178 1 = .ok (.istore_n 2, 1) := by decide +kernel
theorem dJ7_fill_53178_2 : decode cJ7_fill_53178 2 = .ok (.aload_n 0, 1) := by decide +kernel
theorem dJ7_fill_53178_3 : decode cJ7_fill_53178 3 = .ok (.arraylength, 1) := by decide +kernel
theorem dJ7_fill_53178_4 : decode cJ7_fill_53178 4 = .ok (.istore_n 3, 1) := by decide +kernel
theorem dJ7_fill_53178_5 : decode cJ7_fill_53178 5 = .ok (.iload_n 2, 1) := by decide +kernel
theorem dJ7_fill_53178_6 : decode cJ7_fill_53178 6 = .ok (.iload_n 3, 1) := by decide +kernel
theorem dJ7_fill_53178_7 : decode cJ7_fill_53178 7 = .ok (.if_icmp .ge 13, 3) := by decide +kernel
theorem dJ7_fill_53178_10 : decode cJ7_fill_53178 10 = .ok (.aload_n 0, 1) := by decide +kernel
theorem dJ7_fill_53178_11 : decode cJ7_fill_53178 11 = .ok (.iload_n 2, 1) := by decide +kernel
theorem dJ7_fill_53178_12 : decode cJ7_fill_53178 12 = .ok (.iload_n 1, 1) := by decide +kernel
theorem dJ7_fill_53178_13 : decode cJ7_fill_53178 13 = .ok (.iastore, 1) := by decide +kernel
theorem dJ7_fill_53178_14 : decode cJ7_fill_53178 14 = .ok (.iinc 2 1, 3) := by decide +kernel
theorem dJ7_fill_53178_17 : decode cJ7_fill_53178 17 = .ok (.goto (-12), 3) := by decide +kernel
theorem dJ7_fill_53178_20 : decode cJ7_fill_53178 20 = .ok (.return_, 1) := by decide +kernel
abbrev vwCl : List vw_C := [(RX0, TX0, 11), (RX1, TX1, 6), (RX2, TX2, 1), (RX3, TX3, 9), (RX4, TX4, 5), (RX5, TX5, 8), (RX6, TX6, 2), (RX7, TX7, 6), (RX8, TX8, 6), (RX9, TX9, 1), (RX10, TX10, 7), (RX11, TX11, 42)]
