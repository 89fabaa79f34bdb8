theorem dX9_clear_1 : decode cX9_clear 1 = .ok (.getfield 9, 3) := by decide +kernel
theorem dX9_clear_4 : decode cX9_clear 4 = .ok (.iconst (-1), 1) := by decide +kernel
theorem dX9_clear_5 : decode cX9_clear 5 = .ok (.invokestatic 15, 3) := by decide +kernel
theorem dX9_clear_8 : decode cX9_clear 8 = .ok (.return_, 1) := by decide +kernel
theorem dX9_takenCount_0 : decode cX9_takenCount 0 = .ok (.iconst 0, 1) := by decide +kernel
theorem dX9_takenCount_1 : decode cX9_takenCount 1 = .ok (.istore_n 1, 1) := by decide +kernel
theorem dX9_takenCount_2 : decode cX9_takenCount 2 = .ok (.iconst 0, 1) := by decide +kernel
theorem dX9_takenCount_3 : decode cX9_takenCount 3 = .ok (.istore_n 2, 1) := by decide +kernel
theorem dX9_takenCount_4 : decode cX9_takenCount 4 = .ok (.iload_n 2, 1) := by decide +kernel
theorem dX9_takenCount_5 : decode cX9_takenCount 5 = .ok (.bipush 16, 2) := by decide +kernel
theorem dX9_takenCount_7 : decode cX9_takenCount 7 = .ok (.if_icmp .ge 22, 3) := by decide +kernel
theorem dX9_takenCount_10 : decode cX9_takenCount 10 = .ok (.aload_n 0, 1) := by decide +kernel
theorem dX9_takenCount_11 : decode cX9_takenCount 11 = .ok (.getfield 9, 3) := by decide +kernel
theorem dX9_takenCount_14 : decode cX9_takenCount 14 = .ok (.iload_n 2, 1) := by decide +kernel
theorem dX9_takenCount_15 : decode cX9_takenCount 15 = .ok (.iaload, 1) := by decide +kernel
theorem dX9_takenCount_16 : decode cX9_takenCount 16 = .ok (.iconst (-1), 1) := by decide +kernel
theorem dX9_takenCount_17 : decode cX9_takenCount 17 = .ok (.if_icmp .eq 6, 3) := by decide +kernel
theorem dX9_takenCount_20 : decode cX9_takenCount 20 = .ok (.iinc 1 1, 3) := by decide +kernel
theorem dX9_takenCount_23 : decode cX9_takenCount 23 = .ok (.iinc 2 1, 3) := by decide +kernel
theorem dX9_takenCount_26 : decode cX9_takenCount 26 = .ok (.goto (-22), 3) := by decide +kernel
theorem dX9_takenCount_29 : decode cX9_takenCount 29 = .ok (.iload_n 1, 1) := by decide +kernel
theorem dX9_takenCount_30 : decode cX9_takenCount 30 = .ok (.ireturn, 1) := by decide +kernel
set_option maxRecDepth 20000 in
theorem ggX9_give_X9_areFree : GoodIn wsX9_give wsX9_areFree := goodIn_r _ [10, 1, 2, 3, 4, 5, 11] (by decide +kernel) (by decide +kernel)
set_option maxRecDepth 20000 in
theorem gX9_give_X9_areFree : GoodIn wsX9_give (wsV RX9 21 RX9 yX9_areFree wsX9_areFree) := goodIn_app (goodIn_of _ (by decide +kernel)) ggX9_give_X9_areFree
theorem dX9_give_0 : decode cX9_give 0 = .ok (.iconst 0, 1) := by decide +kernel
theorem dX9_give_1 : decode cX9_give 1 = .ok (.istore_n 3, 1) := by decide +kernel
theorem dX9_give_2 : decode cX9_give 2 = .ok (.iload_n 3, 1) := by decide +kernel
theorem dX9_give_3 : decode cX9_give 3 = .ok (.iload_n 2, 1) := by decide +kernel
theorem dX9_give_4 : decode cX9_give 4 = .ok (.if_icmp .ge 57, 3) := by decide +kernel
theorem dX9_give_7 : decode cX9_give 7 = .ok (.iload_n 3, 1) := by decide +kernel
theorem dX9_give_8 : decode cX9_give 8 = .ok (.bipush 16, 2) := by decide +kernel
theorem dX9_give_10 : decode cX9_give 10 = .ok (.if_icmp .ge 51, 3) := by decide +kernel
theorem dX9_give_13 : decode cX9_give 13 = .ok (.aload_n 0, 1) := by decide +kernel
theorem dX9_give_14 : decode cX9_give 14 = .ok (.iload_n 3, 1) := by decide +kernel
theorem dX9_give_15 : decode cX9_give 15 = .ok (.iload_n 2, 1) := by decide +kernel
theorem dX9_give_16 : decode cX9_give 16 = .ok (.invokevirtual 21, 3) := by decide +kernel
theorem dX9_give_19 : decode cX9_give 19 = .ok (.ifCond .eq 36, 3) := by decide +kernel
theorem dX9_give_22 : decode cX9_give 22 = .ok (.iload_n 3, 1) := by decide +kernel
theorem dX9_give_23 : decode cX9_give 23 = .ok (.istore 4, 2) := by decide +kernel
theorem dX9_give_25 : decode cX9_give 25 = .ok (.iload 4, 2) := by decide +kernel
theorem dX9_give_27 : decode cX9_give 27 = .ok (.bipush 16, 2) := by decide +kernel
theorem dX9_give_29 : decode cX9_give 29 = .ok (.if_icmp .ge 24, 3) := by decide +kernel
theorem dX9_give_32 : decode cX9_give 32 = .ok (.aload_n 0, 1) := by decide +kernel
theorem dX9_give_33 : decode cX9_give 33 = .ok (.getfield 9, 3) := by decide +kernel
theorem dX9_give_36 : decode cX9_give 36 = .ok (.iload 4, 2) := by decide +kernel
theorem dX9_give_38 : decode cX9_give 38 = .ok (.iload_n 1, 1) := by decide +kernel
theorem dX9_give_39 : decode cX9_give 39 = .ok (.iastore, 1) := by decide +kernel
theorem dX9_give_40 : decode cX9_give 40 = .ok (.iload 4, 2) := by decide +kernel
theorem dX9_give_42 : decode cX9_give 42 = .ok (.iconst 1, 1) := by decide +kernel
theorem dX9_give_43 : decode cX9_give 43 = .ok (.iload_n 2, 1) := by decide +kernel
theorem dX9_give_44 : decode cX9_give 44 = .ok (.invokestatic 25, 3) := by decide +kernel
theorem dX9_give_47 : decode cX9_give 47 = .ok (.iadd, 1) := by decide +kernel
theorem dX9_give_48 : decode cX9_give 48 = .ok (.istore 4, 2) := by decide +kernel
theorem dX9_give_50 : decode cX9_give 50 = .ok (.goto (-25), 3) := by decide +kernel
theorem dX9_give_53 : decode cX9_give 53 = .ok (.iconst 1, 1) := by decide +kernel
theorem dX9_give_54 : decode cX9_give 54 = .ok (.ireturn, 1) := by decide +kernel
theorem dX9_give_55 : decode cX9_give 55 = .ok (.iinc 3 1, 3) := by decide +kernel
theorem dX9_give_58 : decode cX9_give 58 = .ok (.goto (-56), 3) := by decide +kernel
theorem dX9_give_61 : decode cX9_give 61 = .ok (.iconst 0, 1) := by decide +kernel
theorem dX9_give_62 : decode cX9_give 62 = .ok (.ireturn, 1) := by decide +kernel
theorem dX9_areFree_0 : decode cX9_areFree 0 = .ok (.iload_n 1, 1) := by decide +kernel
theorem dX9_areFree_1 : decode cX9_areFree 1 = .ok (.istore_n 3, 1) := by decide +kernel
theorem dX9_areFree_2 : decode cX9_areFree 2 = .ok (.iload_n 3, 1) := by decide +kernel
theorem dX9_areFree_3 : decode cX9_areFree 3 = .ok (.bipush 16, 2) := by decide +kernel
theorem dX9_areFree_5 : decode cX9_areFree 5 = .ok (.if_icmp .ge 26, 3) := by decide +kernel
theorem dX9_areFree_8 : decode cX9_areFree 8 = .ok (.aload_n 0, 1) := by decide +kernel
theorem dX9_areFree_9 : decode cX9_areFree 9 = .ok (.getfield 9, 3) := by decide +kernel
theorem dX9_areFree_12 : decode cX9_areFree 12 = .ok (.iload_n 3, 1) := by decide +kernel
theorem dX9_areFree_13 : decode cX9_areFree 13 = .ok (.iaload, 1) := by decide +kernel
theorem dX9_areFree_14 : decode cX9_areFree 14 = .ok (.iconst (-1), 1) := by decide +kernel
theorem dX9_areFree_15 : decode cX9_areFree 15 = .ok (.if_icmp .eq 5, 3) := by decide +kernel
theorem dX9_areFree_18 : decode cX9_areFree 18 = .ok (.iconst 0, 1) := by decide +kernel
theorem dX9_areFree_19 : decode cX9_areFree 19 = .ok (.ireturn, 1) := by decide +kernel
theorem dX9_areFree_20 : decode cX9_areFree 20 = .ok (.iload_n 3, 1) := by decide +kernel
theorem dX9_areFree_21 : decode cX9_areFree 21 = .ok (.iconst 1, 1) := by decide +kernel
theorem dX9_areFree_22 : decode cX9_areFree 22 = .ok (.iload_n 2, 1) := by decide +kernel
theorem dX9_areFree_23 : decode cX9_areFree 23 = .ok (.invokestatic 25, 3) := by decide +kernel
theorem dX9_areFree_26 : decode cX9_areFree 26 = .ok (.iadd, 1) := by decide +kernel
theorem dX9_areFree_27 : decode cX9_areFree 27 = .ok (.istore_n 3, 1) := by decide +kernel
theorem dX9_areFree_28 : decode cX9_areFree 28 = .ok (.goto (-26), 3) := by decide +kernel
theorem dX9_areFree_31 : decode cX9_areFree 31 = .ok (.iconst 1, 1) := by decide +kernel
theorem dX9_areFree_32 : decode cX9_areFree 32 = .ok (.ireturn, 1) := by decide +kernel
set_option maxRecDepth 20000 in
theorem ggX10_init_X6_init : GoodIn wsX10_init wsX6_init := goodIn_r _ [18, 19, 2, 3, 20, 21, 97, 98] (by decide +kernel) (by decide +kernel)
set_option maxRecDepth 20000 in
theorem gX10_init_X6_init : GoodIn wsX10_init (wsX6_init) := ggX10_init_X6_init
set_option maxRecDepth 20000 in
theorem ggX10_init_X8_init : GoodIn wsX10_init wsX8_init := goodIn_r _ [24, 25, 2, 3, 26, 20, 27, 106, 107, 108, 109, 110, 111] (by decide +kernel) (by decide +kernel)
set_option maxRecDepth 20000 in
theorem gX10_init_X8_init : GoodIn wsX10_init (wsX8_init) := ggX10_init_X8_init
set_option maxRecDepth 20000 in
theorem ggX10_init_X0_init : GoodIn wsX10_init wsX0_init := goodIn_r _ [30, 31, 2, 3, 32, 33, 34, 35, 36, 37, 38, 39, 40, 41, 42, 43, 44, 45, 46, 47, 48, 49, 50, 51, 52, 53, 54, 55, 56, 57, 58, 59, 60, 61, 62, 63, 64, 65, 66, 67, 68, 69, 20, 70, 71, 72, 73, 74, 75, 76, 77, 78, 79, 80, 81, 82, 83, 84, 85, 86, 87, 88, 89, 90, 91, 92, 93, 94, 95, 96, 112, 113, 114, 115, 116, 117, 118, 119, 120, 121, 122, 123, 124, 125, 126, 127, 128, 129, 130, 131, 132, 133, 134, 135, 136, 137, 138, 139, 140, 141, 142, 143, 144, 145, 146, 147, 148, 149, 150, 151, 152, 153, 154, 155, 156, 157, 158] (by decide +kernel) (by decide +kernel)
set_option maxRecDepth 20000 in
theorem gX10_init_X0_init : GoodIn wsX10_init (wsX0_init) := ggX10_init_X0_init
theorem dX10_init_0 : decode cX10_init 0 = .ok (.aload_n 0, 1) := by decide +kernel
theorem dX10_init_1 : decode cX10_init 1 = .ok (.invokespecial 3, 3) := by decide +kernel
theorem dX10_init_4 : decode cX10_init 4 = .ok (.aload_n 0, 1) := by decide +kernel
theorem dX10_init_5 : decode cX10_init 5 = .ok (.new 9, 3) := by decide +kernel
theorem dX10_init_8 : decode cX10_init 8 = .ok (.dup, 1) := by decide +kernel
theorem dX10_init_9 : decode cX10_init 9 = .ok (.invokespecial 11, 3) := by decide +kernel
theorem dX10_init_12 : decode cX10_init 12 = .ok (.putfield 12, 3) := by decide +kernel
theorem dX10_init_15 : decode cX10_init 15 = .ok (.aload_n 0, 1) := by decide +kernel
theorem dX10_init_16 : decode cX10_init 16 = .ok (.new 16, 3) := by decide +kernel
theorem dX10_init_19 : decode cX10_init 19 = .ok (.dup, 1) := by decide +kernel
theorem dX10_init_20 : decode cX10_init 20 = .ok (.invokespecial 18, 3) := by decide +kernel
theorem dX10_init_23 : decode cX10_init 23 = .ok (.putfield 19, 3) := by decide +kernel
theorem dX10_init_26 : decode cX10_init 26 = .ok (.aload_n 0, 1) := by decide +kernel
theorem dX10_init_27 : decode cX10_init 27 = .ok (.new 23, 3) := by decide +kernel
theorem dX10_init_30 : decode cX10_init 30 = .ok (.dup, 1) := by decide +kernel
theorem dX10_init_31 : decode cX10_init 31 = .ok (.invokespecial 25, 3) := by decide +kernel
theorem dX10_init_34 : decode cX10_init 34 = .ok (.putfield 26, 3) := by decide +kernel
theorem dX10_init_37 : decode cX10_init 37 = .ok (.return_, 1) := by decide +kernel
set_option maxRecDepth 20000 in
theorem ggX10_letter_X6_add : GoodIn wsX10_letter wsX6_add := goodIn_r _ [9, 10, 11, 19, 20] (by decide +kernel) (by decide +kernel)
set_option maxRecDepth 20000 in
theorem gX10_letter_X6_add : GoodIn wsX10_letter (wsV RX10 36 RX6 yX6_add wsX6_add) := goodIn_app (goodIn_of _ (by decide +kernel)) ggX10_letter_X6_add
theorem dX10_letter_0 : decode cX10_letter 0 = .ok (.iload_n 1, 1) := by decide +kernel
theorem dX10_letter_1 : decode cX10_letter 1 = .ok (.bipush 32, 2) := by decide +kernel
theorem dX10_letter_3 : decode cX10_letter 3 = .ok (.if_icmp .lt 9, 3) := by decide +kernel
theorem dX10_letter_6 : decode cX10_letter 6 = .ok (.iload_n 1, 1) := by decide +kernel
theorem dX10_letter_7 : decode cX10_letter 7 = .ok (.bipush 126, 2) := by decide +kernel
theorem dX10_letter_9 : decode cX10_letter 9 = .ok (.if_icmp .le 6, 3) := by decide +kernel
theorem dX10_letter_12 : decode cX10_letter 12 = .ok (.ldc 30, 2) := by decide +kernel
theorem dX10_letter_14 : decode cX10_letter 14 = .ok (.ireturn, 1) := by decide +kernel
theorem dX10_letter_15 : decode cX10_letter 15 = .ok (.aload_n 0, 1) := by decide +kernel
theorem dX10_letter_16 : decode cX10_letter 16 = .ok (.getfield 12, 3) := by decide +kernel
theorem dX10_letter_19 : decode cX10_letter 19 = .ok (.getfield 31, 3) := by decide +kernel
theorem dX10_letter_22 : decode cX10_letter 22 = .ok (.bipush 110, 2) := by decide +kernel
theorem dX10_letter_24 : decode cX10_letter 24 = .ok (.if_icmp .lt 6, 3) := by decide +kernel
theorem dX10_letter_27 : decode cX10_letter 27 = .ok (.ldc 35, 2) := by decide +kernel
theorem dX10_letter_29 : decode cX10_letter 29 = .ok (.ireturn, 1) := by decide +kernel
theorem dX10_letter_30 : decode cX10_letter 30 = .ok (.aload_n 0, 1) := by decide +kernel
theorem dX10_letter_31 : decode cX10_letter 31 = .ok (.getfield 12, 3) := by decide +kernel
theorem dX10_letter_34 : decode cX10_letter 34 = .ok (.iload_n 1, 1) := by decide +kernel
theorem dX10_letter_35 : decode cX10_letter 35 = .ok (.invokevirtual 36, 3) := by decide +kernel
theorem dX10_letter_38 : decode cX10_letter 38 = .ok (.aload_n 0, 1) := by decide +kernel
theorem dX10_letter_39 : decode cX10_letter 39 = .ok (.getfield 12, 3) := by decide +kernel
theorem dX10_letter_42 : decode cX10_letter 42 = .ok (.getfield 31, 3) := by decide +kernel
theorem dX10_letter_45 : decode cX10_letter 45 = .ok (.ireturn, 1) := by decide +kernel
set_option maxRecDepth 20000 in
theorem ggX10_blank_X6_clear : GoodIn wsX10_blank wsX6_clear := goodIn_r _ [7, 8, 16, 17] (by decide +kernel) (by decide +kernel)
set_option maxRecDepth 20000 in
theorem gX10_blank_X6_clear : GoodIn wsX10_blank (wsV RX10 40 RX6 yX6_clear wsX6_clear) := goodIn_app (goodIn_of _ (by decide +kernel)) ggX10_blank_X6_clear
theorem dX10_blank_0 : decode cX10_blank 0 = .ok (.aload_n 0, 1) := by decide +kernel
theorem dX10_blank_1 : decode cX10_blank 1 = .ok (.getfield 12, 3) := by decide +kernel
theorem dX10_blank_4 : decode cX10_blank 4 = .ok (.getfield 31, 3) := by decide +kernel
theorem dX10_blank_7 : decode cX10_blank 7 = .ok (.istore_n 1, 1) := by decide +kernel
theorem dX10_blank_8 : decode cX10_blank 8 = .ok (.aload_n 0, 1) := by decide +kernel
theorem dX10_blank_9 : decode cX10_blank 9 = .ok (.getfield 12, 3) := by decide +kernel
theorem dX10_blank_12 : decode cX10_blank 12 = .ok (.invokevirtual 40, 3) := by decide +kernel
theorem dX10_blank_15 : decode cX10_blank 15 = .ok (.iload_n 1, 1) := by decide +kernel
theorem dX10_blank_16 : decode cX10_blank 16 = .ok (.ireturn, 1) := by decide +kernel
set_option maxRecDepth 20000 in
theorem ggX10_fault_X8_read : GoodIn wsX10_fault wsX8_read := goodIn_r _ [7, 8, 9, 10, 11, 12, 13, 14, 6, 15, 16, 17, 18, 19, 20, 21, 22, 23, 24, 25, 26, 27, 28, 29, 30, 31, 32, 33, 34, 35, 36, 37, 38, 39, 47, 48, 49, 50, 51, 52, 53, 54] (by decide +kernel) (by decide +kernel)
set_option maxRecDepth 20000 in
theorem gX10_fault_X8_read : GoodIn wsX10_fault (wsV RX10 43 RX8 yX8_read wsX8_read) := goodIn_app (goodIn_of _ (by decide +kernel)) ggX10_fault_X8_read
theorem dX10_fault_0 : decode cX10_fault 0 = .ok (.aload_n 0, 1) := by decide +kernel
theorem dX10_fault_1 : decode cX10_fault 1 = .ok (.getfield 19, 3) := by decide +kernel
theorem dX10_fault_4 : decode cX10_fault 4 = .ok (.aload_n 0, 1) := by decide +kernel
theorem dX10_fault_5 : decode cX10_fault 5 = .ok (.getfield 12, 3) := by decide +kernel
theorem dX10_fault_8 : decode cX10_fault 8 = .ok (.invokevirtual 43, 3) := by decide +kernel
theorem dX10_fault_11 : decode cX10_fault 11 = .ok (.ireturn, 1) := by decide +kernel
set_option maxRecDepth 20000 in
theorem ggX10_field_X8_read : GoodIn wsX10_field wsX8_read := goodIn_r _ [12, 13, 14, 15, 16, 17, 18, 19, 11, 20, 21, 22, 23, 24, 25, 26, 27, 28, 29, 30, 31, 32, 33, 34, 35, 36, 37, 38, 39, 40, 41, 42, 43, 44, 147, 148, 149, 150, 151, 152, 134, 135] (by decide +kernel) (by decide +kernel)
set_option maxRecDepth 20000 in
theorem gX10_field_X8_read : GoodIn wsX10_field (wsV RX10 43 RX8 yX8_read wsX8_read) := goodIn_app (goodIn_of _ (by decide +kernel)) ggX10_field_X8_read
set_option maxRecDepth 20000 in
theorem ggX10_field_X8_hasWholeField : GoodIn wsX10_field wsX8_hasWholeField := goodIn_r _ [48, 21, 22, 14, 41, 42, 43, 11, 44, 13, 147, 148, 149, 150, 151, 152] (by decide +kernel) (by decide +kernel)
set_option maxRecDepth 20000 in
theorem gX10_field_X8_hasWholeField : GoodIn wsX10_field (wsV RX10 47 RX8 yX8_hasWholeField wsX8_hasWholeField) := goodIn_app (goodIn_of _ (by decide +kernel)) ggX10_field_X8_hasWholeField
set_option maxRecDepth 20000 in
theorem ggX10_field_X0_takeOver : GoodIn wsX10_field wsX0_takeOver := goodIn_r _ [53, 54, 55, 56, 57, 58, 59, 60, 61, 62, 63, 64, 65, 42, 43, 11, 44, 13, 66, 67, 68, 69, 70, 71, 72, 73, 74, 75, 76, 77, 78, 79, 80, 52, 81, 82, 83, 84, 85, 86, 87, 88, 89, 90, 91, 92, 93, 94, 95, 96, 97, 98, 99, 100, 101, 102, 103, 104, 105, 106, 107, 108, 109, 110, 111, 112, 113, 114, 115, 116, 117, 118, 119, 120, 136, 137, 138, 139, 140, 141, 142, 143, 144, 145, 146, 147, 148, 149, 150, 151, 152, 153, 154, 155, 156, 157, 158, 159, 160, 161, 162, 163, 164, 165, 166, 167, 168, 169, 170, 171, 172, 173, 174, 175, 176, 177, 178, 179, 180, 181] (by decide +kernel) (by decide +kernel)
set_option maxRecDepth 20000 in
theorem gX10_field_X0_takeOver : GoodIn wsX10_field (wsV RX10 52 RX0 yX0_takeOver wsX0_takeOver) := goodIn_app (goodIn_of _ (by decide +kernel)) ggX10_field_X0_takeOver
set_option maxRecDepth 20000 in
theorem ggX10_field_X6_clear : GoodIn wsX10_field wsX6_clear := goodIn_r _ [125, 126, 134, 135] (by decide +kernel) (by decide +kernel)
set_option maxRecDepth 20000 in
theorem gX10_field_X6_clear : GoodIn wsX10_field (wsV RX10 40 RX6 yX6_clear wsX6_clear) := goodIn_app (goodIn_of _ (by decide +kernel)) ggX10_field_X6_clear
theorem dX10_field_0 : decode cX10_field 0 = .ok (.aload_n 0, 1) := by decide +kernel
theorem dX10_field_1 : decode cX10_field 1 = .ok (.getfield 19, 3) := by decide +kernel
theorem dX10_field_4 : decode cX10_field 4 = .ok (.aload_n 0, 1) := by decide +kernel
theorem dX10_field_5 : decode cX10_field 5 = .ok (.getfield 12, 3) := by decide +kernel
theorem dX10_field_8 : decode cX10_field 8 = .ok (.invokevirtual 43, 3) := by decide +kernel
theorem dX10_field_11 : decode cX10_field 11 = .ok (.aload_n 0, 1) := by decide +kernel
theorem dX10_field_12 : decode cX10_field 12 = .ok (.getfield 12, 3) := by decide +kernel
theorem dX10_field_15 : decode cX10_field 15 = .ok (.getfield 31, 3) := by decide +kernel
theorem dX10_field_18 : decode cX10_field 18 = .ok (.if_icmp .ne 7, 3) := by decide +kernel
theorem dX10_field_21 : decode cX10_field 21 = .ok (.iconst 1, 1) := by decide +kernel
theorem dX10_field_22 : decode cX10_field 22 = .ok (.goto 4, 3) := by decide +kernel
theorem dX10_field_25 : decode cX10_field 25 = .ok (.iconst 0, 1) := by decide +kernel
theorem dX10_field_26 : decode cX10_field 26 = .ok (.istore_n 1, 1) := by decide +kernel
theorem dX10_field_27 : decode cX10_field 27 = .ok (.iload_n 1, 1) := by decide +kernel
theorem dX10_field_28 : decode cX10_field 28 = .ok (.ifCond .eq 13, 3) := by decide +kernel
theorem dX10_field_31 : decode cX10_field 31 = .ok (.aload_n 0, 1) := by decide +kernel
theorem dX10_field_32 : decode cX10_field 32 = .ok (.getfield 19, 3) := by decide +kernel
theorem dX10_field_35 : decode cX10_field 35 = .ok (.invokevirtual 47, 3) := by decide +kernel
theorem dX10_field_38 : decode cX10_field 38 = .ok (.ifCond .ne 6, 3) := by decide +kernel
theorem dX10_field_41 : decode cX10_field 41 = .ok (.ldc 51, 2) := by decide +kernel
theorem dX10_field_43 : decode cX10_field 43 = .ok (.ireturn, 1) := by decide +kernel
theorem dX10_field_44 : decode cX10_field 44 = .ok (.aload_n 0, 1) := by decide +kernel
theorem dX10_field_45 : decode cX10_field 45 = .ok (.getfield 26, 3) := by decide +kernel
theorem dX10_field_48 : decode cX10_field 48 = .ok (.aload_n 0, 1) := by decide +kernel
theorem dX10_field_49 : decode cX10_field 49 = .ok (.getfield 19, 3) := by decide +kernel
theorem dX10_field_52 : decode cX10_field 52 = .ok (.invokevirtual 52, 3) := by decide +kernel
theorem dX10_field_55 : decode cX10_field 55 = .ok (.aload_n 0, 1) := by decide +kernel
theorem dX10_field_56 : decode cX10_field 56 = .ok (.getfield 12, 3) := by decide +kernel
theorem dX10_field_59 : decode cX10_field 59 = .ok (.invokevirtual 40, 3) := by decide +kernel
theorem dX10_field_62 : decode cX10_field 62 = .ok (.aload_n 0, 1) := by decide +kernel
theorem dX10_field_63 : decode cX10_field 63 = .ok (.dup, 1) := by decide +kernel
theorem dX10_field_64 : decode cX10_field 64 = .ok (.getfield 56, 3) := by decide +kernel
theorem dX10_field_67 : decode cX10_field 67 = .ok (.iconst 1, 1) := by decide +kernel
theorem dX10_field_68 : decode cX10_field 68 = .ok (.iadd, 1) := by decide +kernel
theorem dX10_field_69 : decode cX10_field 69 = .ok (.putfield 56, 3) := by decide +kernel
theorem dX10_field_72 : decode cX10_field 72 = .ok (.aload_n 0, 1) := by decide +kernel
theorem dX10_field_73 : decode cX10_field 73 = .ok (.getfield 26, 3) := by decide +kernel
theorem dX10_field_76 : decode cX10_field 76 = .ok (.getfield 59, 3) := by decide +kernel
theorem dX10_field_79 : decode cX10_field 79 = .ok (.ireturn, 1) := by decide +kernel
set_option maxRecDepth 20000 in
theorem ggX10_node_X0_has : GoodIn wsX10_node wsX0_has := goodIn_r _ [9, 10, 41, 42, 43, 44, 45, 46, 47, 48, 49, 50, 51] (by decide +kernel) (by decide +kernel)
set_option maxRecDepth 20000 in
theorem gX10_node_X0_has : GoodIn wsX10_node (wsV RX10 60 RX0 yX0_has wsX0_has) := goodIn_app (goodIn_of _ (by decide +kernel)) ggX10_node_X0_has
set_option maxRecDepth 20000 in
theorem ggX10_node_X5_tell : GoodIn wsX10_node wsX5_tell := goodIn_r _ [15, 16, 17, 18, 19, 20, 21, 22, 23, 24, 25, 26, 27, 14, 28, 29, 30, 31, 32, 33, 52, 53, 54, 55, 56, 57, 58, 59] (by decide +kernel) (by decide +kernel)
set_option maxRecDepth 20000 in
theorem gX10_node_X5_tell : GoodIn wsX10_node (wsV RX10 73 RX5 yX5_tell wsX5_tell) := goodIn_app (goodIn_of _ (by decide +kernel)) ggX10_node_X5_tell
theorem dX10_node_0 : decode cX10_node 0 = .ok (.aload_n 0, 1) := by decide +kernel
theorem dX10_node_1 : decode cX10_node 1 = .ok (.getfield 26, 3) := by decide +kernel
theorem dX10_node_4 : decode cX10_node 4 = .ok (.iload_n 1, 1) := by decide +kernel
theorem dX10_node_5 : decode cX10_node 5 = .ok (.invokevirtual 60, 3) := by decide +kernel
theorem dX10_node_8 : decode cX10_node 8 = .ok (.ifCond .ne 6, 3) := by decide +kernel
theorem dX10_node_11 : decode cX10_node 11 = .ok (.ldc 64, 2) := by decide +kernel
theorem dX10_node_13 : decode cX10_node 13 = .ok (.ireturn, 1) := by decide +kernel
theorem dX10_node_14 : decode cX10_node 14 = .ok (.aload_n 0, 1) := by decide +kernel
theorem dX10_node_15 : decode cX10_node 15 = .ok (.getfield 26, 3) := by decide +kernel
theorem dX10_node_18 : decode cX10_node 18 = .ok (.getfield 65, 3) := by decide +kernel
theorem dX10_node_21 : decode cX10_node 21 = .ok (.iload_n 1, 1) := by decide +kernel
theorem dX10_node_22 : decode cX10_node 22 = .ok (.aaload, 1) := by decide +kernel
theorem dX10_node_23 : decode cX10_node 23 = .ok (.iload_n 2, 1) := by decide +kernel
theorem dX10_node_24 : decode cX10_node 24 = .ok (.aload_n 0, 1) := by decide +kernel
theorem dX10_node_25 : decode cX10_node 25 = .ok (.getfield 26, 3) := by decide +kernel
theorem dX10_node_28 : decode cX10_node 28 = .ok (.getfield 69, 3) := by decide +kernel
theorem dX10_node_31 : decode cX10_node 31 = .ok (.invokevirtual 73, 3) := by decide +kernel
theorem dX10_node_34 : decode cX10_node 34 = .ok (.ireturn, 1) := by decide +kernel
set_option maxRecDepth 20000 in
theorem ggX10_flight_X0_has : GoodIn wsX10_flight wsX0_has := goodIn_r _ [7, 8, 30, 31, 32, 33, 34, 35, 36, 37, 38, 39, 40] (by decide +kernel) (by decide +kernel)
set_option maxRecDepth 20000 in
theorem gX10_flight_X0_has : GoodIn wsX10_flight (wsV RX10 60 RX0 yX0_has wsX0_has) := goodIn_app (goodIn_of _ (by decide +kernel)) ggX10_flight_X0_has
set_option maxRecDepth 20000 in
theorem ggX10_flight_X0_flightBetween : GoodIn wsX10_flight wsX0_flightBetween := goodIn_r _ [12, 13, 14, 15, 16, 17, 18, 19, 20, 21, 22, 30, 31, 32, 33, 34, 35, 36, 37, 38, 39, 40, 41, 42, 43, 44, 45, 46, 47, 48, 49] (by decide +kernel) (by decide +kernel)
set_option maxRecDepth 20000 in
theorem gX10_flight_X0_flightBetween : GoodIn wsX10_flight (wsV RX10 79 RX0 yX0_flightBetween wsX0_flightBetween) := goodIn_app (goodIn_of _ (by decide +kernel)) ggX10_flight_X0_flightBetween
theorem dX10_flight_0 : decode cX10_flight 0 = .ok (.aload_n 0, 1) := by decide +kernel
theorem dX10_flight_1 : decode cX10_flight 1 = .ok (.getfield 26, 3) := by decide +kernel
theorem dX10_flight_4 : decode cX10_flight 4 = .ok (.iload_n 1, 1) := by decide +kernel
theorem dX10_flight_5 : decode cX10_flight 5 = .ok (.invokevirtual 60, 3) := by decide +kernel
theorem dX10_flight_8 : decode cX10_flight 8 = .ok (.ifCond .eq 14, 3) := by decide +kernel
theorem dX10_flight_11 : decode cX10_flight 11 = .ok (.aload_n 0, 1) := by decide +kernel
theorem dX10_flight_12 : decode cX10_flight 12 = .ok (.getfield 26, 3) := by decide +kernel
theorem dX10_flight_15 : decode cX10_flight 15 = .ok (.iload_n 2, 1) := by decide +kernel
theorem dX10_flight_16 : decode cX10_flight 16 = .ok (.invokevirtual 60, 3) := by decide +kernel
theorem dX10_flight_19 : decode cX10_flight 19 = .ok (.ifCond .ne 6, 3) := by decide +kernel
theorem dX10_flight_22 : decode cX10_flight 22 = .ok (.ldc 64, 2) := by decide +kernel
theorem dX10_flight_24 : decode cX10_flight 24 = .ok (.ireturn, 1) := by decide +kernel
theorem dX10_flight_25 : decode cX10_flight 25 = .ok (.aload_n 0, 1) := by decide +kernel
theorem dX10_flight_26 : decode cX10_flight 26 = .ok (.getfield 26, 3) := by decide +kernel
theorem dX10_flight_29 : decode cX10_flight 29 = .ok (.iload_n 1, 1) := by decide +kernel
theorem dX10_flight_30 : decode cX10_flight 30 = .ok (.iload_n 2, 1) := by decide +kernel
theorem dX10_flight_31 : decode cX10_flight 31 = .ok (.invokevirtual 79, 3) := by decide +kernel
theorem dX10_flight_34 : decode cX10_flight 34 = .ok (.ireturn, 1) := by decide +kernel
set_option maxRecDepth 20000 in
theorem ggX10_clock_X0_has : GoodIn wsX10_clock wsX0_has := goodIn_r _ [10, 11, 31, 32, 33, 34, 35, 36, 37, 38, 39, 40, 41] (by decide +kernel) (by decide +kernel)
set_option maxRecDepth 20000 in
theorem gX10_clock_X0_has : GoodIn wsX10_clock (wsV RX10 60 RX0 yX0_has wsX0_has) := goodIn_app (goodIn_of _ (by decide +kernel)) ggX10_clock_X0_has
set_option maxRecDepth 20000 in
theorem ggX10_clock_X5_clockAt : GoodIn wsX10_clock wsX5_clockAt := goodIn_r _ [16, 17, 18, 19, 20, 21, 22, 23, 42, 43, 44, 45, 46, 47, 48, 49] (by decide +kernel) (by decide +kernel)
set_option maxRecDepth 20000 in
theorem gX10_clock_X5_clockAt : GoodIn wsX10_clock (wsV RX10 84 RX5 yX5_clockAt wsX5_clockAt) := goodIn_app (goodIn_of _ (by decide +kernel)) ggX10_clock_X5_clockAt
theorem dX10_clock_0 : decode cX10_clock 0 = .ok (.aload_n 0, 1) := by decide +kernel
theorem dX10_clock_1 : decode cX10_clock 1 = .ok (.getfield 26, 3) := by decide +kernel
theorem dX10_clock_4 : decode cX10_clock 4 = .ok (.iload_n 1, 1) := by decide +kernel
theorem dX10_clock_5 : decode cX10_clock 5 = .ok (.invokevirtual 60, 3) := by decide +kernel
theorem dX10_clock_8 : decode cX10_clock 8 = .ok (.ifCond .ne 6, 3) := by decide +kernel
theorem dX10_clock_11 : decode cX10_clock 11 = .ok (.ldc 64, 2) := by decide +kernel
theorem dX10_clock_13 : decode cX10_clock 13 = .ok (.ireturn, 1) := by decide +kernel
theorem dX10_clock_14 : decode cX10_clock 14 = .ok (.iload_n 2, 1) := by decide +kernel
theorem dX10_clock_15 : decode cX10_clock 15 = .ok (.ifCond .lt 9, 3) := by decide +kernel
theorem dX10_clock_18 : decode cX10_clock 18 = .ok (.iload_n 2, 1) := by decide +kernel
theorem dX10_clock_19 : decode cX10_clock 19 = .ok (.ldc 83, 2) := by decide +kernel
theorem dX10_clock_21 : decode cX10_clock 21 = .ok (.if_icmp .le 6, 3) := by decide +kernel
theorem dX10_clock_24 : decode cX10_clock 24 = .ok (.ldc 30, 2) := by decide +kernel
theorem dX10_clock_26 : decode cX10_clock 26 = .ok (.ireturn, 1) := by decide +kernel
theorem dX10_clock_27 : decode cX10_clock 27 = .ok (.aload_n 0, 1) := by decide +kernel
theorem dX10_clock_28 : decode cX10_clock 28 = .ok (.getfield 26, 3) := by decide +kernel
theorem dX10_clock_31 : decode cX10_clock 31 = .ok (.getfield 65, 3) := by decide +kernel
theorem dX10_clock_34 : decode cX10_clock 34 = .ok (.iload_n 1, 1) := by decide +kernel
theorem dX10_clock_35 : decode cX10_clock 35 = .ok (.aaload, 1) := by decide +kernel
theorem dX10_clock_36 : decode cX10_clock 36 = .ok (.iload_n 2, 1) := by decide +kernel
theorem dX10_clock_37 : decode cX10_clock 37 = .ok (.i2l, 1) := by decide +kernel
theorem dX10_clock_38 : decode cX10_clock 38 = .ok (.invokevirtual 84, 3) := by decide +kernel
theorem dX10_clock_41 : decode cX10_clock 41 = .ok (.l2i, 1) := by decide +kernel
theorem dX10_clock_42 : decode cX10_clock 42 = .ok (.ireturn, 1) := by decide +kernel
set_option maxRecDepth 20000 in
theorem ggX10_delay_X0_has : GoodIn wsX10_delay wsX0_has := goodIn_r _ [10, 11, 19, 20, 21, 22, 23, 24, 25, 26, 27, 28, 29] (by decide +kernel) (by decide +kernel)
set_option maxRecDepth 20000 in
theorem gX10_delay_X0_has : GoodIn wsX10_delay (wsV RX10 60 RX0 yX0_has wsX0_has) := goodIn_app (goodIn_of _ (by decide +kernel)) ggX10_delay_X0_has
theorem dX10_delay_0 : decode cX10_delay 0 = .ok (.aload_n 0, 1) := by decide +kernel
theorem dX10_delay_1 : decode cX10_delay 1 = .ok (.getfield 26, 3) := by decide +kernel
theorem dX10_delay_4 : decode cX10_delay 4 = .ok (.iload_n 1, 1) := by decide +kernel
theorem dX10_delay_5 : decode cX10_delay 5 = .ok (.invokevirtual 60, 3) := by decide +kernel
theorem dX10_delay_8 : decode cX10_delay 8 = .ok (.ifCond .ne 6, 3) := by decide +kernel
theorem dX10_delay_11 : decode cX10_delay 11 = .ok (.ldc 64, 2) := by decide +kernel
theorem dX10_delay_13 : decode cX10_delay 13 = .ok (.ireturn, 1) := by decide +kernel
theorem dX10_delay_14 : decode cX10_delay 14 = .ok (.iload_n 2, 1) := by decide +kernel
theorem dX10_delay_15 : decode cX10_delay 15 = .ok (.bipush 10, 2) := by decide +kernel
theorem dX10_delay_17 : decode cX10_delay 17 = .ok (.if_icmp .lt 10, 3) := by decide +kernel
theorem dX10_delay_20 : decode cX10_delay 20 = .ok (.iload_n 2, 1) := by decide +kernel
theorem dX10_delay_21 : decode cX10_delay 21 = .ok (.sipush 300, 3) := by decide +kernel
theorem dX10_delay_24 : decode cX10_delay 24 = .ok (.if_icmp .le 6, 3) := by decide +kernel
theorem dX10_delay_27 : decode cX10_delay 27 = .ok (.ldc 30, 2) := by decide +kernel
theorem dX10_delay_29 : decode cX10_delay 29 = .ok (.ireturn, 1) := by decide +kernel
theorem dX10_delay_30 : decode cX10_delay 30 = .ok (.aload_n 0, 1) := by decide +kernel
theorem dX10_delay_31 : decode cX10_delay 31 = .ok (.getfield 26, 3) := by decide +kernel
theorem dX10_delay_34 : decode cX10_delay 34 = .ok (.getfield 65, 3) := by decide +kernel
theorem dX10_delay_37 : decode cX10_delay 37 = .ok (.iload_n 1, 1) := by decide +kernel
theorem dX10_delay_38 : decode cX10_delay 38 = .ok (.aaload, 1) := by decide +kernel
theorem dX10_delay_39 : decode cX10_delay 39 = .ok (.getfield 88, 3) := by decide +kernel
theorem dX10_delay_42 : decode cX10_delay 42 = .ok (.istore_n 3, 1) := by decide +kernel
theorem dX10_delay_43 : decode cX10_delay 43 = .ok (.aload_n 0, 1) := by decide +kernel
theorem dX10_delay_44 : decode cX10_delay 44 = .ok (.getfield 26, 3) := by decide +kernel
theorem dX10_delay_47 : decode cX10_delay 47 = .ok (.getfield 65, 3) := by decide +kernel
theorem dX10_delay_50 : decode cX10_delay 50 = .ok (.iload_n 1, 1) := by decide +kernel
theorem dX10_delay_51 : decode cX10_delay 51 = .ok (.aaload, 1) := by decide +kernel
theorem dX10_delay_52 : decode cX10_delay 52 = .ok (.iload_n 2, 1) := by decide +kernel
theorem dX10_delay_53 : decode cX10_delay 53 = .ok (.putfield 88, 3) := by decide +kernel
theorem dX10_delay_56 : decode cX10_delay 56 = .ok (.iload_n 3, 1) := by decide +kernel
theorem dX10_delay_57 : decode cX10_delay 57 = .ok (.ireturn, 1) := by decide +kernel
set_option maxRecDepth 20000 in
theorem ggX10_path_X0_hasPair : GoodIn wsX10_path wsX0_hasPair := goodIn_r _ [10, 11, 12, 13, 9, 14, 15, 16, 17, 18, 19, 20, 21, 22, 23, 24, 25, 51, 52, 53, 54, 55, 56, 57, 58, 59, 60, 61, 62, 63, 64, 65, 66, 67, 68, 69] (by decide +kernel) (by decide +kernel)
set_option maxRecDepth 20000 in
theorem gX10_path_X0_hasPair : GoodIn wsX10_path (wsV RX10 91 RX0 yX0_hasPair wsX0_hasPair) := goodIn_app (goodIn_of _ (by decide +kernel)) ggX10_path_X0_hasPair
set_option maxRecDepth 20000 in
theorem ggX10_path_X0_linkOf : GoodIn wsX10_path wsX0_linkOf := goodIn_r _ [29, 30, 51, 52, 53, 54, 55, 56, 57, 58, 59, 60, 61] (by decide +kernel) (by decide +kernel)
set_option maxRecDepth 20000 in
theorem gX10_path_X0_linkOf : GoodIn wsX10_path (wsV RX10 95 RX0 yX0_linkOf wsX0_linkOf) := goodIn_app (goodIn_of _ (by decide +kernel)) ggX10_path_X0_linkOf
set_option maxRecDepth 20000 in
theorem ggX10_path_X4_add : GoodIn wsX10_path wsX4_add := goodIn_r _ [35, 36, 37, 38, 46, 47, 48, 49, 50] (by decide +kernel) (by decide +kernel)
set_option maxRecDepth 20000 in
theorem gX10_path_X4_add : GoodIn wsX10_path (wsV RX10 104 RX4 yX4_add wsX4_add) := goodIn_app (goodIn_of _ (by decide +kernel)) ggX10_path_X4_add
theorem dX10_path_0 : decode cX10_path 0 = .ok (.aload_n 0, 1) := by decide +kernel
theorem dX10_path_1 : decode cX10_path 1 = .ok (.getfield 26, 3) := by decide +kernel
theorem dX10_path_4 : decode cX10_path 4 = .ok (.iload_n 1, 1) := by decide +kernel
theorem dX10_path_5 : decode cX10_path 5 = .ok (.iload_n 2, 1) := by decide +kernel
theorem dX10_path_6 : decode cX10_path 6 = .ok (.invokevirtual 91, 3) := by decide +kernel
theorem dX10_path_9 : decode cX10_path 9 = .ok (.ifCond .ne 6, 3) := by decide +kernel
theorem dX10_path_12 : decode cX10_path 12 = .ok (.ldc 64, 2) := by decide +kernel
theorem dX10_path_14 : decode cX10_path 14 = .ok (.ireturn, 1) := by decide +kernel
theorem dX10_path_15 : decode cX10_path 15 = .ok (.iload_n 3, 1) := by decide +kernel
theorem dX10_path_16 : decode cX10_path 16 = .ok (.ifCond .lt 23, 3) := by decide +kernel
theorem dX10_path_19 : decode cX10_path 19 = .ok (.iload_n 3, 1) := by decide +kernel
theorem dX10_path_20 : decode cX10_path 20 = .ok (.sipush 150, 3) := by decide +kernel
theorem dX10_path_23 : decode cX10_path 23 = .ok (.if_icmp .gt 16, 3) := by decide +kernel
theorem dX10_path_26 : decode cX10_path 26 = .ok (.iload 4, 2) := by decide +kernel
theorem dX10_path_28 : decode cX10_path 28 = .ok (.iconst 1, 1) := by decide +kernel
theorem dX10_path_29 : decode cX10_path 29 = .ok (.if_icmp .lt 10, 3) := by decide +kernel
theorem dX10_path_32 : decode cX10_path 32 = .ok (.iload 4, 2) := by decide +kernel
theorem dX10_path_34 : decode cX10_path 34 = .ok (.bipush 9, 2) := by decide +kernel
theorem dX10_path_36 : decode cX10_path 36 = .ok (.if_icmp .le 6, 3) := by decide +kernel
theorem dX10_path_39 : decode cX10_path 39 = .ok (.ldc 30, 2) := by decide +kernel
theorem dX10_path_41 : decode cX10_path 41 = .ok (.ireturn, 1) := by decide +kernel
theorem dX10_path_42 : decode cX10_path 42 = .ok (.aload_n 0, 1) := by decide +kernel
theorem dX10_path_43 : decode cX10_path 43 = .ok (.getfield 26, 3) := by decide +kernel
theorem dX10_path_46 : decode cX10_path 46 = .ok (.iload_n 1, 1) := by decide +kernel
theorem dX10_path_47 : decode cX10_path 47 = .ok (.iload_n 2, 1) := by decide +kernel
theorem dX10_path_48 : decode cX10_path 48 = .ok (.invokevirtual 95, 3) := by decide +kernel
theorem dX10_path_51 : decode cX10_path 51 = .ok (.astore 5, 2) := by decide +kernel
theorem dX10_path_53 : decode cX10_path 53 = .ok (.aload 5, 2) := by decide +kernel
theorem dX10_path_55 : decode cX10_path 55 = .ok (.getfield 99, 3) := by decide +kernel
theorem dX10_path_58 : decode cX10_path 58 = .ok (.bipush 6, 2) := by decide +kernel
theorem dX10_path_60 : decode cX10_path 60 = .ok (.if_icmp .lt 6, 3) := by decide +kernel
theorem dX10_path_63 : decode cX10_path 63 = .ok (.ldc 35, 2) := by decide +kernel
theorem dX10_path_65 : decode cX10_path 65 = .ok (.ireturn, 1) := by decide +kernel
theorem dX10_path_66 : decode cX10_path 66 = .ok (.aload 5, 2) := by decide +kernel
theorem dX10_path_68 : decode cX10_path 68 = .ok (.iload_n 3, 1) := by decide +kernel
theorem dX10_path_69 : decode cX10_path 69 = .ok (.iload 4, 2) := by decide +kernel
theorem dX10_path_71 : decode cX10_path 71 = .ok (.invokevirtual 104, 3) := by decide +kernel
theorem dX10_path_74 : decode cX10_path 74 = .ok (.aload 5, 2) := by decide +kernel
theorem dX10_path_76 : decode cX10_path 76 = .ok (.getfield 99, 3) := by decide +kernel
theorem dX10_path_79 : decode cX10_path 79 = .ok (.ireturn, 1) := by decide +kernel
set_option maxRecDepth 20000 in
theorem ggX10_block_X0_hasPair : GoodIn wsX10_block wsX0_hasPair := goodIn_r _ [8, 9, 10, 11, 7, 12, 13, 14, 15, 16, 17, 18, 19, 20, 21, 22, 23, 41, 42, 43, 44, 45, 46, 47, 48, 49, 50, 51, 52, 53, 54, 55, 56, 57, 58, 59] (by decide +kernel) (by decide +kernel)
set_option maxRecDepth 20000 in
theorem gX10_block_X0_hasPair : GoodIn wsX10_block (wsV RX10 91 RX0 yX0_hasPair wsX0_hasPair) := goodIn_app (goodIn_of _ (by decide +kernel)) ggX10_block_X0_hasPair
set_option maxRecDepth 20000 in
theorem ggX10_block_X0_linkOf : GoodIn wsX10_block wsX0_linkOf := goodIn_r _ [27, 28, 41, 42, 43, 44, 45, 46, 47, 48, 49, 50, 51] (by decide +kernel) (by decide +kernel)
set_option maxRecDepth 20000 in
theorem gX10_block_X0_linkOf : GoodIn wsX10_block (wsV RX10 95 RX0 yX0_linkOf wsX0_linkOf) := goodIn_app (goodIn_of _ (by decide +kernel)) ggX10_block_X0_linkOf
theorem dX10_block_0 : decode cX10_block 0 = .ok (.aload_n 0, 1) := by decide +kernel
theorem dX10_block_1 : decode cX10_block 1 = .ok (.getfield 26, 3) := by decide +kernel
theorem dX10_block_4 : decode cX10_block 4 = .ok (.iload_n 1, 1) := by decide +kernel
theorem dX10_block_5 : decode cX10_block 5 = .ok (.iload_n 2, 1) := by decide +kernel
theorem dX10_block_6 : decode cX10_block 6 = .ok (.invokevirtual 91, 3) := by decide +kernel
theorem dX10_block_9 : decode cX10_block 9 = .ok (.ifCond .ne 6, 3) := by decide +kernel
theorem dX10_block_12 : decode cX10_block 12 = .ok (.ldc 64, 2) := by decide +kernel
theorem dX10_block_14 : decode cX10_block 14 = .ok (.ireturn, 1) := by decide +kernel
theorem dX10_block_15 : decode cX10_block 15 = .ok (.aload_n 0, 1) := by decide +kernel
theorem dX10_block_16 : decode cX10_block 16 = .ok (.getfield 26, 3) := by decide +kernel
theorem dX10_block_19 : decode cX10_block 19 = .ok (.iload_n 1, 1) := by decide +kernel
theorem dX10_block_20 : decode cX10_block 20 = .ok (.iload_n 2, 1) := by decide +kernel
theorem dX10_block_21 : decode cX10_block 21 = .ok (.invokevirtual 95, 3) := by decide +kernel
theorem dX10_block_24 : decode cX10_block 24 = .ok (.astore_n 3, 1) := by decide +kernel
theorem dX10_block_25 : decode cX10_block 25 = .ok (.aload_n 3, 1) := by decide +kernel
theorem dX10_block_26 : decode cX10_block 26 = .ok (.getfield 99, 3) := by decide +kernel
theorem dX10_block_29 : decode cX10_block 29 = .ok (.istore 4, 2) := by decide +kernel
theorem dX10_block_31 : decode cX10_block 31 = .ok (.aload_n 3, 1) := by decide +kernel
theorem dX10_block_32 : decode cX10_block 32 = .ok (.iconst 0, 1) := by decide +kernel
theorem dX10_block_33 : decode cX10_block 33 = .ok (.putfield 99, 3) := by decide +kernel
theorem dX10_block_36 : decode cX10_block 36 = .ok (.iload 4, 2) := by decide +kernel
theorem dX10_block_38 : decode cX10_block 38 = .ok (.ireturn, 1) := by decide +kernel
set_option maxRecDepth 20000 in
theorem ggX10_firstPath_X0_hasPair : GoodIn wsX10_firstPath wsX0_hasPair := goodIn_r _ [8, 9, 10, 11, 7, 12, 13, 14, 15, 16, 17, 18, 19, 20, 21, 22, 23, 44, 45, 46, 47, 48, 49, 50, 51, 52, 53, 54, 55, 56, 57, 58, 59, 60, 61, 62] (by decide +kernel) (by decide +kernel)
set_option maxRecDepth 20000 in
theorem gX10_firstPath_X0_hasPair : GoodIn wsX10_firstPath (wsV RX10 91 RX0 yX0_hasPair wsX0_hasPair) := goodIn_app (goodIn_of _ (by decide +kernel)) ggX10_firstPath_X0_hasPair
set_option maxRecDepth 20000 in
theorem ggX10_firstPath_X0_linkOf : GoodIn wsX10_firstPath wsX0_linkOf := goodIn_r _ [27, 28, 44, 45, 46, 47, 48, 49, 50, 51, 52, 53, 54] (by decide +kernel) (by decide +kernel)
set_option maxRecDepth 20000 in
theorem gX10_firstPath_X0_linkOf : GoodIn wsX10_firstPath (wsV RX10 95 RX0 yX0_linkOf wsX0_linkOf) := goodIn_app (goodIn_of _ (by decide +kernel)) ggX10_firstPath_X0_linkOf
set_option maxRecDepth 20000 in
theorem ggX10_firstPath_X4_leastExtra : GoodIn wsX10_firstPath wsX4_leastExtra := goodIn_r _ [33, 34, 35, 36, 63, 64, 65, 66, 67] (by decide +kernel) (by decide +kernel)
set_option maxRecDepth 20000 in
theorem gX10_firstPath_X4_leastExtra : GoodIn wsX10_firstPath (wsV RX10 110 RX4 yX4_leastExtra wsX4_leastExtra) := goodIn_app (goodIn_of _ (by decide +kernel)) ggX10_firstPath_X4_leastExtra
theorem dX10_firstPath_0 : decode cX10_firstPath 0 = .ok (.aload_n 0, 1) := by decide +kernel
theorem dX10_firstPath_1 : decode cX10_firstPath 1 = .ok (.getfield 26, 3) := by decide +kernel
theorem dX10_firstPath_4 : decode cX10_firstPath 4 = .ok (.iload_n 1, 1) := by decide +kernel
theorem dX10_firstPath_5 : decode cX10_firstPath 5 = .ok (.iload_n 2, 1) := by decide +kernel
theorem dX10_firstPath_6 : decode cX10_firstPath 6 = .ok (.invokevirtual 91, 3) := by decide +kernel
theorem dX10_firstPath_9 : decode cX10_firstPath 9 = .ok (.ifCond .ne 6, 3) := by decide +kernel
theorem dX10_firstPath_12 : decode cX10_firstPath 12 = .ok (.ldc 64, 2) := by decide +kernel
theorem dX10_firstPath_14 : decode cX10_firstPath 14 = .ok (.ireturn, 1) := by decide +kernel
theorem dX10_firstPath_15 : decode cX10_firstPath 15 = .ok (.aload_n 0, 1) := by decide +kernel
theorem dX10_firstPath_16 : decode cX10_firstPath 16 = .ok (.getfield 26, 3) := by decide +kernel
theorem dX10_firstPath_19 : decode cX10_firstPath 19 = .ok (.iload_n 1, 1) := by decide +kernel
theorem dX10_firstPath_20 : decode cX10_firstPath 20 = .ok (.iload_n 2, 1) := by decide +kernel
theorem dX10_firstPath_21 : decode cX10_firstPath 21 = .ok (.invokevirtual 95, 3) := by decide +kernel
theorem dX10_firstPath_24 : decode cX10_firstPath 24 = .ok (.aload_n 0, 1) := by decide +kernel
theorem dX10_firstPath_25 : decode cX10_firstPath 25 = .ok (.getfield 26, 3) := by decide +kernel
theorem dX10_firstPath_28 : decode cX10_firstPath 28 = .ok (.getfield 107, 3) := by decide +kernel
theorem dX10_firstPath_31 : decode cX10_firstPath 31 = .ok (.invokevirtual 110, 3) := by decide +kernel
theorem dX10_firstPath_34 : decode cX10_firstPath 34 = .ok (.ireturn, 1) := by decide +kernel
set_option maxRecDepth 20000 in
theorem ggX10_level_X0_isRead : GoodIn wsX10_level wsX0_isRead := goodIn_r _ [9, 10, 18, 19, 20, 21, 22, 23, 24, 25, 26, 27, 28] (by decide +kernel) (by decide +kernel)
set_option maxRecDepth 20000 in
theorem gX10_level_X0_isRead : GoodIn wsX10_level (wsV RX10 114 RX0 yX0_isRead wsX0_isRead) := goodIn_app (goodIn_of _ (by decide +kernel)) ggX10_level_X0_isRead
theorem dX10_level_0 : decode cX10_level 0 = .ok (.aload_n 0, 1) := by decide +kernel
theorem dX10_level_1 : decode cX10_level 1 = .ok (.getfield 26, 3) := by decide +kernel
theorem dX10_level_4 : decode cX10_level 4 = .ok (.invokevirtual 114, 3) := by decide +kernel
theorem dX10_level_7 : decode cX10_level 7 = .ok (.ifCond .ne 6, 3) := by decide +kernel
theorem dX10_level_10 : decode cX10_level 10 = .ok (.ldc 51, 2) := by decide +kernel
theorem dX10_level_12 : decode cX10_level 12 = .ok (.ireturn, 1) := by decide +kernel
theorem dX10_level_13 : decode cX10_level 13 = .ok (.iload_n 1, 1) := by decide +kernel
theorem dX10_level_14 : decode cX10_level 14 = .ok (.iconst 1, 1) := by decide +kernel
theorem dX10_level_15 : decode cX10_level 15 = .ok (.if_icmp .lt 9, 3) := by decide +kernel
theorem dX10_level_18 : decode cX10_level 18 = .ok (.iload_n 1, 1) := by decide +kernel
theorem dX10_level_19 : decode cX10_level 19 = .ok (.bipush 9, 2) := by decide +kernel
theorem dX10_level_21 : decode cX10_level 21 = .ok (.if_icmp .le 6, 3) := by decide +kernel
theorem dX10_level_24 : decode cX10_level 24 = .ok (.ldc 30, 2) := by decide +kernel
theorem dX10_level_26 : decode cX10_level 26 = .ok (.ireturn, 1) := by decide +kernel
theorem dX10_level_27 : decode cX10_level 27 = .ok (.aload_n 0, 1) := by decide +kernel
theorem dX10_level_28 : decode cX10_level 28 = .ok (.getfield 26, 3) := by decide +kernel
theorem dX10_level_31 : decode cX10_level 31 = .ok (.getfield 107, 3) := by decide +kernel
theorem dX10_level_34 : decode cX10_level 34 = .ok (.istore_n 2, 1) := by decide +kernel
theorem dX10_level_35 : decode cX10_level 35 = .ok (.aload_n 0, 1) := by decide +kernel
theorem dX10_level_36 : decode cX10_level 36 = .ok (.getfield 26, 3) := by decide +kernel
theorem dX10_level_39 : decode cX10_level 39 = .ok (.iload_n 1, 1) := by decide +kernel
theorem dX10_level_40 : decode cX10_level 40 = .ok (.putfield 107, 3) := by decide +kernel
theorem dX10_level_43 : decode cX10_level 43 = .ok (.iload_n 2, 1) := by decide +kernel
theorem dX10_level_44 : decode cX10_level 44 = .ok (.ireturn, 1) := by decide +kernel
set_option maxRecDepth 20000 in
theorem ggX10_exchange_X0_hasPair : GoodIn wsX10_exchange wsX0_hasPair := goodIn_r _ [7, 8, 9, 10, 6, 11, 12, 13, 14, 15, 16, 17, 18, 19, 20, 21, 22, 115, 116, 117, 118, 119, 120, 121, 122, 123, 124, 125, 126, 127, 128, 129, 130, 131, 132, 133] (by decide +kernel) (by decide +kernel)
set_option maxRecDepth 20000 in
theorem gX10_exchange_X0_hasPair : GoodIn wsX10_exchange (wsV RX10 91 RX0 yX0_hasPair wsX0_hasPair) := goodIn_app (goodIn_of _ (by decide +kernel)) ggX10_exchange_X0_hasPair
set_option maxRecDepth 20000 in
theorem ggX10_exchange_X10_countedPulses : GoodIn wsX10_exchange wsX10_countedPulses := goodIn_r _ [27, 1, 28, 29, 30, 31, 32, 33, 6, 34, 35, 36, 37, 38, 12, 39, 40, 41, 42, 43, 44, 45, 46, 47, 48, 49, 50, 51, 52, 53, 54, 55, 56, 57, 58, 59, 60, 61, 62, 63, 64, 65, 66, 67, 68, 69, 70, 71, 72, 73, 74, 75, 76, 77, 78, 79, 80, 81, 82, 83, 84, 85, 86, 87, 88, 89, 90, 91, 92, 93, 94, 95, 96, 97, 98, 99, 100, 101, 102, 103, 104, 105, 106, 107, 108, 109, 110, 111, 112, 113, 114, 115, 116, 117, 118, 119, 120, 121, 122, 123, 124, 125, 134, 135, 136, 137, 138, 139, 140, 141, 142, 143, 144, 145, 146, 147, 148, 149, 150, 151, 152, 153, 126, 127, 128, 129, 130, 131, 132, 133, 154] (by decide +kernel) (by decide +kernel)
set_option maxRecDepth 20000 in
theorem gX10_exchange_X10_countedPulses : GoodIn wsX10_exchange (wsV RX10 117 RX10 yX10_countedPulses wsX10_countedPulses) := goodIn_app (goodIn_of _ (by decide +kernel)) ggX10_exchange_X10_countedPulses
theorem dX10_exchange_0 : decode cX10_exchange 0 = .ok (.aload_n 0, 1) := by decide +kernel
theorem dX10_exchange_1 : decode cX10_exchange 1 = .ok (.getfield 26, 3) := by decide +kernel
theorem dX10_exchange_4 : decode cX10_exchange 4 = .ok (.iload_n 1, 1) := by decide +kernel
theorem dX10_exchange_5 : decode cX10_exchange 5 = .ok (.iload_n 2, 1) := by decide +kernel
theorem dX10_exchange_6 : decode cX10_exchange 6 = .ok (.invokevirtual 91, 3) := by decide +kernel
theorem dX10_exchange_9 : decode cX10_exchange 9 = .ok (.ifCond .ne 6, 3) := by decide +kernel
theorem dX10_exchange_12 : decode cX10_exchange 12 = .ok (.ldc 64, 2) := by decide +kernel
theorem dX10_exchange_14 : decode cX10_exchange 14 = .ok (.ireturn, 1) := by decide +kernel
theorem dX10_exchange_15 : decode cX10_exchange 15 = .ok (.aload_n 0, 1) := by decide +kernel
theorem dX10_exchange_16 : decode cX10_exchange 16 = .ok (.iload_n 1, 1) := by decide +kernel
theorem dX10_exchange_17 : decode cX10_exchange 17 = .ok (.iload_n 2, 1) := by decide +kernel
theorem dX10_exchange_18 : decode cX10_exchange 18 = .ok (.invokevirtual 117, 3) := by decide +kernel
theorem dX10_exchange_21 : decode cX10_exchange 21 = .ok (.ireturn, 1) := by decide +kernel
set_option maxRecDepth 20000 in
theorem ggX10_idle_X0_isRead : GoodIn wsX10_idle wsX0_isRead := goodIn_r _ [11, 12, 20, 21, 22, 23, 24, 25, 26, 27, 28, 29, 30] (by decide +kernel) (by decide +kernel)
set_option maxRecDepth 20000 in
theorem gX10_idle_X0_isRead : GoodIn wsX10_idle (wsV RX10 114 RX0 yX0_isRead wsX0_isRead) := goodIn_app (goodIn_of _ (by decide +kernel)) ggX10_idle_X0_isRead
theorem dX10_idle_0 : decode cX10_idle 0 = .ok (.aload_n 0, 1) := by decide +kernel
theorem dX10_idle_1 : decode cX10_idle 1 = .ok (.getfield 26, 3) := by decide +kernel
theorem dX10_idle_4 : decode cX10_idle 4 = .ok (.invokevirtual 114, 3) := by decide +kernel
theorem dX10_idle_7 : decode cX10_idle 7 = .ok (.ifCond .ne 6, 3) := by decide +kernel
theorem dX10_idle_10 : decode cX10_idle 10 = .ok (.ldc 51, 2) := by decide +kernel
theorem dX10_idle_12 : decode cX10_idle 12 = .ok (.ireturn, 1) := by decide +kernel
theorem dX10_idle_13 : decode cX10_idle 13 = .ok (.iload_n 1, 1) := by decide +kernel
theorem dX10_idle_14 : decode cX10_idle 14 = .ok (.ifCond .lt 26, 3) := by decide +kernel
theorem dX10_idle_17 : decode cX10_idle 17 = .ok (.iload_n 1, 1) := by decide +kernel
theorem dX10_idle_18 : decode cX10_idle 18 = .ok (.ldc 120, 2) := by decide +kernel
theorem dX10_idle_20 : decode cX10_idle 20 = .ok (.if_icmp .gt 20, 3) := by decide +kernel
theorem dX10_idle_23 : decode cX10_idle 23 = .ok (.aload_n 0, 1) := by decide +kernel
theorem dX10_idle_24 : decode cX10_idle 24 = .ok (.getfield 26, 3) := by decide +kernel
theorem dX10_idle_27 : decode cX10_idle 27 = .ok (.getfield 69, 3) := by decide +kernel
theorem dX10_idle_30 : decode cX10_idle 30 = .ok (.iload_n 1, 1) := by decide +kernel
theorem dX10_idle_31 : decode cX10_idle 31 = .ok (.i2l, 1) := by decide +kernel
theorem dX10_idle_32 : decode cX10_idle 32 = .ok (.ladd, 1) := by decide +kernel
theorem dX10_idle_33 : decode cX10_idle 33 = .ok (.ldc2_w 121, 3) := by decide +kernel
theorem dX10_idle_36 : decode cX10_idle 36 = .ok (.lcmp, 1) := by decide +kernel
theorem dX10_idle_37 : decode cX10_idle 37 = .ok (.ifCond .le 6, 3) := by decide +kernel
theorem dX10_idle_40 : decode cX10_idle 40 = .ok (.ldc 30, 2) := by decide +kernel
theorem dX10_idle_42 : decode cX10_idle 42 = .ok (.ireturn, 1) := by decide +kernel
theorem dX10_idle_43 : decode cX10_idle 43 = .ok (.aload_n 0, 1) := by decide +kernel
theorem dX10_idle_44 : decode cX10_idle 44 = .ok (.getfield 26, 3) := by decide +kernel
theorem dX10_idle_47 : decode cX10_idle 47 = .ok (.dup, 1) := by decide +kernel
theorem dX10_idle_48 : decode cX10_idle 48 = .ok (.getfield 69, 3) := by decide +kernel
theorem dX10_idle_51 : decode cX10_idle 51 = .ok (.iload_n 1, 1) := by decide +kernel
theorem dX10_idle_52 : decode cX10_idle 52 = .ok (.i2l, 1) := by decide +kernel
theorem dX10_idle_53 : decode cX10_idle 53 = .ok (.ladd, 1) := by decide +kernel
theorem dX10_idle_54 : decode cX10_idle 54 = .ok (.putfield 69, 3) := by decide +kernel
theorem dX10_idle_57 : decode cX10_idle 57 = .ok (.aload_n 0, 1) := by decide +kernel
theorem dX10_idle_58 : decode cX10_idle 58 = .ok (.getfield 26, 3) := by decide +kernel
theorem dX10_idle_61 : decode cX10_idle 61 = .ok (.getfield 69, 3) := by decide +kernel
theorem dX10_idle_64 : decode cX10_idle 64 = .ok (.l2i, 1) := by decide +kernel
theorem dX10_idle_65 : decode cX10_idle 65 = .ok (.ireturn, 1) := by decide +kernel
set_option maxRecDepth 20000 in
theorem ggX10_last_X3_tell : GoodIn wsX10_last wsX3_tell := goodIn_r _ [10, 11, 12, 13, 14, 15, 16, 17, 36, 37, 38, 39, 40, 41, 42, 43, 44] (by decide +kernel) (by decide +kernel)
set_option maxRecDepth 20000 in
theorem gX10_last_X3_tell : GoodIn wsX10_last (wsV RX10 133 RX3 yX3_tell wsX3_tell) := goodIn_app (goodIn_of _ (by decide +kernel)) ggX10_last_X3_tell
theorem dX10_last_0 : decode cX10_last 0 = .ok (.iload_n 1, 1) := by decide +kernel
theorem dX10_last_1 : decode cX10_last 1 = .ok (.iconst 1, 1) := by decide +kernel
theorem dX10_last_2 : decode cX10_last 2 = .ok (.if_icmp .lt 9, 3) := by decide +kernel
theorem dX10_last_5 : decode cX10_last 5 = .ok (.iload_n 1, 1) := by decide +kernel
theorem dX10_last_6 : decode cX10_last 6 = .ok (.bipush 11, 2) := by decide +kernel
theorem dX10_last_8 : decode cX10_last 8 = .ok (.if_icmp .le 6, 3) := by decide +kernel
theorem dX10_last_11 : decode cX10_last 11 = .ok (.ldc 30, 2) := by decide +kernel
theorem dX10_last_13 : decode cX10_last 13 = .ok (.ireturn, 1) := by decide +kernel
theorem dX10_last_14 : decode cX10_last 14 = .ok (.aload_n 0, 1) := by decide +kernel
theorem dX10_last_15 : decode cX10_last 15 = .ok (.getfield 26, 3) := by decide +kernel
theorem dX10_last_18 : decode cX10_last 18 = .ok (.getfield 123, 3) := by decide +kernel
theorem dX10_last_21 : decode cX10_last 21 = .ok (.getfield 127, 3) := by decide +kernel
theorem dX10_last_24 : decode cX10_last 24 = .ok (.ifCond .ne 6, 3) := by decide +kernel
theorem dX10_last_27 : decode cX10_last 27 = .ok (.ldc 51, 2) := by decide +kernel
theorem dX10_last_29 : decode cX10_last 29 = .ok (.ireturn, 1) := by decide +kernel
theorem dX10_last_30 : decode cX10_last 30 = .ok (.aload_n 0, 1) := by decide +kernel
theorem dX10_last_31 : decode cX10_last 31 = .ok (.getfield 26, 3) := by decide +kernel
theorem dX10_last_34 : decode cX10_last 34 = .ok (.getfield 123, 3) := by decide +kernel
theorem dX10_last_37 : decode cX10_last 37 = .ok (.iload_n 1, 1) := by decide +kernel
theorem dX10_last_38 : decode cX10_last 38 = .ok (.invokevirtual 133, 3) := by decide +kernel
theorem dX10_last_41 : decode cX10_last 41 = .ok (.ireturn, 1) := by decide +kernel
set_option maxRecDepth 20000 in
theorem ggX10_heard_X0_has : GoodIn wsX10_heard wsX0_has := goodIn_r _ [10, 11, 67, 68, 69, 70, 71, 72, 73, 74, 75, 76, 77] (by decide +kernel) (by decide +kernel)
set_option maxRecDepth 20000 in
theorem gX10_heard_X0_has : GoodIn wsX10_heard (wsV RX10 60 RX0 yX0_has wsX0_has) := goodIn_app (goodIn_of _ (by decide +kernel)) ggX10_heard_X0_has
set_option maxRecDepth 20000 in
theorem ggX10_heard_X3_isOf : GoodIn wsX10_heard wsX3_isOf := goodIn_r _ [16, 17, 18, 78, 79, 80, 81, 82, 83, 84, 85, 86] (by decide +kernel) (by decide +kernel)
set_option maxRecDepth 20000 in
theorem gX10_heard_X3_isOf : GoodIn wsX10_heard (wsV RX10 135 RX3 yX3_isOf wsX3_isOf) := goodIn_app (goodIn_of _ (by decide +kernel)) ggX10_heard_X3_isOf
set_option maxRecDepth 20000 in
theorem ggX10_heard_X0_heardBy : GoodIn wsX10_heard wsX0_heardBy := goodIn_r _ [22, 23, 24, 25, 26, 27, 28, 29, 30, 31, 32, 9, 33, 34, 35, 36, 37, 38, 39, 40, 41, 42, 43, 44, 45, 46, 47, 48, 49, 50, 51, 52, 53, 54, 55, 56, 57, 15, 58, 59, 67, 68, 69, 70, 71, 72, 73, 74, 75, 76, 77, 78, 79, 80, 81, 82, 83, 84, 85, 86, 87, 88, 89, 90, 91, 92, 93, 94, 95] (by decide +kernel) (by decide +kernel)
set_option maxRecDepth 20000 in
theorem gX10_heard_X0_heardBy : GoodIn wsX10_heard (wsV RX10 138 RX0 yX0_heardBy wsX0_heardBy) := goodIn_app (goodIn_of _ (by decide +kernel)) ggX10_heard_X0_heardBy
theorem dX10_heard_0 : decode cX10_heard 0 = .ok (.aload_n 0, 1) := by decide +kernel
theorem dX10_heard_1 : decode cX10_heard 1 = .ok (.getfield 26, 3) := by decide +kernel
theorem dX10_heard_4 : decode cX10_heard 4 = .ok (.getfield 123, 3) := by decide +kernel
theorem dX10_heard_7 : decode cX10_heard 7 = .ok (.getfield 127, 3) := by decide +kernel
theorem dX10_heard_10 : decode cX10_heard 10 = .ok (.ifCond .ne 6, 3) := by decide +kernel
theorem dX10_heard_13 : decode cX10_heard 13 = .ok (.ldc 51, 2) := by decide +kernel
theorem dX10_heard_15 : decode cX10_heard 15 = .ok (.ireturn, 1) := by decide +kernel
theorem dX10_heard_16 : decode cX10_heard 16 = .ok (.aload_n 0, 1) := by decide +kernel
theorem dX10_heard_17 : decode cX10_heard 17 = .ok (.getfield 26, 3) := by decide +kernel
theorem dX10_heard_20 : decode cX10_heard 20 = .ok (.iload_n 1, 1) := by decide +kernel
theorem dX10_heard_21 : decode cX10_heard 21 = .ok (.invokevirtual 60, 3) := by decide +kernel
theorem dX10_heard_24 : decode cX10_heard 24 = .ok (.ifCond .eq 17, 3) := by decide +kernel
theorem dX10_heard_27 : decode cX10_heard 27 = .ok (.aload_n 0, 1) := by decide +kernel
theorem dX10_heard_28 : decode cX10_heard 28 = .ok (.getfield 26, 3) := by decide +kernel
theorem dX10_heard_31 : decode cX10_heard 31 = .ok (.getfield 123, 3) := by decide +kernel
theorem dX10_heard_34 : decode cX10_heard 34 = .ok (.iload_n 1, 1) := by decide +kernel
theorem dX10_heard_35 : decode cX10_heard 35 = .ok (.invokevirtual 135, 3) := by decide +kernel
theorem dX10_heard_38 : decode cX10_heard 38 = .ok (.ifCond .eq 6, 3) := by decide +kernel
theorem dX10_heard_41 : decode cX10_heard 41 = .ok (.ldc 64, 2) := by decide +kernel
theorem dX10_heard_43 : decode cX10_heard 43 = .ok (.ireturn, 1) := by decide +kernel
theorem dX10_heard_44 : decode cX10_heard 44 = .ok (.aload_n 0, 1) := by decide +kernel
theorem dX10_heard_45 : decode cX10_heard 45 = .ok (.getfield 26, 3) := by decide +kernel
theorem dX10_heard_48 : decode cX10_heard 48 = .ok (.iload_n 1, 1) := by decide +kernel
theorem dX10_heard_49 : decode cX10_heard 49 = .ok (.invokevirtual 138, 3) := by decide +kernel
theorem dX10_heard_52 : decode cX10_heard 52 = .ok (.ireturn, 1) := by decide +kernel
set_option maxRecDepth 20000 in
theorem ggX10_range_X0_hasPair : GoodIn wsX10_range wsX0_hasPair := goodIn_r _ [8, 9, 10, 11, 7, 12, 13, 14, 15, 16, 17, 18, 19, 20, 21, 22, 23, 41, 42, 43, 44, 45, 46, 47, 48, 49, 50, 51, 52, 53, 54, 55, 56, 57, 58, 59] (by decide +kernel) (by decide +kernel)
set_option maxRecDepth 20000 in
theorem gX10_range_X0_hasPair : GoodIn wsX10_range (wsV RX10 91 RX0 yX0_hasPair wsX0_hasPair) := goodIn_app (goodIn_of _ (by decide +kernel)) ggX10_range_X0_hasPair
set_option maxRecDepth 20000 in
theorem ggX10_range_X0_linkOf : GoodIn wsX10_range wsX0_linkOf := goodIn_r _ [27, 28, 41, 42, 43, 44, 45, 46, 47, 48, 49, 50, 51] (by decide +kernel) (by decide +kernel)
set_option maxRecDepth 20000 in
theorem gX10_range_X0_linkOf : GoodIn wsX10_range (wsV RX10 95 RX0 yX0_linkOf wsX0_linkOf) := goodIn_app (goodIn_of _ (by decide +kernel)) ggX10_range_X0_linkOf
theorem dX10_range_0 : decode cX10_range 0 = .ok (.aload_n 0, 1) := by decide +kernel
theorem dX10_range_1 : decode cX10_range 1 = .ok (.getfield 26, 3) := by decide +kernel
theorem dX10_range_4 : decode cX10_range 4 = .ok (.iload_n 1, 1) := by decide +kernel
theorem dX10_range_5 : decode cX10_range 5 = .ok (.iload_n 2, 1) := by decide +kernel
theorem dX10_range_6 : decode cX10_range 6 = .ok (.invokevirtual 91, 3) := by decide +kernel
theorem dX10_range_9 : decode cX10_range 9 = .ok (.ifCond .ne 6, 3) := by decide +kernel
theorem dX10_range_12 : decode cX10_range 12 = .ok (.ldc 64, 2) := by decide +kernel
theorem dX10_range_14 : decode cX10_range 14 = .ok (.ireturn, 1) := by decide +kernel
theorem dX10_range_15 : decode cX10_range 15 = .ok (.aload_n 0, 1) := by decide +kernel
theorem dX10_range_16 : decode cX10_range 16 = .ok (.getfield 26, 3) := by decide +kernel
theorem dX10_range_19 : decode cX10_range 19 = .ok (.iload_n 1, 1) := by decide +kernel
theorem dX10_range_20 : decode cX10_range 20 = .ok (.iload_n 2, 1) := by decide +kernel
theorem dX10_range_21 : decode cX10_range 21 = .ok (.invokevirtual 95, 3) := by decide +kernel
theorem dX10_range_24 : decode cX10_range 24 = .ok (.getfield 141, 3) := by decide +kernel
theorem dX10_range_27 : decode cX10_range 27 = .ok (.ireturn, 1) := by decide +kernel
set_option maxRecDepth 20000 in
theorem ggX10_misfit_X0_isTag : GoodIn wsX10_misfit wsX0_isTag := goodIn_r _ [8, 9, 10, 11, 12, 13, 7, 14, 15, 69, 70, 71, 72, 73, 74, 75, 76, 77, 78, 79, 80, 81, 82, 83, 84, 85, 86, 87] (by decide +kernel) (by decide +kernel)
set_option maxRecDepth 20000 in
theorem gX10_misfit_X0_isTag : GoodIn wsX10_misfit (wsV RX10 144 RX0 yX0_isTag wsX0_isTag) := goodIn_app (goodIn_of _ (by decide +kernel)) ggX10_misfit_X0_isTag
set_option maxRecDepth 20000 in
theorem ggX10_misfit_X0_fittingOf : GoodIn wsX10_misfit wsX0_fittingOf := goodIn_r _ [19, 20, 15, 21, 9, 22, 23, 24, 25, 26, 27, 28, 29, 30, 31, 32, 33, 7, 34, 35, 36, 37, 38, 39, 40, 41, 42, 69, 70, 71, 72, 73, 74, 75, 76, 77, 78, 79, 88, 89, 90, 91, 92, 80, 81, 82, 83, 84, 85, 86, 87, 93, 94, 95, 96, 97, 98] (by decide +kernel) (by decide +kernel)
set_option maxRecDepth 20000 in
theorem gX10_misfit_X0_fittingOf : GoodIn wsX10_misfit (wsV RX10 147 RX0 yX0_fittingOf wsX0_fittingOf) := goodIn_app (goodIn_of _ (by decide +kernel)) ggX10_misfit_X0_fittingOf
set_option maxRecDepth 20000 in
theorem ggX10_misfit_X1_misfitAt : GoodIn wsX10_misfit wsX1_misfitAt := goodIn_r _ [46, 47, 48, 49, 28, 50, 30, 51, 52, 53, 54, 42, 55, 40, 41, 56, 57, 58, 59, 60, 61, 93, 94, 95, 96, 97, 98, 99] (by decide +kernel) (by decide +kernel)
set_option maxRecDepth 20000 in
theorem gX10_misfit_X1_misfitAt : GoodIn wsX10_misfit (wsV RX10 151 RX1 yX1_misfitAt wsX1_misfitAt) := goodIn_app (goodIn_of _ (by decide +kernel)) ggX10_misfit_X1_misfitAt
theorem dX10_misfit_0 : decode cX10_misfit 0 = .ok (.aload_n 0, 1) := by decide +kernel
theorem dX10_misfit_1 : decode cX10_misfit 1 = .ok (.getfield 26, 3) := by decide +kernel
theorem dX10_misfit_4 : decode cX10_misfit 4 = .ok (.iload_n 1, 1) := by decide +kernel
theorem dX10_misfit_5 : decode cX10_misfit 5 = .ok (.invokevirtual 144, 3) := by decide +kernel
theorem dX10_misfit_8 : decode cX10_misfit 8 = .ok (.ifCond .ne 6, 3) := by decide +kernel
theorem dX10_misfit_11 : decode cX10_misfit 11 = .ok (.ldc 64, 2) := by decide +kernel
theorem dX10_misfit_13 : decode cX10_misfit 13 = .ok (.ireturn, 1) := by decide +kernel
theorem dX10_misfit_14 : decode cX10_misfit 14 = .ok (.iload_n 2, 1) := by decide +kernel
theorem dX10_misfit_15 : decode cX10_misfit 15 = .ok (.ifCond .lt 19, 3) := by decide +kernel
theorem dX10_misfit_18 : decode cX10_misfit 18 = .ok (.iload_n 2, 1) := by decide +kernel
theorem dX10_misfit_19 : decode cX10_misfit 19 = .ok (.bipush 32, 2) := by decide +kernel
theorem dX10_misfit_21 : decode cX10_misfit 21 = .ok (.if_icmp .ge 13, 3) := by decide +kernel
theorem dX10_misfit_24 : decode cX10_misfit 24 = .ok (.iload_n 3, 1) := by decide +kernel
theorem dX10_misfit_25 : decode cX10_misfit 25 = .ok (.ifCond .lt 9, 3) := by decide +kernel
theorem dX10_misfit_28 : decode cX10_misfit 28 = .ok (.iload_n 3, 1) := by decide +kernel
theorem dX10_misfit_29 : decode cX10_misfit 29 = .ok (.bipush 32, 2) := by decide +kernel
theorem dX10_misfit_31 : decode cX10_misfit 31 = .ok (.if_icmp .lt 6, 3) := by decide +kernel
theorem dX10_misfit_34 : decode cX10_misfit 34 = .ok (.ldc 30, 2) := by decide +kernel
theorem dX10_misfit_36 : decode cX10_misfit 36 = .ok (.ireturn, 1) := by decide +kernel
theorem dX10_misfit_37 : decode cX10_misfit 37 = .ok (.aload_n 0, 1) := by decide +kernel
theorem dX10_misfit_38 : decode cX10_misfit 38 = .ok (.getfield 26, 3) := by decide +kernel
theorem dX10_misfit_41 : decode cX10_misfit 41 = .ok (.iload_n 1, 1) := by decide +kernel
theorem dX10_misfit_42 : decode cX10_misfit 42 = .ok (.invokevirtual 147, 3) := by decide +kernel
theorem dX10_misfit_45 : decode cX10_misfit 45 = .ok (.iload_n 2, 1) := by decide +kernel
theorem dX10_misfit_46 : decode cX10_misfit 46 = .ok (.iload_n 3, 1) := by decide +kernel
theorem dX10_misfit_47 : decode cX10_misfit 47 = .ok (.invokevirtual 151, 3) := by decide +kernel
theorem dX10_misfit_50 : decode cX10_misfit 50 = .ok (.ireturn, 1) := by decide +kernel
set_option maxRecDepth 20000 in
theorem ggX10_placed_X0_isTag : GoodIn wsX10_placed wsX0_isTag := goodIn_r _ [9, 10, 11, 12, 13, 14, 8, 15, 16, 122, 123, 124, 125, 126, 127, 128, 129, 130, 131, 132, 133, 134, 135, 136, 137, 138, 139, 140] (by decide +kernel) (by decide +kernel)
set_option maxRecDepth 20000 in
theorem gX10_placed_X0_isTag : GoodIn wsX10_placed (wsV RX10 144 RX0 yX0_isTag wsX0_isTag) := goodIn_app (goodIn_of _ (by decide +kernel)) ggX10_placed_X0_isTag
set_option maxRecDepth 20000 in
theorem ggX10_placed_X0_isPlaced : GoodIn wsX10_placed wsX0_isPlaced := goodIn_r _ [20, 16, 21, 22, 23, 24, 8, 25, 26, 122, 123, 124, 125, 126, 127, 128, 129, 130, 131, 132, 141, 142, 143, 144, 145] (by decide +kernel) (by decide +kernel)
set_option maxRecDepth 20000 in
theorem gX10_placed_X0_isPlaced : GoodIn wsX10_placed (wsV RX10 156 RX0 yX0_isPlaced wsX0_isPlaced) := goodIn_app (goodIn_of _ (by decide +kernel)) ggX10_placed_X0_isPlaced
set_option maxRecDepth 20000 in
theorem ggX10_placed_X0_placingOf : GoodIn wsX10_placed wsX0_placingOf := goodIn_r _ [30, 31, 32, 33, 34, 35, 36, 8, 37, 38, 16, 21, 10, 39, 40, 41, 42, 43, 44, 45, 46, 47, 22, 23, 24, 25, 26, 48, 49, 50, 51, 52, 53, 54, 55, 56, 57, 58, 59, 60, 61, 62, 63, 64, 65, 66, 67, 68, 69, 70, 71, 72, 73, 74, 75, 76, 77, 78, 79, 80, 81, 82, 83, 84, 85, 86, 87, 88, 89, 90, 91, 92, 93, 94, 95, 96, 97, 98, 99, 100, 101, 102, 103, 122, 123, 124, 125, 126, 127, 128, 129, 130, 131, 132, 146, 147, 148, 149, 150, 151, 141, 142, 143, 144, 145, 133, 134, 135, 136, 137, 138, 139, 140, 152, 153, 154, 155, 156, 157, 158] (by decide +kernel) (by decide +kernel)
set_option maxRecDepth 20000 in
theorem gX10_placed_X0_placingOf : GoodIn wsX10_placed (wsV RX10 159 RX0 yX0_placingOf wsX0_placingOf) := goodIn_app (goodIn_of _ (by decide +kernel)) ggX10_placed_X0_placingOf
set_option maxRecDepth 20000 in
theorem ggX10_placed_X7_tell : GoodIn wsX10_placed wsX7_tell := goodIn_r _ [108, 109, 110, 111, 112, 113, 114, 146, 147, 148, 149, 150, 151] (by decide +kernel) (by decide +kernel)
set_option maxRecDepth 20000 in
theorem gX10_placed_X7_tell : GoodIn wsX10_placed (wsV RX10 163 RX7 yX7_tell wsX7_tell) := goodIn_app (goodIn_of _ (by decide +kernel)) ggX10_placed_X7_tell
theorem dX10_placed_0 : decode cX10_placed 0 = .ok (.aload_n 0, 1) := by decide +kernel
theorem dX10_placed_1 : decode cX10_placed 1 = .ok (.getfield 26, 3) := by decide +kernel
theorem dX10_placed_4 : decode cX10_placed 4 = .ok (.iload_n 1, 1) := by decide +kernel
theorem dX10_placed_5 : decode cX10_placed 5 = .ok (.invokevirtual 144, 3) := by decide +kernel
theorem dX10_placed_8 : decode cX10_placed 8 = .ok (.ifCond .ne 6, 3) := by decide +kernel
theorem dX10_placed_11 : decode cX10_placed 11 = .ok (.ldc 64, 2) := by decide +kernel
theorem dX10_placed_13 : decode cX10_placed 13 = .ok (.ireturn, 1) := by decide +kernel
theorem dX10_placed_14 : decode cX10_placed 14 = .ok (.iload_n 2, 1) := by decide +kernel
theorem dX10_placed_15 : decode cX10_placed 15 = .ok (.ifCond .lt 8, 3) := by decide +kernel
theorem dX10_placed_18 : decode cX10_placed 18 = .ok (.iload_n 2, 1) := by decide +kernel
theorem dX10_placed_19 : decode cX10_placed 19 = .ok (.iconst 4, 1) := by decide +kernel
theorem dX10_placed_20 : decode cX10_placed 20 = .ok (.if_icmp .le 6, 3) := by decide +kernel
theorem dX10_placed_23 : decode cX10_placed 23 = .ok (.ldc 30, 2) := by decide +kernel
theorem dX10_placed_25 : decode cX10_placed 25 = .ok (.ireturn, 1) := by decide +kernel
theorem dX10_placed_26 : decode cX10_placed 26 = .ok (.aload_n 0, 1) := by decide +kernel
theorem dX10_placed_27 : decode cX10_placed 27 = .ok (.getfield 26, 3) := by decide +kernel
theorem dX10_placed_30 : decode cX10_placed 30 = .ok (.iload_n 1, 1) := by decide +kernel
theorem dX10_placed_31 : decode cX10_placed 31 = .ok (.invokevirtual 156, 3) := by decide +kernel
theorem dX10_placed_34 : decode cX10_placed 34 = .ok (.ifCond .ne 6, 3) := by decide +kernel
theorem dX10_placed_37 : decode cX10_placed 37 = .ok (.ldc 51, 2) := by decide +kernel
theorem dX10_placed_39 : decode cX10_placed 39 = .ok (.ireturn, 1) := by decide +kernel
theorem dX10_placed_40 : decode cX10_placed 40 = .ok (.aload_n 0, 1) := by decide +kernel
theorem dX10_placed_41 : decode cX10_placed 41 = .ok (.getfield 26, 3) := by decide +kernel
theorem dX10_placed_44 : decode cX10_placed 44 = .ok (.iload_n 1, 1) := by decide +kernel
theorem dX10_placed_45 : decode cX10_placed 45 = .ok (.invokevirtual 159, 3) := by decide +kernel
theorem dX10_placed_48 : decode cX10_placed 48 = .ok (.iload_n 2, 1) := by decide +kernel
theorem dX10_placed_49 : decode cX10_placed 49 = .ok (.invokevirtual 163, 3) := by decide +kernel
theorem dX10_placed_52 : decode cX10_placed 52 = .ok (.ireturn, 1) := by decide +kernel
set_option maxRecDepth 20000 in
theorem ggX10_limit_X0_isRead : GoodIn wsX10_limit wsX0_isRead := goodIn_r _ [9, 10, 25, 26, 27, 28, 29, 30, 31, 32, 33, 34, 35] (by decide +kernel) (by decide +kernel)
set_option maxRecDepth 20000 in
theorem gX10_limit_X0_isRead : GoodIn wsX10_limit (wsV RX10 114 RX0 yX0_isRead wsX0_isRead) := goodIn_app (goodIn_of _ (by decide +kernel)) ggX10_limit_X0_isRead
set_option maxRecDepth 20000 in
theorem ggX10_limit_X0_changeLimit : GoodIn wsX10_limit wsX0_changeLimit := goodIn_r _ [14, 15, 16, 17, 25, 26, 27, 28, 29, 30, 31, 32, 33, 34, 35, 36, 37, 38, 39, 40, 41] (by decide +kernel) (by decide +kernel)
set_option maxRecDepth 20000 in
theorem gX10_limit_X0_changeLimit : GoodIn wsX10_limit (wsV RX10 169 RX0 yX0_changeLimit wsX0_changeLimit) := goodIn_app (goodIn_of _ (by decide +kernel)) ggX10_limit_X0_changeLimit
theorem dX10_limit_0 : decode cX10_limit 0 = .ok (.aload_n 0, 1) := by decide +kernel
theorem dX10_limit_1 : decode cX10_limit 1 = .ok (.getfield 26, 3) := by decide +kernel
theorem dX10_limit_4 : decode cX10_limit 4 = .ok (.invokevirtual 114, 3) := by decide +kernel
theorem dX10_limit_7 : decode cX10_limit 7 = .ok (.ifCond .ne 6, 3) := by decide +kernel
theorem dX10_limit_10 : decode cX10_limit 10 = .ok (.ldc 51, 2) := by decide +kernel
theorem dX10_limit_12 : decode cX10_limit 12 = .ok (.ireturn, 1) := by decide +kernel
theorem dX10_limit_13 : decode cX10_limit 13 = .ok (.iload_n 1, 1) := by decide +kernel
theorem dX10_limit_14 : decode cX10_limit 14 = .ok (.ifCond .lt 10, 3) := by decide +kernel
theorem dX10_limit_17 : decode cX10_limit 17 = .ok (.iload_n 1, 1) := by decide +kernel
theorem dX10_limit_18 : decode cX10_limit 18 = .ok (.sipush 9999, 3) := by decide +kernel
theorem dX10_limit_21 : decode cX10_limit 21 = .ok (.if_icmp .le 6, 3) := by decide +kernel
theorem dX10_limit_24 : decode cX10_limit 24 = .ok (.ldc 30, 2) := by decide +kernel
theorem dX10_limit_26 : decode cX10_limit 26 = .ok (.ireturn, 1) := by decide +kernel
theorem dX10_limit_27 : decode cX10_limit 27 = .ok (.aload_n 0, 1) := by decide +kernel
theorem dX10_limit_28 : decode cX10_limit 28 = .ok (.getfield 26, 3) := by decide +kernel
theorem dX10_limit_31 : decode cX10_limit 31 = .ok (.getfield 166, 3) := by decide +kernel
theorem dX10_limit_34 : decode cX10_limit 34 = .ok (.istore_n 2, 1) := by decide +kernel
theorem dX10_limit_35 : decode cX10_limit 35 = .ok (.aload_n 0, 1) := by decide +kernel
theorem dX10_limit_36 : decode cX10_limit 36 = .ok (.getfield 26, 3) := by decide +kernel
theorem dX10_limit_39 : decode cX10_limit 39 = .ok (.iload_n 1, 1) := by decide +kernel
theorem dX10_limit_40 : decode cX10_limit 40 = .ok (.invokevirtual 169, 3) := by decide +kernel
theorem dX10_limit_43 : decode cX10_limit 43 = .ok (.iload_n 2, 1) := by decide +kernel
theorem dX10_limit_44 : decode cX10_limit 44 = .ok (.ireturn, 1) := by decide +kernel
set_option maxRecDepth 20000 in
theorem ggX10_want_X0_isTag : GoodIn wsX10_want wsX0_isTag := goodIn_r _ [10, 11, 12, 13, 14, 15, 9, 16, 17, 32, 33, 34, 35, 36, 37, 38, 39, 40, 41, 42, 43, 44, 45, 46, 47, 48, 49, 50] (by decide +kernel) (by decide +kernel)
set_option maxRecDepth 20000 in
theorem gX10_want_X0_isTag : GoodIn wsX10_want (wsV RX10 144 RX0 yX0_isTag wsX0_isTag) := goodIn_app (goodIn_of _ (by decide +kernel)) ggX10_want_X0_isTag
set_option maxRecDepth 20000 in
theorem ggX10_want_J6_bitCount_0f7a4 : GoodIn wsX10_want wsJ6_bitCount_0f7a4 := goodIn_r _ [21, 22, 23, 24] (by decide +kernel) (by decide +kernel)
set_option maxRecDepth 20000 in
theorem gX10_want_J6_bitCount_0f7a4 : GoodIn wsX10_want (va_wsS RX10 172 yJ6_bitCount_0f7a4 wsJ6_bitCount_0f7a4) := goodIn_app (goodIn_of _ (by decide +kernel)) ggX10_want_J6_bitCount_0f7a4
theorem dX10_want_0 : decode cX10_want 0 = .ok (.aload_n 0, 1) := by decide +kernel
theorem dX10_want_1 : decode cX10_want 1 = .ok (.getfield 26, 3) := by decide +kernel
theorem dX10_want_4 : decode cX10_want 4 = .ok (.iload_n 1, 1) := by decide +kernel
theorem dX10_want_5 : decode cX10_want 5 = .ok (.invokevirtual 144, 3) := by decide +kernel
theorem dX10_want_8 : decode cX10_want 8 = .ok (.ifCond .ne 6, 3) := by decide +kernel
theorem dX10_want_11 : decode cX10_want 11 = .ok (.ldc 64, 2) := by decide +kernel
theorem dX10_want_13 : decode cX10_want 13 = .ok (.ireturn, 1) := by decide +kernel
theorem dX10_want_14 : decode cX10_want 14 = .ok (.iload_n 2, 1) := by decide +kernel
theorem dX10_want_15 : decode cX10_want 15 = .ok (.ifCond .lt 17, 3) := by decide +kernel
theorem dX10_want_18 : decode cX10_want 18 = .ok (.iload_n 2, 1) := by decide +kernel
theorem dX10_want_19 : decode cX10_want 19 = .ok (.bipush 16, 2) := by decide +kernel
theorem dX10_want_21 : decode cX10_want 21 = .ok (.if_icmp .gt 11, 3) := by decide +kernel
theorem dX10_want_24 : decode cX10_want 24 = .ok (.iload_n 2, 1) := by decide +kernel
theorem dX10_want_25 : decode cX10_want 25 = .ok (.invokestatic 172, 3) := by decide +kernel
theorem dX10_want_28 : decode cX10_want 28 = .ok (.iconst 1, 1) := by decide +kernel
theorem dX10_want_29 : decode cX10_want 29 = .ok (.if_icmp .le 6, 3) := by decide +kernel
theorem dX10_want_32 : decode cX10_want 32 = .ok (.ldc 30, 2) := by decide +kernel
theorem dX10_want_34 : decode cX10_want 34 = .ok (.ireturn, 1) := by decide +kernel
theorem dX10_want_35 : decode cX10_want 35 = .ok (.aload_n 0, 1) := by decide +kernel
theorem dX10_want_36 : decode cX10_want 36 = .ok (.getfield 26, 3) := by decide +kernel
theorem dX10_want_39 : decode cX10_want 39 = .ok (.getfield 65, 3) := by decide +kernel
theorem dX10_want_42 : decode cX10_want 42 = .ok (.iload_n 1, 1) := by decide +kernel
theorem dX10_want_43 : decode cX10_want 43 = .ok (.aaload, 1) := by decide +kernel
theorem dX10_want_44 : decode cX10_want 44 = .ok (.getfield 177, 3) := by decide +kernel
theorem dX10_want_47 : decode cX10_want 47 = .ok (.istore_n 3, 1) := by decide +kernel
theorem dX10_want_48 : decode cX10_want 48 = .ok (.aload_n 0, 1) := by decide +kernel
theorem dX10_want_49 : decode cX10_want 49 = .ok (.getfield 26, 3) := by decide +kernel
theorem dX10_want_52 : decode cX10_want 52 = .ok (.getfield 65, 3) := by decide +kernel
theorem dX10_want_55 : decode cX10_want 55 = .ok (.iload_n 1, 1) := by decide +kernel
theorem dX10_want_56 : decode cX10_want 56 = .ok (.aaload, 1) := by decide +kernel
theorem dX10_want_57 : decode cX10_want 57 = .ok (.iload_n 2, 1) := by decide +kernel
theorem dX10_want_58 : decode cX10_want 58 = .ok (.putfield 177, 3) := by decide +kernel
theorem dX10_want_61 : decode cX10_want 61 = .ok (.iload_n 3, 1) := by decide +kernel
theorem dX10_want_62 : decode cX10_want 62 = .ok (.ireturn, 1) := by decide +kernel
set_option maxRecDepth 20000 in
theorem ggX10_deal_X0_isRead : GoodIn wsX10_deal wsX0_isRead := goodIn_r _ [7, 8, 45, 46, 47, 48, 49, 50, 51, 52, 53, 54, 55] (by decide +kernel) (by decide +kernel)
set_option maxRecDepth 20000 in
theorem gX10_deal_X0_isRead : GoodIn wsX10_deal (wsV RX10 114 RX0 yX0_isRead wsX0_isRead) := goodIn_app (goodIn_of _ (by decide +kernel)) ggX10_deal_X0_isRead
set_option maxRecDepth 20000 in
theorem ggX10_deal_X0_dealSlots : GoodIn wsX10_deal wsX0_dealSlots := goodIn_r _ [12, 13, 8, 14, 15, 16, 17, 18, 19, 20, 21, 22, 23, 24, 25, 26, 27, 28, 29, 30, 31, 32, 33, 34, 35, 36, 37, 45, 46, 47, 48, 49, 50, 51, 52, 53, 54, 55, 56, 57, 58, 59, 60, 61, 62, 63, 64] (by decide +kernel) (by decide +kernel)
set_option maxRecDepth 20000 in
theorem gX10_deal_X0_dealSlots : GoodIn wsX10_deal (wsV RX10 180 RX0 yX0_dealSlots wsX0_dealSlots) := goodIn_app (goodIn_of _ (by decide +kernel)) ggX10_deal_X0_dealSlots
theorem dX10_deal_0 : decode cX10_deal 0 = .ok (.aload_n 0, 1) := by decide +kernel
theorem dX10_deal_1 : decode cX10_deal 1 = .ok (.getfield 26, 3) := by decide +kernel
theorem dX10_deal_4 : decode cX10_deal 4 = .ok (.invokevirtual 114, 3) := by decide +kernel
theorem dX10_deal_7 : decode cX10_deal 7 = .ok (.ifCond .ne 6, 3) := by decide +kernel
theorem dX10_deal_10 : decode cX10_deal 10 = .ok (.ldc 51, 2) := by decide +kernel
theorem dX10_deal_12 : decode cX10_deal 12 = .ok (.ireturn, 1) := by decide +kernel
theorem dX10_deal_13 : decode cX10_deal 13 = .ok (.aload_n 0, 1) := by decide +kernel
theorem dX10_deal_14 : decode cX10_deal 14 = .ok (.getfield 26, 3) := by decide +kernel
theorem dX10_deal_17 : decode cX10_deal 17 = .ok (.invokevirtual 180, 3) := by decide +kernel
theorem dX10_deal_20 : decode cX10_deal 20 = .ok (.ireturn, 1) := by decide +kernel
set_option maxRecDepth 20000 in
theorem ggX10_slot_X0_isRead : GoodIn wsX10_slot wsX0_isRead := goodIn_r _ [10, 11, 19, 20, 21, 22, 23, 24, 25, 26, 27, 28, 29] (by decide +kernel) (by decide +kernel)
set_option maxRecDepth 20000 in
theorem gX10_slot_X0_isRead : GoodIn wsX10_slot (wsV RX10 114 RX0 yX0_isRead wsX0_isRead) := goodIn_app (goodIn_of _ (by decide +kernel)) ggX10_slot_X0_isRead
theorem dX10_slot_0 : decode cX10_slot 0 = .ok (.aload_n 0, 1) := by decide +kernel
theorem dX10_slot_1 : decode cX10_slot 1 = .ok (.getfield 26, 3) := by decide +kernel
theorem dX10_slot_4 : decode cX10_slot 4 = .ok (.invokevirtual 114, 3) := by decide +kernel
theorem dX10_slot_7 : decode cX10_slot 7 = .ok (.ifCond .ne 6, 3) := by decide +kernel
theorem dX10_slot_10 : decode cX10_slot 10 = .ok (.ldc 51, 2) := by decide +kernel
theorem dX10_slot_12 : decode cX10_slot 12 = .ok (.ireturn, 1) := by decide +kernel
theorem dX10_slot_13 : decode cX10_slot 13 = .ok (.iload_n 1, 1) := by decide +kernel
theorem dX10_slot_14 : decode cX10_slot 14 = .ok (.ifCond .lt 9, 3) := by decide +kernel
theorem dX10_slot_17 : decode cX10_slot 17 = .ok (.iload_n 1, 1) := by decide +kernel
theorem dX10_slot_18 : decode cX10_slot 18 = .ok (.bipush 16, 2) := by decide +kernel
theorem dX10_slot_20 : decode cX10_slot 20 = .ok (.if_icmp .lt 6, 3) := by decide +kernel
theorem dX10_slot_23 : decode cX10_slot 23 = .ok (.ldc 64, 2) := by decide +kernel
theorem dX10_slot_25 : decode cX10_slot 25 = .ok (.ireturn, 1) := by decide +kernel
theorem dX10_slot_26 : decode cX10_slot 26 = .ok (.aload_n 0, 1) := by decide +kernel
theorem dX10_slot_27 : decode cX10_slot 27 = .ok (.getfield 26, 3) := by decide +kernel
theorem dX10_slot_30 : decode cX10_slot 30 = .ok (.getfield 184, 3) := by decide +kernel
theorem dX10_slot_33 : decode cX10_slot 33 = .ok (.getfield 188, 3) := by decide +kernel
theorem dX10_slot_36 : decode cX10_slot 36 = .ok (.iload_n 1, 1) := by decide +kernel
theorem dX10_slot_37 : decode cX10_slot 37 = .ok (.iaload, 1) := by decide +kernel
theorem dX10_slot_38 : decode cX10_slot 38 = .ok (.ireturn, 1) := by decide +kernel
set_option maxRecDepth 20000 in
theorem ggX10_frame_X0_isRead : GoodIn wsX10_frame wsX0_isRead := goodIn_r _ [14, 15, 148, 149, 150, 151, 152, 153, 154, 155, 156, 157, 158] (by decide +kernel) (by decide +kernel)
set_option maxRecDepth 20000 in
theorem gX10_frame_X0_isRead : GoodIn wsX10_frame (wsV RX10 114 RX0 yX0_isRead wsX0_isRead) := goodIn_app (goodIn_of _ (by decide +kernel)) ggX10_frame_X0_isRead
set_option maxRecDepth 20000 in
theorem ggX10_frame_X0_waitUntil : GoodIn wsX10_frame wsX0_waitUntil := goodIn_r _ [19, 20, 21, 22, 23, 24, 148, 149, 150, 151, 152, 153, 154, 155, 156, 157, 158] (by decide +kernel) (by decide +kernel)
set_option maxRecDepth 20000 in
theorem gX10_frame_X0_waitUntil : GoodIn wsX10_frame (wsV RX10 196 RX0 yX0_waitUntil wsX0_waitUntil) := goodIn_app (goodIn_of _ (by decide +kernel)) ggX10_frame_X0_waitUntil
set_option maxRecDepth 20000 in
theorem ggX10_frame_X0_isTag : GoodIn wsX10_frame wsX0_isTag := goodIn_r _ [28, 29, 30, 31, 32, 33, 13, 34, 15, 148, 149, 150, 151, 152, 153, 154, 155, 156, 157, 158, 160, 161, 162, 163, 164, 165, 166, 167] (by decide +kernel) (by decide +kernel)
set_option maxRecDepth 20000 in
theorem gX10_frame_X0_isTag : GoodIn wsX10_frame (wsV RX10 144 RX0 yX0_isTag wsX0_isTag) := goodIn_app (goodIn_of _ (by decide +kernel)) ggX10_frame_X0_isTag
set_option maxRecDepth 20000 in
theorem ggX10_frame_X10_pulsesWithNext : GoodIn wsX10_frame wsX10_pulsesWithNext := goodIn_r _ [39, 1, 40, 41, 8, 42, 43, 44, 13, 45, 46, 26, 27, 28, 29, 30, 31, 32, 33, 34, 15, 47, 48, 49, 50, 51, 52, 53, 38, 54, 55, 56, 57, 58, 59, 60, 61, 20, 62, 63, 64, 65, 66, 67, 68, 69, 70, 71, 72, 73, 74, 75, 76, 77, 78, 79, 80, 81, 82, 83, 84, 85, 86, 87, 88, 89, 90, 91, 92, 93, 94, 95, 96, 97, 98, 99, 100, 101, 102, 103, 104, 105, 106, 107, 108, 109, 110, 111, 112, 113, 114, 115, 116, 117, 118, 119, 120, 121, 122, 123, 124, 125, 126, 127, 128, 129, 130, 131, 132, 133, 134, 135, 136, 137, 138, 139, 140, 141, 142, 143, 144, 145, 146, 147, 148, 149, 150, 151, 152, 153, 154, 155, 156, 157, 158, 160, 161, 162, 163, 164, 165, 166, 167, 168, 169, 170, 171, 172, 173, 174, 175, 176, 177, 178, 179, 180, 181, 182, 183, 184, 185, 186, 187, 188] (by decide +kernel) (by decide +kernel)
set_option maxRecDepth 20000 in
theorem gX10_frame_X10_pulsesWithNext : GoodIn wsX10_frame (wsV RX10 200 RX10 yX10_pulsesWithNext wsX10_pulsesWithNext) := goodIn_app (goodIn_of _ (by decide +kernel)) ggX10_frame_X10_pulsesWithNext
theorem dX10_frame_0 : decode cX10_frame 0 = .ok (.aload_n 0, 1) := by decide +kernel
theorem dX10_frame_1 : decode cX10_frame 1 = .ok (.getfield 26, 3) := by decide +kernel
theorem dX10_frame_4 : decode cX10_frame 4 = .ok (.invokevirtual 114, 3) := by decide +kernel
theorem dX10_frame_7 : decode cX10_frame 7 = .ok (.ifCond .eq 21, 3) := by decide +kernel
theorem dX10_frame_10 : decode cX10_frame 10 = .ok (.aload_n 0, 1) := by decide +kernel
theorem dX10_frame_11 : decode cX10_frame 11 = .ok (.getfield 26, 3) := by decide +kernel
theorem dX10_frame_14 : decode cX10_frame 14 = .ok (.getfield 69, 3) := by decide +kernel
theorem dX10_frame_17 : decode cX10_frame 17 = .ok (.ldc2_w 194, 3) := by decide +kernel
theorem dX10_frame_20 : decode cX10_frame 20 = .ok (.ladd, 1) := by decide +kernel
theorem dX10_frame_21 : decode cX10_frame 21 = .ok (.ldc2_w 121, 3) := by decide +kernel
theorem dX10_frame_24 : decode cX10_frame 24 = .ok (.lcmp, 1) := by decide +kernel
theorem dX10_frame_25 : decode cX10_frame 25 = .ok (.ifCond .le 6, 3) := by decide +kernel
theorem dX10_frame_28 : decode cX10_frame 28 = .ok (.ldc 51, 2) := by decide +kernel
theorem dX10_frame_30 : decode cX10_frame 30 = .ok (.ireturn, 1) := by decide +kernel
theorem dX10_frame_31 : decode cX10_frame 31 = .ok (.aload_n 0, 1) := by decide +kernel
theorem dX10_frame_32 : decode cX10_frame 32 = .ok (.getfield 26, 3) := by decide +kernel
theorem dX10_frame_35 : decode cX10_frame 35 = .ok (.getfield 69, 3) := by decide +kernel
theorem dX10_frame_38 : decode cX10_frame 38 = .ok (.lstore_n 1, 1) := by decide +kernel
theorem dX10_frame_39 : decode cX10_frame 39 = .ok (.iconst 0, 1) := by decide +kernel
theorem dX10_frame_40 : decode cX10_frame 40 = .ok (.istore_n 3, 1) := by decide +kernel
theorem dX10_frame_41 : decode cX10_frame 41 = .ok (.iconst 0, 1) := by decide +kernel
theorem dX10_frame_42 : decode cX10_frame 42 = .ok (.istore 4, 2) := by decide +kernel
theorem dX10_frame_44 : decode cX10_frame 44 = .ok (.iload 4, 2) := by decide +kernel
theorem dX10_frame_46 : decode cX10_frame 46 = .ok (.bipush 16, 2) := by decide +kernel
theorem dX10_frame_48 : decode cX10_frame 48 = .ok (.if_icmp .ge 66, 3) := by decide +kernel
theorem dX10_frame_51 : decode cX10_frame 51 = .ok (.aload_n 0, 1) := by decide +kernel
theorem dX10_frame_52 : decode cX10_frame 52 = .ok (.getfield 26, 3) := by decide +kernel
theorem dX10_frame_55 : decode cX10_frame 55 = .ok (.lload_n 1, 1) := by decide +kernel
theorem dX10_frame_56 : decode cX10_frame 56 = .ok (.sipush 3000, 3) := by decide +kernel
theorem dX10_frame_59 : decode cX10_frame 59 = .ok (.iload 4, 2) := by decide +kernel
theorem dX10_frame_61 : decode cX10_frame 61 = .ok (.imul, 1) := by decide +kernel
theorem dX10_frame_62 : decode cX10_frame 62 = .ok (.i2l, 1) := by decide +kernel
theorem dX10_frame_63 : decode cX10_frame 63 = .ok (.ladd, 1) := by decide +kernel
theorem dX10_frame_64 : decode cX10_frame 64 = .ok (.invokevirtual 196, 3) := by decide +kernel
theorem dX10_frame_67 : decode cX10_frame 67 = .ok (.aload_n 0, 1) := by decide +kernel
theorem dX10_frame_68 : decode cX10_frame 68 = .ok (.getfield 26, 3) := by decide +kernel
theorem dX10_frame_71 : decode cX10_frame 71 = .ok (.getfield 184, 3) := by decide +kernel
theorem dX10_frame_74 : decode cX10_frame 74 = .ok (.getfield 188, 3) := by decide +kernel
theorem dX10_frame_77 : decode cX10_frame 77 = .ok (.iload 4, 2) := by decide +kernel
theorem dX10_frame_79 : decode cX10_frame 79 = .ok (.iaload, 1) := by decide +kernel
theorem dX10_frame_80 : decode cX10_frame 80 = .ok (.istore 5, 2) := by decide +kernel
theorem dX10_frame_82 : decode cX10_frame 82 = .ok (.aload_n 0, 1) := by decide +kernel
theorem dX10_frame_83 : decode cX10_frame 83 = .ok (.getfield 26, 3) := by decide +kernel
theorem dX10_frame_86 : decode cX10_frame 86 = .ok (.iload 5, 2) := by decide +kernel
theorem dX10_frame_88 : decode cX10_frame 88 = .ok (.invokevirtual 144, 3) := by decide +kernel
theorem dX10_frame_91 : decode cX10_frame 91 = .ok (.ifCond .eq 17, 3) := by decide +kernel
theorem dX10_frame_94 : decode cX10_frame 94 = .ok (.aload_n 0, 1) := by decide +kernel
theorem dX10_frame_95 : decode cX10_frame 95 = .ok (.iload 5, 2) := by decide +kernel
theorem dX10_frame_97 : decode cX10_frame 97 = .ok (.invokevirtual 200, 3) := by decide +kernel
theorem dX10_frame_100 : decode cX10_frame 100 = .ok (.ldc 203, 2) := by decide +kernel
theorem dX10_frame_102 : decode cX10_frame 102 = .ok (.if_icmp .eq 6, 3) := by decide +kernel
theorem dX10_frame_105 : decode cX10_frame 105 = .ok (.iinc 3 1, 3) := by decide +kernel
theorem dX10_frame_108 : decode cX10_frame 108 = .ok (.iinc 4 1, 3) := by decide +kernel
theorem dX10_frame_111 : decode cX10_frame 111 = .ok (.goto (-67), 3) := by decide +kernel
theorem dX10_frame_114 : decode cX10_frame 114 = .ok (.aload_n 0, 1) := by decide +kernel
theorem dX10_frame_115 : decode cX10_frame 115 = .ok (.getfield 26, 3) := by decide +kernel
theorem dX10_frame_118 : decode cX10_frame 118 = .ok (.lload_n 1, 1) := by decide +kernel
theorem dX10_frame_119 : decode cX10_frame 119 = .ok (.ldc2_w 194, 3) := by decide +kernel
theorem dX10_frame_122 : decode cX10_frame 122 = .ok (.ladd, 1) := by decide +kernel
theorem dX10_frame_123 : decode cX10_frame 123 = .ok (.invokevirtual 196, 3) := by decide +kernel
theorem dX10_frame_126 : decode cX10_frame 126 = .ok (.aload_n 0, 1) := by decide +kernel
theorem dX10_frame_127 : decode cX10_frame 127 = .ok (.dup, 1) := by decide +kernel
theorem dX10_frame_128 : decode cX10_frame 128 = .ok (.getfield 204, 3) := by decide +kernel
theorem dX10_frame_131 : decode cX10_frame 131 = .ok (.iconst 1, 1) := by decide +kernel
theorem dX10_frame_132 : decode cX10_frame 132 = .ok (.iadd, 1) := by decide +kernel
theorem dX10_frame_133 : decode cX10_frame 133 = .ok (.putfield 204, 3) := by decide +kernel
theorem dX10_frame_136 : decode cX10_frame 136 = .ok (.iload_n 3, 1) := by decide +kernel
theorem dX10_frame_137 : decode cX10_frame 137 = .ok (.ireturn, 1) := by decide +kernel
set_option maxRecDepth 20000 in
theorem ggX10_about_X0_isRead : GoodIn wsX10_about wsX0_isRead := goodIn_r _ [13, 14, 56, 57, 58, 59, 60, 61, 62, 63, 64, 65, 66] (by decide +kernel) (by decide +kernel)
set_option maxRecDepth 20000 in
theorem gX10_about_X0_isRead : GoodIn wsX10_about (wsV RX10 114 RX0 yX0_isRead wsX0_isRead) := goodIn_app (goodIn_of _ (by decide +kernel)) ggX10_about_X0_isRead
set_option maxRecDepth 20000 in
theorem ggX10_about_X0_tagCount : GoodIn wsX10_about wsX0_tagCount := goodIn_r _ [18, 14, 19, 20, 21, 12, 22, 23, 24, 25, 26, 27, 28, 56, 57, 58, 59, 60, 61, 62, 63, 64, 65, 66, 67, 68, 69, 70, 71, 72, 73, 74] (by decide +kernel) (by decide +kernel)
set_option maxRecDepth 20000 in
theorem gX10_about_X0_tagCount : GoodIn wsX10_about (wsV RX10 207 RX0 yX0_tagCount wsX0_tagCount) := goodIn_app (goodIn_of _ (by decide +kernel)) ggX10_about_X0_tagCount
set_option maxRecDepth 20000 in
theorem ggX10_about_X9_takenCount : GoodIn wsX10_about wsX9_takenCount := goodIn_r _ [33, 34, 75] (by decide +kernel) (by decide +kernel)
set_option maxRecDepth 20000 in
theorem gX10_about_X9_takenCount : GoodIn wsX10_about (wsV RX10 210 RX9 yX9_takenCount wsX9_takenCount) := goodIn_app (goodIn_of _ (by decide +kernel)) ggX10_about_X9_takenCount
set_option maxRecDepth 20000 in
theorem ggX10_about_X0_placedCount : GoodIn wsX10_about wsX0_placedCount := goodIn_r _ [38, 14, 39, 40, 41, 12, 42, 43, 44, 45, 46, 47, 48, 56, 57, 58, 59, 60, 61, 62, 63, 64, 65, 66, 76, 77, 78, 79, 80] (by decide +kernel) (by decide +kernel)
set_option maxRecDepth 20000 in
theorem gX10_about_X0_placedCount : GoodIn wsX10_about (wsV RX10 213 RX0 yX0_placedCount wsX0_placedCount) := goodIn_app (goodIn_of _ (by decide +kernel)) ggX10_about_X0_placedCount
theorem dX10_about_0 : decode cX10_about 0 = .ok (.aload_n 0, 1) := by decide +kernel
theorem dX10_about_1 : decode cX10_about 1 = .ok (.getfield 26, 3) := by decide +kernel
theorem dX10_about_4 : decode cX10_about 4 = .ok (.invokevirtual 114, 3) := by decide +kernel
theorem dX10_about_7 : decode cX10_about 7 = .ok (.ifCond .ne 6, 3) := by decide +kernel
theorem dX10_about_10 : decode cX10_about 10 = .ok (.ldc 51, 2) := by decide +kernel
theorem dX10_about_12 : decode cX10_about 12 = .ok (.ireturn, 1) := by decide +kernel
theorem dX10_about_13 : decode cX10_about 13 = .ok (.iload_n 1, 1) := by decide +kernel
theorem dX10_about_14 : decode cX10_about 14 = .ok (.tableswitch 122 0 7 #[46, 54, 62, 78, 87, 95, 103, 114], 46) := by decide +kernel
theorem dX10_about_60 : decode cX10_about 60 = .ok (.aload_n 0, 1) := by decide +kernel
theorem dX10_about_61 : decode cX10_about 61 = .ok (.getfield 26, 3) := by decide +kernel
theorem dX10_about_64 : decode cX10_about 64 = .ok (.getfield 59, 3) := by decide +kernel
theorem dX10_about_67 : decode cX10_about 67 = .ok (.ireturn, 1) := by decide +kernel
theorem dX10_about_68 : decode cX10_about 68 = .ok (.aload_n 0, 1) := by decide +kernel
theorem dX10_about_69 : decode cX10_about 69 = .ok (.getfield 26, 3) := by decide +kernel
theorem dX10_about_72 : decode cX10_about 72 = .ok (.invokevirtual 207, 3) := by decide +kernel
theorem dX10_about_75 : decode cX10_about 75 = .ok (.ireturn, 1) := by decide +kernel
theorem dX10_about_76 : decode cX10_about 76 = .ok (.aload_n 0, 1) := by decide +kernel
theorem dX10_about_77 : decode cX10_about 77 = .ok (.getfield 26, 3) := by decide +kernel
theorem dX10_about_80 : decode cX10_about 80 = .ok (.getfield 59, 3) := by decide +kernel
theorem dX10_about_83 : decode cX10_about 83 = .ok (.aload_n 0, 1) := by decide +kernel
theorem dX10_about_84 : decode cX10_about 84 = .ok (.getfield 26, 3) := by decide +kernel
theorem dX10_about_87 : decode cX10_about 87 = .ok (.invokevirtual 207, 3) := by decide +kernel
theorem dX10_about_90 : decode cX10_about 90 = .ok (.isub, 1) := by decide +kernel
theorem dX10_about_91 : decode cX10_about 91 = .ok (.ireturn, 1) := by decide +kernel
theorem dX10_about_92 : decode cX10_about 92 = .ok (.aload_n 0, 1) := by decide +kernel
theorem dX10_about_93 : decode cX10_about 93 = .ok (.getfield 26, 3) := by decide +kernel
theorem dX10_about_96 : decode cX10_about 96 = .ok (.getfield 69, 3) := by decide +kernel
theorem dX10_about_99 : decode cX10_about 99 = .ok (.l2i, 1) := by decide +kernel
theorem dX10_about_100 : decode cX10_about 100 = .ok (.ireturn, 1) := by decide +kernel
theorem dX10_about_101 : decode cX10_about 101 = .ok (.aload_n 0, 1) := by decide +kernel
theorem dX10_about_102 : decode cX10_about 102 = .ok (.getfield 26, 3) := by decide +kernel
theorem dX10_about_105 : decode cX10_about 105 = .ok (.getfield 107, 3) := by decide +kernel
theorem dX10_about_108 : decode cX10_about 108 = .ok (.ireturn, 1) := by decide +kernel
theorem dX10_about_109 : decode cX10_about 109 = .ok (.aload_n 0, 1) := by decide +kernel
theorem dX10_about_110 : decode cX10_about 110 = .ok (.getfield 26, 3) := by decide +kernel
theorem dX10_about_113 : decode cX10_about 113 = .ok (.getfield 166, 3) := by decide +kernel
theorem dX10_about_116 : decode cX10_about 116 = .ok (.ireturn, 1) := by decide +kernel
theorem dX10_about_117 : decode cX10_about 117 = .ok (.aload_n 0, 1) := by decide +kernel
theorem dX10_about_118 : decode cX10_about 118 = .ok (.getfield 26, 3) := by decide +kernel
theorem dX10_about_121 : decode cX10_about 121 = .ok (.getfield 184, 3) := by decide +kernel
theorem dX10_about_124 : decode cX10_about 124 = .ok (.invokevirtual 210, 3) := by decide +kernel
theorem dX10_about_127 : decode cX10_about 127 = .ok (.ireturn, 1) := by decide +kernel
theorem dX10_about_128 : decode cX10_about 128 = .ok (.aload_n 0, 1) := by decide +kernel
theorem dX10_about_129 : decode cX10_about 129 = .ok (.getfield 26, 3) := by decide +kernel
theorem dX10_about_132 : decode cX10_about 132 = .ok (.invokevirtual 213, 3) := by decide +kernel
theorem dX10_about_135 : decode cX10_about 135 = .ok (.ireturn, 1) := by decide +kernel
theorem dX10_about_136 : decode cX10_about 136 = .ok (.ldc 30, 2) := by decide +kernel
theorem dX10_about_138 : decode cX10_about 138 = .ok (.ireturn, 1) := by decide +kernel
theorem dX10_count_0 : decode cX10_count 0 = .ok (.iload_n 1, 1) := by decide +kernel
theorem dX10_count_1 : decode cX10_count 1 = .ok (.tableswitch 63 0 4 #[35, 43, 48, 53, 58], 35) := by decide +kernel
theorem dX10_count_36 : decode cX10_count 36 = .ok (.aload_n 0, 1) := by decide +kernel
theorem dX10_count_37 : decode cX10_count 37 = .ok (.getfield 12, 3) := by decide +kernel
theorem dX10_count_40 : decode cX10_count 40 = .ok (.getfield 31, 3) := by decide +kernel
theorem dX10_count_43 : decode cX10_count 43 = .ok (.ireturn, 1) := by decide +kernel
theorem dX10_count_44 : decode cX10_count 44 = .ok (.aload_n 0, 1) := by decide +kernel
theorem dX10_count_45 : decode cX10_count 45 = .ok (.getfield 216, 3) := by decide +kernel
theorem dX10_count_48 : decode cX10_count 48 = .ok (.ireturn, 1) := by decide +kernel
theorem dX10_count_49 : decode cX10_count 49 = .ok (.aload_n 0, 1) := by decide +kernel
theorem dX10_count_50 : decode cX10_count 50 = .ok (.getfield 219, 3) := by decide +kernel
theorem dX10_count_53 : decode cX10_count 53 = .ok (.ireturn, 1) := by decide +kernel
theorem dX10_count_54 : decode cX10_count 54 = .ok (.aload_n 0, 1) := by decide +kernel
theorem dX10_count_55 : decode cX10_count 55 = .ok (.getfield 56, 3) := by decide +kernel
theorem dX10_count_58 : decode cX10_count 58 = .ok (.ireturn, 1) := by decide +kernel
theorem dX10_count_59 : decode cX10_count 59 = .ok (.aload_n 0, 1) := by decide +kernel
theorem dX10_count_60 : decode cX10_count 60 = .ok (.getfield 204, 3) := by decide +kernel
theorem dX10_count_63 : decode cX10_count 63 = .ok (.ireturn, 1) := by decide +kernel
theorem dX10_count_64 : decode cX10_count 64 = .ok (.ldc 30, 2) := by decide +kernel
theorem dX10_count_66 : decode cX10_count 66 = .ok (.ireturn, 1) := by decide +kernel
set_option maxRecDepth 20000 in
theorem ggX10_digest_X0_isRead : GoodIn wsX10_digest wsX0_isRead := goodIn_r _ [10, 11, 301, 302, 303, 304, 305, 306, 307, 308, 309, 310, 311] (by decide +kernel) (by decide +kernel)
set_option maxRecDepth 20000 in
theorem gX10_digest_X0_isRead : GoodIn wsX10_digest (wsV RX10 114 RX0 yX0_isRead wsX0_isRead) := goodIn_app (goodIn_of _ (by decide +kernel)) ggX10_digest_X0_isRead
set_option maxRecDepth 20000 in
theorem ggX10_digest_X10_withNodes : GoodIn wsX10_digest wsX10_withNodes := goodIn_r _ [16, 2, 17, 18, 19, 20, 15, 21, 22, 23, 24, 25, 26, 27, 6, 7, 8, 9, 10, 11, 28, 29, 30, 31, 32, 33, 34, 35, 36, 37, 38, 39, 40, 41, 42, 43, 44, 45, 46, 47, 48, 49, 50, 51, 52, 53, 54, 55, 56, 57, 58, 59, 60, 61, 62, 63, 64, 65, 66, 67, 68, 69, 70, 71, 72, 73, 74, 75, 76, 77, 78, 79, 80, 81, 82, 83, 84, 85, 86, 87, 88, 89, 90, 91, 92, 93, 94, 95, 292, 293, 294, 295, 296, 297, 298, 301, 302, 303, 304, 305, 306, 307, 308, 309, 310, 311, 312, 313, 314, 315, 316, 317, 318, 319, 320, 321, 322, 323, 324, 325] (by decide +kernel) (by decide +kernel)
set_option maxRecDepth 20000 in
theorem gX10_digest_X10_withNodes : GoodIn wsX10_digest (wsV RX10 224 RX10 yX10_withNodes wsX10_withNodes) := goodIn_app (goodIn_of _ (by decide +kernel)) ggX10_digest_X10_withNodes
set_option maxRecDepth 20000 in
theorem ggX10_digest_X10_withPairs : GoodIn wsX10_digest wsX10_withPairs := goodIn_r _ [99, 2, 17, 100, 101, 102, 9, 103, 32, 33, 34, 35, 36, 37, 38, 39, 40, 41, 11, 104, 105, 106, 107, 108, 109, 110, 15, 111, 70, 72, 112, 113, 114, 115, 116, 117, 118, 119, 120, 121, 122, 123, 124, 62, 63, 64, 65, 125, 126, 127, 128, 24, 129, 58, 59, 60, 61, 130, 131, 132, 133, 134, 135, 136, 137, 138, 139, 140, 141, 142, 292, 293, 294, 295, 296, 297, 298, 301, 302, 303, 304, 305, 306, 307, 308, 309, 310, 311, 312, 313, 314, 315, 316, 317, 318, 319, 326, 321, 322, 323, 324, 325] (by decide +kernel) (by decide +kernel)
set_option maxRecDepth 20000 in
theorem gX10_digest_X10_withPairs : GoodIn wsX10_digest (wsV RX10 227 RX10 yX10_withPairs wsX10_withPairs) := goodIn_app (goodIn_of _ (by decide +kernel)) ggX10_digest_X10_withPairs
set_option maxRecDepth 20000 in
theorem ggX10_digest_X10_withLatest : GoodIn wsX10_digest wsX10_withLatest := goodIn_r _ [146, 2, 147, 148, 17, 149, 150, 151, 15, 152, 27, 22, 153, 154, 155, 156, 157, 158, 159, 160, 161, 162, 163, 164, 62, 63, 64, 65, 165, 166, 167, 168, 169, 170, 171, 172, 70, 72, 39, 40, 9, 41, 11, 173, 174, 175, 176, 177, 178, 179, 180, 181, 36, 182, 183, 113, 114, 115, 116, 117, 118, 119, 120, 121, 122, 123, 124, 184, 88, 89, 76, 90, 82, 81, 91, 92, 93, 94, 95, 185, 186, 187, 188, 292, 293, 294, 295, 296, 297, 298, 301, 302, 303, 304, 305, 306, 307, 308, 309, 310, 311, 327, 328, 329, 330, 331, 332, 333, 334, 335, 312, 313, 314, 315, 316, 317, 318, 319, 326] (by decide +kernel) (by decide +kernel)
set_option maxRecDepth 20000 in
theorem gX10_digest_X10_withLatest : GoodIn wsX10_digest (wsV RX10 230 RX10 yX10_withLatest wsX10_withLatest) := goodIn_app (goodIn_of _ (by decide +kernel)) ggX10_digest_X10_withLatest
set_option maxRecDepth 20000 in
theorem ggX10_digest_X10_withPlaces : GoodIn wsX10_digest wsX10_withPlaces := goodIn_r _ [192, 2, 17, 193, 53, 54, 9, 55, 11, 56, 57, 58, 59, 60, 61, 194, 195, 196, 197, 198, 199, 200, 201, 202, 203, 204, 205, 36, 117, 118, 206, 207, 208, 209, 210, 211, 212, 213, 214, 215, 216, 217, 218, 219, 220, 221, 222, 223, 224, 225, 226, 227, 228, 229, 230, 231, 232, 233, 234, 235, 236, 237, 238, 239, 240, 241, 242, 243, 120, 121, 122, 123, 124, 244, 245, 246, 247, 248, 249, 250, 251, 252, 253, 254, 255, 256, 257, 258, 259, 260, 261, 262, 263, 264, 265, 266, 267, 268, 269, 270, 271, 272, 273, 274, 62, 63, 15, 64, 65, 292, 293, 294, 295, 296, 297, 298, 301, 302, 303, 304, 305, 306, 307, 308, 309, 310, 311, 321, 322, 323, 324, 325, 336, 337, 338, 339, 340, 341, 312, 313, 314, 315, 316, 317, 318, 319, 342, 343, 344, 345, 346, 347, 326] (by decide +kernel) (by decide +kernel)
set_option maxRecDepth 20000 in
theorem gX10_digest_X10_withPlaces : GoodIn wsX10_digest (wsV RX10 233 RX10 yX10_withPlaces wsX10_withPlaces) := goodIn_app (goodIn_of _ (by decide +kernel)) ggX10_digest_X10_withPlaces
set_option maxRecDepth 20000 in
theorem ggX10_digest_X10_withSlots : GoodIn wsX10_digest wsX10_withSlots := goodIn_r _ [278, 279, 280, 281, 15, 282, 2, 22, 70, 26, 283, 6, 7, 8, 9, 10, 11, 62, 63, 64, 65, 292, 293, 294, 295, 296, 297, 298, 301, 302, 303, 304, 305, 306, 307, 308, 309, 310, 311, 320] (by decide +kernel) (by decide +kernel)
set_option maxRecDepth 20000 in
theorem gX10_digest_X10_withSlots : GoodIn wsX10_digest (wsV RX10 236 RX10 yX10_withSlots wsX10_withSlots) := goodIn_app (goodIn_of _ (by decide +kernel)) ggX10_digest_X10_withSlots
set_option maxRecDepth 20000 in
theorem ggX10_digest_X10_with : GoodIn wsX10_digest wsX10_with := goodIn_r _ [64, 65] (by decide +kernel) (by decide +kernel)
set_option maxRecDepth 20000 in
theorem gX10_digest_X10_with : GoodIn wsX10_digest (va_wsS RX10 242 yX10_with wsX10_with) := goodIn_app (goodIn_of _ (by decide +kernel)) ggX10_digest_X10_with
set_option maxRecDepth 20000 in
theorem ggX10_digest_X10_count : GoodIn wsX10_digest wsX10_count := goodIn_r _ [287, 3, 4, 288, 289, 290, 291, 27, 292, 293, 294, 295, 296, 297, 298, 299, 300] (by decide +kernel) (by decide +kernel)
set_option maxRecDepth 20000 in
theorem gX10_digest_X10_count : GoodIn wsX10_digest (wsV RX10 246 RX10 yX10_count wsX10_count) := goodIn_app (goodIn_of _ (by decide +kernel)) ggX10_digest_X10_count
theorem dX10_digest_0 : decode cX10_digest 0 = .ok (.ldc2_w 222, 3) := by decide +kernel
theorem dX10_digest_3 : decode cX10_digest 3 = .ok (.lstore_n 1, 1) := by decide +kernel
theorem dX10_digest_4 : decode cX10_digest 4 = .ok (.aload_n 0, 1) := by decide +kernel
theorem dX10_digest_5 : decode cX10_digest 5 = .ok (.getfield 26, 3) := by decide +kernel
theorem dX10_digest_8 : decode cX10_digest 8 = .ok (.invokevirtual 114, 3) := by decide +kernel
theorem dX10_digest_11 : decode cX10_digest 11 = .ok (.ifCond .eq 33, 3) := by decide +kernel
theorem dX10_digest_14 : decode cX10_digest 14 = .ok (.aload_n 0, 1) := by decide +kernel
theorem dX10_digest_15 : decode cX10_digest 15 = .ok (.lload_n 1, 1) := by decide +kernel
theorem dX10_digest_16 : decode cX10_digest 16 = .ok (.invokevirtual 224, 3) := by decide +kernel
theorem dX10_digest_19 : decode cX10_digest 19 = .ok (.lstore_n 1, 1) := by decide +kernel
theorem dX10_digest_20 : decode cX10_digest 20 = .ok (.aload_n 0, 1) := by decide +kernel
theorem dX10_digest_21 : decode cX10_digest 21 = .ok (.lload_n 1, 1) := by decide +kernel
theorem dX10_digest_22 : decode cX10_digest 22 = .ok (.invokevirtual 227, 3) := by decide +kernel
theorem dX10_digest_25 : decode cX10_digest 25 = .ok (.lstore_n 1, 1) := by decide +kernel
theorem dX10_digest_26 : decode cX10_digest 26 = .ok (.aload_n 0, 1) := by decide +kernel
theorem dX10_digest_27 : decode cX10_digest 27 = .ok (.lload_n 1, 1) := by decide +kernel
theorem dX10_digest_28 : decode cX10_digest 28 = .ok (.invokevirtual 230, 3) := by decide +kernel
theorem dX10_digest_31 : decode cX10_digest 31 = .ok (.lstore_n 1, 1) := by decide +kernel
theorem dX10_digest_32 : decode cX10_digest 32 = .ok (.aload_n 0, 1) := by decide +kernel
theorem dX10_digest_33 : decode cX10_digest 33 = .ok (.lload_n 1, 1) := by decide +kernel
theorem dX10_digest_34 : decode cX10_digest 34 = .ok (.invokevirtual 233, 3) := by decide +kernel
theorem dX10_digest_37 : decode cX10_digest 37 = .ok (.lstore_n 1, 1) := by decide +kernel
theorem dX10_digest_38 : decode cX10_digest 38 = .ok (.aload_n 0, 1) := by decide +kernel
theorem dX10_digest_39 : decode cX10_digest 39 = .ok (.lload_n 1, 1) := by decide +kernel
theorem dX10_digest_40 : decode cX10_digest 40 = .ok (.invokevirtual 236, 3) := by decide +kernel
theorem dX10_digest_43 : decode cX10_digest 43 = .ok (.lstore_n 1, 1) := by decide +kernel
theorem dX10_digest_44 : decode cX10_digest 44 = .ok (.iconst 0, 1) := by decide +kernel
theorem dX10_digest_45 : decode cX10_digest 45 = .ok (.istore_n 3, 1) := by decide +kernel
theorem dX10_digest_46 : decode cX10_digest 46 = .ok (.iload_n 3, 1) := by decide +kernel
theorem dX10_digest_47 : decode cX10_digest 47 = .ok (.aload_n 0, 1) := by decide +kernel
theorem dX10_digest_48 : decode cX10_digest 48 = .ok (.getfield 12, 3) := by decide +kernel
theorem dX10_digest_51 : decode cX10_digest 51 = .ok (.getfield 31, 3) := by decide +kernel
theorem dX10_digest_54 : decode cX10_digest 54 = .ok (.if_icmp .ge 23, 3) := by decide +kernel
theorem dX10_digest_57 : decode cX10_digest 57 = .ok (.lload_n 1, 1) := by decide +kernel
theorem dX10_digest_58 : decode cX10_digest 58 = .ok (.aload_n 0, 1) := by decide +kernel
theorem dX10_digest_59 : decode cX10_digest 59 = .ok (.getfield 12, 3) := by decide +kernel
theorem dX10_digest_62 : decode cX10_digest 62 = .ok (.getfield 239, 3) := by decide +kernel
theorem dX10_digest_65 : decode cX10_digest 65 = .ok (.iload_n 3, 1) := by decide +kernel
theorem dX10_digest_66 : decode cX10_digest 66 = .ok (.iaload, 1) := by decide +kernel
theorem dX10_digest_67 : decode cX10_digest 67 = .ok (.invokestatic 242, 3) := by decide +kernel
theorem dX10_digest_70 : decode cX10_digest 70 = .ok (.lstore_n 1, 1) := by decide +kernel
theorem dX10_digest_71 : decode cX10_digest 71 = .ok (.iinc 3 1, 3) := by decide +kernel
theorem dX10_digest_74 : decode cX10_digest 74 = .ok (.goto (-28), 3) := by decide +kernel
theorem dX10_digest_77 : decode cX10_digest 77 = .ok (.iconst 0, 1) := by decide +kernel
theorem dX10_digest_78 : decode cX10_digest 78 = .ok (.istore_n 3, 1) := by decide +kernel
theorem dX10_digest_79 : decode cX10_digest 79 = .ok (.iload_n 3, 1) := by decide +kernel
theorem dX10_digest_80 : decode cX10_digest 80 = .ok (.iconst 4, 1) := by decide +kernel
theorem dX10_digest_81 : decode cX10_digest 81 = .ok (.if_icmp .gt 19, 3) := by decide +kernel
theorem dX10_digest_84 : decode cX10_digest 84 = .ok (.lload_n 1, 1) := by decide +kernel
theorem dX10_digest_85 : decode cX10_digest 85 = .ok (.aload_n 0, 1) := by decide +kernel
theorem dX10_digest_86 : decode cX10_digest 86 = .ok (.iload_n 3, 1) := by decide +kernel
theorem dX10_digest_87 : decode cX10_digest 87 = .ok (.invokevirtual 246, 3) := by decide +kernel
theorem dX10_digest_90 : decode cX10_digest 90 = .ok (.invokestatic 242, 3) := by decide +kernel
theorem dX10_digest_93 : decode cX10_digest 93 = .ok (.lstore_n 1, 1) := by decide +kernel
theorem dX10_digest_94 : decode cX10_digest 94 = .ok (.iinc 3 1, 3) := by decide +kernel
theorem dX10_digest_97 : decode cX10_digest 97 = .ok (.goto (-18), 3) := by decide +kernel
theorem dX10_digest_100 : decode cX10_digest 100 = .ok (.lload_n 1, 1) := by decide +kernel
theorem dX10_digest_101 : decode cX10_digest 101 = .ok (.lreturn, 1) := by decide +kernel
theorem dX10_with_0 : decode cX10_with 0 = .ok (.ldc2_w 249, 3) := by decide +kernel
theorem dX10_with_3 : decode cX10_with 3 = .ok (.lload_n 0, 1) := by decide +kernel
theorem dX10_with_4 : decode cX10_with 4 = .ok (.lmul, 1) := by decide +kernel
theorem dX10_with_5 : decode cX10_with 5 = .ok (.iload_n 2, 1) := by decide +kernel
theorem dX10_with_6 : decode cX10_with 6 = .ok (.i2l, 1) := by decide +kernel
theorem dX10_with_7 : decode cX10_with 7 = .ok (.ladd, 1) := by decide +kernel
theorem dX10_with_8 : decode cX10_with 8 = .ok (.lreturn, 1) := by decide +kernel
set_option maxRecDepth 20000 in
theorem ggX10_withNodes_X10_about : GoodIn wsX10_withNodes wsX10_about := goodIn_r _ [7, 1, 8, 2, 9, 10, 11, 12, 13, 14, 15, 16, 17, 18, 19, 20, 21, 22, 23, 24, 25, 26, 27, 28, 29, 30, 31, 32, 33, 34, 35, 36, 37, 38, 39, 40, 41, 42, 43, 44, 45, 46, 47, 48, 49, 50, 51, 52, 53, 88, 89, 90, 91, 92, 93, 94, 95, 96, 97, 98, 99, 100, 101, 102, 103, 104, 105, 106, 107, 108, 109, 110, 111, 112, 113, 114, 115, 116, 117, 118, 119] (by decide +kernel) (by decide +kernel)
set_option maxRecDepth 20000 in
theorem gX10_withNodes_X10_about : GoodIn wsX10_withNodes (wsV RX10 251 RX10 yX10_about wsX10_about) := goodIn_app (goodIn_of _ (by decide +kernel)) ggX10_withNodes_X10_about
set_option maxRecDepth 20000 in
theorem ggX10_withNodes_X10_with : GoodIn wsX10_withNodes wsX10_with := goodIn_r _ [56, 57] (by decide +kernel) (by decide +kernel)
set_option maxRecDepth 20000 in
theorem gX10_withNodes_X10_with : GoodIn wsX10_withNodes (va_wsS RX10 242 yX10_with wsX10_with) := goodIn_app (goodIn_of _ (by decide +kernel)) ggX10_withNodes_X10_with
set_option maxRecDepth 20000 in
theorem ggX10_withNodes_X10_node : GoodIn wsX10_withNodes wsX10_node := goodIn_r _ [61, 1, 62, 63, 9, 64, 31, 32, 17, 33, 19, 65, 66, 67, 68, 69, 70, 71, 72, 73, 74, 75, 76, 77, 78, 79, 80, 81, 82, 83, 84, 85, 86, 87, 88, 89, 90, 91, 92, 93, 94, 95, 96, 97, 98, 99, 100, 101, 102, 103, 104, 105, 106, 107, 108, 109, 110, 111, 112, 113] (by decide +kernel) (by decide +kernel)
set_option maxRecDepth 20000 in
theorem gX10_withNodes_X10_node : GoodIn wsX10_withNodes (wsV RX10 254 RX10 yX10_node wsX10_node) := goodIn_app (goodIn_of _ (by decide +kernel)) ggX10_withNodes_X10_node
theorem dX10_withNodes_0 : decode cX10_withNodes 0 = .ok (.iconst 0, 1) := by decide +kernel
theorem dX10_withNodes_1 : decode cX10_withNodes 1 = .ok (.istore_n 3, 1) := by decide +kernel
theorem dX10_withNodes_2 : decode cX10_withNodes 2 = .ok (.iload_n 3, 1) := by decide +kernel
theorem dX10_withNodes_3 : decode cX10_withNodes 3 = .ok (.bipush 7, 2) := by decide +kernel
theorem dX10_withNodes_5 : decode cX10_withNodes 5 = .ok (.if_icmp .gt 19, 3) := by decide +kernel
theorem dX10_withNodes_8 : decode cX10_withNodes 8 = .ok (.lload_n 1, 1) := by decide +kernel
theorem dX10_withNodes_9 : decode cX10_withNodes 9 = .ok (.aload_n 0, 1) := by decide +kernel
theorem dX10_withNodes_10 : decode cX10_withNodes 10 = .ok (.iload_n 3, 1) := by decide +kernel
theorem dX10_withNodes_11 : decode cX10_withNodes 11 = .ok (.invokevirtual 251, 3) := by decide +kernel
theorem dX10_withNodes_14 : decode cX10_withNodes 14 = .ok (.invokestatic 242, 3) := by decide +kernel
theorem dX10_withNodes_17 : decode cX10_withNodes 17 = .ok (.lstore_n 1, 1) := by decide +kernel
theorem dX10_withNodes_18 : decode cX10_withNodes 18 = .ok (.iinc 3 1, 3) := by decide +kernel
theorem dX10_withNodes_21 : decode cX10_withNodes 21 = .ok (.goto (-19), 3) := by decide +kernel
theorem dX10_withNodes_24 : decode cX10_withNodes 24 = .ok (.iconst 0, 1) := by decide +kernel
theorem dX10_withNodes_25 : decode cX10_withNodes 25 = .ok (.istore_n 3, 1) := by decide +kernel
theorem dX10_withNodes_26 : decode cX10_withNodes 26 = .ok (.iload_n 3, 1) := by decide +kernel
theorem dX10_withNodes_27 : decode cX10_withNodes 27 = .ok (.aload_n 0, 1) := by decide +kernel
theorem dX10_withNodes_28 : decode cX10_withNodes 28 = .ok (.getfield 26, 3) := by decide +kernel
theorem dX10_withNodes_31 : decode cX10_withNodes 31 = .ok (.getfield 59, 3) := by decide +kernel
theorem dX10_withNodes_34 : decode cX10_withNodes 34 = .ok (.if_icmp .ge 37, 3) := by decide +kernel
theorem dX10_withNodes_37 : decode cX10_withNodes 37 = .ok (.iconst 0, 1) := by decide +kernel
theorem dX10_withNodes_38 : decode cX10_withNodes 38 = .ok (.istore 4, 2) := by decide +kernel
theorem dX10_withNodes_40 : decode cX10_withNodes 40 = .ok (.iload 4, 2) := by decide +kernel
theorem dX10_withNodes_42 : decode cX10_withNodes 42 = .ok (.bipush 8, 2) := by decide +kernel
theorem dX10_withNodes_44 : decode cX10_withNodes 44 = .ok (.if_icmp .gt 21, 3) := by decide +kernel
theorem dX10_withNodes_47 : decode cX10_withNodes 47 = .ok (.lload_n 1, 1) := by decide +kernel
theorem dX10_withNodes_48 : decode cX10_withNodes 48 = .ok (.aload_n 0, 1) := by decide +kernel
theorem dX10_withNodes_49 : decode cX10_withNodes 49 = .ok (.iload_n 3, 1) := by decide +kernel
theorem dX10_withNodes_50 : decode cX10_withNodes 50 = .ok (.iload 4, 2) := by decide +kernel
theorem dX10_withNodes_52 : decode cX10_withNodes 52 = .ok (.invokevirtual 254, 3) := by decide +kernel
theorem dX10_withNodes_55 : decode cX10_withNodes 55 = .ok (.invokestatic 242, 3) := by decide +kernel
theorem dX10_withNodes_58 : decode cX10_withNodes 58 = .ok (.lstore_n 1, 1) := by decide +kernel
theorem dX10_withNodes_59 : decode cX10_withNodes 59 = .ok (.iinc 4 1, 3) := by decide +kernel
theorem dX10_withNodes_62 : decode cX10_withNodes 62 = .ok (.goto (-22), 3) := by decide +kernel
theorem dX10_withNodes_65 : decode cX10_withNodes 65 = .ok (.iinc 3 1, 3) := by decide +kernel
theorem dX10_withNodes_68 : decode cX10_withNodes 68 = .ok (.goto (-42), 3) := by decide +kernel
theorem dX10_withNodes_71 : decode cX10_withNodes 71 = .ok (.lload_n 1, 1) := by decide +kernel
theorem dX10_withNodes_72 : decode cX10_withNodes 72 = .ok (.lreturn, 1) := by decide +kernel
set_option maxRecDepth 20000 in
theorem ggX10_withPairs_X0_hasPair : GoodIn wsX10_withPairs wsX0_hasPair := goodIn_r _ [7, 8, 9, 10, 6, 11, 12, 13, 14, 15, 16, 17, 18, 19, 20, 21, 22, 77, 78, 79, 80, 81, 82, 83, 84, 85, 86, 87, 88, 89, 90, 91, 92, 93, 94, 95] (by decide +kernel) (by decide +kernel)
set_option maxRecDepth 20000 in
theorem gX10_withPairs_X0_hasPair : GoodIn wsX10_withPairs (wsV RX10 91 RX0 yX0_hasPair wsX0_hasPair) := goodIn_app (goodIn_of _ (by decide +kernel)) ggX10_withPairs_X0_hasPair
set_option maxRecDepth 20000 in
theorem ggX10_withPairs_X10_flight : GoodIn wsX10_withPairs wsX10_flight := goodIn_r _ [27, 1, 28, 29, 15, 16, 6, 17, 18, 30, 31, 32, 33, 34, 12, 35, 36, 37, 38, 39, 40, 41, 42, 70, 71, 72, 73, 74, 75, 76, 77, 78, 79, 80, 81, 82, 83, 84, 85, 86, 87, 88, 89, 90, 91, 92, 93, 94, 95, 96] (by decide +kernel) (by decide +kernel)
set_option maxRecDepth 20000 in
theorem gX10_withPairs_X10_flight : GoodIn wsX10_withPairs (wsV RX10 257 RX10 yX10_flight wsX10_flight) := goodIn_app (goodIn_of _ (by decide +kernel)) ggX10_withPairs_X10_flight
set_option maxRecDepth 20000 in
theorem ggX10_withPairs_X10_with : GoodIn wsX10_withPairs wsX10_with := goodIn_r _ [45, 46] (by decide +kernel) (by decide +kernel)
set_option maxRecDepth 20000 in
theorem gX10_withPairs_X10_with : GoodIn wsX10_withPairs (va_wsS RX10 242 yX10_with wsX10_with) := goodIn_app (goodIn_of _ (by decide +kernel)) ggX10_withPairs_X10_with
set_option maxRecDepth 20000 in
theorem ggX10_withPairs_X10_firstPath : GoodIn wsX10_withPairs wsX10_firstPath := goodIn_r _ [50, 1, 28, 51, 3, 4, 5, 6, 7, 8, 9, 10, 11, 12, 13, 14, 15, 16, 17, 18, 19, 20, 21, 22, 52, 53, 54, 55, 56, 57, 58, 59, 60, 61, 62, 63, 64, 70, 71, 72, 73, 74, 75, 76, 77, 78, 79, 80, 81, 82, 83, 84, 85, 86, 87, 88, 89, 90, 91, 92, 93, 94, 95, 97, 98, 99, 100, 101] (by decide +kernel) (by decide +kernel)
set_option maxRecDepth 20000 in
theorem gX10_withPairs_X10_firstPath : GoodIn wsX10_withPairs (wsV RX10 260 RX10 yX10_firstPath wsX10_firstPath) := goodIn_app (goodIn_of _ (by decide +kernel)) ggX10_withPairs_X10_firstPath
set_option maxRecDepth 20000 in
theorem ggX10_withPairs_X10_range : GoodIn wsX10_withPairs wsX10_range := goodIn_r _ [68, 1, 28, 69, 3, 4, 5, 6, 7, 8, 9, 10, 11, 12, 13, 14, 15, 16, 17, 18, 19, 20, 21, 22, 52, 53, 54, 55, 56, 70, 71, 72, 73, 74, 75, 76, 97, 98, 99, 100, 101, 77, 78, 79, 80, 81, 82, 83, 84, 85, 86, 87, 88, 89, 90, 91, 92, 93, 94, 95] (by decide +kernel) (by decide +kernel)
set_option maxRecDepth 20000 in
theorem gX10_withPairs_X10_range : GoodIn wsX10_withPairs (wsV RX10 263 RX10 yX10_range wsX10_range) := goodIn_app (goodIn_of _ (by decide +kernel)) ggX10_withPairs_X10_range
theorem dX10_withPairs_0 : decode cX10_withPairs 0 = .ok (.iconst 0, 1) := by decide +kernel
theorem dX10_withPairs_1 : decode cX10_withPairs 1 = .ok (.istore_n 3, 1) := by decide +kernel
theorem dX10_withPairs_2 : decode cX10_withPairs 2 = .ok (.iload_n 3, 1) := by decide +kernel
theorem dX10_withPairs_3 : decode cX10_withPairs 3 = .ok (.aload_n 0, 1) := by decide +kernel
theorem dX10_withPairs_4 : decode cX10_withPairs 4 = .ok (.getfield 26, 3) := by decide +kernel
theorem dX10_withPairs_7 : decode cX10_withPairs 7 = .ok (.getfield 59, 3) := by decide +kernel
theorem dX10_withPairs_10 : decode cX10_withPairs 10 = .ok (.if_icmp .ge 79, 3) := by decide +kernel
theorem dX10_withPairs_13 : decode cX10_withPairs 13 = .ok (.iconst 0, 1) := by decide +kernel
theorem dX10_withPairs_14 : decode cX10_withPairs 14 = .ok (.istore 4, 2) := by decide +kernel
theorem dX10_withPairs_16 : decode cX10_withPairs 16 = .ok (.iload 4, 2) := by decide +kernel
theorem dX10_withPairs_18 : decode cX10_withPairs 18 = .ok (.aload_n 0, 1) := by decide +kernel
theorem dX10_withPairs_19 : decode cX10_withPairs 19 = .ok (.getfield 26, 3) := by decide +kernel
theorem dX10_withPairs_22 : decode cX10_withPairs 22 = .ok (.getfield 59, 3) := by decide +kernel
theorem dX10_withPairs_25 : decode cX10_withPairs 25 = .ok (.if_icmp .ge 58, 3) := by decide +kernel
theorem dX10_withPairs_28 : decode cX10_withPairs 28 = .ok (.aload_n 0, 1) := by decide +kernel
theorem dX10_withPairs_29 : decode cX10_withPairs 29 = .ok (.getfield 26, 3) := by decide +kernel
theorem dX10_withPairs_32 : decode cX10_withPairs 32 = .ok (.iload_n 3, 1) := by decide +kernel
theorem dX10_withPairs_33 : decode cX10_withPairs 33 = .ok (.iload 4, 2) := by decide +kernel
theorem dX10_withPairs_35 : decode cX10_withPairs 35 = .ok (.invokevirtual 91, 3) := by decide +kernel
theorem dX10_withPairs_38 : decode cX10_withPairs 38 = .ok (.ifCond .eq 39, 3) := by decide +kernel
theorem dX10_withPairs_41 : decode cX10_withPairs 41 = .ok (.lload_n 1, 1) := by decide +kernel
theorem dX10_withPairs_42 : decode cX10_withPairs 42 = .ok (.aload_n 0, 1) := by decide +kernel
theorem dX10_withPairs_43 : decode cX10_withPairs 43 = .ok (.iload_n 3, 1) := by decide +kernel
theorem dX10_withPairs_44 : decode cX10_withPairs 44 = .ok (.iload 4, 2) := by decide +kernel
theorem dX10_withPairs_46 : decode cX10_withPairs 46 = .ok (.invokevirtual 257, 3) := by decide +kernel
theorem dX10_withPairs_49 : decode cX10_withPairs 49 = .ok (.invokestatic 242, 3) := by decide +kernel
theorem dX10_withPairs_52 : decode cX10_withPairs 52 = .ok (.lstore_n 1, 1) := by decide +kernel
theorem dX10_withPairs_53 : decode cX10_withPairs 53 = .ok (.lload_n 1, 1) := by decide +kernel
theorem dX10_withPairs_54 : decode cX10_withPairs 54 = .ok (.aload_n 0, 1) := by decide +kernel
theorem dX10_withPairs_55 : decode cX10_withPairs 55 = .ok (.iload_n 3, 1) := by decide +kernel
theorem dX10_withPairs_56 : decode cX10_withPairs 56 = .ok (.iload 4, 2) := by decide +kernel
theorem dX10_withPairs_58 : decode cX10_withPairs 58 = .ok (.invokevirtual 260, 3) := by decide +kernel
theorem dX10_withPairs_61 : decode cX10_withPairs 61 = .ok (.invokestatic 242, 3) := by decide +kernel
theorem dX10_withPairs_64 : decode cX10_withPairs 64 = .ok (.lstore_n 1, 1) := by decide +kernel
theorem dX10_withPairs_65 : decode cX10_withPairs 65 = .ok (.lload_n 1, 1) := by decide +kernel
theorem dX10_withPairs_66 : decode cX10_withPairs 66 = .ok (.aload_n 0, 1) := by decide +kernel
theorem dX10_withPairs_67 : decode cX10_withPairs 67 = .ok (.iload_n 3, 1) := by decide +kernel
theorem dX10_withPairs_68 : decode cX10_withPairs 68 = .ok (.iload 4, 2) := by decide +kernel
theorem dX10_withPairs_70 : decode cX10_withPairs 70 = .ok (.invokevirtual 263, 3) := by decide +kernel
theorem dX10_withPairs_73 : decode cX10_withPairs 73 = .ok (.invokestatic 242, 3) := by decide +kernel
theorem dX10_withPairs_76 : decode cX10_withPairs 76 = .ok (.lstore_n 1, 1) := by decide +kernel
theorem dX10_withPairs_77 : decode cX10_withPairs 77 = .ok (.iinc 4 1, 3) := by decide +kernel
theorem dX10_withPairs_80 : decode cX10_withPairs 80 = .ok (.goto (-64), 3) := by decide +kernel
theorem dX10_withPairs_83 : decode cX10_withPairs 83 = .ok (.iinc 3 1, 3) := by decide +kernel
theorem dX10_withPairs_86 : decode cX10_withPairs 86 = .ok (.goto (-84), 3) := by decide +kernel
theorem dX10_withPairs_89 : decode cX10_withPairs 89 = .ok (.lload_n 1, 1) := by decide +kernel
theorem dX10_withPairs_90 : decode cX10_withPairs 90 = .ok (.lreturn, 1) := by decide +kernel
set_option maxRecDepth 20000 in
theorem ggX10_withLatest_X10_last : GoodIn wsX10_withLatest wsX10_last := goodIn_r _ [9, 10, 1, 2, 3, 11, 12, 13, 14, 15, 16, 17, 18, 19, 20, 21, 22, 23, 83, 84, 85, 86, 87, 88, 89, 90, 91, 92, 93, 94, 95, 96, 97, 98, 99, 100, 101, 102, 103, 104, 105, 106, 107, 108, 109] (by decide +kernel) (by decide +kernel)
set_option maxRecDepth 20000 in
theorem gX10_withLatest_X10_last : GoodIn wsX10_withLatest (wsV RX10 265 RX10 yX10_last wsX10_last) := goodIn_app (goodIn_of _ (by decide +kernel)) ggX10_withLatest_X10_last
set_option maxRecDepth 20000 in
theorem ggX10_withLatest_X10_with : GoodIn wsX10_withLatest wsX10_with := goodIn_r _ [26, 27] (by decide +kernel) (by decide +kernel)
set_option maxRecDepth 20000 in
theorem gX10_withLatest_X10_with : GoodIn wsX10_withLatest (va_wsS RX10 242 yX10_with wsX10_with) := goodIn_app (goodIn_of _ (by decide +kernel)) ggX10_withLatest_X10_with
set_option maxRecDepth 20000 in
theorem ggX10_withLatest_X3_isOf : GoodIn wsX10_withLatest wsX3_isOf := goodIn_r _ [31, 21, 22, 101, 102, 103, 104, 105, 106, 107, 108, 109] (by decide +kernel) (by decide +kernel)
set_option maxRecDepth 20000 in
theorem gX10_withLatest_X3_isOf : GoodIn wsX10_withLatest (wsV RX10 135 RX3 yX3_isOf wsX3_isOf) := goodIn_app (goodIn_of _ (by decide +kernel)) ggX10_withLatest_X3_isOf
set_option maxRecDepth 20000 in
theorem ggX10_withLatest_X10_heard : GoodIn wsX10_withLatest wsX10_heard := goodIn_r _ [35, 1, 2, 3, 11, 36, 37, 38, 39, 40, 41, 42, 28, 29, 30, 15, 31, 21, 22, 43, 44, 45, 46, 47, 48, 49, 50, 51, 52, 53, 54, 55, 56, 57, 58, 59, 60, 61, 62, 63, 64, 65, 66, 67, 68, 69, 70, 71, 72, 73, 74, 75, 76, 77, 78, 79, 80, 81, 82, 17, 83, 84, 85, 86, 87, 88, 89, 90, 91, 92, 93, 94, 95, 96, 97, 98, 99, 100, 101, 102, 103, 104, 105, 106, 107, 108, 109, 110, 111, 112, 113, 114, 115, 116, 117, 118] (by decide +kernel) (by decide +kernel)
set_option maxRecDepth 20000 in
theorem gX10_withLatest_X10_heard : GoodIn wsX10_withLatest (wsV RX10 268 RX10 yX10_heard wsX10_heard) := goodIn_app (goodIn_of _ (by decide +kernel)) ggX10_withLatest_X10_heard
theorem dX10_withLatest_0 : decode cX10_withLatest 0 = .ok (.aload_n 0, 1) := by decide +kernel
theorem dX10_withLatest_1 : decode cX10_withLatest 1 = .ok (.getfield 26, 3) := by decide +kernel
theorem dX10_withLatest_4 : decode cX10_withLatest 4 = .ok (.getfield 123, 3) := by decide +kernel
theorem dX10_withLatest_7 : decode cX10_withLatest 7 = .ok (.getfield 127, 3) := by decide +kernel
theorem dX10_withLatest_10 : decode cX10_withLatest 10 = .ok (.ifCond .ne 5, 3) := by decide +kernel
theorem dX10_withLatest_13 : decode cX10_withLatest 13 = .ok (.lload_n 1, 1) := by decide +kernel
theorem dX10_withLatest_14 : decode cX10_withLatest 14 = .ok (.lreturn, 1) := by decide +kernel
theorem dX10_withLatest_15 : decode cX10_withLatest 15 = .ok (.iconst 1, 1) := by decide +kernel
theorem dX10_withLatest_16 : decode cX10_withLatest 16 = .ok (.istore_n 3, 1) := by decide +kernel
theorem dX10_withLatest_17 : decode cX10_withLatest 17 = .ok (.iload_n 3, 1) := by decide +kernel
theorem dX10_withLatest_18 : decode cX10_withLatest 18 = .ok (.bipush 11, 2) := by decide +kernel
theorem dX10_withLatest_20 : decode cX10_withLatest 20 = .ok (.if_icmp .gt 19, 3) := by decide +kernel
theorem dX10_withLatest_23 : decode cX10_withLatest 23 = .ok (.lload_n 1, 1) := by decide +kernel
theorem dX10_withLatest_24 : decode cX10_withLatest 24 = .ok (.aload_n 0, 1) := by decide +kernel
theorem dX10_withLatest_25 : decode cX10_withLatest 25 = .ok (.iload_n 3, 1) := by decide +kernel
theorem dX10_withLatest_26 : decode cX10_withLatest 26 = .ok (.invokevirtual 265, 3) := by decide +kernel
theorem dX10_withLatest_29 : decode cX10_withLatest 29 = .ok (.invokestatic 242, 3) := by decide +kernel
theorem dX10_withLatest_32 : decode cX10_withLatest 32 = .ok (.lstore_n 1, 1) := by decide +kernel
theorem dX10_withLatest_33 : decode cX10_withLatest 33 = .ok (.iinc 3 1, 3) := by decide +kernel
theorem dX10_withLatest_36 : decode cX10_withLatest 36 = .ok (.goto (-19), 3) := by decide +kernel
theorem dX10_withLatest_39 : decode cX10_withLatest 39 = .ok (.iconst 0, 1) := by decide +kernel
theorem dX10_withLatest_40 : decode cX10_withLatest 40 = .ok (.istore_n 3, 1) := by decide +kernel
theorem dX10_withLatest_41 : decode cX10_withLatest 41 = .ok (.iload_n 3, 1) := by decide +kernel
theorem dX10_withLatest_42 : decode cX10_withLatest 42 = .ok (.aload_n 0, 1) := by decide +kernel
theorem dX10_withLatest_43 : decode cX10_withLatest 43 = .ok (.getfield 26, 3) := by decide +kernel
theorem dX10_withLatest_46 : decode cX10_withLatest 46 = .ok (.getfield 59, 3) := by decide +kernel
theorem dX10_withLatest_49 : decode cX10_withLatest 49 = .ok (.if_icmp .ge 33, 3) := by decide +kernel
theorem dX10_withLatest_52 : decode cX10_withLatest 52 = .ok (.aload_n 0, 1) := by decide +kernel
theorem dX10_withLatest_53 : decode cX10_withLatest 53 = .ok (.getfield 26, 3) := by decide +kernel
theorem dX10_withLatest_56 : decode cX10_withLatest 56 = .ok (.getfield 123, 3) := by decide +kernel
theorem dX10_withLatest_59 : decode cX10_withLatest 59 = .ok (.iload_n 3, 1) := by decide +kernel
theorem dX10_withLatest_60 : decode cX10_withLatest 60 = .ok (.invokevirtual 135, 3) := by decide +kernel
theorem dX10_withLatest_63 : decode cX10_withLatest 63 = .ok (.ifCond .ne 13, 3) := by decide +kernel
theorem dX10_withLatest_66 : decode cX10_withLatest 66 = .ok (.lload_n 1, 1) := by decide +kernel
theorem dX10_withLatest_67 : decode cX10_withLatest 67 = .ok (.aload_n 0, 1) := by decide +kernel
theorem dX10_withLatest_68 : decode cX10_withLatest 68 = .ok (.iload_n 3, 1) := by decide +kernel
theorem dX10_withLatest_69 : decode cX10_withLatest 69 = .ok (.invokevirtual 268, 3) := by decide +kernel
theorem dX10_withLatest_72 : decode cX10_withLatest 72 = .ok (.invokestatic 242, 3) := by decide +kernel
theorem dX10_withLatest_75 : decode cX10_withLatest 75 = .ok (.lstore_n 1, 1) := by decide +kernel
theorem dX10_withLatest_76 : decode cX10_withLatest 76 = .ok (.iinc 3 1, 3) := by decide +kernel
theorem dX10_withLatest_79 : decode cX10_withLatest 79 = .ok (.goto (-38), 3) := by decide +kernel
theorem dX10_withLatest_82 : decode cX10_withLatest 82 = .ok (.lload_n 1, 1) := by decide +kernel
theorem dX10_withLatest_83 : decode cX10_withLatest 83 = .ok (.lreturn, 1) := by decide +kernel
set_option maxRecDepth 20000 in
theorem ggX10_withPlaces_X0_isPlaced : GoodIn wsX10_withPlaces wsX0_isPlaced := goodIn_r _ [7, 8, 9, 10, 11, 12, 6, 13, 14, 116, 117, 118, 119, 120, 121, 122, 123, 124, 125, 126, 127, 128, 129, 130, 131] (by decide +kernel) (by decide +kernel)
set_option maxRecDepth 20000 in
theorem gX10_withPlaces_X0_isPlaced : GoodIn wsX10_withPlaces (wsV RX10 156 RX0 yX0_isPlaced wsX0_isPlaced) := goodIn_app (goodIn_of _ (by decide +kernel)) ggX10_withPlaces_X0_isPlaced
set_option maxRecDepth 20000 in
theorem ggX10_withPlaces_X0_placingOf : GoodIn wsX10_withPlaces wsX0_placingOf := goodIn_r _ [18, 19, 20, 21, 22, 23, 24, 6, 25, 26, 8, 9, 27, 28, 29, 30, 31, 32, 33, 34, 35, 36, 10, 11, 12, 13, 14, 37, 38, 39, 40, 41, 42, 43, 44, 45, 46, 47, 48, 49, 50, 51, 52, 53, 54, 55, 56, 57, 58, 59, 60, 61, 62, 63, 64, 65, 66, 67, 68, 69, 70, 71, 72, 73, 74, 75, 76, 77, 78, 79, 80, 81, 82, 83, 84, 85, 86, 87, 88, 89, 90, 91, 92, 116, 117, 118, 119, 120, 121, 122, 123, 124, 125, 126, 132, 133, 134, 135, 136, 137, 127, 128, 129, 130, 131, 138, 139, 140, 141, 142, 143, 144, 145, 146, 147, 148, 149, 150, 151, 152] (by decide +kernel) (by decide +kernel)
set_option maxRecDepth 20000 in
theorem gX10_withPlaces_X0_placingOf : GoodIn wsX10_withPlaces (wsV RX10 159 RX0 yX0_placingOf wsX0_placingOf) := goodIn_app (goodIn_of _ (by decide +kernel)) ggX10_withPlaces_X0_placingOf
set_option maxRecDepth 20000 in
theorem ggX10_withPlaces_X7_tell : GoodIn wsX10_withPlaces wsX7_tell := goodIn_r _ [97, 98, 99, 100, 101, 102, 103, 132, 133, 134, 135, 136, 137] (by decide +kernel) (by decide +kernel)
set_option maxRecDepth 20000 in
theorem gX10_withPlaces_X7_tell : GoodIn wsX10_withPlaces (wsV RX10 163 RX7 yX7_tell wsX7_tell) := goodIn_app (goodIn_of _ (by decide +kernel)) ggX10_withPlaces_X7_tell
set_option maxRecDepth 20000 in
theorem ggX10_withPlaces_X10_with : GoodIn wsX10_withPlaces wsX10_with := goodIn_r _ [107, 108] (by decide +kernel) (by decide +kernel)
set_option maxRecDepth 20000 in
theorem gX10_withPlaces_X10_with : GoodIn wsX10_withPlaces (va_wsS RX10 242 yX10_with wsX10_with) := goodIn_app (goodIn_of _ (by decide +kernel)) ggX10_withPlaces_X10_with
theorem dX10_withPlaces_0 : decode cX10_withPlaces 0 = .ok (.iconst 0, 1) := by decide +kernel
theorem dX10_withPlaces_1 : decode cX10_withPlaces 1 = .ok (.istore_n 3, 1) := by decide +kernel
theorem dX10_withPlaces_2 : decode cX10_withPlaces 2 = .ok (.iload_n 3, 1) := by decide +kernel
theorem dX10_withPlaces_3 : decode cX10_withPlaces 3 = .ok (.aload_n 0, 1) := by decide +kernel
theorem dX10_withPlaces_4 : decode cX10_withPlaces 4 = .ok (.getfield 26, 3) := by decide +kernel
theorem dX10_withPlaces_7 : decode cX10_withPlaces 7 = .ok (.getfield 59, 3) := by decide +kernel
theorem dX10_withPlaces_10 : decode cX10_withPlaces 10 = .ok (.if_icmp .ge 57, 3) := by decide +kernel
theorem dX10_withPlaces_13 : decode cX10_withPlaces 13 = .ok (.aload_n 0, 1) := by decide +kernel
theorem dX10_withPlaces_14 : decode cX10_withPlaces 14 = .ok (.getfield 26, 3) := by decide +kernel
theorem dX10_withPlaces_17 : decode cX10_withPlaces 17 = .ok (.iload_n 3, 1) := by decide +kernel
theorem dX10_withPlaces_18 : decode cX10_withPlaces 18 = .ok (.invokevirtual 156, 3) := by decide +kernel
theorem dX10_withPlaces_21 : decode cX10_withPlaces 21 = .ok (.ifCond .eq 40, 3) := by decide +kernel
theorem dX10_withPlaces_24 : decode cX10_withPlaces 24 = .ok (.aload_n 0, 1) := by decide +kernel
theorem dX10_withPlaces_25 : decode cX10_withPlaces 25 = .ok (.getfield 26, 3) := by decide +kernel
theorem dX10_withPlaces_28 : decode cX10_withPlaces 28 = .ok (.iload_n 3, 1) := by decide +kernel
theorem dX10_withPlaces_29 : decode cX10_withPlaces 29 = .ok (.invokevirtual 159, 3) := by decide +kernel
theorem dX10_withPlaces_32 : decode cX10_withPlaces 32 = .ok (.astore 4, 2) := by decide +kernel
theorem dX10_withPlaces_34 : decode cX10_withPlaces 34 = .ok (.iconst 0, 1) := by decide +kernel
theorem dX10_withPlaces_35 : decode cX10_withPlaces 35 = .ok (.istore 5, 2) := by decide +kernel
theorem dX10_withPlaces_37 : decode cX10_withPlaces 37 = .ok (.iload 5, 2) := by decide +kernel
theorem dX10_withPlaces_39 : decode cX10_withPlaces 39 = .ok (.iconst 4, 1) := by decide +kernel
theorem dX10_withPlaces_40 : decode cX10_withPlaces 40 = .ok (.if_icmp .gt 21, 3) := by decide +kernel
theorem dX10_withPlaces_43 : decode cX10_withPlaces 43 = .ok (.lload_n 1, 1) := by decide +kernel
theorem dX10_withPlaces_44 : decode cX10_withPlaces 44 = .ok (.aload 4, 2) := by decide +kernel
theorem dX10_withPlaces_46 : decode cX10_withPlaces 46 = .ok (.iload 5, 2) := by decide +kernel
theorem dX10_withPlaces_48 : decode cX10_withPlaces 48 = .ok (.invokevirtual 163, 3) := by decide +kernel
theorem dX10_withPlaces_51 : decode cX10_withPlaces 51 = .ok (.invokestatic 242, 3) := by decide +kernel
theorem dX10_withPlaces_54 : decode cX10_withPlaces 54 = .ok (.lstore_n 1, 1) := by decide +kernel
theorem dX10_withPlaces_55 : decode cX10_withPlaces 55 = .ok (.iinc 5 1, 3) := by decide +kernel
theorem dX10_withPlaces_58 : decode cX10_withPlaces 58 = .ok (.goto (-21), 3) := by decide +kernel
theorem dX10_withPlaces_61 : decode cX10_withPlaces 61 = .ok (.iinc 3 1, 3) := by decide +kernel
theorem dX10_withPlaces_64 : decode cX10_withPlaces 64 = .ok (.goto (-62), 3) := by decide +kernel
theorem dX10_withPlaces_67 : decode cX10_withPlaces 67 = .ok (.lload_n 1, 1) := by decide +kernel
theorem dX10_withPlaces_68 : decode cX10_withPlaces 68 = .ok (.lreturn, 1) := by decide +kernel
set_option maxRecDepth 20000 in
theorem ggX10_withSlots_X10_slot : GoodIn wsX10_withSlots wsX10_slot := goodIn_r _ [5, 6, 7, 8, 9, 10, 11, 12, 13, 14, 15, 16, 21, 22, 23, 24, 25, 26, 27, 28, 29, 30, 31, 32, 33, 34, 35, 36, 37, 38, 39] (by decide +kernel) (by decide +kernel)
set_option maxRecDepth 20000 in
theorem gX10_withSlots_X10_slot : GoodIn wsX10_withSlots (wsV RX10 271 RX10 yX10_slot wsX10_slot) := goodIn_app (goodIn_of _ (by decide +kernel)) ggX10_withSlots_X10_slot
set_option maxRecDepth 20000 in
theorem ggX10_withSlots_X10_with : GoodIn wsX10_withSlots wsX10_with := goodIn_r _ [19, 20] (by decide +kernel) (by decide +kernel)
set_option maxRecDepth 20000 in
theorem gX10_withSlots_X10_with : GoodIn wsX10_withSlots (va_wsS RX10 242 yX10_with wsX10_with) := goodIn_app (goodIn_of _ (by decide +kernel)) ggX10_withSlots_X10_with
theorem dX10_withSlots_0 : decode cX10_withSlots 0 = .ok (.iconst 0, 1) := by decide +kernel
theorem dX10_withSlots_1 : decode cX10_withSlots 1 = .ok (.istore_n 3, 1) := by decide +kernel
theorem dX10_withSlots_2 : decode cX10_withSlots 2 = .ok (.iload_n 3, 1) := by decide +kernel
theorem dX10_withSlots_3 : decode cX10_withSlots 3 = .ok (.bipush 16, 2) := by decide +kernel
theorem dX10_withSlots_5 : decode cX10_withSlots 5 = .ok (.if_icmp .ge 19, 3) := by decide +kernel
theorem dX10_withSlots_8 : decode cX10_withSlots 8 = .ok (.lload_n 1, 1) := by decide +kernel
theorem dX10_withSlots_9 : decode cX10_withSlots 9 = .ok (.aload_n 0, 1) := by decide +kernel
theorem dX10_withSlots_10 : decode cX10_withSlots 10 = .ok (.iload_n 3, 1) := by decide +kernel
theorem dX10_withSlots_11 : decode cX10_withSlots 11 = .ok (.invokevirtual 271, 3) := by decide +kernel
theorem dX10_withSlots_14 : decode cX10_withSlots 14 = .ok (.invokestatic 242, 3) := by decide +kernel
theorem dX10_withSlots_17 : decode cX10_withSlots 17 = .ok (.lstore_n 1, 1) := by decide +kernel
theorem dX10_withSlots_18 : decode cX10_withSlots 18 = .ok (.iinc 3 1, 3) := by decide +kernel
theorem dX10_withSlots_21 : decode cX10_withSlots 21 = .ok (.goto (-19), 3) := by decide +kernel
theorem dX10_withSlots_24 : decode cX10_withSlots 24 = .ok (.lload_n 1, 1) := by decide +kernel
theorem dX10_withSlots_25 : decode cX10_withSlots 25 = .ok (.lreturn, 1) := by decide +kernel
set_option maxRecDepth 20000 in
theorem ggX10_pulsesWithNext_X0_hasPair : GoodIn wsX10_pulsesWithNext wsX0_hasPair := goodIn_r _ [9, 10, 11, 12, 8, 13, 14, 15, 16, 17, 18, 19, 20, 21, 22, 23, 24, 124, 125, 126, 127, 128, 129, 130, 131, 132, 133, 134, 135, 136, 137, 138, 139, 140, 141, 142] (by decide +kernel) (by decide +kernel)
set_option maxRecDepth 20000 in
theorem gX10_pulsesWithNext_X0_hasPair : GoodIn wsX10_pulsesWithNext (wsV RX10 91 RX0 yX0_hasPair wsX0_hasPair) := goodIn_app (goodIn_of _ (by decide +kernel)) ggX10_pulsesWithNext_X0_hasPair
set_option maxRecDepth 20000 in
theorem ggX10_pulsesWithNext_X10_countedPulses : GoodIn wsX10_pulsesWithNext wsX10_countedPulses := goodIn_r _ [29, 1, 30, 4, 31, 32, 33, 34, 8, 35, 36, 37, 38, 39, 14, 40, 41, 42, 43, 44, 45, 46, 47, 48, 49, 50, 51, 52, 53, 54, 55, 56, 57, 58, 59, 60, 61, 62, 63, 64, 65, 66, 67, 68, 69, 70, 71, 72, 73, 74, 75, 76, 77, 78, 79, 80, 81, 82, 83, 84, 85, 86, 87, 88, 89, 90, 91, 92, 93, 94, 95, 96, 97, 98, 99, 100, 101, 102, 103, 104, 105, 106, 107, 108, 117, 118, 119, 120, 121, 122, 123, 124, 125, 126, 127, 128, 129, 130, 131, 132, 133, 134, 143, 144, 145, 146, 147, 148, 149, 150, 151, 152, 153, 154, 155, 156, 157, 158, 159, 160, 161, 162, 135, 136, 137, 138, 139, 140, 141, 142, 163] (by decide +kernel) (by decide +kernel)
set_option maxRecDepth 20000 in
theorem gX10_pulsesWithNext_X10_countedPulses : GoodIn wsX10_pulsesWithNext (wsV RX10 117 RX10 yX10_countedPulses wsX10_countedPulses) := goodIn_app (goodIn_of _ (by decide +kernel)) ggX10_pulsesWithNext_X10_countedPulses
set_option maxRecDepth 20000 in
theorem ggX10_pulsesWithNext_X0_anchorBehind : GoodIn wsX10_pulsesWithNext wsX0_anchorBehind := goodIn_r _ [112, 113, 114, 115, 8, 116, 20, 21, 22, 23, 24, 14, 15, 16, 17, 18, 19, 124, 125, 126, 127, 128, 129, 130, 131, 132, 133, 134, 135, 136, 137, 138, 139, 140, 141, 142] (by decide +kernel) (by decide +kernel)
set_option maxRecDepth 20000 in
theorem gX10_pulsesWithNext_X0_anchorBehind : GoodIn wsX10_pulsesWithNext (wsV RX10 277 RX0 yX0_anchorBehind wsX0_anchorBehind) := goodIn_app (goodIn_of _ (by decide +kernel)) ggX10_pulsesWithNext_X0_anchorBehind
theorem dX10_pulsesWithNext_0 : decode cX10_pulsesWithNext 0 = .ok (.aload_n 0, 1) := by decide +kernel
theorem dX10_pulsesWithNext_1 : decode cX10_pulsesWithNext 1 = .ok (.getfield 26, 3) := by decide +kernel
theorem dX10_pulsesWithNext_4 : decode cX10_pulsesWithNext 4 = .ok (.getfield 65, 3) := by decide +kernel
theorem dX10_pulsesWithNext_7 : decode cX10_pulsesWithNext 7 = .ok (.iload_n 1, 1) := by decide +kernel
theorem dX10_pulsesWithNext_8 : decode cX10_pulsesWithNext 8 = .ok (.aaload, 1) := by decide +kernel
theorem dX10_pulsesWithNext_9 : decode cX10_pulsesWithNext 9 = .ok (.getfield 274, 3) := by decide +kernel
theorem dX10_pulsesWithNext_12 : decode cX10_pulsesWithNext 12 = .ok (.istore_n 2, 1) := by decide +kernel
theorem dX10_pulsesWithNext_13 : decode cX10_pulsesWithNext 13 = .ok (.aload_n 0, 1) := by decide +kernel
theorem dX10_pulsesWithNext_14 : decode cX10_pulsesWithNext 14 = .ok (.getfield 26, 3) := by decide +kernel
theorem dX10_pulsesWithNext_17 : decode cX10_pulsesWithNext 17 = .ok (.iload_n 1, 1) := by decide +kernel
theorem dX10_pulsesWithNext_18 : decode cX10_pulsesWithNext 18 = .ok (.iload_n 2, 1) := by decide +kernel
theorem dX10_pulsesWithNext_19 : decode cX10_pulsesWithNext 19 = .ok (.invokevirtual 91, 3) := by decide +kernel
theorem dX10_pulsesWithNext_22 : decode cX10_pulsesWithNext 22 = .ok (.ifCond .ne 6, 3) := by decide +kernel
theorem dX10_pulsesWithNext_25 : decode cX10_pulsesWithNext 25 = .ok (.ldc 203, 2) := by decide +kernel
theorem dX10_pulsesWithNext_27 : decode cX10_pulsesWithNext 27 = .ok (.ireturn, 1) := by decide +kernel
theorem dX10_pulsesWithNext_28 : decode cX10_pulsesWithNext 28 = .ok (.aload_n 0, 1) := by decide +kernel
theorem dX10_pulsesWithNext_29 : decode cX10_pulsesWithNext 29 = .ok (.iload_n 1, 1) := by decide +kernel
theorem dX10_pulsesWithNext_30 : decode cX10_pulsesWithNext 30 = .ok (.iload_n 2, 1) := by decide +kernel
theorem dX10_pulsesWithNext_31 : decode cX10_pulsesWithNext 31 = .ok (.invokevirtual 117, 3) := by decide +kernel
theorem dX10_pulsesWithNext_34 : decode cX10_pulsesWithNext 34 = .ok (.istore_n 3, 1) := by decide +kernel
theorem dX10_pulsesWithNext_35 : decode cX10_pulsesWithNext 35 = .ok (.aload_n 0, 1) := by decide +kernel
theorem dX10_pulsesWithNext_36 : decode cX10_pulsesWithNext 36 = .ok (.getfield 26, 3) := by decide +kernel
theorem dX10_pulsesWithNext_39 : decode cX10_pulsesWithNext 39 = .ok (.getfield 65, 3) := by decide +kernel
theorem dX10_pulsesWithNext_42 : decode cX10_pulsesWithNext 42 = .ok (.iload_n 1, 1) := by decide +kernel
theorem dX10_pulsesWithNext_43 : decode cX10_pulsesWithNext 43 = .ok (.aaload, 1) := by decide +kernel
theorem dX10_pulsesWithNext_44 : decode cX10_pulsesWithNext 44 = .ok (.aload_n 0, 1) := by decide +kernel
theorem dX10_pulsesWithNext_45 : decode cX10_pulsesWithNext 45 = .ok (.getfield 26, 3) := by decide +kernel
theorem dX10_pulsesWithNext_48 : decode cX10_pulsesWithNext 48 = .ok (.iload_n 2, 1) := by decide +kernel
theorem dX10_pulsesWithNext_49 : decode cX10_pulsesWithNext 49 = .ok (.invokevirtual 277, 3) := by decide +kernel
theorem dX10_pulsesWithNext_52 : decode cX10_pulsesWithNext 52 = .ok (.putfield 274, 3) := by decide +kernel
theorem dX10_pulsesWithNext_55 : decode cX10_pulsesWithNext 55 = .ok (.iload_n 3, 1) := by decide +kernel
theorem dX10_pulsesWithNext_56 : decode cX10_pulsesWithNext 56 = .ok (.ireturn, 1) := by decide +kernel
set_option maxRecDepth 20000 in
theorem ggX10_countedPulses_X0_sendPulses : GoodIn wsX10_countedPulses wsX0_sendPulses := goodIn_r _ [9, 10, 11, 12, 13, 14, 15, 16, 17, 18, 19, 20, 21, 22, 23, 24, 25, 26, 27, 8, 28, 29, 30, 31, 32, 33, 34, 35, 36, 37, 38, 39, 40, 41, 42, 43, 44, 45, 46, 47, 48, 49, 50, 51, 52, 53, 54, 55, 56, 57, 58, 59, 60, 61, 62, 63, 64, 65, 66, 67, 68, 69, 70, 71, 72, 73, 74, 75, 76, 77, 78, 79, 80, 81, 82, 83, 91, 92, 93, 94, 95, 96, 97, 98, 99, 100, 101, 102, 103, 104, 105, 106, 107, 108, 109, 110, 111, 112, 113, 114, 115, 116, 117, 118, 119, 120, 121, 122, 123, 124, 125, 126, 127, 128, 129, 130] (by decide +kernel) (by decide +kernel)
set_option maxRecDepth 20000 in
theorem gX10_countedPulses_X0_sendPulses : GoodIn wsX10_countedPulses (wsV RX10 280 RX0 yX0_sendPulses wsX0_sendPulses) := goodIn_app (goodIn_of _ (by decide +kernel)) ggX10_countedPulses_X0_sendPulses
theorem dX10_countedPulses_0 : decode cX10_countedPulses 0 = .ok (.aload_n 0, 1) := by decide +kernel
theorem dX10_countedPulses_1 : decode cX10_countedPulses 1 = .ok (.getfield 26, 3) := by decide +kernel
theorem dX10_countedPulses_4 : decode cX10_countedPulses 4 = .ok (.iload_n 1, 1) := by decide +kernel
theorem dX10_countedPulses_5 : decode cX10_countedPulses 5 = .ok (.iload_n 2, 1) := by decide +kernel
theorem dX10_countedPulses_6 : decode cX10_countedPulses 6 = .ok (.invokevirtual 280, 3) := by decide +kernel
theorem dX10_countedPulses_9 : decode cX10_countedPulses 9 = .ok (.istore_n 3, 1) := by decide +kernel
theorem dX10_countedPulses_10 : decode cX10_countedPulses 10 = .ok (.aload_n 0, 1) := by decide +kernel
theorem dX10_countedPulses_11 : decode cX10_countedPulses 11 = .ok (.dup, 1) := by decide +kernel
theorem dX10_countedPulses_12 : decode cX10_countedPulses 12 = .ok (.getfield 216, 3) := by decide +kernel
theorem dX10_countedPulses_15 : decode cX10_countedPulses 15 = .ok (.iconst 1, 1) := by decide +kernel
theorem dX10_countedPulses_16 : decode cX10_countedPulses 16 = .ok (.iadd, 1) := by decide +kernel
theorem dX10_countedPulses_17 : decode cX10_countedPulses 17 = .ok (.putfield 216, 3) := by decide +kernel
theorem dX10_countedPulses_20 : decode cX10_countedPulses 20 = .ok (.iload_n 3, 1) := by decide +kernel
theorem dX10_countedPulses_21 : decode cX10_countedPulses 21 = .ok (.ldc 203, 2) := by decide +kernel
theorem dX10_countedPulses_23 : decode cX10_countedPulses 23 = .ok (.if_icmp .ne 13, 3) := by decide +kernel
theorem dX10_countedPulses_26 : decode cX10_countedPulses 26 = .ok (.aload_n 0, 1) := by decide +kernel
theorem dX10_countedPulses_27 : decode cX10_countedPulses 27 = .ok (.dup, 1) := by decide +kernel
theorem dX10_countedPulses_28 : decode cX10_countedPulses 28 = .ok (.getfield 219, 3) := by decide +kernel
theorem dX10_countedPulses_31 : decode cX10_countedPulses 31 = .ok (.iconst 1, 1) := by decide +kernel
theorem dX10_countedPulses_32 : decode cX10_countedPulses 32 = .ok (.iadd, 1) := by decide +kernel
theorem dX10_countedPulses_33 : decode cX10_countedPulses 33 = .ok (.putfield 219, 3) := by decide +kernel
theorem dX10_countedPulses_36 : decode cX10_countedPulses 36 = .ok (.iload_n 3, 1) := by decide +kernel
theorem dX10_countedPulses_37 : decode cX10_countedPulses 37 = .ok (.ireturn, 1) := by decide +kernel
theorem dX11_init_0 : decode cX11_init 0 = .ok (.aload_n 0, 1) := by decide +kernel
theorem dX11_init_1 : decode cX11_init 1 = .ok (.invokespecial 1, 3) := by decide +kernel
theorem dX11_init_4 : decode cX11_init 4 = .ok (.aload_n 0, 1) := by decide +kernel
theorem dX11_init_5 : decode cX11_init 5 = .ok (.bipush 110, 2) := by decide +kernel
theorem dX11_init_7 : decode cX11_init 7 = .ok (.newarray .int, 2) := by decide +kernel
theorem dX11_init_9 : decode cX11_init 9 = .ok (.putfield 7, 3) := by decide +kernel
theorem dX11_init_12 : decode cX11_init 12 = .ok (.aload_n 0, 1) := by decide +kernel
theorem dX11_init_13 : decode cX11_init 13 = .ok (.bipush 7, 2) := by decide +kernel
theorem dX11_init_15 : decode cX11_init 15 = .ok (.newarray .boolean, 2) := by decide +kernel
theorem dX11_init_17 : decode cX11_init 17 = .ok (.putfield 13, 3) := by decide +kernel
theorem dX11_init_20 : decode cX11_init 20 = .ok (.aload_n 0, 1) := by decide +kernel
theorem dX11_init_21 : decode cX11_init 21 = .ok (.bipush 7, 2) := by decide +kernel
theorem dX11_init_23 : decode cX11_init 23 = .ok (.newarray .int, 2) := by decide +kernel
theorem dX11_init_25 : decode cX11_init 25 = .ok (.putfield 17, 3) := by decide +kernel
theorem dX11_init_28 : decode cX11_init 28 = .ok (.aload_n 0, 1) := by decide +kernel
theorem dX11_init_29 : decode cX11_init 29 = .ok (.bipush 7, 2) := by decide +kernel
theorem dX11_init_31 : decode cX11_init 31 = .ok (.newarray .int, 2) := by decide +kernel
theorem dX11_init_33 : decode cX11_init 33 = .ok (.putfield 20, 3) := by decide +kernel
theorem dX11_init_36 : decode cX11_init 36 = .ok (.aload_n 0, 1) := by decide +kernel
theorem dX11_init_37 : decode cX11_init 37 = .ok (.bipush 7, 2) := by decide +kernel
theorem dX11_init_39 : decode cX11_init 39 = .ok (.newarray .int, 2) := by decide +kernel
theorem dX11_init_41 : decode cX11_init 41 = .ok (.putfield 23, 3) := by decide +kernel
theorem dX11_init_44 : decode cX11_init 44 = .ok (.aload_n 0, 1) := by decide +kernel
theorem dX11_init_45 : decode cX11_init 45 = .ok (.bipush 7, 2) := by decide +kernel
theorem dX11_init_47 : decode cX11_init 47 = .ok (.newarray .int, 2) := by decide +kernel
theorem dX11_init_49 : decode cX11_init 49 = .ok (.putfield 26, 3) := by decide +kernel
theorem dX11_init_52 : decode cX11_init 52 = .ok (.aload_n 0, 1) := by decide +kernel
theorem dX11_init_53 : decode cX11_init 53 = .ok (.bipush 7, 2) := by decide +kernel
theorem dX11_init_55 : decode cX11_init 55 = .ok (.newarray .int, 2) := by decide +kernel
theorem dX11_init_57 : decode cX11_init 57 = .ok (.putfield 29, 3) := by decide +kernel
theorem dX11_init_60 : decode cX11_init 60 = .ok (.aload_n 0, 1) := by decide +kernel
theorem dX11_init_61 : decode cX11_init 61 = .ok (.bipush 7, 2) := by decide +kernel
theorem dX11_init_63 : decode cX11_init 63 = .ok (.newarray .int, 2) := by decide +kernel
theorem dX11_init_65 : decode cX11_init 65 = .ok (.putfield 32, 3) := by decide +kernel
theorem dX11_init_68 : decode cX11_init 68 = .ok (.aload_n 0, 1) := by decide +kernel
theorem dX11_init_69 : decode cX11_init 69 = .ok (.bipush 7, 2) := by decide +kernel
theorem dX11_init_71 : decode cX11_init 71 = .ok (.newarray .int, 2) := by decide +kernel
theorem dX11_init_73 : decode cX11_init 73 = .ok (.putfield 35, 3) := by decide +kernel
theorem dX11_init_76 : decode cX11_init 76 = .ok (.aload_n 0, 1) := by decide +kernel
theorem dX11_init_77 : decode cX11_init 77 = .ok (.bipush 49, 2) := by decide +kernel
theorem dX11_init_79 : decode cX11_init 79 = .ok (.newarray .int, 2) := by decide +kernel
theorem dX11_init_81 : decode cX11_init 81 = .ok (.putfield 38, 3) := by decide +kernel
theorem dX11_init_84 : decode cX11_init 84 = .ok (.aload_n 0, 1) := by decide +kernel
theorem dX11_init_85 : decode cX11_init 85 = .ok (.sipush 294, 3) := by decide +kernel
theorem dX11_init_88 : decode cX11_init 88 = .ok (.newarray .int, 2) := by decide +kernel
theorem dX11_init_90 : decode cX11_init 90 = .ok (.putfield 41, 3) := by decide +kernel
theorem dX11_init_93 : decode cX11_init 93 = .ok (.aload_n 0, 1) := by decide +kernel
theorem dX11_init_94 : decode cX11_init 94 = .ok (.sipush 294, 3) := by decide +kernel
theorem dX11_init_97 : decode cX11_init 97 = .ok (.newarray .int, 2) := by decide +kernel
theorem dX11_init_99 : decode cX11_init 99 = .ok (.putfield 44, 3) := by decide +kernel
theorem dX11_init_102 : decode cX11_init 102 = .ok (.aload_n 0, 1) := by decide +kernel
theorem dX11_init_103 : decode cX11_init 103 = .ok (.bipush 49, 2) := by decide +kernel
theorem dX11_init_105 : decode cX11_init 105 = .ok (.newarray .boolean, 2) := by decide +kernel
theorem dX11_init_107 : decode cX11_init 107 = .ok (.putfield 47, 3) := by decide +kernel
theorem dX11_init_110 : decode cX11_init 110 = .ok (.aload_n 0, 1) := by decide +kernel
theorem dX11_init_111 : decode cX11_init 111 = .ok (.bipush 49, 2) := by decide +kernel
theorem dX11_init_113 : decode cX11_init 113 = .ok (.newarray .int, 2) := by decide +kernel
theorem dX11_init_115 : decode cX11_init 115 = .ok (.putfield 50, 3) := by decide +kernel
theorem dX11_init_118 : decode cX11_init 118 = .ok (.aload_n 0, 1) := by decide +kernel
theorem dX11_init_119 : decode cX11_init 119 = .ok (.bipush 16, 2) := by decide +kernel
theorem dX11_init_121 : decode cX11_init 121 = .ok (.newarray .int, 2) := by decide +kernel
theorem dX11_init_123 : decode cX11_init 123 = .ok (.putfield 53, 3) := by decide +kernel
theorem dX11_init_126 : decode cX11_init 126 = .ok (.aload_n 0, 1) := by decide +kernel
theorem dX11_init_127 : decode cX11_init 127 = .ok (.bipush 7, 2) := by decide +kernel
theorem dX11_init_129 : decode cX11_init 129 = .ok (.newarray .int, 2) := by decide +kernel
theorem dX11_init_131 : decode cX11_init 131 = .ok (.putfield 56, 3) := by decide +kernel
theorem dX11_init_134 : decode cX11_init 134 = .ok (.aload_n 0, 1) := by decide +kernel
theorem dX11_init_135 : decode cX11_init 135 = .ok (.bipush 7, 2) := by decide +kernel
theorem dX11_init_137 : decode cX11_init 137 = .ok (.newarray .int, 2) := by decide +kernel
theorem dX11_init_139 : decode cX11_init 139 = .ok (.putfield 59, 3) := by decide +kernel
theorem dX11_init_142 : decode cX11_init 142 = .ok (.aload_n 0, 1) := by decide +kernel
theorem dX11_init_143 : decode cX11_init 143 = .ok (.bipush 7, 2) := by decide +kernel
theorem dX11_init_145 : decode cX11_init 145 = .ok (.newarray .boolean, 2) := by decide +kernel
theorem dX11_init_147 : decode cX11_init 147 = .ok (.putfield 62, 3) := by decide +kernel
theorem dX11_init_150 : decode cX11_init 150 = .ok (.aload_n 0, 1) := by decide +kernel
theorem dX11_init_151 : decode cX11_init 151 = .ok (.bipush 7, 2) := by decide +kernel
theorem dX11_init_153 : decode cX11_init 153 = .ok (.newarray .int, 2) := by decide +kernel
theorem dX11_init_155 : decode cX11_init 155 = .ok (.putfield 65, 3) := by decide +kernel
theorem dX11_init_158 : decode cX11_init 158 = .ok (.aload_n 0, 1) := by decide +kernel
theorem dX11_init_159 : decode cX11_init 159 = .ok (.bipush 7, 2) := by decide +kernel
theorem dX11_init_161 : decode cX11_init 161 = .ok (.newarray .int, 2) := by decide +kernel
theorem dX11_init_163 : decode cX11_init 163 = .ok (.putfield 68, 3) := by decide +kernel
theorem dX11_init_166 : decode cX11_init 166 = .ok (.aload_n 0, 1) := by decide +kernel
theorem dX11_init_167 : decode cX11_init 167 = .ok (.bipush 7, 2) := by decide +kernel
theorem dX11_init_169 : decode cX11_init 169 = .ok (.newarray .int, 2) := by decide +kernel
theorem dX11_init_171 : decode cX11_init 171 = .ok (.putfield 71, 3) := by decide +kernel
theorem dX11_init_174 : decode cX11_init 174 = .ok (.aload_n 0, 1) := by decide +kernel
theorem dX11_init_175 : decode cX11_init 175 = .ok (.bipush 7, 2) := by decide +kernel
theorem dX11_init_177 : decode cX11_init 177 = .ok (.newarray .int, 2) := by decide +kernel
theorem dX11_init_179 : decode cX11_init 179 = .ok (.putfield 74, 3) := by decide +kernel
theorem dX11_init_182 : decode cX11_init 182 = .ok (.return_, 1) := by decide +kernel
theorem dX11_within_0 : decode cX11_within 0 = .ok (.iload_n 0, 1) := by decide +kernel
theorem dX11_within_1 : decode cX11_within 1 = .ok (.iload_n 1, 1) := by decide +kernel
theorem dX11_within_2 : decode cX11_within 2 = .ok (.if_icmp .lt 12, 3) := by decide +kernel
theorem dX11_within_5 : decode cX11_within 5 = .ok (.iload_n 0, 1) := by decide +kernel
theorem dX11_within_6 : decode cX11_within 6 = .ok (.iload_n 2, 1) := by decide +kernel
theorem dX11_within_7 : decode cX11_within 7 = .ok (.if_icmp .gt 7, 3) := by decide +kernel
theorem dX11_within_10 : decode cX11_within 10 = .ok (.iconst 1, 1) := by decide +kernel
theorem dX11_within_11 : decode cX11_within 11 = .ok (.goto 4, 3) := by decide +kernel
theorem dX11_within_14 : decode cX11_within 14 = .ok (.iconst 0, 1) := by decide +kernel
theorem dX11_within_15 : decode cX11_within 15 = .ok (.ireturn, 1) := by decide +kernel
set_option maxRecDepth 20000 in
theorem ggX11_letter_X11_within : GoodIn wsX11_letter wsX11_within := goodIn_r _ [8] (by decide +kernel) (by decide +kernel)
set_option maxRecDepth 20000 in
theorem gX11_letter_X11_within : GoodIn wsX11_letter (va_wsS RX11 77 yX11_within wsX11_within) := goodIn_app (goodIn_of _ (by decide +kernel)) ggX11_letter_X11_within
theorem dX11_letter_0 : decode cX11_letter 0 = .ok (.iload_n 1, 1) := by decide +kernel
theorem dX11_letter_1 : decode cX11_letter 1 = .ok (.bipush 32, 2) := by decide +kernel
theorem dX11_letter_3 : decode cX11_letter 3 = .ok (.bipush 126, 2) := by decide +kernel
theorem dX11_letter_5 : decode cX11_letter 5 = .ok (.invokestatic 77, 3) := by decide +kernel
theorem dX11_letter_8 : decode cX11_letter 8 = .ok (.ifCond .ne 6, 3) := by decide +kernel
theorem dX11_letter_11 : decode cX11_letter 11 = .ok (.ldc 81, 2) := by decide +kernel
theorem dX11_letter_13 : decode cX11_letter 13 = .ok (.ireturn, 1) := by decide +kernel
theorem dX11_letter_14 : decode cX11_letter 14 = .ok (.aload_n 0, 1) := by decide +kernel
theorem dX11_letter_15 : decode cX11_letter 15 = .ok (.getfield 82, 3) := by decide +kernel
theorem dX11_letter_18 : decode cX11_letter 18 = .ok (.bipush 110, 2) := by decide +kernel
theorem dX11_letter_20 : decode cX11_letter 20 = .ok (.if_icmp .ne 6, 3) := by decide +kernel
theorem dX11_letter_23 : decode cX11_letter 23 = .ok (.ldc 86, 2) := by decide +kernel
theorem dX11_letter_25 : decode cX11_letter 25 = .ok (.ireturn, 1) := by decide +kernel
theorem dX11_letter_26 : decode cX11_letter 26 = .ok (.aload_n 0, 1) := by decide +kernel
theorem dX11_letter_27 : decode cX11_letter 27 = .ok (.getfield 7, 3) := by decide +kernel
theorem dX11_letter_30 : decode cX11_letter 30 = .ok (.aload_n 0, 1) := by decide +kernel
theorem dX11_letter_31 : decode cX11_letter 31 = .ok (.getfield 82, 3) := by decide +kernel
theorem dX11_letter_34 : decode cX11_letter 34 = .ok (.iload_n 1, 1) := by decide +kernel
theorem dX11_letter_35 : decode cX11_letter 35 = .ok (.iastore, 1) := by decide +kernel
theorem dX11_letter_36 : decode cX11_letter 36 = .ok (.aload_n 0, 1) := by decide +kernel
theorem dX11_letter_37 : decode cX11_letter 37 = .ok (.dup, 1) := by decide +kernel
theorem dX11_letter_38 : decode cX11_letter 38 = .ok (.getfield 82, 3) := by decide +kernel
theorem dX11_letter_41 : decode cX11_letter 41 = .ok (.iconst 1, 1) := by decide +kernel
theorem dX11_letter_42 : decode cX11_letter 42 = .ok (.iadd, 1) := by decide +kernel
theorem dX11_letter_43 : decode cX11_letter 43 = .ok (.putfield 82, 3) := by decide +kernel
theorem dX11_letter_46 : decode cX11_letter 46 = .ok (.aload_n 0, 1) := by decide +kernel
theorem dX11_letter_47 : decode cX11_letter 47 = .ok (.getfield 82, 3) := by decide +kernel
theorem dX11_letter_50 : decode cX11_letter 50 = .ok (.ireturn, 1) := by decide +kernel
theorem dX11_blank_0 : decode cX11_blank 0 = .ok (.aload_n 0, 1) := by decide +kernel
theorem dX11_blank_1 : decode cX11_blank 1 = .ok (.getfield 82, 3) := by decide +kernel
theorem dX11_blank_4 : decode cX11_blank 4 = .ok (.istore_n 1, 1) := by decide +kernel
theorem dX11_blank_5 : decode cX11_blank 5 = .ok (.aload_n 0, 1) := by decide +kernel
theorem dX11_blank_6 : decode cX11_blank 6 = .ok (.iconst 0, 1) := by decide +kernel
theorem dX11_blank_7 : decode cX11_blank 7 = .ok (.putfield 82, 3) := by decide +kernel
theorem dX11_blank_10 : decode cX11_blank 10 = .ok (.iload_n 1, 1) := by decide +kernel
theorem dX11_blank_11 : decode cX11_blank 11 = .ok (.ireturn, 1) := by decide +kernel
theorem dX11_takesKind_0 : decode cX11_takesKind 0 = .ok (.iload_n 1, 1) := by decide +kernel
theorem dX11_takesKind_1 : decode cX11_takesKind 1 = .ok (.bipush 97, 2) := by decide +kernel
theorem dX11_takesKind_3 : decode cX11_takesKind 3 = .ok (.if_icmp .eq 17, 3) := by decide +kernel
theorem dX11_takesKind_6 : decode cX11_takesKind 6 = .ok (.iload_n 1, 1) := by decide +kernel
theorem dX11_takesKind_7 : decode cX11_takesKind 7 = .ok (.bipush 116, 2) := by decide +kernel
theorem dX11_takesKind_9 : decode cX11_takesKind 9 = .ok (.if_icmp .ne 15, 3) := by decide +kernel
theorem dX11_takesKind_12 : decode cX11_takesKind 12 = .ok (.aload_n 0, 1) := by decide +kernel
theorem dX11_takesKind_13 : decode cX11_takesKind 13 = .ok (.getfield 87, 3) := by decide +kernel
theorem dX11_takesKind_16 : decode cX11_takesKind 16 = .ok (.iconst 4, 1) := by decide +kernel
theorem dX11_takesKind_17 : decode cX11_takesKind 17 = .ok (.if_icmp .ge 7, 3) := by decide +kernel
theorem dX11_takesKind_20 : decode cX11_takesKind 20 = .ok (.iconst 1, 1) := by decide +kernel
theorem dX11_takesKind_21 : decode cX11_takesKind 21 = .ok (.goto 4, 3) := by decide +kernel
theorem dX11_takesKind_24 : decode cX11_takesKind 24 = .ok (.iconst 0, 1) := by decide +kernel
theorem dX11_takesKind_25 : decode cX11_takesKind 25 = .ok (.istore_n 2, 1) := by decide +kernel
theorem dX11_takesKind_26 : decode cX11_takesKind 26 = .ok (.iload_n 2, 1) := by decide +kernel
theorem dX11_takesKind_27 : decode cX11_takesKind 27 = .ok (.ifCond .eq 63, 3) := by decide +kernel
theorem dX11_takesKind_30 : decode cX11_takesKind 30 = .ok (.aload_n 0, 1) := by decide +kernel
theorem dX11_takesKind_31 : decode cX11_takesKind 31 = .ok (.getfield 62, 3) := by decide +kernel
theorem dX11_takesKind_34 : decode cX11_takesKind 34 = .ok (.aload_n 0, 1) := by decide +kernel
theorem dX11_takesKind_35 : decode cX11_takesKind 35 = .ok (.getfield 90, 3) := by decide +kernel
theorem dX11_takesKind_38 : decode cX11_takesKind 38 = .ok (.iload_n 1, 1) := by decide +kernel
theorem dX11_takesKind_39 : decode cX11_takesKind 39 = .ok (.bipush 116, 2) := by decide +kernel
theorem dX11_takesKind_41 : decode cX11_takesKind 41 = .ok (.if_icmp .ne 7, 3) := by decide +kernel
theorem dX11_takesKind_44 : decode cX11_takesKind 44 = .ok (.iconst 1, 1) := by decide +kernel
theorem dX11_takesKind_45 : decode cX11_takesKind 45 = .ok (.goto 4, 3) := by decide +kernel
theorem dX11_takesKind_48 : decode cX11_takesKind 48 = .ok (.iconst 0, 1) := by decide +kernel
theorem dX11_takesKind_49 : decode cX11_takesKind 49 = .ok (.bastore, 1) := by decide +kernel
theorem dX11_takesKind_50 : decode cX11_takesKind 50 = .ok (.aload_n 0, 1) := by decide +kernel
theorem dX11_takesKind_51 : decode cX11_takesKind 51 = .ok (.dup, 1) := by decide +kernel
theorem dX11_takesKind_52 : decode cX11_takesKind 52 = .ok (.getfield 87, 3) := by decide +kernel
theorem dX11_takesKind_55 : decode cX11_takesKind 55 = .ok (.iload_n 1, 1) := by decide +kernel
theorem dX11_takesKind_56 : decode cX11_takesKind 56 = .ok (.bipush 116, 2) := by decide +kernel
theorem dX11_takesKind_58 : decode cX11_takesKind 58 = .ok (.if_icmp .ne 7, 3) := by decide +kernel
theorem dX11_takesKind_61 : decode cX11_takesKind 61 = .ok (.iconst 1, 1) := by decide +kernel
theorem dX11_takesKind_62 : decode cX11_takesKind 62 = .ok (.goto 4, 3) := by decide +kernel
theorem dX11_takesKind_65 : decode cX11_takesKind 65 = .ok (.iconst 0, 1) := by decide +kernel
theorem dX11_takesKind_66 : decode cX11_takesKind 66 = .ok (.iadd, 1) := by decide +kernel
theorem dX11_takesKind_67 : decode cX11_takesKind 67 = .ok (.putfield 87, 3) := by decide +kernel
theorem dX11_takesKind_70 : decode cX11_takesKind 70 = .ok (.aload_n 0, 1) := by decide +kernel
theorem dX11_takesKind_71 : decode cX11_takesKind 71 = .ok (.dup, 1) := by decide +kernel
theorem dX11_takesKind_72 : decode cX11_takesKind 72 = .ok (.getfield 90, 3) := by decide +kernel
theorem dX11_takesKind_75 : decode cX11_takesKind 75 = .ok (.iconst 1, 1) := by decide +kernel
theorem dX11_takesKind_76 : decode cX11_takesKind 76 = .ok (.iadd, 1) := by decide +kernel
theorem dX11_takesKind_77 : decode cX11_takesKind 77 = .ok (.putfield 90, 3) := by decide +kernel
theorem dX11_takesKind_80 : decode cX11_takesKind 80 = .ok (.aload_n 0, 1) := by decide +kernel
theorem dX11_takesKind_81 : decode cX11_takesKind 81 = .ok (.iconst 1, 1) := by decide +kernel
theorem dX11_takesKind_82 : decode cX11_takesKind 82 = .ok (.putfield 93, 3) := by decide +kernel
theorem dX11_takesKind_85 : decode cX11_takesKind 85 = .ok (.aload_n 0, 1) := by decide +kernel
theorem dX11_takesKind_86 : decode cX11_takesKind 86 = .ok (.iconst (-1), 1) := by decide +kernel
theorem dX11_takesKind_87 : decode cX11_takesKind 87 = .ok (.putfield 96, 3) := by decide +kernel
theorem dX11_takesKind_90 : decode cX11_takesKind 90 = .ok (.iload_n 2, 1) := by decide +kernel
theorem dX11_takesKind_91 : decode cX11_takesKind 91 = .ok (.ireturn, 1) := by decide +kernel
theorem dX11_mostNow_0 : decode cX11_mostNow 0 = .ok (.aload_n 0, 1) := by decide +kernel
theorem dX11_mostNow_1 : decode cX11_mostNow 1 = .ok (.getfield 93, 3) := by decide +kernel
theorem dX11_mostNow_4 : decode cX11_mostNow 4 = .ok (.iconst 3, 1) := by decide +kernel
theorem dX11_mostNow_5 : decode cX11_mostNow 5 = .ok (.if_icmp .ge 8, 3) := by decide +kernel
theorem dX11_mostNow_8 : decode cX11_mostNow 8 = .ok (.bipush 31, 2) := by decide +kernel
theorem dX11_mostNow_10 : decode cX11_mostNow 10 = .ok (.goto 19, 3) := by decide +kernel
theorem dX11_mostNow_13 : decode cX11_mostNow 13 = .ok (.aload_n 0, 1) := by decide +kernel
theorem dX11_mostNow_14 : decode cX11_mostNow 14 = .ok (.getfield 93, 3) := by decide +kernel
theorem dX11_mostNow_17 : decode cX11_mostNow 17 = .ok (.iconst 3, 1) := by decide +kernel
theorem dX11_mostNow_18 : decode cX11_mostNow 18 = .ok (.if_icmp .ne 8, 3) := by decide +kernel
theorem dX11_mostNow_21 : decode cX11_mostNow 21 = .ok (.bipush 99, 2) := by decide +kernel
theorem dX11_mostNow_23 : decode cX11_mostNow 23 = .ok (.goto 6, 3) := by decide +kernel
theorem dX11_mostNow_26 : decode cX11_mostNow 26 = .ok (.sipush 9999, 3) := by decide +kernel
theorem dX11_mostNow_29 : decode cX11_mostNow 29 = .ok (.ireturn, 1) := by decide +kernel
set_option maxRecDepth 20000 in
theorem ggX11_takesFigure_X11_mostNow : GoodIn wsX11_takesFigure wsX11_mostNow := goodIn_r _ [6, 7, 8, 9, 10, 11, 12, 13, 14, 15, 16, 17, 18, 19, 20, 21, 22, 23, 24, 25, 26, 27, 28, 29, 30, 31, 32, 33, 34, 35, 36, 37, 38, 39, 40, 41, 42, 43, 44, 45, 46, 47, 48, 49] (by decide +kernel) (by decide +kernel)
set_option maxRecDepth 20000 in
theorem gX11_takesFigure_X11_mostNow : GoodIn wsX11_takesFigure (wsV RX11 99 RX11 yX11_mostNow wsX11_mostNow) := goodIn_app (goodIn_of _ (by decide +kernel)) ggX11_takesFigure_X11_mostNow
theorem dX11_takesFigure_0 : decode cX11_takesFigure 0 = .ok (.aload_n 0, 1) := by decide +kernel
theorem dX11_takesFigure_1 : decode cX11_takesFigure 1 = .ok (.getfield 96, 3) := by decide +kernel
theorem dX11_takesFigure_4 : decode cX11_takesFigure 4 = .ok (.iconst (-1), 1) := by decide +kernel
theorem dX11_takesFigure_5 : decode cX11_takesFigure 5 = .ok (.if_icmp .ne 7, 3) := by decide +kernel
theorem dX11_takesFigure_8 : decode cX11_takesFigure 8 = .ok (.iload_n 1, 1) := by decide +kernel
theorem dX11_takesFigure_9 : decode cX11_takesFigure 9 = .ok (.goto 12, 3) := by decide +kernel
theorem dX11_takesFigure_12 : decode cX11_takesFigure 12 = .ok (.bipush 10, 2) := by decide +kernel
theorem dX11_takesFigure_14 : decode cX11_takesFigure 14 = .ok (.aload_n 0, 1) := by decide +kernel
theorem dX11_takesFigure_15 : decode cX11_takesFigure 15 = .ok (.getfield 96, 3) := by decide +kernel
theorem dX11_takesFigure_18 : decode cX11_takesFigure 18 = .ok (.imul, 1) := by decide +kernel
theorem dX11_takesFigure_19 : decode cX11_takesFigure 19 = .ok (.iload_n 1, 1) := by decide +kernel
theorem dX11_takesFigure_20 : decode cX11_takesFigure 20 = .ok (.iadd, 1) := by decide +kernel
theorem dX11_takesFigure_21 : decode cX11_takesFigure 21 = .ok (.istore_n 2, 1) := by decide +kernel
theorem dX11_takesFigure_22 : decode cX11_takesFigure 22 = .ok (.aload_n 0, 1) := by decide +kernel
theorem dX11_takesFigure_23 : decode cX11_takesFigure 23 = .ok (.getfield 96, 3) := by decide +kernel
theorem dX11_takesFigure_26 : decode cX11_takesFigure 26 = .ok (.ifCond .eq 15, 3) := by decide +kernel
theorem dX11_takesFigure_29 : decode cX11_takesFigure 29 = .ok (.iload_n 2, 1) := by decide +kernel
theorem dX11_takesFigure_30 : decode cX11_takesFigure 30 = .ok (.aload_n 0, 1) := by decide +kernel
theorem dX11_takesFigure_31 : decode cX11_takesFigure 31 = .ok (.invokevirtual 99, 3) := by decide +kernel
theorem dX11_takesFigure_34 : decode cX11_takesFigure 34 = .ok (.if_icmp .gt 7, 3) := by decide +kernel
theorem dX11_takesFigure_37 : decode cX11_takesFigure 37 = .ok (.iconst 1, 1) := by decide +kernel
theorem dX11_takesFigure_38 : decode cX11_takesFigure 38 = .ok (.goto 4, 3) := by decide +kernel
theorem dX11_takesFigure_41 : decode cX11_takesFigure 41 = .ok (.iconst 0, 1) := by decide +kernel
theorem dX11_takesFigure_42 : decode cX11_takesFigure 42 = .ok (.istore_n 3, 1) := by decide +kernel
theorem dX11_takesFigure_43 : decode cX11_takesFigure 43 = .ok (.aload_n 0, 1) := by decide +kernel
theorem dX11_takesFigure_44 : decode cX11_takesFigure 44 = .ok (.iload_n 3, 1) := by decide +kernel
theorem dX11_takesFigure_45 : decode cX11_takesFigure 45 = .ok (.ifCond .eq 7, 3) := by decide +kernel
theorem dX11_takesFigure_48 : decode cX11_takesFigure 48 = .ok (.iload_n 2, 1) := by decide +kernel
theorem dX11_takesFigure_49 : decode cX11_takesFigure 49 = .ok (.goto 7, 3) := by decide +kernel
theorem dX11_takesFigure_52 : decode cX11_takesFigure 52 = .ok (.aload_n 0, 1) := by decide +kernel
theorem dX11_takesFigure_53 : decode cX11_takesFigure 53 = .ok (.getfield 96, 3) := by decide +kernel
theorem dX11_takesFigure_56 : decode cX11_takesFigure 56 = .ok (.putfield 96, 3) := by decide +kernel
theorem dX11_takesFigure_59 : decode cX11_takesFigure 59 = .ok (.iload_n 3, 1) := by decide +kernel
theorem dX11_takesFigure_60 : decode cX11_takesFigure 60 = .ok (.ireturn, 1) := by decide +kernel
theorem dX11_isSign_0 : decode cX11_isSign 0 = .ok (.aload_n 0, 1) := by decide +kernel
theorem dX11_isSign_1 : decode cX11_isSign 1 = .ok (.getfield 93, 3) := by decide +kernel
theorem dX11_isSign_4 : decode cX11_isSign 4 = .ok (.tableswitch 70 1 3 #[28, 40, 58], 28) := by decide +kernel
theorem dX11_isSign_32 : decode cX11_isSign 32 = .ok (.iload_n 1, 1) := by decide +kernel
theorem dX11_isSign_33 : decode cX11_isSign 33 = .ok (.bipush 44, 2) := by decide +kernel
theorem dX11_isSign_35 : decode cX11_isSign 35 = .ok (.if_icmp .ne 7, 3) := by decide +kernel
theorem dX11_isSign_38 : decode cX11_isSign 38 = .ok (.iconst 1, 1) := by decide +kernel
theorem dX11_isSign_39 : decode cX11_isSign 39 = .ok (.goto 4, 3) := by decide +kernel
theorem dX11_isSign_42 : decode cX11_isSign 42 = .ok (.iconst 0, 1) := by decide +kernel
theorem dX11_isSign_43 : decode cX11_isSign 43 = .ok (.ireturn, 1) := by decide +kernel
theorem dX11_isSign_44 : decode cX11_isSign 44 = .ok (.iload_n 1, 1) := by decide +kernel
theorem dX11_isSign_45 : decode cX11_isSign 45 = .ok (.bipush 43, 2) := by decide +kernel
theorem dX11_isSign_47 : decode cX11_isSign 47 = .ok (.if_icmp .eq 9, 3) := by decide +kernel
theorem dX11_isSign_50 : decode cX11_isSign 50 = .ok (.iload_n 1, 1) := by decide +kernel
theorem dX11_isSign_51 : decode cX11_isSign 51 = .ok (.bipush 45, 2) := by decide +kernel
theorem dX11_isSign_53 : decode cX11_isSign 53 = .ok (.if_icmp .ne 7, 3) := by decide +kernel
theorem dX11_isSign_56 : decode cX11_isSign 56 = .ok (.iconst 1, 1) := by decide +kernel
theorem dX11_isSign_57 : decode cX11_isSign 57 = .ok (.goto 4, 3) := by decide +kernel
theorem dX11_isSign_60 : decode cX11_isSign 60 = .ok (.iconst 0, 1) := by decide +kernel
theorem dX11_isSign_61 : decode cX11_isSign 61 = .ok (.ireturn, 1) := by decide +kernel
theorem dX11_isSign_62 : decode cX11_isSign 62 = .ok (.iload_n 1, 1) := by decide +kernel
theorem dX11_isSign_63 : decode cX11_isSign 63 = .ok (.bipush 64, 2) := by decide +kernel
theorem dX11_isSign_65 : decode cX11_isSign 65 = .ok (.if_icmp .ne 7, 3) := by decide +kernel
theorem dX11_isSign_68 : decode cX11_isSign 68 = .ok (.iconst 1, 1) := by decide +kernel
theorem dX11_isSign_69 : decode cX11_isSign 69 = .ok (.goto 4, 3) := by decide +kernel
theorem dX11_isSign_72 : decode cX11_isSign 72 = .ok (.iconst 0, 1) := by decide +kernel
theorem dX11_isSign_73 : decode cX11_isSign 73 = .ok (.ireturn, 1) := by decide +kernel
theorem dX11_isSign_74 : decode cX11_isSign 74 = .ok (.iload_n 1, 1) := by decide +kernel
theorem dX11_isSign_75 : decode cX11_isSign 75 = .ok (.bipush 59, 2) := by decide +kernel
theorem dX11_isSign_77 : decode cX11_isSign 77 = .ok (.if_icmp .ne 16, 3) := by decide +kernel
theorem dX11_isSign_80 : decode cX11_isSign 80 = .ok (.aload_n 0, 1) := by decide +kernel
theorem dX11_isSign_81 : decode cX11_isSign 81 = .ok (.getfield 90, 3) := by decide +kernel
theorem dX11_isSign_84 : decode cX11_isSign 84 = .ok (.bipush 7, 2) := by decide +kernel
theorem dX11_isSign_86 : decode cX11_isSign 86 = .ok (.if_icmp .ge 7, 3) := by decide +kernel
theorem dX11_isSign_89 : decode cX11_isSign 89 = .ok (.iconst 1, 1) := by decide +kernel
theorem dX11_isSign_90 : decode cX11_isSign 90 = .ok (.goto 4, 3) := by decide +kernel
theorem dX11_isSign_93 : decode cX11_isSign 93 = .ok (.iconst 0, 1) := by decide +kernel
theorem dX11_isSign_94 : decode cX11_isSign 94 = .ok (.ireturn, 1) := by decide +kernel
theorem dX11_keepNumber_0 : decode cX11_keepNumber 0 = .ok (.aload_n 0, 1) := by decide +kernel
theorem dX11_keepNumber_1 : decode cX11_keepNumber 1 = .ok (.getfield 90, 3) := by decide +kernel
theorem dX11_keepNumber_4 : decode cX11_keepNumber 4 = .ok (.iconst 1, 1) := by decide +kernel
theorem dX11_keepNumber_5 : decode cX11_keepNumber 5 = .ok (.isub, 1) := by decide +kernel
theorem dX11_keepNumber_6 : decode cX11_keepNumber 6 = .ok (.istore_n 1, 1) := by decide +kernel
theorem dX11_keepNumber_7 : decode cX11_keepNumber 7 = .ok (.aload_n 0, 1) := by decide +kernel
theorem dX11_keepNumber_8 : decode cX11_keepNumber 8 = .ok (.getfield 93, 3) := by decide +kernel
theorem dX11_keepNumber_11 : decode cX11_keepNumber 11 = .ok (.tableswitch 79 1 3 #[25, 38, 51], 25) := by decide +kernel
theorem dX11_keepNumber_36 : decode cX11_keepNumber 36 = .ok (.aload_n 0, 1) := by decide +kernel
theorem dX11_keepNumber_37 : decode cX11_keepNumber 37 = .ok (.getfield 65, 3) := by decide +kernel
theorem dX11_keepNumber_40 : decode cX11_keepNumber 40 = .ok (.iload_n 1, 1) := by decide +kernel
theorem dX11_keepNumber_41 : decode cX11_keepNumber 41 = .ok (.aload_n 0, 1) := by decide +kernel
theorem dX11_keepNumber_42 : decode cX11_keepNumber 42 = .ok (.getfield 96, 3) := by decide +kernel
theorem dX11_keepNumber_45 : decode cX11_keepNumber 45 = .ok (.iastore, 1) := by decide +kernel
theorem dX11_keepNumber_46 : decode cX11_keepNumber 46 = .ok (.goto 54, 3) := by decide +kernel
theorem dX11_keepNumber_49 : decode cX11_keepNumber 49 = .ok (.aload_n 0, 1) := by decide +kernel
theorem dX11_keepNumber_50 : decode cX11_keepNumber 50 = .ok (.getfield 68, 3) := by decide +kernel
theorem dX11_keepNumber_53 : decode cX11_keepNumber 53 = .ok (.iload_n 1, 1) := by decide +kernel
theorem dX11_keepNumber_54 : decode cX11_keepNumber 54 = .ok (.aload_n 0, 1) := by decide +kernel
theorem dX11_keepNumber_55 : decode cX11_keepNumber 55 = .ok (.getfield 96, 3) := by decide +kernel
theorem dX11_keepNumber_58 : decode cX11_keepNumber 58 = .ok (.iastore, 1) := by decide +kernel
theorem dX11_keepNumber_59 : decode cX11_keepNumber 59 = .ok (.goto 41, 3) := by decide +kernel
theorem dX11_keepNumber_62 : decode cX11_keepNumber 62 = .ok (.aload_n 0, 1) := by decide +kernel
theorem dX11_keepNumber_63 : decode cX11_keepNumber 63 = .ok (.getfield 71, 3) := by decide +kernel
theorem dX11_keepNumber_66 : decode cX11_keepNumber 66 = .ok (.iload_n 1, 1) := by decide +kernel
theorem dX11_keepNumber_67 : decode cX11_keepNumber 67 = .ok (.aload_n 0, 1) := by decide +kernel
theorem dX11_keepNumber_68 : decode cX11_keepNumber 68 = .ok (.getfield 103, 3) := by decide +kernel
theorem dX11_keepNumber_71 : decode cX11_keepNumber 71 = .ok (.ifCond .eq 11, 3) := by decide +kernel
theorem dX11_keepNumber_74 : decode cX11_keepNumber 74 = .ok (.aload_n 0, 1) := by decide +kernel
theorem dX11_keepNumber_75 : decode cX11_keepNumber 75 = .ok (.getfield 96, 3) := by decide +kernel
theorem dX11_keepNumber_78 : decode cX11_keepNumber 78 = .ok (.ineg, 1) := by decide +kernel
theorem dX11_keepNumber_79 : decode cX11_keepNumber 79 = .ok (.goto 7, 3) := by decide +kernel
theorem dX11_keepNumber_82 : decode cX11_keepNumber 82 = .ok (.aload_n 0, 1) := by decide +kernel
theorem dX11_keepNumber_83 : decode cX11_keepNumber 83 = .ok (.getfield 96, 3) := by decide +kernel
theorem dX11_keepNumber_86 : decode cX11_keepNumber 86 = .ok (.iastore, 1) := by decide +kernel
theorem dX11_keepNumber_87 : decode cX11_keepNumber 87 = .ok (.goto 13, 3) := by decide +kernel
theorem dX11_keepNumber_90 : decode cX11_keepNumber 90 = .ok (.aload_n 0, 1) := by decide +kernel
theorem dX11_keepNumber_91 : decode cX11_keepNumber 91 = .ok (.getfield 74, 3) := by decide +kernel
theorem dX11_keepNumber_94 : decode cX11_keepNumber 94 = .ok (.iload_n 1, 1) := by decide +kernel
theorem dX11_keepNumber_95 : decode cX11_keepNumber 95 = .ok (.aload_n 0, 1) := by decide +kernel
theorem dX11_keepNumber_96 : decode cX11_keepNumber 96 = .ok (.getfield 96, 3) := by decide +kernel
theorem dX11_keepNumber_99 : decode cX11_keepNumber 99 = .ok (.iastore, 1) := by decide +kernel
theorem dX11_keepNumber_100 : decode cX11_keepNumber 100 = .ok (.return_, 1) := by decide +kernel
set_option maxRecDepth 20000 in
theorem ggX11_takesSign_X11_isSign : GoodIn wsX11_takesSign wsX11_isSign := goodIn_r _ [8, 3, 9, 18, 19, 20, 21, 22, 23, 24, 25, 26, 27, 28, 29, 30, 31, 32, 33, 34, 35, 36, 37, 38, 39, 40, 41, 42, 43, 44, 45, 46, 47, 48, 49, 50, 51, 52, 53, 54, 55, 56, 57, 58, 59] (by decide +kernel) (by decide +kernel)
set_option maxRecDepth 20000 in
theorem gX11_takesSign_X11_isSign : GoodIn wsX11_takesSign (wsV RX11 107 RX11 yX11_isSign wsX11_isSign) := goodIn_app (goodIn_of _ (by decide +kernel)) ggX11_takesSign_X11_isSign
set_option maxRecDepth 20000 in
theorem ggX11_takesSign_X11_keepNumber : GoodIn wsX11_takesSign wsX11_keepNumber := goodIn_r _ [13, 9, 3, 14, 1, 15, 16, 2, 17, 18, 19, 20, 21, 22, 23, 24, 25, 26, 27, 28, 29, 30, 31, 32, 33, 34, 35, 36, 37, 38, 39, 40, 41, 42, 43, 44, 45, 46, 47, 48, 49, 50, 51, 52, 53, 54, 55, 56, 57, 58, 59] (by decide +kernel) (by decide +kernel)
set_option maxRecDepth 20000 in
theorem gX11_takesSign_X11_keepNumber : GoodIn wsX11_takesSign (wsV RX11 111 RX11 yX11_keepNumber wsX11_keepNumber) := goodIn_app (goodIn_of _ (by decide +kernel)) ggX11_takesSign_X11_keepNumber
theorem dX11_takesSign_0 : decode cX11_takesSign 0 = .ok (.aload_n 0, 1) := by decide +kernel
theorem dX11_takesSign_1 : decode cX11_takesSign 1 = .ok (.getfield 96, 3) := by decide +kernel
theorem dX11_takesSign_4 : decode cX11_takesSign 4 = .ok (.iconst (-1), 1) := by decide +kernel
theorem dX11_takesSign_5 : decode cX11_takesSign 5 = .ok (.if_icmp .eq 15, 3) := by decide +kernel
theorem dX11_takesSign_8 : decode cX11_takesSign 8 = .ok (.aload_n 0, 1) := by decide +kernel
theorem dX11_takesSign_9 : decode cX11_takesSign 9 = .ok (.iload_n 1, 1) := by decide +kernel
theorem dX11_takesSign_10 : decode cX11_takesSign 10 = .ok (.invokevirtual 107, 3) := by decide +kernel
theorem dX11_takesSign_13 : decode cX11_takesSign 13 = .ok (.ifCond .eq 7, 3) := by decide +kernel
theorem dX11_takesSign_16 : decode cX11_takesSign 16 = .ok (.iconst 1, 1) := by decide +kernel
theorem dX11_takesSign_17 : decode cX11_takesSign 17 = .ok (.goto 4, 3) := by decide +kernel
theorem dX11_takesSign_20 : decode cX11_takesSign 20 = .ok (.iconst 0, 1) := by decide +kernel
theorem dX11_takesSign_21 : decode cX11_takesSign 21 = .ok (.istore_n 2, 1) := by decide +kernel
theorem dX11_takesSign_22 : decode cX11_takesSign 22 = .ok (.iload_n 2, 1) := by decide +kernel
theorem dX11_takesSign_23 : decode cX11_takesSign 23 = .ok (.ifCond .eq 49, 3) := by decide +kernel
theorem dX11_takesSign_26 : decode cX11_takesSign 26 = .ok (.aload_n 0, 1) := by decide +kernel
theorem dX11_takesSign_27 : decode cX11_takesSign 27 = .ok (.invokevirtual 111, 3) := by decide +kernel
theorem dX11_takesSign_30 : decode cX11_takesSign 30 = .ok (.aload_n 0, 1) := by decide +kernel
theorem dX11_takesSign_31 : decode cX11_takesSign 31 = .ok (.iload_n 1, 1) := by decide +kernel
theorem dX11_takesSign_32 : decode cX11_takesSign 32 = .ok (.bipush 45, 2) := by decide +kernel
theorem dX11_takesSign_34 : decode cX11_takesSign 34 = .ok (.if_icmp .ne 7, 3) := by decide +kernel
theorem dX11_takesSign_37 : decode cX11_takesSign 37 = .ok (.iconst 1, 1) := by decide +kernel
theorem dX11_takesSign_38 : decode cX11_takesSign 38 = .ok (.goto 4, 3) := by decide +kernel
theorem dX11_takesSign_41 : decode cX11_takesSign 41 = .ok (.iconst 0, 1) := by decide +kernel
theorem dX11_takesSign_42 : decode cX11_takesSign 42 = .ok (.putfield 103, 3) := by decide +kernel
theorem dX11_takesSign_45 : decode cX11_takesSign 45 = .ok (.aload_n 0, 1) := by decide +kernel
theorem dX11_takesSign_46 : decode cX11_takesSign 46 = .ok (.aload_n 0, 1) := by decide +kernel
theorem dX11_takesSign_47 : decode cX11_takesSign 47 = .ok (.getfield 93, 3) := by decide +kernel
theorem dX11_takesSign_50 : decode cX11_takesSign 50 = .ok (.iconst 4, 1) := by decide +kernel
theorem dX11_takesSign_51 : decode cX11_takesSign 51 = .ok (.if_icmp .ne 7, 3) := by decide +kernel
theorem dX11_takesSign_54 : decode cX11_takesSign 54 = .ok (.iconst 0, 1) := by decide +kernel
theorem dX11_takesSign_55 : decode cX11_takesSign 55 = .ok (.goto 9, 3) := by decide +kernel
theorem dX11_takesSign_58 : decode cX11_takesSign 58 = .ok (.aload_n 0, 1) := by decide +kernel
theorem dX11_takesSign_59 : decode cX11_takesSign 59 = .ok (.getfield 93, 3) := by decide +kernel
theorem dX11_takesSign_62 : decode cX11_takesSign 62 = .ok (.iconst 1, 1) := by decide +kernel
theorem dX11_takesSign_63 : decode cX11_takesSign 63 = .ok (.iadd, 1) := by decide +kernel
theorem dX11_takesSign_64 : decode cX11_takesSign 64 = .ok (.putfield 93, 3) := by decide +kernel
theorem dX11_takesSign_67 : decode cX11_takesSign 67 = .ok (.aload_n 0, 1) := by decide +kernel
theorem dX11_takesSign_68 : decode cX11_takesSign 68 = .ok (.iconst (-1), 1) := by decide +kernel
theorem dX11_takesSign_69 : decode cX11_takesSign 69 = .ok (.putfield 96, 3) := by decide +kernel
theorem dX11_takesSign_72 : decode cX11_takesSign 72 = .ok (.iload_n 2, 1) := by decide +kernel
theorem dX11_takesSign_73 : decode cX11_takesSign 73 = .ok (.ireturn, 1) := by decide +kernel
set_option maxRecDepth 20000 in
theorem ggX11_takes_X11_takesKind : GoodIn wsX11_takes wsX11_takesKind := goodIn_r _ [6, 7, 8, 9, 1, 10, 39, 40, 41, 42, 43, 44, 45, 46, 47, 48, 49, 50, 51, 52, 53, 54, 55, 56, 57, 58, 59, 60, 61, 62, 63, 64, 65, 66, 67, 68, 69, 70, 71, 72, 73, 74, 75, 76, 77, 78, 79, 80] (by decide +kernel) (by decide +kernel)
set_option maxRecDepth 20000 in
theorem gX11_takes_X11_takesKind : GoodIn wsX11_takes (wsV RX11 114 RX11 yX11_takesKind wsX11_takesKind) := goodIn_app (goodIn_of _ (by decide +kernel)) ggX11_takes_X11_takesKind
set_option maxRecDepth 20000 in
theorem ggX11_takes_X11_within : GoodIn wsX11_takes wsX11_within := goodIn_r _ [13] (by decide +kernel) (by decide +kernel)
set_option maxRecDepth 20000 in
theorem gX11_takes_X11_within : GoodIn wsX11_takes (va_wsS RX11 77 yX11_within wsX11_within) := goodIn_app (goodIn_of _ (by decide +kernel)) ggX11_takes_X11_within
set_option maxRecDepth 20000 in
theorem ggX11_takes_X11_takesFigure : GoodIn wsX11_takes wsX11_takesFigure := goodIn_r _ [17, 10, 18, 19, 20, 5, 21, 1, 39, 40, 41, 42, 43, 44, 45, 46, 47, 48, 49, 50, 51, 52, 53, 54, 55, 56, 57, 58, 59, 60, 61, 62, 63, 64, 65, 66, 67, 68, 69, 70, 71, 72, 73, 74, 75, 76, 77, 78, 79, 80] (by decide +kernel) (by decide +kernel)
set_option maxRecDepth 20000 in
theorem gX11_takes_X11_takesFigure : GoodIn wsX11_takes (wsV RX11 117 RX11 yX11_takesFigure wsX11_takesFigure) := goodIn_app (goodIn_of _ (by decide +kernel)) ggX11_takes_X11_takesFigure
set_option maxRecDepth 20000 in
theorem ggX11_takes_X11_takesSign : GoodIn wsX11_takes wsX11_takesSign := goodIn_r _ [25, 10, 26, 1, 27, 28, 29, 5, 30, 9, 31, 32, 33, 34, 35, 36, 37, 38, 39, 40, 41, 42, 43, 44, 45, 46, 47, 48, 49, 50, 51, 52, 53, 54, 55, 56, 57, 58, 59, 60, 61, 62, 63, 64, 65, 66, 67, 68, 69, 70, 71, 72, 73, 74, 75, 76, 77, 78, 79, 80] (by decide +kernel) (by decide +kernel)
set_option maxRecDepth 20000 in
theorem gX11_takes_X11_takesSign : GoodIn wsX11_takes (wsV RX11 120 RX11 yX11_takesSign wsX11_takesSign) := goodIn_app (goodIn_of _ (by decide +kernel)) ggX11_takes_X11_takesSign
theorem dX11_takes_0 : decode cX11_takes 0 = .ok (.aload_n 0, 1) := by decide +kernel
theorem dX11_takes_1 : decode cX11_takes 1 = .ok (.getfield 93, 3) := by decide +kernel
theorem dX11_takes_4 : decode cX11_takes 4 = .ok (.ifCond .ne 9, 3) := by decide +kernel
theorem dX11_takes_7 : decode cX11_takes 7 = .ok (.aload_n 0, 1) := by decide +kernel
theorem dX11_takes_8 : decode cX11_takes 8 = .ok (.iload_n 1, 1) := by decide +kernel
theorem dX11_takes_9 : decode cX11_takes 9 = .ok (.invokevirtual 114, 3) := by decide +kernel
theorem dX11_takes_12 : decode cX11_takes 12 = .ok (.ireturn, 1) := by decide +kernel
theorem dX11_takes_13 : decode cX11_takes 13 = .ok (.iload_n 1, 1) := by decide +kernel
theorem dX11_takes_14 : decode cX11_takes 14 = .ok (.bipush 48, 2) := by decide +kernel
theorem dX11_takes_16 : decode cX11_takes 16 = .ok (.bipush 57, 2) := by decide +kernel
theorem dX11_takes_18 : decode cX11_takes 18 = .ok (.invokestatic 77, 3) := by decide +kernel
theorem dX11_takes_21 : decode cX11_takes 21 = .ok (.ifCond .eq 14, 3) := by decide +kernel
theorem dX11_takes_24 : decode cX11_takes 24 = .ok (.aload_n 0, 1) := by decide +kernel
theorem dX11_takes_25 : decode cX11_takes 25 = .ok (.iload_n 1, 1) := by decide +kernel
theorem dX11_takes_26 : decode cX11_takes 26 = .ok (.bipush 48, 2) := by decide +kernel
theorem dX11_takes_28 : decode cX11_takes 28 = .ok (.isub, 1) := by decide +kernel
theorem dX11_takes_29 : decode cX11_takes 29 = .ok (.invokevirtual 117, 3) := by decide +kernel
theorem dX11_takes_32 : decode cX11_takes 32 = .ok (.goto 8, 3) := by decide +kernel
theorem dX11_takes_35 : decode cX11_takes 35 = .ok (.aload_n 0, 1) := by decide +kernel
theorem dX11_takes_36 : decode cX11_takes 36 = .ok (.iload_n 1, 1) := by decide +kernel
theorem dX11_takes_37 : decode cX11_takes 37 = .ok (.invokevirtual 120, 3) := by decide +kernel
theorem dX11_takes_40 : decode cX11_takes 40 = .ok (.ireturn, 1) := by decide +kernel
set_option maxRecDepth 20000 in
theorem ggX11_read_X11_takes : GoodIn wsX11_read wsX11_takes := goodIn_r _ [11, 1, 12, 13, 14, 10, 15, 3, 16, 2, 4, 17, 18, 19, 20, 21, 22, 23, 24, 25, 26, 27, 28, 29, 30, 31, 32, 33, 34, 35, 36, 37, 38, 39, 40, 41, 42, 43, 44, 45, 46, 47, 48, 49, 50, 51, 52, 53, 54, 55, 56, 57, 58, 59, 60, 61, 62, 63, 64, 65, 66, 67, 68, 69, 70, 71, 72, 73, 74, 75, 76, 77, 78, 79, 80, 81, 82, 83, 84, 85, 86] (by decide +kernel) (by decide +kernel)
set_option maxRecDepth 20000 in
theorem gX11_read_X11_takes : GoodIn wsX11_read (wsV RX11 123 RX11 yX11_takes wsX11_takes) := goodIn_app (goodIn_of _ (by decide +kernel)) ggX11_read_X11_takes
theorem dX11_read_0 : decode cX11_read 0 = .ok (.aload_n 0, 1) := by decide +kernel
theorem dX11_read_1 : decode cX11_read 1 = .ok (.iconst 0, 1) := by decide +kernel
theorem dX11_read_2 : decode cX11_read 2 = .ok (.putfield 93, 3) := by decide +kernel
theorem dX11_read_5 : decode cX11_read 5 = .ok (.aload_n 0, 1) := by decide +kernel
theorem dX11_read_6 : decode cX11_read 6 = .ok (.iconst 0, 1) := by decide +kernel
theorem dX11_read_7 : decode cX11_read 7 = .ok (.putfield 90, 3) := by decide +kernel
theorem dX11_read_10 : decode cX11_read 10 = .ok (.aload_n 0, 1) := by decide +kernel
theorem dX11_read_11 : decode cX11_read 11 = .ok (.iconst 0, 1) := by decide +kernel
theorem dX11_read_12 : decode cX11_read 12 = .ok (.putfield 87, 3) := by decide +kernel
theorem dX11_read_15 : decode cX11_read 15 = .ok (.aload_n 0, 1) := by decide +kernel
theorem dX11_read_16 : decode cX11_read 16 = .ok (.iconst (-1), 1) := by decide +kernel
theorem dX11_read_17 : decode cX11_read 17 = .ok (.putfield 96, 3) := by decide +kernel
theorem dX11_read_20 : decode cX11_read 20 = .ok (.iconst 0, 1) := by decide +kernel
theorem dX11_read_21 : decode cX11_read 21 = .ok (.istore_n 1, 1) := by decide +kernel
theorem dX11_read_22 : decode cX11_read 22 = .ok (.iload_n 1, 1) := by decide +kernel
theorem dX11_read_23 : decode cX11_read 23 = .ok (.aload_n 0, 1) := by decide +kernel
theorem dX11_read_24 : decode cX11_read 24 = .ok (.getfield 82, 3) := by decide +kernel
theorem dX11_read_27 : decode cX11_read 27 = .ok (.if_icmp .ge 22, 3) := by decide +kernel
theorem dX11_read_30 : decode cX11_read 30 = .ok (.aload_n 0, 1) := by decide +kernel
theorem dX11_read_31 : decode cX11_read 31 = .ok (.aload_n 0, 1) := by decide +kernel
theorem dX11_read_32 : decode cX11_read 32 = .ok (.getfield 7, 3) := by decide +kernel
theorem dX11_read_35 : decode cX11_read 35 = .ok (.iload_n 1, 1) := by decide +kernel
theorem dX11_read_36 : decode cX11_read 36 = .ok (.iaload, 1) := by decide +kernel
theorem dX11_read_37 : decode cX11_read 37 = .ok (.invokevirtual 123, 3) := by decide +kernel
theorem dX11_read_40 : decode cX11_read 40 = .ok (.ifCond .eq 9, 3) := by decide +kernel
theorem dX11_read_43 : decode cX11_read 43 = .ok (.iinc 1 1, 3) := by decide +kernel
theorem dX11_read_46 : decode cX11_read 46 = .ok (.goto (-24), 3) := by decide +kernel
theorem dX11_read_49 : decode cX11_read 49 = .ok (.iload_n 1, 1) := by decide +kernel
theorem dX11_read_50 : decode cX11_read 50 = .ok (.ireturn, 1) := by decide +kernel
set_option maxRecDepth 20000 in
theorem ggX11_fault_X11_read : GoodIn wsX11_fault wsX11_read := goodIn_r _ [5, 6, 7, 8, 9, 10, 11, 12, 13, 14, 4, 15, 16, 17, 18, 19, 20, 21, 22, 23, 24, 25, 26, 27, 28, 29, 30, 31, 32, 33, 34, 35, 36, 37, 38, 39, 40, 41, 42, 43, 44, 45, 46, 47, 48, 49, 50, 51, 52, 53, 54, 55, 56, 57, 58, 59, 60, 61, 62, 63, 64, 65, 66, 67, 68, 69, 70, 71, 72, 73, 74, 75, 76, 77, 78, 79, 80, 81, 82, 83, 84, 85, 86, 87, 88, 89, 90] (by decide +kernel) (by decide +kernel)
set_option maxRecDepth 20000 in
theorem gX11_fault_X11_read : GoodIn wsX11_fault (wsV RX11 126 RX11 yX11_read wsX11_read) := goodIn_app (goodIn_of _ (by decide +kernel)) ggX11_fault_X11_read
theorem dX11_fault_0 : decode cX11_fault 0 = .ok (.aload_n 0, 1) := by decide +kernel
theorem dX11_fault_1 : decode cX11_fault 1 = .ok (.invokevirtual 126, 3) := by decide +kernel
theorem dX11_fault_4 : decode cX11_fault 4 = .ok (.ireturn, 1) := by decide +kernel
theorem dX11_layNode_0 : decode cX11_layNode 0 = .ok (.aload_n 0, 1) := by decide +kernel
theorem dX11_layNode_1 : decode cX11_layNode 1 = .ok (.getfield 13, 3) := by decide +kernel
theorem dX11_layNode_4 : decode cX11_layNode 4 = .ok (.iload_n 1, 1) := by decide +kernel
theorem dX11_layNode_5 : decode cX11_layNode 5 = .ok (.aload_n 0, 1) := by decide +kernel
theorem dX11_layNode_6 : decode cX11_layNode 6 = .ok (.getfield 62, 3) := by decide +kernel
theorem dX11_layNode_9 : decode cX11_layNode 9 = .ok (.iload_n 1, 1) := by decide +kernel
theorem dX11_layNode_10 : decode cX11_layNode 10 = .ok (.baload, 1) := by decide +kernel
theorem dX11_layNode_11 : decode cX11_layNode 11 = .ok (.bastore, 1) := by decide +kernel
theorem dX11_layNode_12 : decode cX11_layNode 12 = .ok (.aload_n 0, 1) := by decide +kernel
theorem dX11_layNode_13 : decode cX11_layNode 13 = .ok (.getfield 17, 3) := by decide +kernel
theorem dX11_layNode_16 : decode cX11_layNode 16 = .ok (.iload_n 1, 1) := by decide +kernel
theorem dX11_layNode_17 : decode cX11_layNode 17 = .ok (.aload_n 0, 1) := by decide +kernel
theorem dX11_layNode_18 : decode cX11_layNode 18 = .ok (.getfield 65, 3) := by decide +kernel
theorem dX11_layNode_21 : decode cX11_layNode 21 = .ok (.iload_n 1, 1) := by decide +kernel
theorem dX11_layNode_22 : decode cX11_layNode 22 = .ok (.iaload, 1) := by decide +kernel
theorem dX11_layNode_23 : decode cX11_layNode 23 = .ok (.iastore, 1) := by decide +kernel
theorem dX11_layNode_24 : decode cX11_layNode 24 = .ok (.aload_n 0, 1) := by decide +kernel
theorem dX11_layNode_25 : decode cX11_layNode 25 = .ok (.getfield 20, 3) := by decide +kernel
theorem dX11_layNode_28 : decode cX11_layNode 28 = .ok (.iload_n 1, 1) := by decide +kernel
theorem dX11_layNode_29 : decode cX11_layNode 29 = .ok (.aload_n 0, 1) := by decide +kernel
theorem dX11_layNode_30 : decode cX11_layNode 30 = .ok (.getfield 68, 3) := by decide +kernel
theorem dX11_layNode_33 : decode cX11_layNode 33 = .ok (.iload_n 1, 1) := by decide +kernel
theorem dX11_layNode_34 : decode cX11_layNode 34 = .ok (.iaload, 1) := by decide +kernel
theorem dX11_layNode_35 : decode cX11_layNode 35 = .ok (.iastore, 1) := by decide +kernel
theorem dX11_layNode_36 : decode cX11_layNode 36 = .ok (.aload_n 0, 1) := by decide +kernel
theorem dX11_layNode_37 : decode cX11_layNode 37 = .ok (.getfield 23, 3) := by decide +kernel
theorem dX11_layNode_40 : decode cX11_layNode 40 = .ok (.iload_n 1, 1) := by decide +kernel
theorem dX11_layNode_41 : decode cX11_layNode 41 = .ok (.aload_n 0, 1) := by decide +kernel
theorem dX11_layNode_42 : decode cX11_layNode 42 = .ok (.getfield 71, 3) := by decide +kernel
theorem dX11_layNode_45 : decode cX11_layNode 45 = .ok (.iload_n 1, 1) := by decide +kernel
theorem dX11_layNode_46 : decode cX11_layNode 46 = .ok (.iaload, 1) := by decide +kernel
theorem dX11_layNode_47 : decode cX11_layNode 47 = .ok (.iastore, 1) := by decide +kernel
theorem dX11_layNode_48 : decode cX11_layNode 48 = .ok (.aload_n 0, 1) := by decide +kernel
theorem dX11_layNode_49 : decode cX11_layNode 49 = .ok (.getfield 26, 3) := by decide +kernel
theorem dX11_layNode_52 : decode cX11_layNode 52 = .ok (.iload_n 1, 1) := by decide +kernel
theorem dX11_layNode_53 : decode cX11_layNode 53 = .ok (.aload_n 0, 1) := by decide +kernel
theorem dX11_layNode_54 : decode cX11_layNode 54 = .ok (.getfield 74, 3) := by decide +kernel
theorem dX11_layNode_57 : decode cX11_layNode 57 = .ok (.iload_n 1, 1) := by decide +kernel
theorem dX11_layNode_58 : decode cX11_layNode 58 = .ok (.iaload, 1) := by decide +kernel
theorem dX11_layNode_59 : decode cX11_layNode 59 = .ok (.iastore, 1) := by decide +kernel
theorem dX11_layNode_60 : decode cX11_layNode 60 = .ok (.aload_n 0, 1) := by decide +kernel
theorem dX11_layNode_61 : decode cX11_layNode 61 = .ok (.getfield 29, 3) := by decide +kernel
theorem dX11_layNode_64 : decode cX11_layNode 64 = .ok (.iload_n 1, 1) := by decide +kernel
theorem dX11_layNode_65 : decode cX11_layNode 65 = .ok (.bipush 100, 2) := by decide +kernel
theorem dX11_layNode_67 : decode cX11_layNode 67 = .ok (.iastore, 1) := by decide +kernel
theorem dX11_layNode_68 : decode cX11_layNode 68 = .ok (.aload_n 0, 1) := by decide +kernel
theorem dX11_layNode_69 : decode cX11_layNode 69 = .ok (.getfield 32, 3) := by decide +kernel
theorem dX11_layNode_72 : decode cX11_layNode 72 = .ok (.iload_n 1, 1) := by decide +kernel
theorem dX11_layNode_73 : decode cX11_layNode 73 = .ok (.iconst 0, 1) := by decide +kernel
theorem dX11_layNode_74 : decode cX11_layNode 74 = .ok (.iastore, 1) := by decide +kernel
theorem dX11_layNode_75 : decode cX11_layNode 75 = .ok (.return_, 1) := by decide +kernel
set_option maxRecDepth 20000 in
theorem ggX11_layField_X11_layNode : GoodIn wsX11_layField wsX11_layNode := goodIn_r _ [17, 18, 19, 20, 21, 22, 23, 24, 25, 26, 27, 28, 29, 34, 35, 36, 37, 38, 39, 40, 41, 42, 43, 44, 45, 46, 47, 48, 49, 50, 51, 52, 53, 54, 55, 56, 57, 58, 59, 60, 61, 62, 63, 64, 65, 66, 67, 68, 69, 70, 71, 72, 73, 74, 75] (by decide +kernel) (by decide +kernel)
set_option maxRecDepth 20000 in
theorem gX11_layField_X11_layNode : GoodIn wsX11_layField (wsV RX11 132 RX11 yX11_layNode wsX11_layNode) := goodIn_app (goodIn_of _ (by decide +kernel)) ggX11_layField_X11_layNode
set_option maxRecDepth 20000 in
theorem ggX11_layField_X11_anchorFrom : GoodIn wsX11_layField wsX11_anchorFrom := goodIn_r _ [33, 2, 18, 34, 35, 36, 37, 38, 39, 40, 41, 42, 43, 44, 45, 46, 47, 48, 49, 50, 51, 52, 53, 54, 55, 56, 57, 58, 59, 60, 61, 62, 63, 64, 65, 66, 67, 68, 69, 70, 71, 72, 73, 74, 75] (by decide +kernel) (by decide +kernel)
set_option maxRecDepth 20000 in
theorem gX11_layField_X11_anchorFrom : GoodIn wsX11_layField (wsV RX11 136 RX11 yX11_anchorFrom wsX11_anchorFrom) := goodIn_app (goodIn_of _ (by decide +kernel)) ggX11_layField_X11_anchorFrom
theorem dX11_layField_0 : decode cX11_layField 0 = .ok (.aload_n 0, 1) := by decide +kernel
theorem dX11_layField_1 : decode cX11_layField 1 = .ok (.aload_n 0, 1) := by decide +kernel
theorem dX11_layField_2 : decode cX11_layField 2 = .ok (.getfield 90, 3) := by decide +kernel
theorem dX11_layField_5 : decode cX11_layField 5 = .ok (.putfield 129, 3) := by decide +kernel
theorem dX11_layField_8 : decode cX11_layField 8 = .ok (.iconst 0, 1) := by decide +kernel
theorem dX11_layField_9 : decode cX11_layField 9 = .ok (.istore_n 1, 1) := by decide +kernel
theorem dX11_layField_10 : decode cX11_layField 10 = .ok (.iload_n 1, 1) := by decide +kernel
theorem dX11_layField_11 : decode cX11_layField 11 = .ok (.aload_n 0, 1) := by decide +kernel
theorem dX11_layField_12 : decode cX11_layField 12 = .ok (.getfield 129, 3) := by decide +kernel
theorem dX11_layField_15 : decode cX11_layField 15 = .ok (.if_icmp .ge 14, 3) := by decide +kernel
theorem dX11_layField_18 : decode cX11_layField 18 = .ok (.aload_n 0, 1) := by decide +kernel
theorem dX11_layField_19 : decode cX11_layField 19 = .ok (.iload_n 1, 1) := by decide +kernel
theorem dX11_layField_20 : decode cX11_layField 20 = .ok (.invokevirtual 132, 3) := by decide +kernel
theorem dX11_layField_23 : decode cX11_layField 23 = .ok (.iinc 1 1, 3) := by decide +kernel
theorem dX11_layField_26 : decode cX11_layField 26 = .ok (.goto (-16), 3) := by decide +kernel
theorem dX11_layField_29 : decode cX11_layField 29 = .ok (.iconst 0, 1) := by decide +kernel
theorem dX11_layField_30 : decode cX11_layField 30 = .ok (.istore_n 1, 1) := by decide +kernel
theorem dX11_layField_31 : decode cX11_layField 31 = .ok (.iload_n 1, 1) := by decide +kernel
theorem dX11_layField_32 : decode cX11_layField 32 = .ok (.aload_n 0, 1) := by decide +kernel
theorem dX11_layField_33 : decode cX11_layField 33 = .ok (.getfield 129, 3) := by decide +kernel
theorem dX11_layField_36 : decode cX11_layField 36 = .ok (.if_icmp .ge 20, 3) := by decide +kernel
theorem dX11_layField_39 : decode cX11_layField 39 = .ok (.aload_n 0, 1) := by decide +kernel
theorem dX11_layField_40 : decode cX11_layField 40 = .ok (.getfield 35, 3) := by decide +kernel
theorem dX11_layField_43 : decode cX11_layField 43 = .ok (.iload_n 1, 1) := by decide +kernel
theorem dX11_layField_44 : decode cX11_layField 44 = .ok (.aload_n 0, 1) := by decide +kernel
theorem dX11_layField_45 : decode cX11_layField 45 = .ok (.iconst 0, 1) := by decide +kernel
theorem dX11_layField_46 : decode cX11_layField 46 = .ok (.invokevirtual 136, 3) := by decide +kernel
theorem dX11_layField_49 : decode cX11_layField 49 = .ok (.iastore, 1) := by decide +kernel
theorem dX11_layField_50 : decode cX11_layField 50 = .ok (.iinc 1 1, 3) := by decide +kernel
theorem dX11_layField_53 : decode cX11_layField 53 = .ok (.goto (-22), 3) := by decide +kernel
theorem dX11_layField_56 : decode cX11_layField 56 = .ok (.iconst 0, 1) := by decide +kernel
theorem dX11_layField_57 : decode cX11_layField 57 = .ok (.istore_n 1, 1) := by decide +kernel
theorem dX11_layField_58 : decode cX11_layField 58 = .ok (.iload_n 1, 1) := by decide +kernel
theorem dX11_layField_59 : decode cX11_layField 59 = .ok (.bipush 49, 2) := by decide +kernel
theorem dX11_layField_61 : decode cX11_layField 61 = .ok (.if_icmp .ge 44, 3) := by decide +kernel
theorem dX11_layField_64 : decode cX11_layField 64 = .ok (.aload_n 0, 1) := by decide +kernel
theorem dX11_layField_65 : decode cX11_layField 65 = .ok (.getfield 38, 3) := by decide +kernel
theorem dX11_layField_68 : decode cX11_layField 68 = .ok (.iload_n 1, 1) := by decide +kernel
theorem dX11_layField_69 : decode cX11_layField 69 = .ok (.iconst 1, 1) := by decide +kernel
theorem dX11_layField_70 : decode cX11_layField 70 = .ok (.iastore, 1) := by decide +kernel
theorem dX11_layField_71 : decode cX11_layField 71 = .ok (.aload_n 0, 1) := by decide +kernel
theorem dX11_layField_72 : decode cX11_layField 72 = .ok (.getfield 41, 3) := by decide +kernel
theorem dX11_layField_75 : decode cX11_layField 75 = .ok (.bipush 6, 2) := by decide +kernel
theorem dX11_layField_77 : decode cX11_layField 77 = .ok (.iload_n 1, 1) := by decide +kernel
theorem dX11_layField_78 : decode cX11_layField 78 = .ok (.imul, 1) := by decide +kernel
theorem dX11_layField_79 : decode cX11_layField 79 = .ok (.iconst 0, 1) := by decide +kernel
theorem dX11_layField_80 : decode cX11_layField 80 = .ok (.iastore, 1) := by decide +kernel
theorem dX11_layField_81 : decode cX11_layField 81 = .ok (.aload_n 0, 1) := by decide +kernel
theorem dX11_layField_82 : decode cX11_layField 82 = .ok (.getfield 44, 3) := by decide +kernel
theorem dX11_layField_85 : decode cX11_layField 85 = .ok (.bipush 6, 2) := by decide +kernel
theorem dX11_layField_87 : decode cX11_layField 87 = .ok (.iload_n 1, 1) := by decide +kernel
theorem dX11_layField_88 : decode cX11_layField 88 = .ok (.imul, 1) := by decide +kernel
theorem dX11_layField_89 : decode cX11_layField 89 = .ok (.bipush 9, 2) := by decide +kernel
theorem dX11_layField_91 : decode cX11_layField 91 = .ok (.iastore, 1) := by decide +kernel
theorem dX11_layField_92 : decode cX11_layField 92 = .ok (.aload_n 0, 1) := by decide +kernel
theorem dX11_layField_93 : decode cX11_layField 93 = .ok (.getfield 47, 3) := by decide +kernel
theorem dX11_layField_96 : decode cX11_layField 96 = .ok (.iload_n 1, 1) := by decide +kernel
theorem dX11_layField_97 : decode cX11_layField 97 = .ok (.iconst 0, 1) := by decide +kernel
theorem dX11_layField_98 : decode cX11_layField 98 = .ok (.bastore, 1) := by decide +kernel
theorem dX11_layField_99 : decode cX11_layField 99 = .ok (.iinc 1 1, 3) := by decide +kernel
theorem dX11_layField_102 : decode cX11_layField 102 = .ok (.goto (-44), 3) := by decide +kernel
theorem dX11_layField_105 : decode cX11_layField 105 = .ok (.iconst 0, 1) := by decide +kernel
theorem dX11_layField_106 : decode cX11_layField 106 = .ok (.istore_n 1, 1) := by decide +kernel
theorem dX11_layField_107 : decode cX11_layField 107 = .ok (.iload_n 1, 1) := by decide +kernel
theorem dX11_layField_108 : decode cX11_layField 108 = .ok (.bipush 16, 2) := by decide +kernel
theorem dX11_layField_110 : decode cX11_layField 110 = .ok (.if_icmp .ge 16, 3) := by decide +kernel
theorem dX11_layField_113 : decode cX11_layField 113 = .ok (.aload_n 0, 1) := by decide +kernel
theorem dX11_layField_114 : decode cX11_layField 114 = .ok (.getfield 53, 3) := by decide +kernel
theorem dX11_layField_117 : decode cX11_layField 117 = .ok (.iload_n 1, 1) := by decide +kernel
theorem dX11_layField_118 : decode cX11_layField 118 = .ok (.iconst (-1), 1) := by decide +kernel
theorem dX11_layField_119 : decode cX11_layField 119 = .ok (.iastore, 1) := by decide +kernel
theorem dX11_layField_120 : decode cX11_layField 120 = .ok (.iinc 1 1, 3) := by decide +kernel
theorem dX11_layField_123 : decode cX11_layField 123 = .ok (.goto (-16), 3) := by decide +kernel
theorem dX11_layField_126 : decode cX11_layField 126 = .ok (.aload_n 0, 1) := by decide +kernel
theorem dX11_layField_127 : decode cX11_layField 127 = .ok (.iconst 0, 1) := by decide +kernel
theorem dX11_layField_128 : decode cX11_layField 128 = .ok (.putfield 140, 3) := by decide +kernel
theorem dX11_layField_131 : decode cX11_layField 131 = .ok (.aload_n 0, 1) := by decide +kernel
theorem dX11_layField_132 : decode cX11_layField 132 = .ok (.iconst 4, 1) := by decide +kernel
theorem dX11_layField_133 : decode cX11_layField 133 = .ok (.putfield 143, 3) := by decide +kernel
theorem dX11_layField_136 : decode cX11_layField 136 = .ok (.aload_n 0, 1) := by decide +kernel
theorem dX11_layField_137 : decode cX11_layField 137 = .ok (.sipush 400, 3) := by decide +kernel
theorem dX11_layField_140 : decode cX11_layField 140 = .ok (.putfield 146, 3) := by decide +kernel
theorem dX11_layField_143 : decode cX11_layField 143 = .ok (.aload_n 0, 1) := by decide +kernel
theorem dX11_layField_144 : decode cX11_layField 144 = .ok (.iconst 0, 1) := by decide +kernel
theorem dX11_layField_145 : decode cX11_layField 145 = .ok (.putfield 149, 3) := by decide +kernel
theorem dX11_layField_148 : decode cX11_layField 148 = .ok (.return_, 1) := by decide +kernel
set_option maxRecDepth 20000 in
theorem ggX11_field_X11_read : GoodIn wsX11_field wsX11_read := goodIn_r _ [13, 2, 5, 4, 3, 1, 14, 15, 16, 17, 12, 18, 19, 20, 21, 22, 23, 24, 25, 26, 27, 28, 29, 30, 31, 32, 33, 34, 35, 36, 37, 38, 39, 40, 41, 42, 43, 44, 45, 46, 47, 48, 49, 50, 51, 81, 82, 83, 84, 85, 86, 87, 88, 89, 90, 91, 92, 93, 94, 95, 96, 97, 98, 99, 100, 101, 102, 103, 104, 105, 106, 107, 108, 109, 110, 111, 112, 113, 114, 115, 116, 117, 118, 119, 120, 121, 122] (by decide +kernel) (by decide +kernel)
set_option maxRecDepth 20000 in
theorem gX11_field_X11_read : GoodIn wsX11_field (wsV RX11 126 RX11 yX11_read wsX11_read) := goodIn_app (goodIn_of _ (by decide +kernel)) ggX11_field_X11_read
set_option maxRecDepth 20000 in
theorem ggX11_field_X11_keepNumber : GoodIn wsX11_field wsX11_keepNumber := goodIn_r _ [47, 5, 2, 48, 3, 49, 50, 39, 51, 81, 82, 83, 84, 85, 86, 87, 88, 89, 90, 91, 92, 93, 94, 95, 96, 97, 98, 99, 100, 101, 102, 103, 104, 105, 106, 107, 108, 109, 110, 111, 112, 113, 114, 115, 116, 117, 118, 119, 120, 121, 122] (by decide +kernel) (by decide +kernel)
set_option maxRecDepth 20000 in
theorem gX11_field_X11_keepNumber : GoodIn wsX11_field (wsV RX11 111 RX11 yX11_keepNumber wsX11_keepNumber) := goodIn_app (goodIn_of _ (by decide +kernel)) ggX11_field_X11_keepNumber
set_option maxRecDepth 20000 in
theorem ggX11_field_X11_layField : GoodIn wsX11_field wsX11_layField := goodIn_r _ [55, 5, 8, 56, 57, 58, 59, 60, 61, 62, 63, 64, 65, 66, 67, 68, 12, 69, 70, 23, 71, 48, 72, 49, 73, 50, 74, 51, 75, 76, 77, 78, 79, 80, 81, 82, 83, 84, 85, 86, 87, 88, 89, 90, 91, 92, 93, 94, 95, 96, 97, 98, 99, 100, 101, 102, 103, 104, 105, 106, 107, 108, 109, 110, 111, 112, 113, 114, 115, 116, 117, 118, 119, 120, 121, 122] (by decide +kernel) (by decide +kernel)
set_option maxRecDepth 20000 in
theorem gX11_field_X11_layField : GoodIn wsX11_field (wsV RX11 153 RX11 yX11_layField wsX11_layField) := goodIn_app (goodIn_of _ (by decide +kernel)) ggX11_field_X11_layField
theorem dX11_field_0 : decode cX11_field 0 = .ok (.aload_n 0, 1) := by decide +kernel
theorem dX11_field_1 : decode cX11_field 1 = .ok (.invokevirtual 126, 3) := by decide +kernel
theorem dX11_field_4 : decode cX11_field 4 = .ok (.aload_n 0, 1) := by decide +kernel
theorem dX11_field_5 : decode cX11_field 5 = .ok (.getfield 82, 3) := by decide +kernel
theorem dX11_field_8 : decode cX11_field 8 = .ok (.if_icmp .ne 41, 3) := by decide +kernel
theorem dX11_field_11 : decode cX11_field 11 = .ok (.aload_n 0, 1) := by decide +kernel
theorem dX11_field_12 : decode cX11_field 12 = .ok (.getfield 93, 3) := by decide +kernel
theorem dX11_field_15 : decode cX11_field 15 = .ok (.iconst 4, 1) := by decide +kernel
theorem dX11_field_16 : decode cX11_field 16 = .ok (.if_icmp .ne 33, 3) := by decide +kernel
theorem dX11_field_19 : decode cX11_field 19 = .ok (.aload_n 0, 1) := by decide +kernel
theorem dX11_field_20 : decode cX11_field 20 = .ok (.getfield 96, 3) := by decide +kernel
theorem dX11_field_23 : decode cX11_field 23 = .ok (.iconst (-1), 1) := by decide +kernel
theorem dX11_field_24 : decode cX11_field 24 = .ok (.if_icmp .eq 25, 3) := by decide +kernel
theorem dX11_field_27 : decode cX11_field 27 = .ok (.aload_n 0, 1) := by decide +kernel
theorem dX11_field_28 : decode cX11_field 28 = .ok (.getfield 87, 3) := by decide +kernel
theorem dX11_field_31 : decode cX11_field 31 = .ok (.ifCond .le 18, 3) := by decide +kernel
theorem dX11_field_34 : decode cX11_field 34 = .ok (.aload_n 0, 1) := by decide +kernel
theorem dX11_field_35 : decode cX11_field 35 = .ok (.getfield 87, 3) := by decide +kernel
theorem dX11_field_38 : decode cX11_field 38 = .ok (.aload_n 0, 1) := by decide +kernel
theorem dX11_field_39 : decode cX11_field 39 = .ok (.getfield 90, 3) := by decide +kernel
theorem dX11_field_42 : decode cX11_field 42 = .ok (.if_icmp .ge 7, 3) := by decide +kernel
theorem dX11_field_45 : decode cX11_field 45 = .ok (.iconst 1, 1) := by decide +kernel
theorem dX11_field_46 : decode cX11_field 46 = .ok (.goto 4, 3) := by decide +kernel
theorem dX11_field_49 : decode cX11_field 49 = .ok (.iconst 0, 1) := by decide +kernel
theorem dX11_field_50 : decode cX11_field 50 = .ok (.istore_n 1, 1) := by decide +kernel
theorem dX11_field_51 : decode cX11_field 51 = .ok (.iload_n 1, 1) := by decide +kernel
theorem dX11_field_52 : decode cX11_field 52 = .ok (.ifCond .ne 6, 3) := by decide +kernel
theorem dX11_field_55 : decode cX11_field 55 = .ok (.ldc 152, 2) := by decide +kernel
theorem dX11_field_57 : decode cX11_field 57 = .ok (.ireturn, 1) := by decide +kernel
theorem dX11_field_58 : decode cX11_field 58 = .ok (.aload_n 0, 1) := by decide +kernel
theorem dX11_field_59 : decode cX11_field 59 = .ok (.invokevirtual 111, 3) := by decide +kernel
theorem dX11_field_62 : decode cX11_field 62 = .ok (.aload_n 0, 1) := by decide +kernel
theorem dX11_field_63 : decode cX11_field 63 = .ok (.invokevirtual 153, 3) := by decide +kernel
theorem dX11_field_66 : decode cX11_field 66 = .ok (.aload_n 0, 1) := by decide +kernel
theorem dX11_field_67 : decode cX11_field 67 = .ok (.dup, 1) := by decide +kernel
theorem dX11_field_68 : decode cX11_field 68 = .ok (.getfield 156, 3) := by decide +kernel
theorem dX11_field_71 : decode cX11_field 71 = .ok (.iconst 1, 1) := by decide +kernel
theorem dX11_field_72 : decode cX11_field 72 = .ok (.iadd, 1) := by decide +kernel
theorem dX11_field_73 : decode cX11_field 73 = .ok (.putfield 156, 3) := by decide +kernel
theorem dX11_field_76 : decode cX11_field 76 = .ok (.aload_n 0, 1) := by decide +kernel
theorem dX11_field_77 : decode cX11_field 77 = .ok (.iconst 0, 1) := by decide +kernel
theorem dX11_field_78 : decode cX11_field 78 = .ok (.putfield 82, 3) := by decide +kernel
theorem dX11_field_81 : decode cX11_field 81 = .ok (.aload_n 0, 1) := by decide +kernel
theorem dX11_field_82 : decode cX11_field 82 = .ok (.getfield 129, 3) := by decide +kernel
theorem dX11_field_85 : decode cX11_field 85 = .ok (.ireturn, 1) := by decide +kernel
theorem dX11_isField_0 : decode cX11_isField 0 = .ok (.aload_n 0, 1) := by decide +kernel
theorem dX11_isField_1 : decode cX11_isField 1 = .ok (.getfield 129, 3) := by decide +kernel
theorem dX11_isField_4 : decode cX11_isField 4 = .ok (.ifCond .le 7, 3) := by decide +kernel
theorem dX11_isField_7 : decode cX11_isField 7 = .ok (.iconst 1, 1) := by decide +kernel
theorem dX11_isField_8 : decode cX11_isField 8 = .ok (.goto 4, 3) := by decide +kernel
theorem dX11_isField_11 : decode cX11_isField 11 = .ok (.iconst 0, 1) := by decide +kernel
theorem dX11_isField_12 : decode cX11_isField 12 = .ok (.ireturn, 1) := by decide +kernel
set_option maxRecDepth 20000 in
theorem ggX11_isNode_X11_within : GoodIn wsX11_isNode wsX11_within := goodIn_r _ [5] (by decide +kernel) (by decide +kernel)
set_option maxRecDepth 20000 in
theorem gX11_isNode_X11_within : GoodIn wsX11_isNode (va_wsS RX11 77 yX11_within wsX11_within) := goodIn_app (goodIn_of _ (by decide +kernel)) ggX11_isNode_X11_within
theorem dX11_isNode_0 : decode cX11_isNode 0 = .ok (.iload_n 1, 1) := by decide +kernel
theorem dX11_isNode_1 : decode cX11_isNode 1 = .ok (.iconst 0, 1) := by decide +kernel
theorem dX11_isNode_2 : decode cX11_isNode 2 = .ok (.aload_n 0, 1) := by decide +kernel
theorem dX11_isNode_3 : decode cX11_isNode 3 = .ok (.getfield 129, 3) := by decide +kernel
theorem dX11_isNode_6 : decode cX11_isNode 6 = .ok (.iconst 1, 1) := by decide +kernel
theorem dX11_isNode_7 : decode cX11_isNode 7 = .ok (.isub, 1) := by decide +kernel
theorem dX11_isNode_8 : decode cX11_isNode 8 = .ok (.invokestatic 77, 3) := by decide +kernel
theorem dX11_isNode_11 : decode cX11_isNode 11 = .ok (.ireturn, 1) := by decide +kernel
set_option maxRecDepth 20000 in
theorem ggX11_isPair_X11_isNode : GoodIn wsX11_isPair wsX11_isNode := goodIn_r _ [6, 7, 8, 9, 5, 10, 11, 12, 13, 14, 15, 16, 17, 18, 19, 20, 21, 22, 23, 24, 25, 26, 27, 28, 29, 30, 31, 32, 33, 34, 35, 36, 37, 38, 39, 40, 41, 42, 43, 44, 45, 46, 47, 48, 49, 50, 51, 52] (by decide +kernel) (by decide +kernel)
set_option maxRecDepth 20000 in
theorem gX11_isPair_X11_isNode : GoodIn wsX11_isPair (wsV RX11 159 RX11 yX11_isNode wsX11_isNode) := goodIn_app (goodIn_of _ (by decide +kernel)) ggX11_isPair_X11_isNode
theorem dX11_isPair_0 : decode cX11_isPair 0 = .ok (.aload_n 0, 1) := by decide +kernel
theorem dX11_isPair_1 : decode cX11_isPair 1 = .ok (.iload_n 1, 1) := by decide +kernel
theorem dX11_isPair_2 : decode cX11_isPair 2 = .ok (.invokevirtual 159, 3) := by decide +kernel
theorem dX11_isPair_5 : decode cX11_isPair 5 = .ok (.ifCond .eq 33, 3) := by decide +kernel
theorem dX11_isPair_8 : decode cX11_isPair 8 = .ok (.aload_n 0, 1) := by decide +kernel
theorem dX11_isPair_9 : decode cX11_isPair 9 = .ok (.iload_n 2, 1) := by decide +kernel
theorem dX11_isPair_10 : decode cX11_isPair 10 = .ok (.invokevirtual 159, 3) := by decide +kernel
theorem dX11_isPair_13 : decode cX11_isPair 13 = .ok (.ifCond .eq 25, 3) := by decide +kernel
theorem dX11_isPair_16 : decode cX11_isPair 16 = .ok (.aload_n 0, 1) := by decide +kernel
theorem dX11_isPair_17 : decode cX11_isPair 17 = .ok (.getfield 13, 3) := by decide +kernel
theorem dX11_isPair_20 : decode cX11_isPair 20 = .ok (.iload_n 1, 1) := by decide +kernel
theorem dX11_isPair_21 : decode cX11_isPair 21 = .ok (.baload, 1) := by decide +kernel
theorem dX11_isPair_22 : decode cX11_isPair 22 = .ok (.ifCond .eq 16, 3) := by decide +kernel
theorem dX11_isPair_25 : decode cX11_isPair 25 = .ok (.aload_n 0, 1) := by decide +kernel
theorem dX11_isPair_26 : decode cX11_isPair 26 = .ok (.getfield 13, 3) := by decide +kernel
theorem dX11_isPair_29 : decode cX11_isPair 29 = .ok (.iload_n 2, 1) := by decide +kernel
theorem dX11_isPair_30 : decode cX11_isPair 30 = .ok (.baload, 1) := by decide +kernel
theorem dX11_isPair_31 : decode cX11_isPair 31 = .ok (.ifCond .ne 7, 3) := by decide +kernel
theorem dX11_isPair_34 : decode cX11_isPair 34 = .ok (.iconst 1, 1) := by decide +kernel
theorem dX11_isPair_35 : decode cX11_isPair 35 = .ok (.goto 4, 3) := by decide +kernel
theorem dX11_isPair_38 : decode cX11_isPair 38 = .ok (.iconst 0, 1) := by decide +kernel
theorem dX11_isPair_39 : decode cX11_isPair 39 = .ok (.ireturn, 1) := by decide +kernel
theorem dX11_anchorFrom_0 : decode cX11_anchorFrom 0 = .ok (.iload_n 1, 1) := by decide +kernel
theorem dX11_anchorFrom_1 : decode cX11_anchorFrom 1 = .ok (.aload_n 0, 1) := by decide +kernel
theorem dX11_anchorFrom_2 : decode cX11_anchorFrom 2 = .ok (.getfield 129, 3) := by decide +kernel
theorem dX11_anchorFrom_5 : decode cX11_anchorFrom 5 = .ok (.irem, 1) := by decide +kernel
theorem dX11_anchorFrom_6 : decode cX11_anchorFrom 6 = .ok (.istore_n 2, 1) := by decide +kernel
theorem dX11_anchorFrom_7 : decode cX11_anchorFrom 7 = .ok (.aload_n 0, 1) := by decide +kernel
theorem dX11_anchorFrom_8 : decode cX11_anchorFrom 8 = .ok (.getfield 13, 3) := by decide +kernel
theorem dX11_anchorFrom_11 : decode cX11_anchorFrom 11 = .ok (.iload_n 2, 1) := by decide +kernel
theorem dX11_anchorFrom_12 : decode cX11_anchorFrom 12 = .ok (.baload, 1) := by decide +kernel
theorem dX11_anchorFrom_13 : decode cX11_anchorFrom 13 = .ok (.ifCond .eq 15, 3) := by decide +kernel
theorem dX11_anchorFrom_16 : decode cX11_anchorFrom 16 = .ok (.iload_n 2, 1) := by decide +kernel
theorem dX11_anchorFrom_17 : decode cX11_anchorFrom 17 = .ok (.iconst 1, 1) := by decide +kernel
theorem dX11_anchorFrom_18 : decode cX11_anchorFrom 18 = .ok (.iadd, 1) := by decide +kernel
theorem dX11_anchorFrom_19 : decode cX11_anchorFrom 19 = .ok (.aload_n 0, 1) := by decide +kernel
theorem dX11_anchorFrom_20 : decode cX11_anchorFrom 20 = .ok (.getfield 129, 3) := by decide +kernel
theorem dX11_anchorFrom_23 : decode cX11_anchorFrom 23 = .ok (.irem, 1) := by decide +kernel
theorem dX11_anchorFrom_24 : decode cX11_anchorFrom 24 = .ok (.istore_n 2, 1) := by decide +kernel
theorem dX11_anchorFrom_25 : decode cX11_anchorFrom 25 = .ok (.goto (-18), 3) := by decide +kernel
theorem dX11_anchorFrom_28 : decode cX11_anchorFrom 28 = .ok (.iload_n 2, 1) := by decide +kernel
theorem dX11_anchorFrom_29 : decode cX11_anchorFrom 29 = .ok (.ireturn, 1) := by decide +kernel
theorem dX11_rootOf_0 : decode cX11_rootOf 0 = .ok (.iconst 0, 1) := by decide +kernel
theorem dX11_rootOf_1 : decode cX11_rootOf 1 = .ok (.istore_n 1, 1) := by decide +kernel
theorem dX11_rootOf_2 : decode cX11_rootOf 2 = .ok (.iload_n 1, 1) := by decide +kernel
theorem dX11_rootOf_3 : decode cX11_rootOf 3 = .ok (.iconst 1, 1) := by decide +kernel
theorem dX11_rootOf_4 : decode cX11_rootOf 4 = .ok (.iadd, 1) := by decide +kernel
theorem dX11_rootOf_5 : decode cX11_rootOf 5 = .ok (.iload_n 1, 1) := by decide +kernel
theorem dX11_rootOf_6 : decode cX11_rootOf 6 = .ok (.iconst 1, 1) := by decide +kernel
theorem dX11_rootOf_7 : decode cX11_rootOf 7 = .ok (.iadd, 1) := by decide +kernel
theorem dX11_rootOf_8 : decode cX11_rootOf 8 = .ok (.imul, 1) := by decide +kernel
theorem dX11_rootOf_9 : decode cX11_rootOf 9 = .ok (.iload_n 0, 1) := by decide +kernel
theorem dX11_rootOf_10 : decode cX11_rootOf 10 = .ok (.if_icmp .gt 9, 3) := by decide +kernel
theorem dX11_rootOf_13 : decode cX11_rootOf 13 = .ok (.iinc 1 1, 3) := by decide +kernel
theorem dX11_rootOf_16 : decode cX11_rootOf 16 = .ok (.goto (-14), 3) := by decide +kernel
theorem dX11_rootOf_19 : decode cX11_rootOf 19 = .ok (.iload_n 1, 1) := by decide +kernel
theorem dX11_rootOf_20 : decode cX11_rootOf 20 = .ok (.ireturn, 1) := by decide +kernel
set_option maxRecDepth 20000 in
theorem ggX11_flightBy_X11_rootOf : GoodIn wsX11_flightBy wsX11_rootOf := goodIn_r _ [4] (by decide +kernel) (by decide +kernel)
set_option maxRecDepth 20000 in
theorem gX11_flightBy_X11_rootOf : GoodIn wsX11_flightBy (va_wsS RX11 162 yX11_rootOf wsX11_rootOf) := goodIn_app (goodIn_of _ (by decide +kernel)) ggX11_flightBy_X11_rootOf
theorem dX11_flightBy_0 : decode cX11_flightBy 0 = .ok (.bipush 100, 2) := by decide +kernel
theorem dX11_flightBy_2 : decode cX11_flightBy 2 = .ok (.iload_n 0, 1) := by decide +kernel
theorem dX11_flightBy_3 : decode cX11_flightBy 3 = .ok (.iload_n 0, 1) := by decide +kernel
theorem dX11_flightBy_4 : decode cX11_flightBy 4 = .ok (.imul, 1) := by decide +kernel
theorem dX11_flightBy_5 : decode cX11_flightBy 5 = .ok (.iload_n 1, 1) := by decide +kernel
theorem dX11_flightBy_6 : decode cX11_flightBy 6 = .ok (.iload_n 1, 1) := by decide +kernel
theorem dX11_flightBy_7 : decode cX11_flightBy 7 = .ok (.imul, 1) := by decide +kernel
theorem dX11_flightBy_8 : decode cX11_flightBy 8 = .ok (.iadd, 1) := by decide +kernel
theorem dX11_flightBy_9 : decode cX11_flightBy 9 = .ok (.imul, 1) := by decide +kernel
theorem dX11_flightBy_10 : decode cX11_flightBy 10 = .ok (.invokestatic 162, 3) := by decide +kernel
theorem dX11_flightBy_13 : decode cX11_flightBy 13 = .ok (.ireturn, 1) := by decide +kernel
set_option maxRecDepth 20000 in
theorem ggX11_flightOf_X11_flightBy : GoodIn wsX11_flightOf wsX11_flightBy := goodIn_r _ [6, 7, 8, 5, 9] (by decide +kernel) (by decide +kernel)
set_option maxRecDepth 20000 in
theorem gX11_flightOf_X11_flightBy : GoodIn wsX11_flightOf (va_wsS RX11 165 yX11_flightBy wsX11_flightBy) := goodIn_app (goodIn_of _ (by decide +kernel)) ggX11_flightOf_X11_flightBy
theorem dX11_flightOf_0 : decode cX11_flightOf 0 = .ok (.aload_n 0, 1) := by decide +kernel
theorem dX11_flightOf_1 : decode cX11_flightOf 1 = .ok (.getfield 17, 3) := by decide +kernel
theorem dX11_flightOf_4 : decode cX11_flightOf 4 = .ok (.iload_n 1, 1) := by decide +kernel
theorem dX11_flightOf_5 : decode cX11_flightOf 5 = .ok (.iaload, 1) := by decide +kernel
theorem dX11_flightOf_6 : decode cX11_flightOf 6 = .ok (.aload_n 0, 1) := by decide +kernel
theorem dX11_flightOf_7 : decode cX11_flightOf 7 = .ok (.getfield 17, 3) := by decide +kernel
theorem dX11_flightOf_10 : decode cX11_flightOf 10 = .ok (.iload_n 2, 1) := by decide +kernel
theorem dX11_flightOf_11 : decode cX11_flightOf 11 = .ok (.iaload, 1) := by decide +kernel
theorem dX11_flightOf_12 : decode cX11_flightOf 12 = .ok (.isub, 1) := by decide +kernel
theorem dX11_flightOf_13 : decode cX11_flightOf 13 = .ok (.aload_n 0, 1) := by decide +kernel
theorem dX11_flightOf_14 : decode cX11_flightOf 14 = .ok (.getfield 20, 3) := by decide +kernel
theorem dX11_flightOf_17 : decode cX11_flightOf 17 = .ok (.iload_n 1, 1) := by decide +kernel
theorem dX11_flightOf_18 : decode cX11_flightOf 18 = .ok (.iaload, 1) := by decide +kernel
theorem dX11_flightOf_19 : decode cX11_flightOf 19 = .ok (.aload_n 0, 1) := by decide +kernel
theorem dX11_flightOf_20 : decode cX11_flightOf 20 = .ok (.getfield 20, 3) := by decide +kernel
theorem dX11_flightOf_23 : decode cX11_flightOf 23 = .ok (.iload_n 2, 1) := by decide +kernel
theorem dX11_flightOf_24 : decode cX11_flightOf 24 = .ok (.iaload, 1) := by decide +kernel
theorem dX11_flightOf_25 : decode cX11_flightOf 25 = .ok (.isub, 1) := by decide +kernel
theorem dX11_flightOf_26 : decode cX11_flightOf 26 = .ok (.invokestatic 165, 3) := by decide +kernel
theorem dX11_flightOf_29 : decode cX11_flightOf 29 = .ok (.ireturn, 1) := by decide +kernel
theorem dX11_down_0 : decode cX11_down 0 = .ok (.lload_n 0, 1) := by decide +kernel
theorem dX11_down_1 : decode cX11_down 1 = .ok (.lload_n 2, 1) := by decide +kernel
theorem dX11_down_2 : decode cX11_down 2 = .ok (.ldiv, 1) := by decide +kernel
theorem dX11_down_3 : decode cX11_down 3 = .ok (.lstore 4, 2) := by decide +kernel
theorem dX11_down_5 : decode cX11_down 5 = .ok (.lload_n 0, 1) := by decide +kernel
theorem dX11_down_6 : decode cX11_down 6 = .ok (.lload_n 2, 1) := by decide +kernel
theorem dX11_down_7 : decode cX11_down 7 = .ok (.lrem, 1) := by decide +kernel
theorem dX11_down_8 : decode cX11_down 8 = .ok (.lconst 0, 1) := by decide +kernel
theorem dX11_down_9 : decode cX11_down 9 = .ok (.lcmp, 1) := by decide +kernel
theorem dX11_down_10 : decode cX11_down 10 = .ok (.ifCond .eq 35, 3) := by decide +kernel
theorem dX11_down_13 : decode cX11_down 13 = .ok (.lload_n 0, 1) := by decide +kernel
theorem dX11_down_14 : decode cX11_down 14 = .ok (.lconst 0, 1) := by decide +kernel
theorem dX11_down_15 : decode cX11_down 15 = .ok (.lcmp, 1) := by decide +kernel
theorem dX11_down_16 : decode cX11_down 16 = .ok (.ifCond .ge 7, 3) := by decide +kernel
theorem dX11_down_19 : decode cX11_down 19 = .ok (.iconst 1, 1) := by decide +kernel
theorem dX11_down_20 : decode cX11_down 20 = .ok (.goto 4, 3) := by decide +kernel
theorem dX11_down_23 : decode cX11_down 23 = .ok (.iconst 0, 1) := by decide +kernel
theorem dX11_down_24 : decode cX11_down 24 = .ok (.lload_n 2, 1) := by decide +kernel
theorem dX11_down_25 : decode cX11_down 25 = .ok (.lconst 0, 1) := by decide +kernel
theorem dX11_down_26 : decode cX11_down 26 = .ok (.lcmp, 1) := by decide +kernel
theorem dX11_down_27 : decode cX11_down 27 = .ok (.ifCond .ge 7, 3) := by decide +kernel
theorem dX11_down_30 : decode cX11_down 30 = .ok (.iconst 1, 1) := by decide +kernel
theorem dX11_down_31 : decode cX11_down 31 = .ok (.goto 4, 3) := by decide +kernel
theorem dX11_down_34 : decode cX11_down 34 = .ok (.iconst 0, 1) := by decide +kernel
theorem dX11_down_35 : decode cX11_down 35 = .ok (.if_icmp .eq 10, 3) := by decide +kernel
theorem dX11_down_38 : decode cX11_down 38 = .ok (.lload 4, 2) := by decide +kernel
theorem dX11_down_40 : decode cX11_down 40 = .ok (.lconst 1, 1) := by decide +kernel
theorem dX11_down_41 : decode cX11_down 41 = .ok (.lsub, 1) := by decide +kernel
theorem dX11_down_42 : decode cX11_down 42 = .ok (.goto 5, 3) := by decide +kernel
theorem dX11_down_45 : decode cX11_down 45 = .ok (.lload 4, 2) := by decide +kernel
theorem dX11_down_47 : decode cX11_down 47 = .ok (.l2i, 1) := by decide +kernel
theorem dX11_down_48 : decode cX11_down 48 = .ok (.ireturn, 1) := by decide +kernel
set_option maxRecDepth 20000 in
theorem ggX11_clockOf_X11_down : GoodIn wsX11_clockOf wsX11_down := goodIn_r _ [7] (by decide +kernel) (by decide +kernel)
set_option maxRecDepth 20000 in
theorem gX11_clockOf_X11_down : GoodIn wsX11_clockOf (va_wsS RX11 171 yX11_down wsX11_down) := goodIn_app (goodIn_of _ (by decide +kernel)) ggX11_clockOf_X11_down
theorem dX11_clockOf_0 : decode cX11_clockOf 0 = .ok (.aload_n 0, 1) := by decide +kernel
theorem dX11_clockOf_1 : decode cX11_clockOf 1 = .ok (.getfield 26, 3) := by decide +kernel
theorem dX11_clockOf_4 : decode cX11_clockOf 4 = .ok (.iload_n 1, 1) := by decide +kernel
theorem dX11_clockOf_5 : decode cX11_clockOf 5 = .ok (.iaload, 1) := by decide +kernel
theorem dX11_clockOf_6 : decode cX11_clockOf 6 = .ok (.iload_n 2, 1) := by decide +kernel
theorem dX11_clockOf_7 : decode cX11_clockOf 7 = .ok (.iadd, 1) := by decide +kernel
theorem dX11_clockOf_8 : decode cX11_clockOf 8 = .ok (.aload_n 0, 1) := by decide +kernel
theorem dX11_clockOf_9 : decode cX11_clockOf 9 = .ok (.getfield 23, 3) := by decide +kernel
theorem dX11_clockOf_12 : decode cX11_clockOf 12 = .ok (.iload_n 1, 1) := by decide +kernel
theorem dX11_clockOf_13 : decode cX11_clockOf 13 = .ok (.iaload, 1) := by decide +kernel
theorem dX11_clockOf_14 : decode cX11_clockOf 14 = .ok (.i2l, 1) := by decide +kernel
theorem dX11_clockOf_15 : decode cX11_clockOf 15 = .ok (.iload_n 2, 1) := by decide +kernel
theorem dX11_clockOf_16 : decode cX11_clockOf 16 = .ok (.i2l, 1) := by decide +kernel
theorem dX11_clockOf_17 : decode cX11_clockOf 17 = .ok (.lmul, 1) := by decide +kernel
theorem dX11_clockOf_18 : decode cX11_clockOf 18 = .ok (.ldc2_w 169, 3) := by decide +kernel
theorem dX11_clockOf_21 : decode cX11_clockOf 21 = .ok (.invokestatic 171, 3) := by decide +kernel
theorem dX11_clockOf_24 : decode cX11_clockOf 24 = .ok (.iadd, 1) := by decide +kernel
theorem dX11_clockOf_25 : decode cX11_clockOf 25 = .ok (.ireturn, 1) := by decide +kernel
set_option maxRecDepth 20000 in
theorem ggX11_nodeNow_X11_clockOf : GoodIn wsX11_nodeNow wsX11_clockOf := goodIn_r _ [14, 5, 4, 15, 16, 17, 13, 18, 19, 20, 21, 22, 23, 24, 25, 26, 27, 28, 29, 30, 31, 32, 33, 34, 35, 36, 37, 38, 39, 40, 41, 42, 43, 44, 45, 46, 47, 48, 49, 50, 51, 52, 53, 54, 55, 56, 57, 58, 59, 60] (by decide +kernel) (by decide +kernel)
set_option maxRecDepth 20000 in
theorem gX11_nodeNow_X11_clockOf : GoodIn wsX11_nodeNow (wsV RX11 175 RX11 yX11_clockOf wsX11_clockOf) := goodIn_app (goodIn_of _ (by decide +kernel)) ggX11_nodeNow_X11_clockOf
theorem dX11_nodeNow_0 : decode cX11_nodeNow 0 = .ok (.iload_n 2, 1) := by decide +kernel
theorem dX11_nodeNow_1 : decode cX11_nodeNow 1 = .ok (.tableswitch 127 0 7 #[47, 62, 69, 76, 83, 90, 97, 107], 47) := by decide +kernel
theorem dX11_nodeNow_48 : decode cX11_nodeNow 48 = .ok (.aload_n 0, 1) := by decide +kernel
theorem dX11_nodeNow_49 : decode cX11_nodeNow 49 = .ok (.getfield 13, 3) := by decide +kernel
theorem dX11_nodeNow_52 : decode cX11_nodeNow 52 = .ok (.iload_n 1, 1) := by decide +kernel
theorem dX11_nodeNow_53 : decode cX11_nodeNow 53 = .ok (.baload, 1) := by decide +kernel
theorem dX11_nodeNow_54 : decode cX11_nodeNow 54 = .ok (.ifCond .eq 7, 3) := by decide +kernel
theorem dX11_nodeNow_57 : decode cX11_nodeNow 57 = .ok (.iconst 1, 1) := by decide +kernel
theorem dX11_nodeNow_58 : decode cX11_nodeNow 58 = .ok (.goto 4, 3) := by decide +kernel
theorem dX11_nodeNow_61 : decode cX11_nodeNow 61 = .ok (.iconst 0, 1) := by decide +kernel
theorem dX11_nodeNow_62 : decode cX11_nodeNow 62 = .ok (.ireturn, 1) := by decide +kernel
theorem dX11_nodeNow_63 : decode cX11_nodeNow 63 = .ok (.aload_n 0, 1) := by decide +kernel
theorem dX11_nodeNow_64 : decode cX11_nodeNow 64 = .ok (.getfield 17, 3) := by decide +kernel
theorem dX11_nodeNow_67 : decode cX11_nodeNow 67 = .ok (.iload_n 1, 1) := by decide +kernel
theorem dX11_nodeNow_68 : decode cX11_nodeNow 68 = .ok (.iaload, 1) := by decide +kernel
theorem dX11_nodeNow_69 : decode cX11_nodeNow 69 = .ok (.ireturn, 1) := by decide +kernel
theorem dX11_nodeNow_70 : decode cX11_nodeNow 70 = .ok (.aload_n 0, 1) := by decide +kernel
theorem dX11_nodeNow_71 : decode cX11_nodeNow 71 = .ok (.getfield 20, 3) := by decide +kernel
theorem dX11_nodeNow_74 : decode cX11_nodeNow 74 = .ok (.iload_n 1, 1) := by decide +kernel
theorem dX11_nodeNow_75 : decode cX11_nodeNow 75 = .ok (.iaload, 1) := by decide +kernel
theorem dX11_nodeNow_76 : decode cX11_nodeNow 76 = .ok (.ireturn, 1) := by decide +kernel
theorem dX11_nodeNow_77 : decode cX11_nodeNow 77 = .ok (.aload_n 0, 1) := by decide +kernel
theorem dX11_nodeNow_78 : decode cX11_nodeNow 78 = .ok (.getfield 23, 3) := by decide +kernel
theorem dX11_nodeNow_81 : decode cX11_nodeNow 81 = .ok (.iload_n 1, 1) := by decide +kernel
theorem dX11_nodeNow_82 : decode cX11_nodeNow 82 = .ok (.iaload, 1) := by decide +kernel
theorem dX11_nodeNow_83 : decode cX11_nodeNow 83 = .ok (.ireturn, 1) := by decide +kernel
theorem dX11_nodeNow_84 : decode cX11_nodeNow 84 = .ok (.aload_n 0, 1) := by decide +kernel
theorem dX11_nodeNow_85 : decode cX11_nodeNow 85 = .ok (.getfield 26, 3) := by decide +kernel
theorem dX11_nodeNow_88 : decode cX11_nodeNow 88 = .ok (.iload_n 1, 1) := by decide +kernel
theorem dX11_nodeNow_89 : decode cX11_nodeNow 89 = .ok (.iaload, 1) := by decide +kernel
theorem dX11_nodeNow_90 : decode cX11_nodeNow 90 = .ok (.ireturn, 1) := by decide +kernel
theorem dX11_nodeNow_91 : decode cX11_nodeNow 91 = .ok (.aload_n 0, 1) := by decide +kernel
theorem dX11_nodeNow_92 : decode cX11_nodeNow 92 = .ok (.getfield 29, 3) := by decide +kernel
theorem dX11_nodeNow_95 : decode cX11_nodeNow 95 = .ok (.iload_n 1, 1) := by decide +kernel
theorem dX11_nodeNow_96 : decode cX11_nodeNow 96 = .ok (.iaload, 1) := by decide +kernel
theorem dX11_nodeNow_97 : decode cX11_nodeNow 97 = .ok (.ireturn, 1) := by decide +kernel
theorem dX11_nodeNow_98 : decode cX11_nodeNow 98 = .ok (.aload_n 0, 1) := by decide +kernel
theorem dX11_nodeNow_99 : decode cX11_nodeNow 99 = .ok (.iload_n 1, 1) := by decide +kernel
theorem dX11_nodeNow_100 : decode cX11_nodeNow 100 = .ok (.aload_n 0, 1) := by decide +kernel
theorem dX11_nodeNow_101 : decode cX11_nodeNow 101 = .ok (.getfield 140, 3) := by decide +kernel
theorem dX11_nodeNow_104 : decode cX11_nodeNow 104 = .ok (.invokevirtual 175, 3) := by decide +kernel
theorem dX11_nodeNow_107 : decode cX11_nodeNow 107 = .ok (.ireturn, 1) := by decide +kernel
theorem dX11_nodeNow_108 : decode cX11_nodeNow 108 = .ok (.aload_n 0, 1) := by decide +kernel
theorem dX11_nodeNow_109 : decode cX11_nodeNow 109 = .ok (.getfield 13, 3) := by decide +kernel
theorem dX11_nodeNow_112 : decode cX11_nodeNow 112 = .ok (.iload_n 1, 1) := by decide +kernel
theorem dX11_nodeNow_113 : decode cX11_nodeNow 113 = .ok (.baload, 1) := by decide +kernel
theorem dX11_nodeNow_114 : decode cX11_nodeNow 114 = .ok (.ifCond .eq 12, 3) := by decide +kernel
theorem dX11_nodeNow_117 : decode cX11_nodeNow 117 = .ok (.aload_n 0, 1) := by decide +kernel
theorem dX11_nodeNow_118 : decode cX11_nodeNow 118 = .ok (.getfield 32, 3) := by decide +kernel
theorem dX11_nodeNow_121 : decode cX11_nodeNow 121 = .ok (.iload_n 1, 1) := by decide +kernel
theorem dX11_nodeNow_122 : decode cX11_nodeNow 122 = .ok (.iaload, 1) := by decide +kernel
theorem dX11_nodeNow_123 : decode cX11_nodeNow 123 = .ok (.goto 4, 3) := by decide +kernel
theorem dX11_nodeNow_126 : decode cX11_nodeNow 126 = .ok (.iconst (-1), 1) := by decide +kernel
