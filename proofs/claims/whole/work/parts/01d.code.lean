set_option maxRecDepth 20000 in
theorem ggX4_init_X1_init : GoodIn wsX4_init wsX1_init := goodIn_r _ [21, 22, 2, 3, 23, 24, 25, 26, 27, 28, 29, 30, 68, 69, 70, 71, 72, 73] (by decide +kernel) (by decide +kernel)
set_option maxRecDepth 20000 in
theorem gX4_init_X1_init : GoodIn wsX4_init (wsX1_init) := ggX4_init_X1_init
set_option maxRecDepth 20000 in
theorem ggX4_init_X0_init : GoodIn wsX4_init wsX0_init := goodIn_r _ [33, 34, 2, 3, 35, 36, 37, 38, 39, 40, 23, 41, 42, 43, 44, 45, 28, 46, 47, 48, 49, 50, 51, 52, 53, 54, 55, 56, 57, 58, 59, 80, 81, 82, 83, 84, 85, 86, 87, 88, 89, 90, 95, 96, 97] (by decide +kernel) (by decide +kernel)
set_option maxRecDepth 20000 in
theorem gX4_init_X0_init : GoodIn wsX4_init (wsX0_init) := ggX4_init_X0_init
set_option maxRecDepth 20000 in
theorem ggX4_init_X2_init : GoodIn wsX4_init wsX2_init := goodIn_r _ [62, 63, 2, 3, 23, 64, 65, 66, 67, 91, 92, 93, 94] (by decide +kernel) (by decide +kernel)
set_option maxRecDepth 20000 in
theorem gX4_init_X2_init : GoodIn wsX4_init (wsX2_init) := ggX4_init_X2_init
theorem dX4_init_0 : decode cX4_init 0 = .ok (.aload_n 0, 1) := by decide +kernel
theorem dX4_init_1 : decode cX4_init 1 = .ok (.invokespecial 3, 3) := by decide +kernel
theorem dX4_init_4 : decode cX4_init 4 = .ok (.aload_n 0, 1) := by decide +kernel
theorem dX4_init_5 : decode cX4_init 5 = .ok (.new 9, 3) := by decide +kernel
theorem dX4_init_8 : decode cX4_init 8 = .ok (.dup, 1) := by decide +kernel
theorem dX4_init_9 : decode cX4_init 9 = .ok (.invokespecial 11, 3) := by decide +kernel
theorem dX4_init_12 : decode cX4_init 12 = .ok (.putfield 12, 3) := by decide +kernel
theorem dX4_init_15 : decode cX4_init 15 = .ok (.aload_n 0, 1) := by decide +kernel
theorem dX4_init_16 : decode cX4_init 16 = .ok (.new 16, 3) := by decide +kernel
theorem dX4_init_19 : decode cX4_init 19 = .ok (.dup, 1) := by decide +kernel
theorem dX4_init_20 : decode cX4_init 20 = .ok (.aload_n 0, 1) := by decide +kernel
theorem dX4_init_21 : decode cX4_init 21 = .ok (.getfield 12, 3) := by decide +kernel
theorem dX4_init_24 : decode cX4_init 24 = .ok (.invokespecial 18, 3) := by decide +kernel
theorem dX4_init_27 : decode cX4_init 27 = .ok (.putfield 21, 3) := by decide +kernel
theorem dX4_init_30 : decode cX4_init 30 = .ok (.aload_n 0, 1) := by decide +kernel
theorem dX4_init_31 : decode cX4_init 31 = .ok (.new 16, 3) := by decide +kernel
theorem dX4_init_34 : decode cX4_init 34 = .ok (.dup, 1) := by decide +kernel
theorem dX4_init_35 : decode cX4_init 35 = .ok (.aload_n 0, 1) := by decide +kernel
theorem dX4_init_36 : decode cX4_init 36 = .ok (.getfield 12, 3) := by decide +kernel
theorem dX4_init_39 : decode cX4_init 39 = .ok (.invokespecial 18, 3) := by decide +kernel
theorem dX4_init_42 : decode cX4_init 42 = .ok (.putfield 25, 3) := by decide +kernel
theorem dX4_init_45 : decode cX4_init 45 = .ok (.aload_n 0, 1) := by decide +kernel
theorem dX4_init_46 : decode cX4_init 46 = .ok (.new 28, 3) := by decide +kernel
theorem dX4_init_49 : decode cX4_init 49 = .ok (.dup, 1) := by decide +kernel
theorem dX4_init_50 : decode cX4_init 50 = .ok (.invokespecial 30, 3) := by decide +kernel
theorem dX4_init_53 : decode cX4_init 53 = .ok (.putfield 31, 3) := by decide +kernel
theorem dX4_init_56 : decode cX4_init 56 = .ok (.aload_n 0, 1) := by decide +kernel
theorem dX4_init_57 : decode cX4_init 57 = .ok (.iconst 4, 1) := by decide +kernel
theorem dX4_init_58 : decode cX4_init 58 = .ok (.putfield 35, 3) := by decide +kernel
theorem dX4_init_61 : decode cX4_init 61 = .ok (.aload_n 0, 1) := by decide +kernel
theorem dX4_init_62 : decode cX4_init 62 = .ok (.iconst 0, 1) := by decide +kernel
theorem dX4_init_63 : decode cX4_init 63 = .ok (.putfield 39, 3) := by decide +kernel
theorem dX4_init_66 : decode cX4_init 66 = .ok (.return_, 1) := by decide +kernel
set_option maxRecDepth 20000 in
theorem ggX4_constant_X4_refuseFullCode : GoodIn wsX4_constant wsX4_refuseFullCode := goodIn_ca (goodIn_r _ [5, 6, 7, 8, 9, 10, 11, 12, 13, 14, 42, 43, 44, 45, 46, 47, 48, 49, 50, 51, 52, 53] (by decide +kernel) (by decide +kernel)) (goodIn_sub (fun _ h => List.mem_cons_of_mem _ (List.mem_append_right _ h)) (by decide +kernel))
set_option maxRecDepth 20000 in
theorem gX4_constant_X4_refuseFullCode : GoodIn wsX4_constant (wsV RX4 43 RX4 yX4_refuseFullCode wsX4_refuseFullCode) := goodIn_app (goodIn_of _ (by decide +kernel)) ggX4_constant_X4_refuseFullCode
set_option maxRecDepth 20000 in
theorem ggX4_constant_X4_append : GoodIn wsX4_constant wsX4_append := goodIn_r _ [18, 19, 8, 20, 21, 22, 12, 23, 14, 24, 25, 26, 27, 28, 10, 11, 13, 29, 30, 31, 32, 33, 34, 35, 36, 37, 38, 39, 40, 41, 42, 43, 44, 45, 46, 47, 48, 49, 50, 51, 52, 53] (by decide +kernel) (by decide +kernel)
set_option maxRecDepth 20000 in
theorem gX4_constant_X4_append : GoodIn wsX4_constant (wsV RX4 46 RX4 yX4_append wsX4_append) := goodIn_app (goodIn_of _ (by decide +kernel)) ggX4_constant_X4_append
theorem dX4_constant_0 : decode cX4_constant 0 = .ok (.aload_n 0, 1) := by decide +kernel
theorem dX4_constant_1 : decode cX4_constant 1 = .ok (.invokevirtual 43, 3) := by decide +kernel
theorem dX4_constant_4 : decode cX4_constant 4 = .ok (.aload_n 0, 1) := by decide +kernel
theorem dX4_constant_5 : decode cX4_constant 5 = .ok (.iconst 0, 1) := by decide +kernel
theorem dX4_constant_6 : decode cX4_constant 6 = .ok (.iconst (-1), 1) := by decide +kernel
theorem dX4_constant_7 : decode cX4_constant 7 = .ok (.iconst (-1), 1) := by decide +kernel
theorem dX4_constant_8 : decode cX4_constant 8 = .ok (.iload_n 1, 1) := by decide +kernel
theorem dX4_constant_9 : decode cX4_constant 9 = .ok (.invokevirtual 46, 3) := by decide +kernel
theorem dX4_constant_12 : decode cX4_constant 12 = .ok (.ireturn, 1) := by decide +kernel
set_option maxRecDepth 20000 in
theorem ggX4_operate_X4_refuseNoValue : GoodIn wsX4_operate wsX4_refuseNoValue := goodIn_ca (goodIn_r _ [5, 6, 7, 8, 9, 10, 11, 12, 13, 14, 15, 16, 17, 18, 19, 57, 58, 59, 60, 61, 62, 63, 64, 65, 66, 67, 68] (by decide +kernel) (by decide +kernel)) (goodIn_sub (fun _ h => List.mem_cons_of_mem _ (List.mem_append_left _ (List.mem_append_left _ (List.mem_append_right _ h)))) (by decide +kernel))
set_option maxRecDepth 20000 in
theorem gX4_operate_X4_refuseNoValue : GoodIn wsX4_operate (wsV RX4 50 RX4 yX4_refuseNoValue wsX4_refuseNoValue) := goodIn_app (goodIn_of _ (by decide +kernel)) ggX4_operate_X4_refuseNoValue
set_option maxRecDepth 20000 in
theorem ggX4_operate_X4_refuseKindOutside : GoodIn wsX4_operate wsX4_refuseKindOutside := goodIn_ca (goodIn_r _ [22, 23, 24] (by decide +kernel) (by decide +kernel)) (goodIn_sub (fun _ h => List.mem_cons_of_mem _ (List.mem_append_left _ (List.mem_append_right _ h))) (by decide +kernel))
set_option maxRecDepth 20000 in
theorem gX4_operate_X4_refuseKindOutside : GoodIn wsX4_operate (va_wsS RX4 54 yX4_refuseKindOutside wsX4_refuseKindOutside) := goodIn_app (goodIn_of _ (by decide +kernel)) ggX4_operate_X4_refuseKindOutside
set_option maxRecDepth 20000 in
theorem ggX4_operate_X4_refuseFullCode : GoodIn wsX4_operate wsX4_refuseFullCode := goodIn_ca (goodIn_r _ [28, 29, 30, 8, 31, 32, 33, 12, 34, 19, 57, 58, 59, 60, 61, 62, 63, 64, 65, 66, 67, 68] (by decide +kernel) (by decide +kernel)) (goodIn_sub (fun _ h => List.mem_cons_of_mem _ (List.mem_append_right _ h)) (by decide +kernel))
set_option maxRecDepth 20000 in
theorem gX4_operate_X4_refuseFullCode : GoodIn wsX4_operate (wsV RX4 43 RX4 yX4_refuseFullCode wsX4_refuseFullCode) := goodIn_app (goodIn_of _ (by decide +kernel)) ggX4_operate_X4_refuseFullCode
set_option maxRecDepth 20000 in
theorem ggX4_operate_X4_append : GoodIn wsX4_operate wsX4_append := goodIn_r _ [38, 39, 8, 40, 41, 42, 12, 43, 19, 14, 44, 45, 46, 47, 32, 33, 34, 48, 49, 50, 51, 52, 53, 54, 55, 56, 15, 16, 17, 18, 57, 58, 59, 60, 61, 62, 63, 64, 65, 66, 67, 68] (by decide +kernel) (by decide +kernel)
set_option maxRecDepth 20000 in
theorem gX4_operate_X4_append : GoodIn wsX4_operate (wsV RX4 46 RX4 yX4_append wsX4_append) := goodIn_app (goodIn_of _ (by decide +kernel)) ggX4_operate_X4_append
theorem dX4_operate_0 : decode cX4_operate 0 = .ok (.aload_n 0, 1) := by decide +kernel
theorem dX4_operate_1 : decode cX4_operate 1 = .ok (.iload_n 2, 1) := by decide +kernel
theorem dX4_operate_2 : decode cX4_operate 2 = .ok (.invokevirtual 50, 3) := by decide +kernel
theorem dX4_operate_5 : decode cX4_operate 5 = .ok (.aload_n 0, 1) := by decide +kernel
theorem dX4_operate_6 : decode cX4_operate 6 = .ok (.iload_n 3, 1) := by decide +kernel
theorem dX4_operate_7 : decode cX4_operate 7 = .ok (.invokevirtual 50, 3) := by decide +kernel
theorem dX4_operate_10 : decode cX4_operate 10 = .ok (.iload_n 1, 1) := by decide +kernel
theorem dX4_operate_11 : decode cX4_operate 11 = .ok (.iconst 1, 1) := by decide +kernel
theorem dX4_operate_12 : decode cX4_operate 12 = .ok (.iconst 4, 1) := by decide +kernel
theorem dX4_operate_13 : decode cX4_operate 13 = .ok (.invokestatic 54, 3) := by decide +kernel
theorem dX4_operate_16 : decode cX4_operate 16 = .ok (.aload_n 0, 1) := by decide +kernel
theorem dX4_operate_17 : decode cX4_operate 17 = .ok (.invokevirtual 43, 3) := by decide +kernel
theorem dX4_operate_20 : decode cX4_operate 20 = .ok (.aload_n 0, 1) := by decide +kernel
theorem dX4_operate_21 : decode cX4_operate 21 = .ok (.iload_n 1, 1) := by decide +kernel
theorem dX4_operate_22 : decode cX4_operate 22 = .ok (.iload_n 2, 1) := by decide +kernel
theorem dX4_operate_23 : decode cX4_operate 23 = .ok (.iload_n 3, 1) := by decide +kernel
theorem dX4_operate_24 : decode cX4_operate 24 = .ok (.iconst 0, 1) := by decide +kernel
theorem dX4_operate_25 : decode cX4_operate 25 = .ok (.invokevirtual 46, 3) := by decide +kernel
theorem dX4_operate_28 : decode cX4_operate 28 = .ok (.ireturn, 1) := by decide +kernel
set_option maxRecDepth 20000 in
theorem ggX4_pass_X4_refuseNoValue : GoodIn wsX4_pass wsX4_refuseNoValue := goodIn_ca (goodIn_r _ [5, 6, 7, 8, 9, 10, 11, 12, 13, 14, 15, 16, 17, 18, 19, 57, 58, 59, 60, 61, 62, 63, 64, 65, 66, 67, 68] (by decide +kernel) (by decide +kernel)) (goodIn_sub (fun _ h => List.mem_cons_of_mem _ (List.mem_append_left _ (List.mem_append_left _ (List.mem_append_right _ h)))) (by decide +kernel))
set_option maxRecDepth 20000 in
theorem gX4_pass_X4_refuseNoValue : GoodIn wsX4_pass (wsV RX4 50 RX4 yX4_refuseNoValue wsX4_refuseNoValue) := goodIn_app (goodIn_of _ (by decide +kernel)) ggX4_pass_X4_refuseNoValue
set_option maxRecDepth 20000 in
theorem ggX4_pass_X4_refuseKindOutside : GoodIn wsX4_pass wsX4_refuseKindOutside := goodIn_ca (goodIn_r _ [22, 23, 24] (by decide +kernel) (by decide +kernel)) (goodIn_sub (fun _ h => List.mem_cons_of_mem _ (List.mem_append_left _ (List.mem_append_right _ h))) (by decide +kernel))
set_option maxRecDepth 20000 in
theorem gX4_pass_X4_refuseKindOutside : GoodIn wsX4_pass (va_wsS RX4 54 yX4_refuseKindOutside wsX4_refuseKindOutside) := goodIn_app (goodIn_of _ (by decide +kernel)) ggX4_pass_X4_refuseKindOutside
set_option maxRecDepth 20000 in
theorem ggX4_pass_X4_refuseFullCode : GoodIn wsX4_pass wsX4_refuseFullCode := goodIn_ca (goodIn_r _ [28, 29, 30, 8, 31, 32, 33, 12, 34, 19, 57, 58, 59, 60, 61, 62, 63, 64, 65, 66, 67, 68] (by decide +kernel) (by decide +kernel)) (goodIn_sub (fun _ h => List.mem_cons_of_mem _ (List.mem_append_right _ h)) (by decide +kernel))
set_option maxRecDepth 20000 in
theorem gX4_pass_X4_refuseFullCode : GoodIn wsX4_pass (wsV RX4 43 RX4 yX4_refuseFullCode wsX4_refuseFullCode) := goodIn_app (goodIn_of _ (by decide +kernel)) ggX4_pass_X4_refuseFullCode
set_option maxRecDepth 20000 in
theorem ggX4_pass_X4_append : GoodIn wsX4_pass wsX4_append := goodIn_r _ [38, 39, 8, 40, 41, 42, 12, 43, 19, 14, 44, 45, 46, 47, 32, 33, 34, 48, 49, 50, 51, 52, 53, 54, 55, 56, 15, 16, 17, 18, 57, 58, 59, 60, 61, 62, 63, 64, 65, 66, 67, 68] (by decide +kernel) (by decide +kernel)
set_option maxRecDepth 20000 in
theorem gX4_pass_X4_append : GoodIn wsX4_pass (wsV RX4 46 RX4 yX4_append wsX4_append) := goodIn_app (goodIn_of _ (by decide +kernel)) ggX4_pass_X4_append
theorem dX4_pass_0 : decode cX4_pass 0 = .ok (.aload_n 0, 1) := by decide +kernel
theorem dX4_pass_1 : decode cX4_pass 1 = .ok (.iload_n 2, 1) := by decide +kernel
theorem dX4_pass_2 : decode cX4_pass 2 = .ok (.invokevirtual 50, 3) := by decide +kernel
theorem dX4_pass_5 : decode cX4_pass 5 = .ok (.iload_n 1, 1) := by decide +kernel
theorem dX4_pass_6 : decode cX4_pass 6 = .ok (.iconst 5, 1) := by decide +kernel
theorem dX4_pass_7 : decode cX4_pass 7 = .ok (.bipush 6, 2) := by decide +kernel
theorem dX4_pass_9 : decode cX4_pass 9 = .ok (.invokestatic 54, 3) := by decide +kernel
theorem dX4_pass_12 : decode cX4_pass 12 = .ok (.aload_n 0, 1) := by decide +kernel
theorem dX4_pass_13 : decode cX4_pass 13 = .ok (.invokevirtual 43, 3) := by decide +kernel
theorem dX4_pass_16 : decode cX4_pass 16 = .ok (.aload_n 0, 1) := by decide +kernel
theorem dX4_pass_17 : decode cX4_pass 17 = .ok (.iload_n 1, 1) := by decide +kernel
theorem dX4_pass_18 : decode cX4_pass 18 = .ok (.iload_n 2, 1) := by decide +kernel
theorem dX4_pass_19 : decode cX4_pass 19 = .ok (.iconst (-1), 1) := by decide +kernel
theorem dX4_pass_20 : decode cX4_pass 20 = .ok (.iconst 0, 1) := by decide +kernel
theorem dX4_pass_21 : decode cX4_pass 21 = .ok (.invokevirtual 46, 3) := by decide +kernel
theorem dX4_pass_24 : decode cX4_pass 24 = .ok (.ireturn, 1) := by decide +kernel
set_option maxRecDepth 20000 in
theorem ggX4_change_X4_refuseNoInstruction : GoodIn wsX4_change wsX4_refuseNoInstruction := goodIn_ca (goodIn_r _ [9, 10, 11, 3, 12, 13, 14, 15, 16, 17, 29, 30, 31, 32, 33, 34, 35, 36, 37, 38, 39, 40] (by decide +kernel) (by decide +kernel)) (goodIn_sub (fun _ h => List.mem_cons_of_mem _ (List.mem_append_right _ h)) (by decide +kernel))
set_option maxRecDepth 20000 in
theorem gX4_change_X4_refuseNoInstruction : GoodIn wsX4_change (wsV RX4 58 RX4 yX4_refuseNoInstruction wsX4_refuseNoInstruction) := goodIn_app (goodIn_of _ (by decide +kernel)) ggX4_change_X4_refuseNoInstruction
set_option maxRecDepth 20000 in
theorem ggX4_change_X1_isConst : GoodIn wsX4_change wsX1_isConst := goodIn_r _ [21, 17, 22, 35, 36, 37, 38, 39, 40] (by decide +kernel) (by decide +kernel)
set_option maxRecDepth 20000 in
theorem gX4_change_X1_isConst : GoodIn wsX4_change (wsV RX4 61 RX1 yX1_isConst wsX1_isConst) := goodIn_app (goodIn_of _ (by decide +kernel)) ggX4_change_X1_isConst
set_option maxRecDepth 20000 in
theorem ggX4_change_X1_replaceInt : GoodIn wsX4_change wsX1_replaceInt := goodIn_r _ [26, 27, 28, 13, 14, 15, 16, 17, 35, 36, 37, 38, 39, 40] (by decide +kernel) (by decide +kernel)
set_option maxRecDepth 20000 in
theorem gX4_change_X1_replaceInt : GoodIn wsX4_change (wsV RX4 72 RX1 yX1_replaceInt wsX1_replaceInt) := goodIn_app (goodIn_of _ (by decide +kernel)) ggX4_change_X1_replaceInt
theorem dX4_change_0 : decode cX4_change 0 = .ok (.aload_n 0, 1) := by decide +kernel
theorem dX4_change_1 : decode cX4_change 1 = .ok (.iload_n 1, 1) := by decide +kernel
theorem dX4_change_2 : decode cX4_change 2 = .ok (.invokevirtual 58, 3) := by decide +kernel
theorem dX4_change_5 : decode cX4_change 5 = .ok (.aload_n 0, 1) := by decide +kernel
theorem dX4_change_6 : decode cX4_change 6 = .ok (.getfield 12, 3) := by decide +kernel
theorem dX4_change_9 : decode cX4_change 9 = .ok (.iload_n 1, 1) := by decide +kernel
theorem dX4_change_10 : decode cX4_change 10 = .ok (.invokevirtual 61, 3) := by decide +kernel
theorem dX4_change_13 : decode cX4_change 13 = .ok (.ifCond .ne 13, 3) := by decide +kernel
theorem dX4_change_16 : decode cX4_change 16 = .ok (.new 65, 3) := by decide +kernel
theorem dX4_change_19 : decode cX4_change 19 = .ok (.dup, 1) := by decide +kernel
theorem dX4_change_20 : decode cX4_change 20 = .ok (.ldc 67, 2) := by decide +kernel
theorem dX4_change_22 : decode cX4_change 22 = .ok (.invokespecial 69, 3) := by decide +kernel
theorem dX4_change_25 : decode cX4_change 25 = .ok (.athrow, 1) := by decide +kernel
theorem dX4_change_26 : decode cX4_change 26 = .ok (.aload_n 0, 1) := by decide +kernel
theorem dX4_change_27 : decode cX4_change 27 = .ok (.iconst 0, 1) := by decide +kernel
theorem dX4_change_28 : decode cX4_change 28 = .ok (.putfield 39, 3) := by decide +kernel
theorem dX4_change_31 : decode cX4_change 31 = .ok (.aload_n 0, 1) := by decide +kernel
theorem dX4_change_32 : decode cX4_change 32 = .ok (.getfield 12, 3) := by decide +kernel
theorem dX4_change_35 : decode cX4_change 35 = .ok (.iload_n 1, 1) := by decide +kernel
theorem dX4_change_36 : decode cX4_change 36 = .ok (.iload_n 2, 1) := by decide +kernel
theorem dX4_change_37 : decode cX4_change 37 = .ok (.invokevirtual 72, 3) := by decide +kernel
theorem dX4_change_40 : decode cX4_change 40 = .ok (.ireturn, 1) := by decide +kernel
set_option maxRecDepth 20000 in
theorem ggX4_cut_X1_length : GoodIn wsX4_cut wsX1_length := goodIn_r _ [9, 10, 37, 38, 39, 40, 41, 42] (by decide +kernel) (by decide +kernel)
set_option maxRecDepth 20000 in
theorem gX4_cut_X1_length : GoodIn wsX4_cut (wsV RX4 76 RX1 yX1_length wsX1_length) := goodIn_app (goodIn_of _ (by decide +kernel)) ggX4_cut_X1_length
set_option maxRecDepth 20000 in
theorem ggX4_cut_X1_removeLast : GoodIn wsX4_cut wsX1_removeLast := goodIn_r _ [14, 10, 15, 16, 17, 8, 18, 19, 20, 21, 22, 23, 24, 25, 26, 27, 28, 29, 30, 37, 38, 39, 40, 41, 42] (by decide +kernel) (by decide +kernel)
set_option maxRecDepth 20000 in
theorem gX4_cut_X1_removeLast : GoodIn wsX4_cut (wsV RX4 82 RX1 yX1_removeLast wsX1_removeLast) := goodIn_app (goodIn_of _ (by decide +kernel)) ggX4_cut_X1_removeLast
theorem dX4_cut_0 : decode cX4_cut 0 = .ok (.iload_n 1, 1) := by decide +kernel
theorem dX4_cut_1 : decode cX4_cut 1 = .ok (.ifCond .lt 14, 3) := by decide +kernel
theorem dX4_cut_4 : decode cX4_cut 4 = .ok (.iload_n 1, 1) := by decide +kernel
theorem dX4_cut_5 : decode cX4_cut 5 = .ok (.aload_n 0, 1) := by decide +kernel
theorem dX4_cut_6 : decode cX4_cut 6 = .ok (.getfield 12, 3) := by decide +kernel
theorem dX4_cut_9 : decode cX4_cut 9 = .ok (.invokevirtual 76, 3) := by decide +kernel
theorem dX4_cut_12 : decode cX4_cut 12 = .ok (.if_icmp .le 13, 3) := by decide +kernel
theorem dX4_cut_15 : decode cX4_cut 15 = .ok (.new 65, 3) := by decide +kernel
theorem dX4_cut_18 : decode cX4_cut 18 = .ok (.dup, 1) := by decide +kernel
theorem dX4_cut_19 : decode cX4_cut 19 = .ok (.ldc 80, 2) := by decide +kernel
theorem dX4_cut_21 : decode cX4_cut 21 = .ok (.invokespecial 69, 3) := by decide +kernel
theorem dX4_cut_24 : decode cX4_cut 24 = .ok (.athrow, 1) := by decide +kernel
theorem dX4_cut_25 : decode cX4_cut 25 = .ok (.aload_n 0, 1) := by decide +kernel
theorem dX4_cut_26 : decode cX4_cut 26 = .ok (.iconst 0, 1) := by decide +kernel
theorem dX4_cut_27 : decode cX4_cut 27 = .ok (.putfield 39, 3) := by decide +kernel
theorem dX4_cut_30 : decode cX4_cut 30 = .ok (.aload_n 0, 1) := by decide +kernel
theorem dX4_cut_31 : decode cX4_cut 31 = .ok (.getfield 12, 3) := by decide +kernel
theorem dX4_cut_34 : decode cX4_cut 34 = .ok (.iload_n 1, 1) := by decide +kernel
theorem dX4_cut_35 : decode cX4_cut 35 = .ok (.invokevirtual 82, 3) := by decide +kernel
theorem dX4_cut_38 : decode cX4_cut 38 = .ok (.aload_n 0, 1) := by decide +kernel
theorem dX4_cut_39 : decode cX4_cut 39 = .ok (.getfield 12, 3) := by decide +kernel
theorem dX4_cut_42 : decode cX4_cut 42 = .ok (.invokevirtual 76, 3) := by decide +kernel
theorem dX4_cut_45 : decode cX4_cut 45 = .ok (.ireturn, 1) := by decide +kernel
set_option maxRecDepth 20000 in
theorem ggX4_size_X1_length : GoodIn wsX4_size wsX1_length := goodIn_r _ [6, 7, 14, 15, 16, 17, 18, 19] (by decide +kernel) (by decide +kernel)
set_option maxRecDepth 20000 in
theorem gX4_size_X1_length : GoodIn wsX4_size (wsV RX4 76 RX1 yX1_length wsX1_length) := goodIn_app (goodIn_of _ (by decide +kernel)) ggX4_size_X1_length
theorem dX4_size_0 : decode cX4_size 0 = .ok (.aload_n 0, 1) := by decide +kernel
theorem dX4_size_1 : decode cX4_size 1 = .ok (.getfield 12, 3) := by decide +kernel
theorem dX4_size_4 : decode cX4_size 4 = .ok (.invokevirtual 76, 3) := by decide +kernel
theorem dX4_size_7 : decode cX4_size 7 = .ok (.ireturn, 1) := by decide +kernel
set_option maxRecDepth 20000 in
theorem ggX4_kind_X4_refuseNoInstruction : GoodIn wsX4_kind wsX4_refuseNoInstruction := goodIn_ca (goodIn_r _ [6, 7, 8, 1, 9, 10, 11, 12, 13, 14, 21, 22, 23, 24, 25, 26, 27, 28, 29, 30, 31, 32] (by decide +kernel) (by decide +kernel)) (goodIn_sub (fun _ h => List.mem_cons_of_mem _ (List.mem_append_right _ h)) (by decide +kernel))
set_option maxRecDepth 20000 in
theorem gX4_kind_X4_refuseNoInstruction : GoodIn wsX4_kind (wsV RX4 58 RX4 yX4_refuseNoInstruction wsX4_refuseNoInstruction) := goodIn_app (goodIn_of _ (by decide +kernel)) ggX4_kind_X4_refuseNoInstruction
set_option maxRecDepth 20000 in
theorem ggX4_kind_X1_kindOf : GoodIn wsX4_kind wsX1_kindOf := goodIn_r _ [18, 19, 20, 10, 11, 12, 13, 14, 27, 28, 29, 30, 31, 32] (by decide +kernel) (by decide +kernel)
set_option maxRecDepth 20000 in
theorem gX4_kind_X1_kindOf : GoodIn wsX4_kind (wsV RX4 85 RX1 yX1_kindOf wsX1_kindOf) := goodIn_app (goodIn_of _ (by decide +kernel)) ggX4_kind_X1_kindOf
theorem dX4_kind_0 : decode cX4_kind 0 = .ok (.aload_n 0, 1) := by decide +kernel
theorem dX4_kind_1 : decode cX4_kind 1 = .ok (.iload_n 1, 1) := by decide +kernel
theorem dX4_kind_2 : decode cX4_kind 2 = .ok (.invokevirtual 58, 3) := by decide +kernel
theorem dX4_kind_5 : decode cX4_kind 5 = .ok (.aload_n 0, 1) := by decide +kernel
theorem dX4_kind_6 : decode cX4_kind 6 = .ok (.getfield 12, 3) := by decide +kernel
theorem dX4_kind_9 : decode cX4_kind 9 = .ok (.iload_n 1, 1) := by decide +kernel
theorem dX4_kind_10 : decode cX4_kind 10 = .ok (.invokevirtual 85, 3) := by decide +kernel
theorem dX4_kind_13 : decode cX4_kind 13 = .ok (.ireturn, 1) := by decide +kernel
set_option maxRecDepth 20000 in
theorem ggX4_counts_X4_refuseNoInstruction : GoodIn wsX4_counts wsX4_refuseNoInstruction := goodIn_ca (goodIn_r _ [6, 7, 8, 1, 9, 10, 11, 12, 13, 14, 21, 22, 23, 24, 25, 26, 27, 28, 29, 30, 31, 32] (by decide +kernel) (by decide +kernel)) (goodIn_sub (fun _ h => List.mem_cons_of_mem _ (List.mem_append_right _ h)) (by decide +kernel))
set_option maxRecDepth 20000 in
theorem gX4_counts_X4_refuseNoInstruction : GoodIn wsX4_counts (wsV RX4 58 RX4 yX4_refuseNoInstruction wsX4_refuseNoInstruction) := goodIn_app (goodIn_of _ (by decide +kernel)) ggX4_counts_X4_refuseNoInstruction
set_option maxRecDepth 20000 in
theorem ggX4_counts_X1_isCounting : GoodIn wsX4_counts wsX1_isCounting := goodIn_r _ [18, 19, 20, 10, 11, 12, 13, 14, 27, 28, 29, 30, 31, 32] (by decide +kernel) (by decide +kernel)
set_option maxRecDepth 20000 in
theorem gX4_counts_X1_isCounting : GoodIn wsX4_counts (wsV RX4 89 RX1 yX1_isCounting wsX1_isCounting) := goodIn_app (goodIn_of _ (by decide +kernel)) ggX4_counts_X1_isCounting
theorem dX4_counts_0 : decode cX4_counts 0 = .ok (.aload_n 0, 1) := by decide +kernel
theorem dX4_counts_1 : decode cX4_counts 1 = .ok (.iload_n 1, 1) := by decide +kernel
theorem dX4_counts_2 : decode cX4_counts 2 = .ok (.invokevirtual 58, 3) := by decide +kernel
theorem dX4_counts_5 : decode cX4_counts 5 = .ok (.aload_n 0, 1) := by decide +kernel
theorem dX4_counts_6 : decode cX4_counts 6 = .ok (.getfield 12, 3) := by decide +kernel
theorem dX4_counts_9 : decode cX4_counts 9 = .ok (.iload_n 1, 1) := by decide +kernel
theorem dX4_counts_10 : decode cX4_counts 10 = .ok (.invokevirtual 89, 3) := by decide +kernel
theorem dX4_counts_13 : decode cX4_counts 13 = .ok (.ireturn, 1) := by decide +kernel
set_option maxRecDepth 20000 in
theorem ggX4_nextUse_X4_refuseNoInstruction : GoodIn wsX4_nextUse wsX4_refuseNoInstruction := goodIn_ca (goodIn_r _ [6, 7, 8, 1, 9, 10, 11, 12, 13, 14, 27, 28, 29, 30, 31, 32, 33, 34, 35, 36, 37, 38] (by decide +kernel) (by decide +kernel)) (goodIn_sub (fun _ h => List.mem_cons_of_mem _ (List.mem_append_right _ h)) (by decide +kernel))
set_option maxRecDepth 20000 in
theorem gX4_nextUse_X4_refuseNoInstruction : GoodIn wsX4_nextUse (wsV RX4 58 RX4 yX4_refuseNoInstruction wsX4_refuseNoInstruction) := goodIn_app (goodIn_of _ (by decide +kernel)) ggX4_nextUse_X4_refuseNoInstruction
set_option maxRecDepth 20000 in
theorem ggX4_nextUse_X1_firstUse : GoodIn wsX4_nextUse wsX1_firstUse := goodIn_r _ [18, 19, 20, 21, 22, 14, 23, 24, 25, 26, 10, 11, 12, 13, 33, 34, 35, 36, 37, 38] (by decide +kernel) (by decide +kernel)
set_option maxRecDepth 20000 in
theorem gX4_nextUse_X1_firstUse : GoodIn wsX4_nextUse (wsV RX4 92 RX1 yX1_firstUse wsX1_firstUse) := goodIn_app (goodIn_of _ (by decide +kernel)) ggX4_nextUse_X1_firstUse
theorem dX4_nextUse_0 : decode cX4_nextUse 0 = .ok (.aload_n 0, 1) := by decide +kernel
theorem dX4_nextUse_1 : decode cX4_nextUse 1 = .ok (.iload_n 1, 1) := by decide +kernel
theorem dX4_nextUse_2 : decode cX4_nextUse 2 = .ok (.invokevirtual 58, 3) := by decide +kernel
theorem dX4_nextUse_5 : decode cX4_nextUse 5 = .ok (.aload_n 0, 1) := by decide +kernel
theorem dX4_nextUse_6 : decode cX4_nextUse 6 = .ok (.getfield 12, 3) := by decide +kernel
theorem dX4_nextUse_9 : decode cX4_nextUse 9 = .ok (.iload_n 1, 1) := by decide +kernel
theorem dX4_nextUse_10 : decode cX4_nextUse 10 = .ok (.iload_n 2, 1) := by decide +kernel
theorem dX4_nextUse_11 : decode cX4_nextUse 11 = .ok (.invokevirtual 92, 3) := by decide +kernel
theorem dX4_nextUse_14 : decode cX4_nextUse 14 = .ok (.ireturn, 1) := by decide +kernel
set_option maxRecDepth 20000 in
theorem ggX4_pressure_X4_refuseNoInstruction : GoodIn wsX4_pressure wsX4_refuseNoInstruction := goodIn_ca (goodIn_r _ [6, 7, 8, 1, 9, 10, 11, 12, 13, 14, 31, 32, 33, 34, 35, 36, 37, 38, 39, 40, 41, 42] (by decide +kernel) (by decide +kernel)) (goodIn_sub (fun _ h => List.mem_cons_of_mem _ (List.mem_append_right _ h)) (by decide +kernel))
set_option maxRecDepth 20000 in
theorem gX4_pressure_X4_refuseNoInstruction : GoodIn wsX4_pressure (wsV RX4 58 RX4 yX4_refuseNoInstruction wsX4_refuseNoInstruction) := goodIn_app (goodIn_of _ (by decide +kernel)) ggX4_pressure_X4_refuseNoInstruction
set_option maxRecDepth 20000 in
theorem ggX4_pressure_X1_aliveBehind : GoodIn wsX4_pressure wsX1_aliveBehind := goodIn_r _ [18, 19, 10, 11, 12, 13, 14, 20, 21, 22, 23, 24, 25, 26, 27, 28, 29, 30, 37, 38, 39, 40, 41, 42] (by decide +kernel) (by decide +kernel)
set_option maxRecDepth 20000 in
theorem gX4_pressure_X1_aliveBehind : GoodIn wsX4_pressure (wsV RX4 95 RX1 yX1_aliveBehind wsX1_aliveBehind) := goodIn_app (goodIn_of _ (by decide +kernel)) ggX4_pressure_X1_aliveBehind
theorem dX4_pressure_0 : decode cX4_pressure 0 = .ok (.aload_n 0, 1) := by decide +kernel
theorem dX4_pressure_1 : decode cX4_pressure 1 = .ok (.iload_n 1, 1) := by decide +kernel
theorem dX4_pressure_2 : decode cX4_pressure 2 = .ok (.invokevirtual 58, 3) := by decide +kernel
theorem dX4_pressure_5 : decode cX4_pressure 5 = .ok (.aload_n 0, 1) := by decide +kernel
theorem dX4_pressure_6 : decode cX4_pressure 6 = .ok (.getfield 12, 3) := by decide +kernel
theorem dX4_pressure_9 : decode cX4_pressure 9 = .ok (.iload_n 1, 1) := by decide +kernel
theorem dX4_pressure_10 : decode cX4_pressure 10 = .ok (.invokevirtual 95, 3) := by decide +kernel
theorem dX4_pressure_13 : decode cX4_pressure 13 = .ok (.ireturn, 1) := by decide +kernel
theorem dX4_setRegisters_0 : decode cX4_setRegisters 0 = .ok (.iload_n 1, 1) := by decide +kernel
theorem dX4_setRegisters_1 : decode cX4_setRegisters 1 = .ok (.iconst 2, 1) := by decide +kernel
theorem dX4_setRegisters_2 : decode cX4_setRegisters 2 = .ok (.if_icmp .lt 9, 3) := by decide +kernel
theorem dX4_setRegisters_5 : decode cX4_setRegisters 5 = .ok (.iload_n 1, 1) := by decide +kernel
theorem dX4_setRegisters_6 : decode cX4_setRegisters 6 = .ok (.bipush 8, 2) := by decide +kernel
theorem dX4_setRegisters_8 : decode cX4_setRegisters 8 = .ok (.if_icmp .le 13, 3) := by decide +kernel
theorem dX4_setRegisters_11 : decode cX4_setRegisters 11 = .ok (.new 65, 3) := by decide +kernel
theorem dX4_setRegisters_14 : decode cX4_setRegisters 14 = .ok (.dup, 1) := by decide +kernel
theorem dX4_setRegisters_15 : decode cX4_setRegisters 15 = .ok (.ldc 98, 2) := by decide +kernel
theorem dX4_setRegisters_17 : decode cX4_setRegisters 17 = .ok (.invokespecial 69, 3) := by decide +kernel
theorem dX4_setRegisters_20 : decode cX4_setRegisters 20 = .ok (.athrow, 1) := by decide +kernel
theorem dX4_setRegisters_21 : decode cX4_setRegisters 21 = .ok (.aload_n 0, 1) := by decide +kernel
theorem dX4_setRegisters_22 : decode cX4_setRegisters 22 = .ok (.getfield 35, 3) := by decide +kernel
theorem dX4_setRegisters_25 : decode cX4_setRegisters 25 = .ok (.istore_n 2, 1) := by decide +kernel
theorem dX4_setRegisters_26 : decode cX4_setRegisters 26 = .ok (.aload_n 0, 1) := by decide +kernel
theorem dX4_setRegisters_27 : decode cX4_setRegisters 27 = .ok (.iload_n 1, 1) := by decide +kernel
theorem dX4_setRegisters_28 : decode cX4_setRegisters 28 = .ok (.putfield 35, 3) := by decide +kernel
theorem dX4_setRegisters_31 : decode cX4_setRegisters 31 = .ok (.aload_n 0, 1) := by decide +kernel
theorem dX4_setRegisters_32 : decode cX4_setRegisters 32 = .ok (.iconst 0, 1) := by decide +kernel
theorem dX4_setRegisters_33 : decode cX4_setRegisters 33 = .ok (.putfield 39, 3) := by decide +kernel
theorem dX4_setRegisters_36 : decode cX4_setRegisters 36 = .ok (.iload_n 2, 1) := by decide +kernel
theorem dX4_setRegisters_37 : decode cX4_setRegisters 37 = .ok (.ireturn, 1) := by decide +kernel
set_option maxRecDepth 20000 in
theorem ggX4_allocate_X0_make : GoodIn wsX4_allocate wsX0_make := goodIn_r _ [8, 9, 10, 11, 12, 7, 13, 14, 15, 16, 17, 18, 19, 20, 21, 22, 23, 24, 25, 26, 27, 28, 29, 30, 31, 32, 33, 34, 35, 36, 37, 38, 39, 40, 41, 42, 43, 44, 45, 46, 47, 48, 49, 50, 51, 52, 53, 54, 55, 56, 57, 58, 59, 60, 61, 62, 63, 64, 65, 66, 67, 68, 69, 70, 71, 72, 73, 74, 75, 76, 77, 78, 79, 80, 81, 82, 83, 84, 85, 86, 87, 88, 89, 90, 91, 92, 93, 94, 95, 96, 97, 98, 99, 100, 101, 102, 103, 104, 105, 106, 107, 108, 109, 110, 111, 112, 113, 114, 115, 116, 117, 118, 119, 120, 121, 122, 123, 124, 125, 126, 127, 128, 129, 130, 131, 132, 133, 134, 135, 136, 137, 138, 139, 140, 141, 142, 143, 144, 145, 146, 147, 148, 149, 150, 151, 152, 153, 154, 155, 156, 157, 158, 159, 160, 161, 162, 163, 164, 165, 166, 167, 168, 169, 170, 171, 172, 173, 174, 175, 176, 177, 192, 193, 194, 195, 196, 197, 198, 199, 200, 201, 202, 203, 204, 205, 206, 207, 208, 209, 210, 211] (by decide +kernel) (by decide +kernel)
set_option maxRecDepth 20000 in
theorem gX4_allocate_X0_make : GoodIn wsX4_allocate (wsV RX4 100 RX0 yX0_make wsX0_make) := goodIn_app (goodIn_of _ (by decide +kernel)) ggX4_allocate_X0_make
set_option maxRecDepth 20000 in
theorem ggX4_allocate_X0_steps : GoodIn wsX4_allocate wsX0_steps := goodIn_r _ [181, 14, 192, 193, 194, 195, 196, 197, 198, 199, 200, 201, 202] (by decide +kernel) (by decide +kernel)
set_option maxRecDepth 20000 in
theorem gX4_allocate_X0_steps : GoodIn wsX4_allocate (wsV RX4 103 RX0 yX0_steps wsX0_steps) := goodIn_app (goodIn_of _ (by decide +kernel)) ggX4_allocate_X0_steps
set_option maxRecDepth 20000 in
theorem ggX4_allocate_X3_length : GoodIn wsX4_allocate wsX3_length := goodIn_r _ [185, 36, 203, 204, 205] (by decide +kernel) (by decide +kernel)
set_option maxRecDepth 20000 in
theorem gX4_allocate_X3_length : GoodIn wsX4_allocate (wsV RX4 107 RX3 yX3_length wsX3_length) := goodIn_app (goodIn_of _ (by decide +kernel)) ggX4_allocate_X3_length
theorem dX4_allocate_0 : decode cX4_allocate 0 = .ok (.aload_n 0, 1) := by decide +kernel
theorem dX4_allocate_1 : decode cX4_allocate 1 = .ok (.getfield 21, 3) := by decide +kernel
theorem dX4_allocate_4 : decode cX4_allocate 4 = .ok (.aload_n 0, 1) := by decide +kernel
theorem dX4_allocate_5 : decode cX4_allocate 5 = .ok (.getfield 35, 3) := by decide +kernel
theorem dX4_allocate_8 : decode cX4_allocate 8 = .ok (.invokevirtual 100, 3) := by decide +kernel
theorem dX4_allocate_11 : decode cX4_allocate 11 = .ok (.aload_n 0, 1) := by decide +kernel
theorem dX4_allocate_12 : decode cX4_allocate 12 = .ok (.iconst 1, 1) := by decide +kernel
theorem dX4_allocate_13 : decode cX4_allocate 13 = .ok (.putfield 39, 3) := by decide +kernel
theorem dX4_allocate_16 : decode cX4_allocate 16 = .ok (.aload_n 0, 1) := by decide +kernel
theorem dX4_allocate_17 : decode cX4_allocate 17 = .ok (.getfield 21, 3) := by decide +kernel
theorem dX4_allocate_20 : decode cX4_allocate 20 = .ok (.invokevirtual 103, 3) := by decide +kernel
theorem dX4_allocate_23 : decode cX4_allocate 23 = .ok (.invokevirtual 107, 3) := by decide +kernel
theorem dX4_allocate_26 : decode cX4_allocate 26 = .ok (.ireturn, 1) := by decide +kernel
theorem dX4_isAllocated_0 : decode cX4_isAllocated 0 = .ok (.aload_n 0, 1) := by decide +kernel
theorem dX4_isAllocated_1 : decode cX4_isAllocated 1 = .ok (.getfield 39, 3) := by decide +kernel
theorem dX4_isAllocated_4 : decode cX4_isAllocated 4 = .ok (.ireturn, 1) := by decide +kernel
set_option maxRecDepth 20000 in
theorem ggX4_step_X4_refuseNoAllocation : GoodIn wsX4_step wsX4_refuseNoAllocation := goodIn_ca (goodIn_r _ [6, 7, 8, 9, 33, 34, 35, 36, 37, 38] (by decide +kernel) (by decide +kernel)) (goodIn_sub (fun _ h => List.mem_cons_of_mem _ (List.mem_append_left _ (List.mem_append_right _ h))) (by decide +kernel))
set_option maxRecDepth 20000 in
theorem gX4_step_X4_refuseNoAllocation : GoodIn wsX4_step (wsV RX4 110 RX4 yX4_refuseNoAllocation wsX4_refuseNoAllocation) := goodIn_app (goodIn_of _ (by decide +kernel)) ggX4_step_X4_refuseNoAllocation
set_option maxRecDepth 20000 in
theorem ggX4_step_X0_steps : GoodIn wsX4_step wsX0_steps := goodIn_r _ [14, 15, 39, 40, 41, 42, 43, 44, 45, 46, 47, 48, 49] (by decide +kernel) (by decide +kernel)
set_option maxRecDepth 20000 in
theorem gX4_step_X0_steps : GoodIn wsX4_step (wsV RX4 103 RX0 yX0_steps wsX0_steps) := goodIn_app (goodIn_of _ (by decide +kernel)) ggX4_step_X0_steps
set_option maxRecDepth 20000 in
theorem ggX4_step_X4_numberIn : GoodIn wsX4_step wsX4_numberIn := goodIn_ca (goodIn_r _ [18, 19, 20, 21, 22, 23, 24, 25, 26, 27, 28, 29, 30, 31, 32, 50, 51, 52] (by decide +kernel) (by decide +kernel)) (goodIn_sub (fun _ h => List.mem_cons_of_mem _ (List.mem_append_right _ h)) (by decide +kernel))
set_option maxRecDepth 20000 in
theorem gX4_step_X4_numberIn : GoodIn wsX4_step (va_wsS RX4 113 yX4_numberIn wsX4_numberIn) := goodIn_app (goodIn_of _ (by decide +kernel)) ggX4_step_X4_numberIn
theorem dX4_step_0 : decode cX4_step 0 = .ok (.aload_n 0, 1) := by decide +kernel
theorem dX4_step_1 : decode cX4_step 1 = .ok (.invokevirtual 110, 3) := by decide +kernel
theorem dX4_step_4 : decode cX4_step 4 = .ok (.aload_n 0, 1) := by decide +kernel
theorem dX4_step_5 : decode cX4_step 5 = .ok (.getfield 21, 3) := by decide +kernel
theorem dX4_step_8 : decode cX4_step 8 = .ok (.invokevirtual 103, 3) := by decide +kernel
theorem dX4_step_11 : decode cX4_step 11 = .ok (.iload_n 1, 1) := by decide +kernel
theorem dX4_step_12 : decode cX4_step 12 = .ok (.iload_n 2, 1) := by decide +kernel
theorem dX4_step_13 : decode cX4_step 13 = .ok (.invokestatic 113, 3) := by decide +kernel
theorem dX4_step_16 : decode cX4_step 16 = .ok (.ireturn, 1) := by decide +kernel
set_option maxRecDepth 20000 in
theorem ggX4_stepCount_X4_refuseNoAllocation : GoodIn wsX4_stepCount wsX4_refuseNoAllocation := goodIn_ca (goodIn_r _ [8, 9, 10, 11, 33, 34, 35, 36, 37, 38] (by decide +kernel) (by decide +kernel)) (goodIn_sub (fun _ h => List.mem_cons_of_mem _ (List.mem_append_right _ h)) (by decide +kernel))
set_option maxRecDepth 20000 in
theorem gX4_stepCount_X4_refuseNoAllocation : GoodIn wsX4_stepCount (wsV RX4 110 RX4 yX4_refuseNoAllocation wsX4_refuseNoAllocation) := goodIn_app (goodIn_of _ (by decide +kernel)) ggX4_stepCount_X4_refuseNoAllocation
set_option maxRecDepth 20000 in
theorem ggX4_stepCount_X0_steps : GoodIn wsX4_stepCount wsX0_steps := goodIn_r _ [16, 17, 39, 40, 41, 42, 43, 44, 45, 46, 47, 48, 49] (by decide +kernel) (by decide +kernel)
set_option maxRecDepth 20000 in
theorem gX4_stepCount_X0_steps : GoodIn wsX4_stepCount (wsV RX4 103 RX0 yX0_steps wsX0_steps) := goodIn_app (goodIn_of _ (by decide +kernel)) ggX4_stepCount_X0_steps
set_option maxRecDepth 20000 in
theorem ggX4_stepCount_X3_countOfFirst : GoodIn wsX4_stepCount wsX3_countOfFirst := goodIn_r _ [22, 23, 24, 25, 26, 21, 27, 28, 29, 30, 31, 32, 50, 51, 52] (by decide +kernel) (by decide +kernel)
set_option maxRecDepth 20000 in
theorem gX4_stepCount_X3_countOfFirst : GoodIn wsX4_stepCount (wsV RX4 122 RX3 yX3_countOfFirst wsX3_countOfFirst) := goodIn_app (goodIn_of _ (by decide +kernel)) ggX4_stepCount_X3_countOfFirst
theorem dX4_stepCount_0 : decode cX4_stepCount 0 = .ok (.aload_n 0, 1) := by decide +kernel
theorem dX4_stepCount_1 : decode cX4_stepCount 1 = .ok (.invokevirtual 110, 3) := by decide +kernel
theorem dX4_stepCount_4 : decode cX4_stepCount 4 = .ok (.iload_n 1, 1) := by decide +kernel
theorem dX4_stepCount_5 : decode cX4_stepCount 5 = .ok (.ifCond .lt 9, 3) := by decide +kernel
theorem dX4_stepCount_8 : decode cX4_stepCount 8 = .ok (.iload_n 1, 1) := by decide +kernel
theorem dX4_stepCount_9 : decode cX4_stepCount 9 = .ok (.bipush 8, 2) := by decide +kernel
theorem dX4_stepCount_11 : decode cX4_stepCount 11 = .ok (.if_icmp .le 13, 3) := by decide +kernel
theorem dX4_stepCount_14 : decode cX4_stepCount 14 = .ok (.new 117, 3) := by decide +kernel
theorem dX4_stepCount_17 : decode cX4_stepCount 17 = .ok (.dup, 1) := by decide +kernel
theorem dX4_stepCount_18 : decode cX4_stepCount 18 = .ok (.ldc 119, 2) := by decide +kernel
theorem dX4_stepCount_20 : decode cX4_stepCount 20 = .ok (.invokespecial 121, 3) := by decide +kernel
theorem dX4_stepCount_23 : decode cX4_stepCount 23 = .ok (.athrow, 1) := by decide +kernel
theorem dX4_stepCount_24 : decode cX4_stepCount 24 = .ok (.aload_n 0, 1) := by decide +kernel
theorem dX4_stepCount_25 : decode cX4_stepCount 25 = .ok (.getfield 21, 3) := by decide +kernel
theorem dX4_stepCount_28 : decode cX4_stepCount 28 = .ok (.invokevirtual 103, 3) := by decide +kernel
theorem dX4_stepCount_31 : decode cX4_stepCount 31 = .ok (.iload_n 1, 1) := by decide +kernel
theorem dX4_stepCount_32 : decode cX4_stepCount 32 = .ok (.invokevirtual 122, 3) := by decide +kernel
theorem dX4_stepCount_35 : decode cX4_stepCount 35 = .ok (.ireturn, 1) := by decide +kernel
set_option maxRecDepth 20000 in
theorem ggX4_slots_X4_refuseNoAllocation : GoodIn wsX4_slots wsX4_refuseNoAllocation := goodIn_ca (goodIn_r _ [6, 7, 8, 9, 16, 17, 18, 19, 20, 21] (by decide +kernel) (by decide +kernel)) (goodIn_sub (fun _ h => List.mem_cons_of_mem _ (List.mem_append_right _ h)) (by decide +kernel))
set_option maxRecDepth 20000 in
theorem gX4_slots_X4_refuseNoAllocation : GoodIn wsX4_slots (wsV RX4 110 RX4 yX4_refuseNoAllocation wsX4_refuseNoAllocation) := goodIn_app (goodIn_of _ (by decide +kernel)) ggX4_slots_X4_refuseNoAllocation
set_option maxRecDepth 20000 in
theorem ggX4_slots_X0_slotCount : GoodIn wsX4_slots wsX0_slotCount := goodIn_r _ [14, 15, 22, 23, 24, 25, 26, 27, 28, 29, 30, 31, 32] (by decide +kernel) (by decide +kernel)
set_option maxRecDepth 20000 in
theorem gX4_slots_X0_slotCount : GoodIn wsX4_slots (wsV RX4 125 RX0 yX0_slotCount wsX0_slotCount) := goodIn_app (goodIn_of _ (by decide +kernel)) ggX4_slots_X0_slotCount
theorem dX4_slots_0 : decode cX4_slots 0 = .ok (.aload_n 0, 1) := by decide +kernel
theorem dX4_slots_1 : decode cX4_slots 1 = .ok (.invokevirtual 110, 3) := by decide +kernel
theorem dX4_slots_4 : decode cX4_slots 4 = .ok (.aload_n 0, 1) := by decide +kernel
theorem dX4_slots_5 : decode cX4_slots 5 = .ok (.getfield 21, 3) := by decide +kernel
theorem dX4_slots_8 : decode cX4_slots 8 = .ok (.invokevirtual 125, 3) := by decide +kernel
theorem dX4_slots_11 : decode cX4_slots 11 = .ok (.ireturn, 1) := by decide +kernel
set_option maxRecDepth 20000 in
theorem ggX4_pieceCount_X4_refuseNoAllocation : GoodIn wsX4_pieceCount wsX4_refuseNoAllocation := goodIn_ca (goodIn_r _ [6, 7, 8, 9, 22, 23, 24, 25, 26, 27] (by decide +kernel) (by decide +kernel)) (goodIn_sub (fun _ h => List.mem_cons_of_mem _ (List.mem_append_right _ h)) (by decide +kernel))
set_option maxRecDepth 20000 in
theorem gX4_pieceCount_X4_refuseNoAllocation : GoodIn wsX4_pieceCount (wsV RX4 110 RX4 yX4_refuseNoAllocation wsX4_refuseNoAllocation) := goodIn_app (goodIn_of _ (by decide +kernel)) ggX4_pieceCount_X4_refuseNoAllocation
set_option maxRecDepth 20000 in
theorem ggX4_pieceCount_X0_pieces : GoodIn wsX4_pieceCount wsX0_pieces := goodIn_r _ [14, 15, 28, 29, 30, 31, 32, 33, 34, 35, 36, 37, 38] (by decide +kernel) (by decide +kernel)
set_option maxRecDepth 20000 in
theorem gX4_pieceCount_X0_pieces : GoodIn wsX4_pieceCount (wsV RX4 128 RX0 yX0_pieces wsX0_pieces) := goodIn_app (goodIn_of _ (by decide +kernel)) ggX4_pieceCount_X0_pieces
set_option maxRecDepth 20000 in
theorem ggX4_pieceCount_X3_length : GoodIn wsX4_pieceCount wsX3_length := goodIn_r _ [20, 21, 39, 40, 41] (by decide +kernel) (by decide +kernel)
set_option maxRecDepth 20000 in
theorem gX4_pieceCount_X3_length : GoodIn wsX4_pieceCount (wsV RX4 107 RX3 yX3_length wsX3_length) := goodIn_app (goodIn_of _ (by decide +kernel)) ggX4_pieceCount_X3_length
theorem dX4_pieceCount_0 : decode cX4_pieceCount 0 = .ok (.aload_n 0, 1) := by decide +kernel
theorem dX4_pieceCount_1 : decode cX4_pieceCount 1 = .ok (.invokevirtual 110, 3) := by decide +kernel
theorem dX4_pieceCount_4 : decode cX4_pieceCount 4 = .ok (.aload_n 0, 1) := by decide +kernel
theorem dX4_pieceCount_5 : decode cX4_pieceCount 5 = .ok (.getfield 21, 3) := by decide +kernel
theorem dX4_pieceCount_8 : decode cX4_pieceCount 8 = .ok (.invokevirtual 128, 3) := by decide +kernel
theorem dX4_pieceCount_11 : decode cX4_pieceCount 11 = .ok (.invokevirtual 107, 3) := by decide +kernel
theorem dX4_pieceCount_14 : decode cX4_pieceCount 14 = .ok (.ireturn, 1) := by decide +kernel
set_option maxRecDepth 20000 in
theorem ggX4_piece_X4_refuseNoAllocation : GoodIn wsX4_piece wsX4_refuseNoAllocation := goodIn_ca (goodIn_r _ [6, 7, 8, 9, 33, 34, 35, 36, 37, 38] (by decide +kernel) (by decide +kernel)) (goodIn_sub (fun _ h => List.mem_cons_of_mem _ (List.mem_append_left _ (List.mem_append_right _ h))) (by decide +kernel))
set_option maxRecDepth 20000 in
theorem gX4_piece_X4_refuseNoAllocation : GoodIn wsX4_piece (wsV RX4 110 RX4 yX4_refuseNoAllocation wsX4_refuseNoAllocation) := goodIn_app (goodIn_of _ (by decide +kernel)) ggX4_piece_X4_refuseNoAllocation
set_option maxRecDepth 20000 in
theorem ggX4_piece_X0_pieces : GoodIn wsX4_piece wsX0_pieces := goodIn_r _ [14, 15, 39, 40, 41, 42, 43, 44, 45, 46, 47, 48, 49] (by decide +kernel) (by decide +kernel)
set_option maxRecDepth 20000 in
theorem gX4_piece_X0_pieces : GoodIn wsX4_piece (wsV RX4 128 RX0 yX0_pieces wsX0_pieces) := goodIn_app (goodIn_of _ (by decide +kernel)) ggX4_piece_X0_pieces
set_option maxRecDepth 20000 in
theorem ggX4_piece_X4_numberIn : GoodIn wsX4_piece wsX4_numberIn := goodIn_ca (goodIn_r _ [18, 19, 20, 21, 22, 23, 24, 25, 26, 27, 28, 29, 30, 31, 32, 50, 51, 52] (by decide +kernel) (by decide +kernel)) (goodIn_sub (fun _ h => List.mem_cons_of_mem _ (List.mem_append_right _ h)) (by decide +kernel))
set_option maxRecDepth 20000 in
theorem gX4_piece_X4_numberIn : GoodIn wsX4_piece (va_wsS RX4 113 yX4_numberIn wsX4_numberIn) := goodIn_app (goodIn_of _ (by decide +kernel)) ggX4_piece_X4_numberIn
theorem dX4_piece_0 : decode cX4_piece 0 = .ok (.aload_n 0, 1) := by decide +kernel
theorem dX4_piece_1 : decode cX4_piece 1 = .ok (.invokevirtual 110, 3) := by decide +kernel
theorem dX4_piece_4 : decode cX4_piece 4 = .ok (.aload_n 0, 1) := by decide +kernel
theorem dX4_piece_5 : decode cX4_piece 5 = .ok (.getfield 21, 3) := by decide +kernel
theorem dX4_piece_8 : decode cX4_piece 8 = .ok (.invokevirtual 128, 3) := by decide +kernel
theorem dX4_piece_11 : decode cX4_piece 11 = .ok (.iload_n 1, 1) := by decide +kernel
theorem dX4_piece_12 : decode cX4_piece 12 = .ok (.iload_n 2, 1) := by decide +kernel
theorem dX4_piece_13 : decode cX4_piece 13 = .ok (.invokestatic 113, 3) := by decide +kernel
theorem dX4_piece_16 : decode cX4_piece 16 = .ok (.ireturn, 1) := by decide +kernel
set_option maxRecDepth 20000 in
theorem ggX4_comfortable_X0_make : GoodIn wsX4_comfortable wsX0_make := goodIn_r _ [6, 7, 8, 9, 10, 5, 11, 12, 13, 14, 15, 16, 17, 18, 19, 20, 21, 22, 23, 24, 25, 26, 27, 28, 29, 30, 31, 32, 33, 34, 35, 36, 37, 38, 39, 40, 41, 42, 43, 44, 45, 46, 47, 48, 49, 50, 51, 52, 53, 54, 55, 56, 57, 58, 59, 60, 61, 62, 63, 64, 65, 66, 67, 68, 69, 70, 71, 72, 73, 74, 75, 76, 77, 78, 79, 80, 81, 82, 83, 84, 85, 86, 87, 88, 89, 90, 91, 92, 93, 94, 95, 96, 97, 98, 99, 100, 101, 102, 103, 104, 105, 106, 107, 108, 109, 110, 111, 112, 113, 114, 115, 116, 117, 118, 119, 120, 121, 122, 123, 124, 125, 126, 127, 128, 129, 130, 131, 132, 133, 134, 135, 136, 137, 138, 139, 140, 141, 142, 143, 144, 145, 146, 147, 148, 149, 150, 151, 152, 153, 154, 155, 156, 157, 158, 159, 160, 161, 162, 163, 164, 165, 166, 167, 168, 169, 170, 171, 172, 173, 174, 175, 194, 195, 196, 197, 198, 199, 200, 201, 202, 203, 204, 205, 206, 207, 208, 209, 210, 211, 212, 213] (by decide +kernel) (by decide +kernel)
set_option maxRecDepth 20000 in
theorem gX4_comfortable_X0_make : GoodIn wsX4_comfortable (wsV RX4 100 RX0 yX0_make wsX0_make) := goodIn_app (goodIn_of _ (by decide +kernel)) ggX4_comfortable_X0_make
set_option maxRecDepth 20000 in
theorem ggX4_comfortable_X0_usesSlots : GoodIn wsX4_comfortable wsX0_usesSlots := goodIn_r _ [179, 12, 180, 181, 182, 32, 183, 34, 184, 185, 186, 187, 118, 123, 124, 125, 126, 194, 195, 196, 197, 198, 199, 200, 201, 202, 203, 204, 205, 206, 207] (by decide +kernel) (by decide +kernel)
set_option maxRecDepth 20000 in
theorem gX4_comfortable_X0_usesSlots : GoodIn wsX4_comfortable (wsV RX4 131 RX0 yX0_usesSlots wsX0_usesSlots) := goodIn_app (goodIn_of _ (by decide +kernel)) ggX4_comfortable_X0_usesSlots
theorem dX4_comfortable_0 : decode cX4_comfortable 0 = .ok (.iconst 2, 1) := by decide +kernel
theorem dX4_comfortable_1 : decode cX4_comfortable 1 = .ok (.istore_n 1, 1) := by decide +kernel
theorem dX4_comfortable_2 : decode cX4_comfortable 2 = .ok (.iload_n 1, 1) := by decide +kernel
theorem dX4_comfortable_3 : decode cX4_comfortable 3 = .ok (.bipush 8, 2) := by decide +kernel
theorem dX4_comfortable_5 : decode cX4_comfortable 5 = .ok (.if_icmp .gt 29, 3) := by decide +kernel
theorem dX4_comfortable_8 : decode cX4_comfortable 8 = .ok (.aload_n 0, 1) := by decide +kernel
theorem dX4_comfortable_9 : decode cX4_comfortable 9 = .ok (.getfield 25, 3) := by decide +kernel
theorem dX4_comfortable_12 : decode cX4_comfortable 12 = .ok (.iload_n 1, 1) := by decide +kernel
theorem dX4_comfortable_13 : decode cX4_comfortable 13 = .ok (.invokevirtual 100, 3) := by decide +kernel
theorem dX4_comfortable_16 : decode cX4_comfortable 16 = .ok (.aload_n 0, 1) := by decide +kernel
theorem dX4_comfortable_17 : decode cX4_comfortable 17 = .ok (.getfield 25, 3) := by decide +kernel
theorem dX4_comfortable_20 : decode cX4_comfortable 20 = .ok (.invokevirtual 131, 3) := by decide +kernel
theorem dX4_comfortable_23 : decode cX4_comfortable 23 = .ok (.ifCond .ne 5, 3) := by decide +kernel
theorem dX4_comfortable_26 : decode cX4_comfortable 26 = .ok (.iload_n 1, 1) := by decide +kernel
theorem dX4_comfortable_27 : decode cX4_comfortable 27 = .ok (.ireturn, 1) := by decide +kernel
theorem dX4_comfortable_28 : decode cX4_comfortable 28 = .ok (.iinc 1 1, 3) := by decide +kernel
theorem dX4_comfortable_31 : decode cX4_comfortable 31 = .ok (.goto (-29), 3) := by decide +kernel
theorem dX4_comfortable_34 : decode cX4_comfortable 34 = .ok (.iconst (-1), 1) := by decide +kernel
theorem dX4_comfortable_35 : decode cX4_comfortable 35 = .ok (.ireturn, 1) := by decide +kernel
set_option maxRecDepth 20000 in
theorem ggX4_run_X4_refuseNoAllocation : GoodIn wsX4_run wsX4_refuseNoAllocation := goodIn_ca (goodIn_r _ [7, 8, 9, 10, 72, 73, 74, 75, 76, 77] (by decide +kernel) (by decide +kernel)) (goodIn_sub (fun _ h => List.mem_cons_of_mem _ (List.mem_append_right _ h)) (by decide +kernel))
set_option maxRecDepth 20000 in
theorem gX4_run_X4_refuseNoAllocation : GoodIn wsX4_run (wsV RX4 110 RX4 yX4_refuseNoAllocation wsX4_refuseNoAllocation) := goodIn_app (goodIn_of _ (by decide +kernel)) ggX4_run_X4_refuseNoAllocation
set_option maxRecDepth 20000 in
theorem ggX4_run_X0_steps : GoodIn wsX4_run wsX0_steps := goodIn_r _ [15, 16, 78, 79, 80, 81, 82, 83, 84, 85, 86, 87, 88] (by decide +kernel) (by decide +kernel)
set_option maxRecDepth 20000 in
theorem gX4_run_X0_steps : GoodIn wsX4_run (wsV RX4 103 RX0 yX0_steps wsX0_steps) := goodIn_app (goodIn_of _ (by decide +kernel)) ggX4_run_X0_steps
set_option maxRecDepth 20000 in
theorem ggX4_run_X2_execute : GoodIn wsX4_run wsX2_execute := goodIn_r _ [21, 22, 23, 24, 25, 26, 27, 28, 29, 30, 31, 32, 33, 34, 35, 36, 37, 38, 39, 40, 41, 42, 20, 43, 44, 45, 46, 47, 48, 49, 50, 51, 52, 53, 54, 55, 56, 57, 58, 59, 60, 61, 62, 63, 64, 65, 66, 67, 89, 90, 91, 92, 93, 94, 95] (by decide +kernel) (by decide +kernel)
set_option maxRecDepth 20000 in
theorem gX4_run_X2_execute : GoodIn wsX4_run (wsV RX4 135 RX2 yX2_execute wsX2_execute) := goodIn_app (goodIn_of _ (by decide +kernel)) ggX4_run_X2_execute
set_option maxRecDepth 20000 in
theorem ggX4_run_X2_outputCount : GoodIn wsX4_run wsX2_outputCount := goodIn_r _ [71, 24, 89, 90, 91, 92] (by decide +kernel) (by decide +kernel)
set_option maxRecDepth 20000 in
theorem gX4_run_X2_outputCount : GoodIn wsX4_run (wsV RX4 139 RX2 yX2_outputCount wsX2_outputCount) := goodIn_app (goodIn_of _ (by decide +kernel)) ggX4_run_X2_outputCount
theorem dX4_run_0 : decode cX4_run 0 = .ok (.aload_n 0, 1) := by decide +kernel
theorem dX4_run_1 : decode cX4_run 1 = .ok (.invokevirtual 110, 3) := by decide +kernel
theorem dX4_run_4 : decode cX4_run 4 = .ok (.aload_n 0, 1) := by decide +kernel
theorem dX4_run_5 : decode cX4_run 5 = .ok (.getfield 31, 3) := by decide +kernel
theorem dX4_run_8 : decode cX4_run 8 = .ok (.aload_n 0, 1) := by decide +kernel
theorem dX4_run_9 : decode cX4_run 9 = .ok (.getfield 21, 3) := by decide +kernel
theorem dX4_run_12 : decode cX4_run 12 = .ok (.invokevirtual 103, 3) := by decide +kernel
theorem dX4_run_15 : decode cX4_run 15 = .ok (.invokevirtual 135, 3) := by decide +kernel
theorem dX4_run_18 : decode cX4_run 18 = .ok (.aload_n 0, 1) := by decide +kernel
theorem dX4_run_19 : decode cX4_run 19 = .ok (.getfield 31, 3) := by decide +kernel
theorem dX4_run_22 : decode cX4_run 22 = .ok (.invokevirtual 139, 3) := by decide +kernel
theorem dX4_run_25 : decode cX4_run 25 = .ok (.ireturn, 1) := by decide +kernel
set_option maxRecDepth 20000 in
theorem ggX4_output_X2_outputCount : GoodIn wsX4_output wsX2_outputCount := goodIn_r _ [8, 9, 21, 22, 23, 24] (by decide +kernel) (by decide +kernel)
set_option maxRecDepth 20000 in
theorem gX4_output_X2_outputCount : GoodIn wsX4_output (wsV RX4 139 RX2 yX2_outputCount wsX2_outputCount) := goodIn_app (goodIn_of _ (by decide +kernel)) ggX4_output_X2_outputCount
set_option maxRecDepth 20000 in
theorem ggX4_output_X2_outputAt : GoodIn wsX4_output wsX2_outputAt := goodIn_r _ [13, 9, 14, 21, 22, 23, 24] (by decide +kernel) (by decide +kernel)
set_option maxRecDepth 20000 in
theorem gX4_output_X2_outputAt : GoodIn wsX4_output (wsV RX4 144 RX2 yX2_outputAt wsX2_outputAt) := goodIn_app (goodIn_of _ (by decide +kernel)) ggX4_output_X2_outputAt
theorem dX4_output_0 : decode cX4_output 0 = .ok (.iload_n 1, 1) := by decide +kernel
theorem dX4_output_1 : decode cX4_output 1 = .ok (.ifCond .lt 14, 3) := by decide +kernel
theorem dX4_output_4 : decode cX4_output 4 = .ok (.iload_n 1, 1) := by decide +kernel
theorem dX4_output_5 : decode cX4_output 5 = .ok (.aload_n 0, 1) := by decide +kernel
theorem dX4_output_6 : decode cX4_output 6 = .ok (.getfield 31, 3) := by decide +kernel
theorem dX4_output_9 : decode cX4_output 9 = .ok (.invokevirtual 139, 3) := by decide +kernel
theorem dX4_output_12 : decode cX4_output 12 = .ok (.if_icmp .lt 13, 3) := by decide +kernel
theorem dX4_output_15 : decode cX4_output 15 = .ok (.new 117, 3) := by decide +kernel
theorem dX4_output_18 : decode cX4_output 18 = .ok (.dup, 1) := by decide +kernel
theorem dX4_output_19 : decode cX4_output 19 = .ok (.ldc 142, 2) := by decide +kernel
theorem dX4_output_21 : decode cX4_output 21 = .ok (.invokespecial 121, 3) := by decide +kernel
theorem dX4_output_24 : decode cX4_output 24 = .ok (.athrow, 1) := by decide +kernel
theorem dX4_output_25 : decode cX4_output 25 = .ok (.aload_n 0, 1) := by decide +kernel
theorem dX4_output_26 : decode cX4_output 26 = .ok (.getfield 31, 3) := by decide +kernel
theorem dX4_output_29 : decode cX4_output 29 = .ok (.iload_n 1, 1) := by decide +kernel
theorem dX4_output_30 : decode cX4_output 30 = .ok (.invokevirtual 144, 3) := by decide +kernel
theorem dX4_output_33 : decode cX4_output 33 = .ok (.ireturn, 1) := by decide +kernel
set_option maxRecDepth 20000 in
theorem ggX4_digest_X4_mix : GoodIn wsX4_digest wsX4_mix := goodIn_r _ [10, 11] (by decide +kernel) (by decide +kernel)
set_option maxRecDepth 20000 in
theorem gX4_digest_X4_mix : GoodIn wsX4_digest (va_wsS RX4 149 yX4_mix wsX4_mix) := goodIn_app (goodIn_of _ (by decide +kernel)) ggX4_digest_X4_mix
set_option maxRecDepth 20000 in
theorem ggX4_digest_X1_length : GoodIn wsX4_digest wsX1_length := goodIn_r _ [16, 17, 68, 69, 70, 71, 72, 73] (by decide +kernel) (by decide +kernel)
set_option maxRecDepth 20000 in
theorem gX4_digest_X1_length : GoodIn wsX4_digest (wsV RX4 76 RX1 yX1_length wsX1_length) := goodIn_app (goodIn_of _ (by decide +kernel)) ggX4_digest_X1_length
set_option maxRecDepth 20000 in
theorem ggX4_digest_X1_kindOf : GoodIn wsX4_digest wsX1_kindOf := goodIn_r _ [21, 22, 23, 24, 25, 15, 26, 17, 68, 69, 70, 71, 72, 73] (by decide +kernel) (by decide +kernel)
set_option maxRecDepth 20000 in
theorem gX4_digest_X1_kindOf : GoodIn wsX4_digest (wsV RX4 85 RX1 yX1_kindOf wsX1_kindOf) := goodIn_app (goodIn_of _ (by decide +kernel)) ggX4_digest_X1_kindOf
set_option maxRecDepth 20000 in
theorem ggX4_digest_X0_steps : GoodIn wsX4_digest wsX0_steps := goodIn_r _ [31, 32, 74, 75, 76, 77, 78, 79, 80, 81, 82, 83, 84] (by decide +kernel) (by decide +kernel)
set_option maxRecDepth 20000 in
theorem gX4_digest_X0_steps : GoodIn wsX4_digest (wsV RX4 103 RX0 yX0_steps wsX0_steps) := goodIn_app (goodIn_of _ (by decide +kernel)) ggX4_digest_X0_steps
set_option maxRecDepth 20000 in
theorem ggX4_digest_X4_mixSteps : GoodIn wsX4_digest wsX4_mixSteps := goodIn_r _ [35, 36, 37, 38, 39, 40, 41, 7, 8, 9, 10, 11, 42, 43, 44, 45, 46, 47, 48, 49, 50, 85, 86, 87] (by decide +kernel) (by decide +kernel)
set_option maxRecDepth 20000 in
theorem gX4_digest_X4_mixSteps : GoodIn wsX4_digest (va_wsS RX4 153 yX4_mixSteps wsX4_mixSteps) := goodIn_app (goodIn_of _ (by decide +kernel)) ggX4_digest_X4_mixSteps
set_option maxRecDepth 20000 in
theorem ggX4_digest_X2_outputCount : GoodIn wsX4_digest wsX2_outputCount := goodIn_r _ [55, 56, 88, 89, 90, 91] (by decide +kernel) (by decide +kernel)
set_option maxRecDepth 20000 in
theorem gX4_digest_X2_outputCount : GoodIn wsX4_digest (wsV RX4 139 RX2 yX2_outputCount wsX2_outputCount) := goodIn_app (goodIn_of _ (by decide +kernel)) ggX4_digest_X2_outputCount
set_option maxRecDepth 20000 in
theorem ggX4_digest_X2_outputAt : GoodIn wsX4_digest wsX2_outputAt := goodIn_r _ [60, 56, 61, 88, 89, 90, 91] (by decide +kernel) (by decide +kernel)
set_option maxRecDepth 20000 in
theorem gX4_digest_X2_outputAt : GoodIn wsX4_digest (wsV RX4 144 RX2 yX2_outputAt wsX2_outputAt) := goodIn_app (goodIn_of _ (by decide +kernel)) ggX4_digest_X2_outputAt
theorem dX4_digest_0 : decode cX4_digest 0 = .ok (.ldc2_w 147, 3) := by decide +kernel
theorem dX4_digest_3 : decode cX4_digest 3 = .ok (.aload_n 0, 1) := by decide +kernel
theorem dX4_digest_4 : decode cX4_digest 4 = .ok (.getfield 35, 3) := by decide +kernel
theorem dX4_digest_7 : decode cX4_digest 7 = .ok (.invokestatic 149, 3) := by decide +kernel
theorem dX4_digest_10 : decode cX4_digest 10 = .ok (.lstore_n 1, 1) := by decide +kernel
theorem dX4_digest_11 : decode cX4_digest 11 = .ok (.lload_n 1, 1) := by decide +kernel
theorem dX4_digest_12 : decode cX4_digest 12 = .ok (.aload_n 0, 1) := by decide +kernel
theorem dX4_digest_13 : decode cX4_digest 13 = .ok (.getfield 12, 3) := by decide +kernel
theorem dX4_digest_16 : decode cX4_digest 16 = .ok (.invokevirtual 76, 3) := by decide +kernel
theorem dX4_digest_19 : decode cX4_digest 19 = .ok (.invokestatic 149, 3) := by decide +kernel
theorem dX4_digest_22 : decode cX4_digest 22 = .ok (.lstore_n 1, 1) := by decide +kernel
theorem dX4_digest_23 : decode cX4_digest 23 = .ok (.iconst 0, 1) := by decide +kernel
theorem dX4_digest_24 : decode cX4_digest 24 = .ok (.istore_n 3, 1) := by decide +kernel
theorem dX4_digest_25 : decode cX4_digest 25 = .ok (.iload_n 3, 1) := by decide +kernel
theorem dX4_digest_26 : decode cX4_digest 26 = .ok (.aload_n 0, 1) := by decide +kernel
theorem dX4_digest_27 : decode cX4_digest 27 = .ok (.getfield 12, 3) := by decide +kernel
theorem dX4_digest_30 : decode cX4_digest 30 = .ok (.invokevirtual 76, 3) := by decide +kernel
theorem dX4_digest_33 : decode cX4_digest 33 = .ok (.if_icmp .ge 22, 3) := by decide +kernel
theorem dX4_digest_36 : decode cX4_digest 36 = .ok (.lload_n 1, 1) := by decide +kernel
theorem dX4_digest_37 : decode cX4_digest 37 = .ok (.aload_n 0, 1) := by decide +kernel
theorem dX4_digest_38 : decode cX4_digest 38 = .ok (.getfield 12, 3) := by decide +kernel
theorem dX4_digest_41 : decode cX4_digest 41 = .ok (.iload_n 3, 1) := by decide +kernel
theorem dX4_digest_42 : decode cX4_digest 42 = .ok (.invokevirtual 85, 3) := by decide +kernel
theorem dX4_digest_45 : decode cX4_digest 45 = .ok (.invokestatic 149, 3) := by decide +kernel
theorem dX4_digest_48 : decode cX4_digest 48 = .ok (.lstore_n 1, 1) := by decide +kernel
theorem dX4_digest_49 : decode cX4_digest 49 = .ok (.iinc 3 1, 3) := by decide +kernel
theorem dX4_digest_52 : decode cX4_digest 52 = .ok (.goto (-27), 3) := by decide +kernel
theorem dX4_digest_55 : decode cX4_digest 55 = .ok (.aload_n 0, 1) := by decide +kernel
theorem dX4_digest_56 : decode cX4_digest 56 = .ok (.getfield 39, 3) := by decide +kernel
theorem dX4_digest_59 : decode cX4_digest 59 = .ok (.ifCond .eq 15, 3) := by decide +kernel
theorem dX4_digest_62 : decode cX4_digest 62 = .ok (.lload_n 1, 1) := by decide +kernel
theorem dX4_digest_63 : decode cX4_digest 63 = .ok (.aload_n 0, 1) := by decide +kernel
theorem dX4_digest_64 : decode cX4_digest 64 = .ok (.getfield 21, 3) := by decide +kernel
theorem dX4_digest_67 : decode cX4_digest 67 = .ok (.invokevirtual 103, 3) := by decide +kernel
theorem dX4_digest_70 : decode cX4_digest 70 = .ok (.invokestatic 153, 3) := by decide +kernel
theorem dX4_digest_73 : decode cX4_digest 73 = .ok (.lstore_n 1, 1) := by decide +kernel
theorem dX4_digest_74 : decode cX4_digest 74 = .ok (.lload_n 1, 1) := by decide +kernel
theorem dX4_digest_75 : decode cX4_digest 75 = .ok (.aload_n 0, 1) := by decide +kernel
theorem dX4_digest_76 : decode cX4_digest 76 = .ok (.getfield 31, 3) := by decide +kernel
theorem dX4_digest_79 : decode cX4_digest 79 = .ok (.invokevirtual 139, 3) := by decide +kernel
theorem dX4_digest_82 : decode cX4_digest 82 = .ok (.invokestatic 149, 3) := by decide +kernel
theorem dX4_digest_85 : decode cX4_digest 85 = .ok (.lstore_n 1, 1) := by decide +kernel
theorem dX4_digest_86 : decode cX4_digest 86 = .ok (.iconst 0, 1) := by decide +kernel
theorem dX4_digest_87 : decode cX4_digest 87 = .ok (.istore_n 3, 1) := by decide +kernel
theorem dX4_digest_88 : decode cX4_digest 88 = .ok (.iload_n 3, 1) := by decide +kernel
theorem dX4_digest_89 : decode cX4_digest 89 = .ok (.aload_n 0, 1) := by decide +kernel
theorem dX4_digest_90 : decode cX4_digest 90 = .ok (.getfield 31, 3) := by decide +kernel
theorem dX4_digest_93 : decode cX4_digest 93 = .ok (.invokevirtual 139, 3) := by decide +kernel
theorem dX4_digest_96 : decode cX4_digest 96 = .ok (.if_icmp .ge 22, 3) := by decide +kernel
theorem dX4_digest_99 : decode cX4_digest 99 = .ok (.lload_n 1, 1) := by decide +kernel
theorem dX4_digest_100 : decode cX4_digest 100 = .ok (.aload_n 0, 1) := by decide +kernel
theorem dX4_digest_101 : decode cX4_digest 101 = .ok (.getfield 31, 3) := by decide +kernel
theorem dX4_digest_104 : decode cX4_digest 104 = .ok (.iload_n 3, 1) := by decide +kernel
theorem dX4_digest_105 : decode cX4_digest 105 = .ok (.invokevirtual 144, 3) := by decide +kernel
theorem dX4_digest_108 : decode cX4_digest 108 = .ok (.invokestatic 149, 3) := by decide +kernel
theorem dX4_digest_111 : decode cX4_digest 111 = .ok (.lstore_n 1, 1) := by decide +kernel
theorem dX4_digest_112 : decode cX4_digest 112 = .ok (.iinc 3 1, 3) := by decide +kernel
theorem dX4_digest_115 : decode cX4_digest 115 = .ok (.goto (-27), 3) := by decide +kernel
theorem dX4_digest_118 : decode cX4_digest 118 = .ok (.lload_n 1, 1) := by decide +kernel
theorem dX4_digest_119 : decode cX4_digest 119 = .ok (.lreturn, 1) := by decide +kernel
set_option maxRecDepth 20000 in
theorem ggX4_mixSteps_X3_length : GoodIn wsX4_mixSteps wsX3_length := goodIn_r _ [5, 6, 21, 22, 23] (by decide +kernel) (by decide +kernel)
set_option maxRecDepth 20000 in
theorem gX4_mixSteps_X3_length : GoodIn wsX4_mixSteps (wsV RX4 107 RX3 yX3_length wsX3_length) := goodIn_app (goodIn_of _ (by decide +kernel)) ggX4_mixSteps_X3_length
set_option maxRecDepth 20000 in
theorem ggX4_mixSteps_X4_mix : GoodIn wsX4_mixSteps wsX4_mix := goodIn_r _ [10, 11] (by decide +kernel) (by decide +kernel)
set_option maxRecDepth 20000 in
theorem gX4_mixSteps_X4_mix : GoodIn wsX4_mixSteps (va_wsS RX4 149 yX4_mix wsX4_mix) := goodIn_app (goodIn_of _ (by decide +kernel)) ggX4_mixSteps_X4_mix
set_option maxRecDepth 20000 in
theorem ggX4_mixSteps_X3_at : GoodIn wsX4_mixSteps wsX3_at := goodIn_r _ [15, 16, 17, 18, 19, 4, 20, 6, 21, 22, 23] (by decide +kernel) (by decide +kernel)
set_option maxRecDepth 20000 in
theorem gX4_mixSteps_X3_at : GoodIn wsX4_mixSteps (wsV RX4 157 RX3 yX3_at wsX3_at) := goodIn_app (goodIn_of _ (by decide +kernel)) ggX4_mixSteps_X3_at
theorem dX4_mixSteps_0 : decode cX4_mixSteps 0 = .ok (.lload_n 0, 1) := by decide +kernel
theorem dX4_mixSteps_1 : decode cX4_mixSteps 1 = .ok (.aload_n 2, 1) := by decide +kernel
theorem dX4_mixSteps_2 : decode cX4_mixSteps 2 = .ok (.invokevirtual 107, 3) := by decide +kernel
theorem dX4_mixSteps_5 : decode cX4_mixSteps 5 = .ok (.invokestatic 149, 3) := by decide +kernel
theorem dX4_mixSteps_8 : decode cX4_mixSteps 8 = .ok (.lstore_n 3, 1) := by decide +kernel
theorem dX4_mixSteps_9 : decode cX4_mixSteps 9 = .ok (.iconst 0, 1) := by decide +kernel
theorem dX4_mixSteps_10 : decode cX4_mixSteps 10 = .ok (.istore 5, 2) := by decide +kernel
theorem dX4_mixSteps_12 : decode cX4_mixSteps 12 = .ok (.iload 5, 2) := by decide +kernel
theorem dX4_mixSteps_14 : decode cX4_mixSteps 14 = .ok (.aload_n 2, 1) := by decide +kernel
theorem dX4_mixSteps_15 : decode cX4_mixSteps 15 = .ok (.invokevirtual 107, 3) := by decide +kernel
theorem dX4_mixSteps_18 : decode cX4_mixSteps 18 = .ok (.if_icmp .ge 37, 3) := by decide +kernel
theorem dX4_mixSteps_21 : decode cX4_mixSteps 21 = .ok (.iconst 0, 1) := by decide +kernel
theorem dX4_mixSteps_22 : decode cX4_mixSteps 22 = .ok (.istore 6, 2) := by decide +kernel
theorem dX4_mixSteps_24 : decode cX4_mixSteps 24 = .ok (.iload 6, 2) := by decide +kernel
theorem dX4_mixSteps_26 : decode cX4_mixSteps 26 = .ok (.iconst 4, 1) := by decide +kernel
theorem dX4_mixSteps_27 : decode cX4_mixSteps 27 = .ok (.if_icmp .ge 22, 3) := by decide +kernel
theorem dX4_mixSteps_30 : decode cX4_mixSteps 30 = .ok (.lload_n 3, 1) := by decide +kernel
theorem dX4_mixSteps_31 : decode cX4_mixSteps 31 = .ok (.aload_n 2, 1) := by decide +kernel
theorem dX4_mixSteps_32 : decode cX4_mixSteps 32 = .ok (.iload 5, 2) := by decide +kernel
theorem dX4_mixSteps_34 : decode cX4_mixSteps 34 = .ok (.iload 6, 2) := by decide +kernel
theorem dX4_mixSteps_36 : decode cX4_mixSteps 36 = .ok (.invokevirtual 157, 3) := by decide +kernel
theorem dX4_mixSteps_39 : decode cX4_mixSteps 39 = .ok (.invokestatic 149, 3) := by decide +kernel
theorem dX4_mixSteps_42 : decode cX4_mixSteps 42 = .ok (.lstore_n 3, 1) := by decide +kernel
theorem dX4_mixSteps_43 : decode cX4_mixSteps 43 = .ok (.iinc 6 1, 3) := by decide +kernel
theorem dX4_mixSteps_46 : decode cX4_mixSteps 46 = .ok (.goto (-22), 3) := by decide +kernel
theorem dX4_mixSteps_49 : decode cX4_mixSteps 49 = .ok (.iinc 5 1, 3) := by decide +kernel
theorem dX4_mixSteps_52 : decode cX4_mixSteps 52 = .ok (.goto (-40), 3) := by decide +kernel
theorem dX4_mixSteps_55 : decode cX4_mixSteps 55 = .ok (.lload_n 3, 1) := by decide +kernel
theorem dX4_mixSteps_56 : decode cX4_mixSteps 56 = .ok (.lreturn, 1) := by decide +kernel
theorem dX4_mix_0 : decode cX4_mix 0 = .ok (.lload_n 0, 1) := by decide +kernel
theorem dX4_mix_1 : decode cX4_mix 1 = .ok (.ldc2_w 160, 3) := by decide +kernel
theorem dX4_mix_4 : decode cX4_mix 4 = .ok (.lmul, 1) := by decide +kernel
theorem dX4_mix_5 : decode cX4_mix 5 = .ok (.iload_n 2, 1) := by decide +kernel
theorem dX4_mix_6 : decode cX4_mix 6 = .ok (.i2l, 1) := by decide +kernel
theorem dX4_mix_7 : decode cX4_mix 7 = .ok (.ladd, 1) := by decide +kernel
theorem dX4_mix_8 : decode cX4_mix 8 = .ok (.lreturn, 1) := by decide +kernel
set_option maxRecDepth 20000 in
theorem ggX4_append_X1_append : GoodIn wsX4_append wsX1_append := goodIn_r _ [7, 8, 9, 10, 11, 12, 13, 14, 15, 6, 16, 17, 18, 19, 20, 21, 22, 23, 24, 25, 26, 27, 28, 29, 36, 37, 38, 39, 40, 41] (by decide +kernel) (by decide +kernel)
set_option maxRecDepth 20000 in
theorem gX4_append_X1_append : GoodIn wsX4_append (wsV RX4 162 RX1 yX1_append wsX1_append) := goodIn_app (goodIn_of _ (by decide +kernel)) ggX4_append_X1_append
theorem dX4_append_0 : decode cX4_append 0 = .ok (.aload_n 0, 1) := by decide +kernel
theorem dX4_append_1 : decode cX4_append 1 = .ok (.iconst 0, 1) := by decide +kernel
theorem dX4_append_2 : decode cX4_append 2 = .ok (.putfield 39, 3) := by decide +kernel
theorem dX4_append_5 : decode cX4_append 5 = .ok (.aload_n 0, 1) := by decide +kernel
theorem dX4_append_6 : decode cX4_append 6 = .ok (.getfield 12, 3) := by decide +kernel
theorem dX4_append_9 : decode cX4_append 9 = .ok (.iload_n 1, 1) := by decide +kernel
theorem dX4_append_10 : decode cX4_append 10 = .ok (.iload_n 2, 1) := by decide +kernel
theorem dX4_append_11 : decode cX4_append 11 = .ok (.iload_n 3, 1) := by decide +kernel
theorem dX4_append_12 : decode cX4_append 12 = .ok (.iload 4, 2) := by decide +kernel
theorem dX4_append_14 : decode cX4_append 14 = .ok (.invokevirtual 162, 3) := by decide +kernel
theorem dX4_append_17 : decode cX4_append 17 = .ok (.ireturn, 1) := by decide +kernel
set_option maxRecDepth 20000 in
theorem ggX4_numberIn_X3_has : GoodIn wsX4_numberIn wsX3_has := goodIn_r _ [7, 8, 15, 16, 17] (by decide +kernel) (by decide +kernel)
set_option maxRecDepth 20000 in
theorem gX4_numberIn_X3_has : GoodIn wsX4_numberIn (wsV RX4 163 RX3 yX3_has wsX3_has) := goodIn_app (goodIn_of _ (by decide +kernel)) ggX4_numberIn_X3_has
set_option maxRecDepth 20000 in
theorem ggX4_numberIn_X3_at : GoodIn wsX4_numberIn wsX3_at := goodIn_r _ [12, 13, 14, 4, 5, 6, 7, 8, 15, 16, 17] (by decide +kernel) (by decide +kernel)
set_option maxRecDepth 20000 in
theorem gX4_numberIn_X3_at : GoodIn wsX4_numberIn (wsV RX4 157 RX3 yX3_at wsX3_at) := goodIn_app (goodIn_of _ (by decide +kernel)) ggX4_numberIn_X3_at
theorem dX4_numberIn_0 : decode cX4_numberIn 0 = .ok (.aload_n 0, 1) := by decide +kernel
theorem dX4_numberIn_1 : decode cX4_numberIn 1 = .ok (.iload_n 1, 1) := by decide +kernel
theorem dX4_numberIn_2 : decode cX4_numberIn 2 = .ok (.iload_n 2, 1) := by decide +kernel
theorem dX4_numberIn_3 : decode cX4_numberIn 3 = .ok (.invokevirtual 163, 3) := by decide +kernel
theorem dX4_numberIn_6 : decode cX4_numberIn 6 = .ok (.ifCond .ne 13, 3) := by decide +kernel
theorem dX4_numberIn_9 : decode cX4_numberIn 9 = .ok (.new 117, 3) := by decide +kernel
theorem dX4_numberIn_12 : decode cX4_numberIn 12 = .ok (.dup, 1) := by decide +kernel
theorem dX4_numberIn_13 : decode cX4_numberIn 13 = .ok (.ldc 167, 2) := by decide +kernel
theorem dX4_numberIn_15 : decode cX4_numberIn 15 = .ok (.invokespecial 121, 3) := by decide +kernel
theorem dX4_numberIn_18 : decode cX4_numberIn 18 = .ok (.athrow, 1) := by decide +kernel
theorem dX4_numberIn_19 : decode cX4_numberIn 19 = .ok (.aload_n 0, 1) := by decide +kernel
theorem dX4_numberIn_20 : decode cX4_numberIn 20 = .ok (.iload_n 1, 1) := by decide +kernel
theorem dX4_numberIn_21 : decode cX4_numberIn 21 = .ok (.iload_n 2, 1) := by decide +kernel
theorem dX4_numberIn_22 : decode cX4_numberIn 22 = .ok (.invokevirtual 157, 3) := by decide +kernel
theorem dX4_numberIn_25 : decode cX4_numberIn 25 = .ok (.ireturn, 1) := by decide +kernel
set_option maxRecDepth 20000 in
theorem ggX4_refuseNoInstruction_X1_has : GoodIn wsX4_refuseNoInstruction wsX1_has := goodIn_r _ [8, 9, 16, 17, 18, 19, 20, 21] (by decide +kernel) (by decide +kernel)
set_option maxRecDepth 20000 in
theorem gX4_refuseNoInstruction_X1_has : GoodIn wsX4_refuseNoInstruction (wsV RX4 169 RX1 yX1_has wsX1_has) := goodIn_app (goodIn_of _ (by decide +kernel)) ggX4_refuseNoInstruction_X1_has
theorem dX4_refuseNoInstruction_0 : decode cX4_refuseNoInstruction 0 = .ok (.aload_n 0, 1) := by decide +kernel
theorem dX4_refuseNoInstruction_1 : decode cX4_refuseNoInstruction 1 = .ok (.getfield 12, 3) := by decide +kernel
theorem dX4_refuseNoInstruction_4 : decode cX4_refuseNoInstruction 4 = .ok (.iload_n 1, 1) := by decide +kernel
theorem dX4_refuseNoInstruction_5 : decode cX4_refuseNoInstruction 5 = .ok (.invokevirtual 169, 3) := by decide +kernel
theorem dX4_refuseNoInstruction_8 : decode cX4_refuseNoInstruction 8 = .ok (.ifCond .ne 13, 3) := by decide +kernel
theorem dX4_refuseNoInstruction_11 : decode cX4_refuseNoInstruction 11 = .ok (.new 117, 3) := by decide +kernel
theorem dX4_refuseNoInstruction_14 : decode cX4_refuseNoInstruction 14 = .ok (.dup, 1) := by decide +kernel
theorem dX4_refuseNoInstruction_15 : decode cX4_refuseNoInstruction 15 = .ok (.ldc 171, 2) := by decide +kernel
theorem dX4_refuseNoInstruction_17 : decode cX4_refuseNoInstruction 17 = .ok (.invokespecial 121, 3) := by decide +kernel
theorem dX4_refuseNoInstruction_20 : decode cX4_refuseNoInstruction 20 = .ok (.athrow, 1) := by decide +kernel
theorem dX4_refuseNoInstruction_21 : decode cX4_refuseNoInstruction 21 = .ok (.return_, 1) := by decide +kernel
set_option maxRecDepth 20000 in
theorem ggX4_refuseNoValue_X1_hasValue : GoodIn wsX4_refuseNoValue wsX1_hasValue := goodIn_r _ [8, 9, 10, 11, 12, 7, 13, 14, 21, 22, 23, 24, 25, 26] (by decide +kernel) (by decide +kernel)
set_option maxRecDepth 20000 in
theorem gX4_refuseNoValue_X1_hasValue : GoodIn wsX4_refuseNoValue (wsV RX4 173 RX1 yX1_hasValue wsX1_hasValue) := goodIn_app (goodIn_of _ (by decide +kernel)) ggX4_refuseNoValue_X1_hasValue
theorem dX4_refuseNoValue_0 : decode cX4_refuseNoValue 0 = .ok (.aload_n 0, 1) := by decide +kernel
theorem dX4_refuseNoValue_1 : decode cX4_refuseNoValue 1 = .ok (.getfield 12, 3) := by decide +kernel
theorem dX4_refuseNoValue_4 : decode cX4_refuseNoValue 4 = .ok (.iload_n 1, 1) := by decide +kernel
theorem dX4_refuseNoValue_5 : decode cX4_refuseNoValue 5 = .ok (.invokevirtual 173, 3) := by decide +kernel
theorem dX4_refuseNoValue_8 : decode cX4_refuseNoValue 8 = .ok (.ifCond .ne 13, 3) := by decide +kernel
theorem dX4_refuseNoValue_11 : decode cX4_refuseNoValue 11 = .ok (.new 117, 3) := by decide +kernel
theorem dX4_refuseNoValue_14 : decode cX4_refuseNoValue 14 = .ok (.dup, 1) := by decide +kernel
theorem dX4_refuseNoValue_15 : decode cX4_refuseNoValue 15 = .ok (.ldc 176, 2) := by decide +kernel
theorem dX4_refuseNoValue_17 : decode cX4_refuseNoValue 17 = .ok (.invokespecial 121, 3) := by decide +kernel
theorem dX4_refuseNoValue_20 : decode cX4_refuseNoValue 20 = .ok (.athrow, 1) := by decide +kernel
theorem dX4_refuseNoValue_21 : decode cX4_refuseNoValue 21 = .ok (.return_, 1) := by decide +kernel
theorem dX4_refuseKindOutside_0 : decode cX4_refuseKindOutside 0 = .ok (.iload_n 0, 1) := by decide +kernel
theorem dX4_refuseKindOutside_1 : decode cX4_refuseKindOutside 1 = .ok (.iload_n 1, 1) := by decide +kernel
theorem dX4_refuseKindOutside_2 : decode cX4_refuseKindOutside 2 = .ok (.if_icmp .lt 8, 3) := by decide +kernel
theorem dX4_refuseKindOutside_5 : decode cX4_refuseKindOutside 5 = .ok (.iload_n 0, 1) := by decide +kernel
theorem dX4_refuseKindOutside_6 : decode cX4_refuseKindOutside 6 = .ok (.iload_n 2, 1) := by decide +kernel
theorem dX4_refuseKindOutside_7 : decode cX4_refuseKindOutside 7 = .ok (.if_icmp .le 13, 3) := by decide +kernel
theorem dX4_refuseKindOutside_10 : decode cX4_refuseKindOutside 10 = .ok (.new 65, 3) := by decide +kernel
theorem dX4_refuseKindOutside_13 : decode cX4_refuseKindOutside 13 = .ok (.dup, 1) := by decide +kernel
theorem dX4_refuseKindOutside_14 : decode cX4_refuseKindOutside 14 = .ok (.ldc 178, 2) := by decide +kernel
theorem dX4_refuseKindOutside_16 : decode cX4_refuseKindOutside 16 = .ok (.invokespecial 69, 3) := by decide +kernel
theorem dX4_refuseKindOutside_19 : decode cX4_refuseKindOutside 19 = .ok (.athrow, 1) := by decide +kernel
theorem dX4_refuseKindOutside_20 : decode cX4_refuseKindOutside 20 = .ok (.return_, 1) := by decide +kernel
set_option maxRecDepth 20000 in
theorem ggX4_refuseFullCode_X1_isFull : GoodIn wsX4_refuseFullCode wsX1_isFull := goodIn_r _ [8, 9, 16, 17, 18, 19, 20, 21] (by decide +kernel) (by decide +kernel)
set_option maxRecDepth 20000 in
theorem gX4_refuseFullCode_X1_isFull : GoodIn wsX4_refuseFullCode (wsV RX4 180 RX1 yX1_isFull wsX1_isFull) := goodIn_app (goodIn_of _ (by decide +kernel)) ggX4_refuseFullCode_X1_isFull
theorem dX4_refuseFullCode_0 : decode cX4_refuseFullCode 0 = .ok (.aload_n 0, 1) := by decide +kernel
theorem dX4_refuseFullCode_1 : decode cX4_refuseFullCode 1 = .ok (.getfield 12, 3) := by decide +kernel
theorem dX4_refuseFullCode_4 : decode cX4_refuseFullCode 4 = .ok (.invokevirtual 180, 3) := by decide +kernel
theorem dX4_refuseFullCode_7 : decode cX4_refuseFullCode 7 = .ok (.ifCond .eq 13, 3) := by decide +kernel
theorem dX4_refuseFullCode_10 : decode cX4_refuseFullCode 10 = .ok (.new 183, 3) := by decide +kernel
theorem dX4_refuseFullCode_13 : decode cX4_refuseFullCode 13 = .ok (.dup, 1) := by decide +kernel
theorem dX4_refuseFullCode_14 : decode cX4_refuseFullCode 14 = .ok (.ldc 185, 2) := by decide +kernel
theorem dX4_refuseFullCode_16 : decode cX4_refuseFullCode 16 = .ok (.invokespecial 187, 3) := by decide +kernel
theorem dX4_refuseFullCode_19 : decode cX4_refuseFullCode 19 = .ok (.athrow, 1) := by decide +kernel
theorem dX4_refuseFullCode_20 : decode cX4_refuseFullCode 20 = .ok (.return_, 1) := by decide +kernel
theorem dX4_refuseNoAllocation_0 : decode cX4_refuseNoAllocation 0 = .ok (.aload_n 0, 1) := by decide +kernel
theorem dX4_refuseNoAllocation_1 : decode cX4_refuseNoAllocation 1 = .ok (.getfield 39, 3) := by decide +kernel
theorem dX4_refuseNoAllocation_4 : decode cX4_refuseNoAllocation 4 = .ok (.ifCond .ne 13, 3) := by decide +kernel
theorem dX4_refuseNoAllocation_7 : decode cX4_refuseNoAllocation 7 = .ok (.new 183, 3) := by decide +kernel
theorem dX4_refuseNoAllocation_10 : decode cX4_refuseNoAllocation 10 = .ok (.dup, 1) := by decide +kernel
theorem dX4_refuseNoAllocation_11 : decode cX4_refuseNoAllocation 11 = .ok (.ldc 188, 2) := by decide +kernel
theorem dX4_refuseNoAllocation_13 : decode cX4_refuseNoAllocation 13 = .ok (.invokespecial 187, 3) := by decide +kernel
theorem dX4_refuseNoAllocation_16 : decode cX4_refuseNoAllocation 16 = .ok (.athrow, 1) := by decide +kernel
theorem dX4_refuseNoAllocation_17 : decode cX4_refuseNoAllocation 17 = .ok (.return_, 1) := by decide +kernel
theorem dX5_init_0 : decode cX5_init 0 = .ok (.aload_n 0, 1) := by decide +kernel
theorem dX5_init_1 : decode cX5_init 1 = .ok (.invokespecial 1, 3) := by decide +kernel
theorem dX5_init_4 : decode cX5_init 4 = .ok (.aload_n 0, 1) := by decide +kernel
theorem dX5_init_5 : decode cX5_init 5 = .ok (.bipush 60, 2) := by decide +kernel
theorem dX5_init_7 : decode cX5_init 7 = .ok (.newarray .int, 2) := by decide +kernel
theorem dX5_init_9 : decode cX5_init 9 = .ok (.putfield 9, 3) := by decide +kernel
theorem dX5_init_12 : decode cX5_init 12 = .ok (.aload_n 0, 1) := by decide +kernel
theorem dX5_init_13 : decode cX5_init 13 = .ok (.bipush 60, 2) := by decide +kernel
theorem dX5_init_15 : decode cX5_init 15 = .ok (.newarray .int, 2) := by decide +kernel
theorem dX5_init_17 : decode cX5_init 17 = .ok (.putfield 13, 3) := by decide +kernel
theorem dX5_init_20 : decode cX5_init 20 = .ok (.aload_n 0, 1) := by decide +kernel
theorem dX5_init_21 : decode cX5_init 21 = .ok (.bipush 60, 2) := by decide +kernel
theorem dX5_init_23 : decode cX5_init 23 = .ok (.newarray .int, 2) := by decide +kernel
theorem dX5_init_25 : decode cX5_init 25 = .ok (.putfield 16, 3) := by decide +kernel
theorem dX5_init_28 : decode cX5_init 28 = .ok (.aload_n 0, 1) := by decide +kernel
theorem dX5_init_29 : decode cX5_init 29 = .ok (.iconst 4, 1) := by decide +kernel
theorem dX5_init_30 : decode cX5_init 30 = .ok (.putfield 19, 3) := by decide +kernel
theorem dX5_init_33 : decode cX5_init 33 = .ok (.aload_n 0, 1) := by decide +kernel
theorem dX5_init_34 : decode cX5_init 34 = .ok (.sipush 2000, 3) := by decide +kernel
theorem dX5_init_37 : decode cX5_init 37 = .ok (.newarray .int, 2) := by decide +kernel
theorem dX5_init_39 : decode cX5_init 39 = .ok (.putfield 23, 3) := by decide +kernel
theorem dX5_init_42 : decode cX5_init 42 = .ok (.aload_n 0, 1) := by decide +kernel
theorem dX5_init_43 : decode cX5_init 43 = .ok (.sipush 2000, 3) := by decide +kernel
theorem dX5_init_46 : decode cX5_init 46 = .ok (.newarray .int, 2) := by decide +kernel
theorem dX5_init_48 : decode cX5_init 48 = .ok (.putfield 26, 3) := by decide +kernel
theorem dX5_init_51 : decode cX5_init 51 = .ok (.aload_n 0, 1) := by decide +kernel
theorem dX5_init_52 : decode cX5_init 52 = .ok (.bipush 60, 2) := by decide +kernel
theorem dX5_init_54 : decode cX5_init 54 = .ok (.newarray .boolean, 2) := by decide +kernel
theorem dX5_init_56 : decode cX5_init 56 = .ok (.putfield 29, 3) := by decide +kernel
theorem dX5_init_59 : decode cX5_init 59 = .ok (.aload_n 0, 1) := by decide +kernel
theorem dX5_init_60 : decode cX5_init 60 = .ok (.bipush 60, 2) := by decide +kernel
theorem dX5_init_62 : decode cX5_init 62 = .ok (.newarray .int, 2) := by decide +kernel
theorem dX5_init_64 : decode cX5_init 64 = .ok (.putfield 33, 3) := by decide +kernel
theorem dX5_init_67 : decode cX5_init 67 = .ok (.aload_n 0, 1) := by decide +kernel
theorem dX5_init_68 : decode cX5_init 68 = .ok (.bipush 60, 2) := by decide +kernel
theorem dX5_init_70 : decode cX5_init 70 = .ok (.newarray .int, 2) := by decide +kernel
theorem dX5_init_72 : decode cX5_init 72 = .ok (.putfield 36, 3) := by decide +kernel
theorem dX5_init_75 : decode cX5_init 75 = .ok (.aload_n 0, 1) := by decide +kernel
theorem dX5_init_76 : decode cX5_init 76 = .ok (.bipush 60, 2) := by decide +kernel
theorem dX5_init_78 : decode cX5_init 78 = .ok (.newarray .int, 2) := by decide +kernel
theorem dX5_init_80 : decode cX5_init 80 = .ok (.putfield 39, 3) := by decide +kernel
theorem dX5_init_83 : decode cX5_init 83 = .ok (.aload_n 0, 1) := by decide +kernel
theorem dX5_init_84 : decode cX5_init 84 = .ok (.bipush 8, 2) := by decide +kernel
theorem dX5_init_86 : decode cX5_init 86 = .ok (.newarray .int, 2) := by decide +kernel
theorem dX5_init_88 : decode cX5_init 88 = .ok (.putfield 42, 3) := by decide +kernel
theorem dX5_init_91 : decode cX5_init 91 = .ok (.aload_n 0, 1) := by decide +kernel
theorem dX5_init_92 : decode cX5_init 92 = .ok (.bipush 60, 2) := by decide +kernel
theorem dX5_init_94 : decode cX5_init 94 = .ok (.newarray .boolean, 2) := by decide +kernel
theorem dX5_init_96 : decode cX5_init 96 = .ok (.putfield 45, 3) := by decide +kernel
theorem dX5_init_99 : decode cX5_init 99 = .ok (.aload_n 0, 1) := by decide +kernel
theorem dX5_init_100 : decode cX5_init 100 = .ok (.bipush 60, 2) := by decide +kernel
theorem dX5_init_102 : decode cX5_init 102 = .ok (.newarray .int, 2) := by decide +kernel
theorem dX5_init_104 : decode cX5_init 104 = .ok (.putfield 48, 3) := by decide +kernel
theorem dX5_init_107 : decode cX5_init 107 = .ok (.return_, 1) := by decide +kernel
theorem dX5_thrown_0 : decode cX5_thrown 0 = .ok (.aload_n 0, 1) := by decide +kernel
theorem dX5_thrown_1 : decode cX5_thrown 1 = .ok (.getfield 51, 3) := by decide +kernel
theorem dX5_thrown_4 : decode cX5_thrown 4 = .ok (.ireturn, 1) := by decide +kernel
theorem dX5_fail_0 : decode cX5_fail 0 = .ok (.aload_n 0, 1) := by decide +kernel
theorem dX5_fail_1 : decode cX5_fail 1 = .ok (.iload_n 1, 1) := by decide +kernel
theorem dX5_fail_2 : decode cX5_fail 2 = .ok (.putfield 51, 3) := by decide +kernel
theorem dX5_fail_5 : decode cX5_fail 5 = .ok (.iconst 0, 1) := by decide +kernel
theorem dX5_fail_6 : decode cX5_fail 6 = .ok (.ireturn, 1) := by decide +kernel
theorem dX5_isInstruction_0 : decode cX5_isInstruction 0 = .ok (.iload_n 1, 1) := by decide +kernel
theorem dX5_isInstruction_1 : decode cX5_isInstruction 1 = .ok (.ifCond .lt 15, 3) := by decide +kernel
theorem dX5_isInstruction_4 : decode cX5_isInstruction 4 = .ok (.iload_n 1, 1) := by decide +kernel
theorem dX5_isInstruction_5 : decode cX5_isInstruction 5 = .ok (.aload_n 0, 1) := by decide +kernel
theorem dX5_isInstruction_6 : decode cX5_isInstruction 6 = .ok (.getfield 54, 3) := by decide +kernel
theorem dX5_isInstruction_9 : decode cX5_isInstruction 9 = .ok (.if_icmp .ge 7, 3) := by decide +kernel
theorem dX5_isInstruction_12 : decode cX5_isInstruction 12 = .ok (.iconst 1, 1) := by decide +kernel
theorem dX5_isInstruction_13 : decode cX5_isInstruction 13 = .ok (.goto 4, 3) := by decide +kernel
theorem dX5_isInstruction_16 : decode cX5_isInstruction 16 = .ok (.iconst 0, 1) := by decide +kernel
theorem dX5_isInstruction_17 : decode cX5_isInstruction 17 = .ok (.ireturn, 1) := by decide +kernel
set_option maxRecDepth 20000 in
theorem ggX5_hasValue_X5_isInstruction : GoodIn wsX5_hasValue wsX5_isInstruction := goodIn_r _ [6, 7, 8, 9, 10, 11, 12, 13, 14, 15, 16, 17, 18, 19, 20, 21, 22, 23, 24, 25, 26, 27] (by decide +kernel) (by decide +kernel)
set_option maxRecDepth 20000 in
theorem gX5_hasValue_X5_isInstruction : GoodIn wsX5_hasValue (wsV RX5 57 RX5 yX5_isInstruction wsX5_isInstruction) := goodIn_app (goodIn_of _ (by decide +kernel)) ggX5_hasValue_X5_isInstruction
theorem dX5_hasValue_0 : decode cX5_hasValue 0 = .ok (.aload_n 0, 1) := by decide +kernel
theorem dX5_hasValue_1 : decode cX5_hasValue 1 = .ok (.iload_n 1, 1) := by decide +kernel
theorem dX5_hasValue_2 : decode cX5_hasValue 2 = .ok (.invokevirtual 57, 3) := by decide +kernel
theorem dX5_hasValue_5 : decode cX5_hasValue 5 = .ok (.ifCond .eq 18, 3) := by decide +kernel
theorem dX5_hasValue_8 : decode cX5_hasValue 8 = .ok (.aload_n 0, 1) := by decide +kernel
theorem dX5_hasValue_9 : decode cX5_hasValue 9 = .ok (.getfield 9, 3) := by decide +kernel
theorem dX5_hasValue_12 : decode cX5_hasValue 12 = .ok (.iload_n 1, 1) := by decide +kernel
theorem dX5_hasValue_13 : decode cX5_hasValue 13 = .ok (.iaload, 1) := by decide +kernel
theorem dX5_hasValue_14 : decode cX5_hasValue 14 = .ok (.bipush 6, 2) := by decide +kernel
theorem dX5_hasValue_16 : decode cX5_hasValue 16 = .ok (.if_icmp .eq 7, 3) := by decide +kernel
theorem dX5_hasValue_19 : decode cX5_hasValue 19 = .ok (.iconst 1, 1) := by decide +kernel
theorem dX5_hasValue_20 : decode cX5_hasValue 20 = .ok (.goto 4, 3) := by decide +kernel
theorem dX5_hasValue_23 : decode cX5_hasValue 23 = .ok (.iconst 0, 1) := by decide +kernel
theorem dX5_hasValue_24 : decode cX5_hasValue 24 = .ok (.ireturn, 1) := by decide +kernel
theorem dX5_append_0 : decode cX5_append 0 = .ok (.aload_n 0, 1) := by decide +kernel
theorem dX5_append_1 : decode cX5_append 1 = .ok (.getfield 9, 3) := by decide +kernel
theorem dX5_append_4 : decode cX5_append 4 = .ok (.aload_n 0, 1) := by decide +kernel
theorem dX5_append_5 : decode cX5_append 5 = .ok (.getfield 54, 3) := by decide +kernel
theorem dX5_append_8 : decode cX5_append 8 = .ok (.iload_n 1, 1) := by decide +kernel
theorem dX5_append_9 : decode cX5_append 9 = .ok (.iastore, 1) := by decide +kernel
theorem dX5_append_10 : decode cX5_append 10 = .ok (.aload_n 0, 1) := by decide +kernel
theorem dX5_append_11 : decode cX5_append 11 = .ok (.getfield 13, 3) := by decide +kernel
theorem dX5_append_14 : decode cX5_append 14 = .ok (.aload_n 0, 1) := by decide +kernel
theorem dX5_append_15 : decode cX5_append 15 = .ok (.getfield 54, 3) := by decide +kernel
theorem dX5_append_18 : decode cX5_append 18 = .ok (.iload_n 2, 1) := by decide +kernel
theorem dX5_append_19 : decode cX5_append 19 = .ok (.iastore, 1) := by decide +kernel
theorem dX5_append_20 : decode cX5_append 20 = .ok (.aload_n 0, 1) := by decide +kernel
theorem dX5_append_21 : decode cX5_append 21 = .ok (.getfield 16, 3) := by decide +kernel
theorem dX5_append_24 : decode cX5_append 24 = .ok (.aload_n 0, 1) := by decide +kernel
theorem dX5_append_25 : decode cX5_append 25 = .ok (.getfield 54, 3) := by decide +kernel
theorem dX5_append_28 : decode cX5_append 28 = .ok (.iload_n 3, 1) := by decide +kernel
theorem dX5_append_29 : decode cX5_append 29 = .ok (.iastore, 1) := by decide +kernel
theorem dX5_append_30 : decode cX5_append 30 = .ok (.aload_n 0, 1) := by decide +kernel
theorem dX5_append_31 : decode cX5_append 31 = .ok (.dup, 1) := by decide +kernel
theorem dX5_append_32 : decode cX5_append 32 = .ok (.getfield 54, 3) := by decide +kernel
theorem dX5_append_35 : decode cX5_append 35 = .ok (.iconst 1, 1) := by decide +kernel
theorem dX5_append_36 : decode cX5_append 36 = .ok (.iadd, 1) := by decide +kernel
theorem dX5_append_37 : decode cX5_append 37 = .ok (.putfield 54, 3) := by decide +kernel
theorem dX5_append_40 : decode cX5_append 40 = .ok (.aload_n 0, 1) := by decide +kernel
theorem dX5_append_41 : decode cX5_append 41 = .ok (.iconst 0, 1) := by decide +kernel
theorem dX5_append_42 : decode cX5_append 42 = .ok (.putfield 61, 3) := by decide +kernel
theorem dX5_append_45 : decode cX5_append 45 = .ok (.aload_n 0, 1) := by decide +kernel
theorem dX5_append_46 : decode cX5_append 46 = .ok (.getfield 54, 3) := by decide +kernel
theorem dX5_append_49 : decode cX5_append 49 = .ok (.iconst 1, 1) := by decide +kernel
theorem dX5_append_50 : decode cX5_append 50 = .ok (.isub, 1) := by decide +kernel
theorem dX5_append_51 : decode cX5_append 51 = .ok (.ireturn, 1) := by decide +kernel
set_option maxRecDepth 20000 in
theorem ggX5_constant_X5_fail : GoodIn wsX5_constant wsX5_fail := goodIn_r _ [7, 1, 16, 17, 18, 19, 20, 21, 22, 23, 24, 25, 26, 27, 28, 29, 30, 31, 32, 33, 34, 35] (by decide +kernel) (by decide +kernel)
set_option maxRecDepth 20000 in
theorem gX5_constant_X5_fail : GoodIn wsX5_constant (wsV RX5 65 RX5 yX5_fail wsX5_fail) := goodIn_app (goodIn_of _ (by decide +kernel)) ggX5_constant_X5_fail
set_option maxRecDepth 20000 in
theorem ggX5_constant_X5_append : GoodIn wsX5_constant wsX5_append := goodIn_r _ [11, 12, 2, 13, 14, 15, 16, 17, 18, 19, 20, 21, 22, 23, 24, 25, 26, 27, 28, 29, 30, 31, 32, 33, 34, 35] (by decide +kernel) (by decide +kernel)
set_option maxRecDepth 20000 in
theorem gX5_constant_X5_append : GoodIn wsX5_constant (wsV RX5 69 RX5 yX5_append wsX5_append) := goodIn_app (goodIn_of _ (by decide +kernel)) ggX5_constant_X5_append
theorem dX5_constant_0 : decode cX5_constant 0 = .ok (.aload_n 0, 1) := by decide +kernel
theorem dX5_constant_1 : decode cX5_constant 1 = .ok (.iconst 0, 1) := by decide +kernel
theorem dX5_constant_2 : decode cX5_constant 2 = .ok (.putfield 51, 3) := by decide +kernel
theorem dX5_constant_5 : decode cX5_constant 5 = .ok (.aload_n 0, 1) := by decide +kernel
theorem dX5_constant_6 : decode cX5_constant 6 = .ok (.getfield 54, 3) := by decide +kernel
theorem dX5_constant_9 : decode cX5_constant 9 = .ok (.bipush 60, 2) := by decide +kernel
theorem dX5_constant_11 : decode cX5_constant 11 = .ok (.if_icmp .ne 11, 3) := by decide +kernel
theorem dX5_constant_14 : decode cX5_constant 14 = .ok (.aload_n 0, 1) := by decide +kernel
theorem dX5_constant_15 : decode cX5_constant 15 = .ok (.iconst 1, 1) := by decide +kernel
theorem dX5_constant_16 : decode cX5_constant 16 = .ok (.invokevirtual 65, 3) := by decide +kernel
theorem dX5_constant_19 : decode cX5_constant 19 = .ok (.goto 10, 3) := by decide +kernel
theorem dX5_constant_22 : decode cX5_constant 22 = .ok (.aload_n 0, 1) := by decide +kernel
theorem dX5_constant_23 : decode cX5_constant 23 = .ok (.iconst 0, 1) := by decide +kernel
theorem dX5_constant_24 : decode cX5_constant 24 = .ok (.iload_n 1, 1) := by decide +kernel
theorem dX5_constant_25 : decode cX5_constant 25 = .ok (.iconst (-1), 1) := by decide +kernel
theorem dX5_constant_26 : decode cX5_constant 26 = .ok (.invokevirtual 69, 3) := by decide +kernel
theorem dX5_constant_29 : decode cX5_constant 29 = .ok (.ireturn, 1) := by decide +kernel
set_option maxRecDepth 20000 in
theorem ggX5_operate_X5_hasValue : GoodIn wsX5_operate wsX5_hasValue := goodIn_r _ [7, 8, 9, 10, 11, 6, 12, 2, 24, 25, 26, 27, 28, 29, 30, 31, 32, 33, 34, 35, 36, 37, 38, 39, 40, 41, 42, 43] (by decide +kernel) (by decide +kernel)
set_option maxRecDepth 20000 in
theorem gX5_operate_X5_hasValue : GoodIn wsX5_operate (wsV RX5 73 RX5 yX5_hasValue wsX5_hasValue) := goodIn_app (goodIn_of _ (by decide +kernel)) ggX5_operate_X5_hasValue
set_option maxRecDepth 20000 in
theorem ggX5_operate_X5_fail : GoodIn wsX5_operate wsX5_fail := goodIn_r _ [16, 1, 24, 25, 26, 27, 28, 29, 30, 31, 32, 33, 34, 35, 36, 37, 38, 39, 40, 41, 42, 43] (by decide +kernel) (by decide +kernel)
set_option maxRecDepth 20000 in
theorem gX5_operate_X5_fail : GoodIn wsX5_operate (wsV RX5 65 RX5 yX5_fail wsX5_fail) := goodIn_app (goodIn_of _ (by decide +kernel)) ggX5_operate_X5_fail
set_option maxRecDepth 20000 in
theorem ggX5_operate_X5_append : GoodIn wsX5_operate wsX5_append := goodIn_r _ [20, 8, 2, 21, 22, 23, 24, 25, 26, 27, 28, 29, 30, 31, 32, 33, 34, 35, 36, 37, 38, 39, 40, 41, 42, 43] (by decide +kernel) (by decide +kernel)
set_option maxRecDepth 20000 in
theorem gX5_operate_X5_append : GoodIn wsX5_operate (wsV RX5 69 RX5 yX5_append wsX5_append) := goodIn_app (goodIn_of _ (by decide +kernel)) ggX5_operate_X5_append
theorem dX5_operate_0 : decode cX5_operate 0 = .ok (.aload_n 0, 1) := by decide +kernel
theorem dX5_operate_1 : decode cX5_operate 1 = .ok (.iconst 0, 1) := by decide +kernel
theorem dX5_operate_2 : decode cX5_operate 2 = .ok (.putfield 51, 3) := by decide +kernel
theorem dX5_operate_5 : decode cX5_operate 5 = .ok (.aload_n 0, 1) := by decide +kernel
theorem dX5_operate_6 : decode cX5_operate 6 = .ok (.iload_n 2, 1) := by decide +kernel
theorem dX5_operate_7 : decode cX5_operate 7 = .ok (.invokevirtual 73, 3) := by decide +kernel
theorem dX5_operate_10 : decode cX5_operate 10 = .ok (.ifCond .eq 11, 3) := by decide +kernel
theorem dX5_operate_13 : decode cX5_operate 13 = .ok (.aload_n 0, 1) := by decide +kernel
theorem dX5_operate_14 : decode cX5_operate 14 = .ok (.iload_n 3, 1) := by decide +kernel
theorem dX5_operate_15 : decode cX5_operate 15 = .ok (.invokevirtual 73, 3) := by decide +kernel
theorem dX5_operate_18 : decode cX5_operate 18 = .ok (.ifCond .ne 9, 3) := by decide +kernel
theorem dX5_operate_21 : decode cX5_operate 21 = .ok (.aload_n 0, 1) := by decide +kernel
theorem dX5_operate_22 : decode cX5_operate 22 = .ok (.iconst 1, 1) := by decide +kernel
theorem dX5_operate_23 : decode cX5_operate 23 = .ok (.invokevirtual 65, 3) := by decide +kernel
theorem dX5_operate_26 : decode cX5_operate 26 = .ok (.ireturn, 1) := by decide +kernel
theorem dX5_operate_27 : decode cX5_operate 27 = .ok (.iload_n 1, 1) := by decide +kernel
theorem dX5_operate_28 : decode cX5_operate 28 = .ok (.iconst 1, 1) := by decide +kernel
theorem dX5_operate_29 : decode cX5_operate 29 = .ok (.if_icmp .lt 8, 3) := by decide +kernel
theorem dX5_operate_32 : decode cX5_operate 32 = .ok (.iload_n 1, 1) := by decide +kernel
theorem dX5_operate_33 : decode cX5_operate 33 = .ok (.iconst 4, 1) := by decide +kernel
theorem dX5_operate_34 : decode cX5_operate 34 = .ok (.if_icmp .le 9, 3) := by decide +kernel
theorem dX5_operate_37 : decode cX5_operate 37 = .ok (.aload_n 0, 1) := by decide +kernel
theorem dX5_operate_38 : decode cX5_operate 38 = .ok (.iconst 2, 1) := by decide +kernel
theorem dX5_operate_39 : decode cX5_operate 39 = .ok (.invokevirtual 65, 3) := by decide +kernel
theorem dX5_operate_42 : decode cX5_operate 42 = .ok (.ireturn, 1) := by decide +kernel
theorem dX5_operate_43 : decode cX5_operate 43 = .ok (.aload_n 0, 1) := by decide +kernel
theorem dX5_operate_44 : decode cX5_operate 44 = .ok (.getfield 54, 3) := by decide +kernel
theorem dX5_operate_47 : decode cX5_operate 47 = .ok (.bipush 60, 2) := by decide +kernel
theorem dX5_operate_49 : decode cX5_operate 49 = .ok (.if_icmp .ne 11, 3) := by decide +kernel
theorem dX5_operate_52 : decode cX5_operate 52 = .ok (.aload_n 0, 1) := by decide +kernel
theorem dX5_operate_53 : decode cX5_operate 53 = .ok (.iconst 3, 1) := by decide +kernel
theorem dX5_operate_54 : decode cX5_operate 54 = .ok (.invokevirtual 65, 3) := by decide +kernel
theorem dX5_operate_57 : decode cX5_operate 57 = .ok (.goto 10, 3) := by decide +kernel
theorem dX5_operate_60 : decode cX5_operate 60 = .ok (.aload_n 0, 1) := by decide +kernel
theorem dX5_operate_61 : decode cX5_operate 61 = .ok (.iload_n 1, 1) := by decide +kernel
theorem dX5_operate_62 : decode cX5_operate 62 = .ok (.iload_n 2, 1) := by decide +kernel
theorem dX5_operate_63 : decode cX5_operate 63 = .ok (.iload_n 3, 1) := by decide +kernel
theorem dX5_operate_64 : decode cX5_operate 64 = .ok (.invokevirtual 69, 3) := by decide +kernel
theorem dX5_operate_67 : decode cX5_operate 67 = .ok (.ireturn, 1) := by decide +kernel
set_option maxRecDepth 20000 in
theorem ggX5_pass_X5_hasValue : GoodIn wsX5_pass wsX5_hasValue := goodIn_r _ [7, 8, 9, 10, 11, 6, 12, 2, 24, 25, 26, 27, 28, 29, 30, 31, 32, 33, 34, 35, 36, 37, 38, 39, 40, 41, 42, 43] (by decide +kernel) (by decide +kernel)
set_option maxRecDepth 20000 in
theorem gX5_pass_X5_hasValue : GoodIn wsX5_pass (wsV RX5 73 RX5 yX5_hasValue wsX5_hasValue) := goodIn_app (goodIn_of _ (by decide +kernel)) ggX5_pass_X5_hasValue
set_option maxRecDepth 20000 in
theorem ggX5_pass_X5_fail : GoodIn wsX5_pass wsX5_fail := goodIn_r _ [16, 1, 24, 25, 26, 27, 28, 29, 30, 31, 32, 33, 34, 35, 36, 37, 38, 39, 40, 41, 42, 43] (by decide +kernel) (by decide +kernel)
set_option maxRecDepth 20000 in
theorem gX5_pass_X5_fail : GoodIn wsX5_pass (wsV RX5 65 RX5 yX5_fail wsX5_fail) := goodIn_app (goodIn_of _ (by decide +kernel)) ggX5_pass_X5_fail
set_option maxRecDepth 20000 in
theorem ggX5_pass_X5_append : GoodIn wsX5_pass wsX5_append := goodIn_r _ [20, 8, 2, 21, 22, 23, 24, 25, 26, 27, 28, 29, 30, 31, 32, 33, 34, 35, 36, 37, 38, 39, 40, 41, 42, 43] (by decide +kernel) (by decide +kernel)
set_option maxRecDepth 20000 in
theorem gX5_pass_X5_append : GoodIn wsX5_pass (wsV RX5 69 RX5 yX5_append wsX5_append) := goodIn_app (goodIn_of _ (by decide +kernel)) ggX5_pass_X5_append
theorem dX5_pass_0 : decode cX5_pass 0 = .ok (.aload_n 0, 1) := by decide +kernel
theorem dX5_pass_1 : decode cX5_pass 1 = .ok (.iconst 0, 1) := by decide +kernel
theorem dX5_pass_2 : decode cX5_pass 2 = .ok (.putfield 51, 3) := by decide +kernel
theorem dX5_pass_5 : decode cX5_pass 5 = .ok (.aload_n 0, 1) := by decide +kernel
theorem dX5_pass_6 : decode cX5_pass 6 = .ok (.iload_n 2, 1) := by decide +kernel
theorem dX5_pass_7 : decode cX5_pass 7 = .ok (.invokevirtual 73, 3) := by decide +kernel
theorem dX5_pass_10 : decode cX5_pass 10 = .ok (.ifCond .ne 9, 3) := by decide +kernel
theorem dX5_pass_13 : decode cX5_pass 13 = .ok (.aload_n 0, 1) := by decide +kernel
theorem dX5_pass_14 : decode cX5_pass 14 = .ok (.iconst 1, 1) := by decide +kernel
theorem dX5_pass_15 : decode cX5_pass 15 = .ok (.invokevirtual 65, 3) := by decide +kernel
theorem dX5_pass_18 : decode cX5_pass 18 = .ok (.ireturn, 1) := by decide +kernel
theorem dX5_pass_19 : decode cX5_pass 19 = .ok (.iload_n 1, 1) := by decide +kernel
theorem dX5_pass_20 : decode cX5_pass 20 = .ok (.iconst 5, 1) := by decide +kernel
theorem dX5_pass_21 : decode cX5_pass 21 = .ok (.if_icmp .eq 15, 3) := by decide +kernel
theorem dX5_pass_24 : decode cX5_pass 24 = .ok (.iload_n 1, 1) := by decide +kernel
theorem dX5_pass_25 : decode cX5_pass 25 = .ok (.bipush 6, 2) := by decide +kernel
theorem dX5_pass_27 : decode cX5_pass 27 = .ok (.if_icmp .eq 9, 3) := by decide +kernel
theorem dX5_pass_30 : decode cX5_pass 30 = .ok (.aload_n 0, 1) := by decide +kernel
theorem dX5_pass_31 : decode cX5_pass 31 = .ok (.iconst 2, 1) := by decide +kernel
theorem dX5_pass_32 : decode cX5_pass 32 = .ok (.invokevirtual 65, 3) := by decide +kernel
theorem dX5_pass_35 : decode cX5_pass 35 = .ok (.ireturn, 1) := by decide +kernel
theorem dX5_pass_36 : decode cX5_pass 36 = .ok (.aload_n 0, 1) := by decide +kernel
theorem dX5_pass_37 : decode cX5_pass 37 = .ok (.getfield 54, 3) := by decide +kernel
theorem dX5_pass_40 : decode cX5_pass 40 = .ok (.bipush 60, 2) := by decide +kernel
theorem dX5_pass_42 : decode cX5_pass 42 = .ok (.if_icmp .ne 11, 3) := by decide +kernel
theorem dX5_pass_45 : decode cX5_pass 45 = .ok (.aload_n 0, 1) := by decide +kernel
theorem dX5_pass_46 : decode cX5_pass 46 = .ok (.iconst 3, 1) := by decide +kernel
theorem dX5_pass_47 : decode cX5_pass 47 = .ok (.invokevirtual 65, 3) := by decide +kernel
theorem dX5_pass_50 : decode cX5_pass 50 = .ok (.goto 10, 3) := by decide +kernel
theorem dX5_pass_53 : decode cX5_pass 53 = .ok (.aload_n 0, 1) := by decide +kernel
theorem dX5_pass_54 : decode cX5_pass 54 = .ok (.iload_n 1, 1) := by decide +kernel
theorem dX5_pass_55 : decode cX5_pass 55 = .ok (.iload_n 2, 1) := by decide +kernel
theorem dX5_pass_56 : decode cX5_pass 56 = .ok (.iconst (-1), 1) := by decide +kernel
theorem dX5_pass_57 : decode cX5_pass 57 = .ok (.invokevirtual 69, 3) := by decide +kernel
theorem dX5_pass_60 : decode cX5_pass 60 = .ok (.ireturn, 1) := by decide +kernel
set_option maxRecDepth 20000 in
theorem ggX5_change_X5_isInstruction : GoodIn wsX5_change wsX5_isInstruction := goodIn_r _ [9, 10, 15, 16, 17, 18, 19, 20, 21, 22, 23, 24, 25, 26, 27, 28, 29, 30, 31, 32, 33, 34] (by decide +kernel) (by decide +kernel)
set_option maxRecDepth 20000 in
theorem gX5_change_X5_isInstruction : GoodIn wsX5_change (wsV RX5 57 RX5 yX5_isInstruction wsX5_isInstruction) := goodIn_app (goodIn_of _ (by decide +kernel)) ggX5_change_X5_isInstruction
set_option maxRecDepth 20000 in
theorem ggX5_change_X5_fail : GoodIn wsX5_change wsX5_fail := goodIn_r _ [14, 1, 15, 16, 17, 18, 19, 20, 21, 22, 23, 24, 25, 26, 27, 28, 29, 30, 31, 32, 33, 34] (by decide +kernel) (by decide +kernel)
set_option maxRecDepth 20000 in
theorem gX5_change_X5_fail : GoodIn wsX5_change (wsV RX5 65 RX5 yX5_fail wsX5_fail) := goodIn_app (goodIn_of _ (by decide +kernel)) ggX5_change_X5_fail
theorem dX5_change_0 : decode cX5_change 0 = .ok (.aload_n 0, 1) := by decide +kernel
theorem dX5_change_1 : decode cX5_change 1 = .ok (.iconst 0, 1) := by decide +kernel
theorem dX5_change_2 : decode cX5_change 2 = .ok (.putfield 51, 3) := by decide +kernel
theorem dX5_change_5 : decode cX5_change 5 = .ok (.aload_n 0, 1) := by decide +kernel
theorem dX5_change_6 : decode cX5_change 6 = .ok (.iload_n 1, 1) := by decide +kernel
theorem dX5_change_7 : decode cX5_change 7 = .ok (.invokevirtual 57, 3) := by decide +kernel
theorem dX5_change_10 : decode cX5_change 10 = .ok (.ifCond .ne 9, 3) := by decide +kernel
theorem dX5_change_13 : decode cX5_change 13 = .ok (.aload_n 0, 1) := by decide +kernel
theorem dX5_change_14 : decode cX5_change 14 = .ok (.iconst 1, 1) := by decide +kernel
theorem dX5_change_15 : decode cX5_change 15 = .ok (.invokevirtual 65, 3) := by decide +kernel
theorem dX5_change_18 : decode cX5_change 18 = .ok (.ireturn, 1) := by decide +kernel
theorem dX5_change_19 : decode cX5_change 19 = .ok (.aload_n 0, 1) := by decide +kernel
theorem dX5_change_20 : decode cX5_change 20 = .ok (.getfield 9, 3) := by decide +kernel
theorem dX5_change_23 : decode cX5_change 23 = .ok (.iload_n 1, 1) := by decide +kernel
theorem dX5_change_24 : decode cX5_change 24 = .ok (.iaload, 1) := by decide +kernel
theorem dX5_change_25 : decode cX5_change 25 = .ok (.ifCond .eq 9, 3) := by decide +kernel
theorem dX5_change_28 : decode cX5_change 28 = .ok (.aload_n 0, 1) := by decide +kernel
theorem dX5_change_29 : decode cX5_change 29 = .ok (.iconst 2, 1) := by decide +kernel
theorem dX5_change_30 : decode cX5_change 30 = .ok (.invokevirtual 65, 3) := by decide +kernel
theorem dX5_change_33 : decode cX5_change 33 = .ok (.ireturn, 1) := by decide +kernel
theorem dX5_change_34 : decode cX5_change 34 = .ok (.aload_n 0, 1) := by decide +kernel
theorem dX5_change_35 : decode cX5_change 35 = .ok (.getfield 13, 3) := by decide +kernel
theorem dX5_change_38 : decode cX5_change 38 = .ok (.iload_n 1, 1) := by decide +kernel
theorem dX5_change_39 : decode cX5_change 39 = .ok (.iaload, 1) := by decide +kernel
theorem dX5_change_40 : decode cX5_change 40 = .ok (.istore_n 3, 1) := by decide +kernel
theorem dX5_change_41 : decode cX5_change 41 = .ok (.aload_n 0, 1) := by decide +kernel
theorem dX5_change_42 : decode cX5_change 42 = .ok (.getfield 13, 3) := by decide +kernel
theorem dX5_change_45 : decode cX5_change 45 = .ok (.iload_n 1, 1) := by decide +kernel
theorem dX5_change_46 : decode cX5_change 46 = .ok (.iload_n 2, 1) := by decide +kernel
theorem dX5_change_47 : decode cX5_change 47 = .ok (.iastore, 1) := by decide +kernel
theorem dX5_change_48 : decode cX5_change 48 = .ok (.aload_n 0, 1) := by decide +kernel
theorem dX5_change_49 : decode cX5_change 49 = .ok (.iconst 0, 1) := by decide +kernel
theorem dX5_change_50 : decode cX5_change 50 = .ok (.putfield 61, 3) := by decide +kernel
theorem dX5_change_53 : decode cX5_change 53 = .ok (.iload_n 3, 1) := by decide +kernel
theorem dX5_change_54 : decode cX5_change 54 = .ok (.ireturn, 1) := by decide +kernel
set_option maxRecDepth 20000 in
theorem ggX5_cut_X5_fail : GoodIn wsX5_cut wsX5_fail := goodIn_r _ [8, 1, 9, 10, 11, 12, 13, 14, 15, 16, 17, 18, 19, 20, 21, 22, 23, 24, 25, 26, 27, 28] (by decide +kernel) (by decide +kernel)
set_option maxRecDepth 20000 in
theorem gX5_cut_X5_fail : GoodIn wsX5_cut (wsV RX5 65 RX5 yX5_fail wsX5_fail) := goodIn_app (goodIn_of _ (by decide +kernel)) ggX5_cut_X5_fail
theorem dX5_cut_0 : decode cX5_cut 0 = .ok (.aload_n 0, 1) := by decide +kernel
theorem dX5_cut_1 : decode cX5_cut 1 = .ok (.iconst 0, 1) := by decide +kernel
theorem dX5_cut_2 : decode cX5_cut 2 = .ok (.putfield 51, 3) := by decide +kernel
theorem dX5_cut_5 : decode cX5_cut 5 = .ok (.iload_n 1, 1) := by decide +kernel
theorem dX5_cut_6 : decode cX5_cut 6 = .ok (.ifCond .lt 11, 3) := by decide +kernel
theorem dX5_cut_9 : decode cX5_cut 9 = .ok (.iload_n 1, 1) := by decide +kernel
theorem dX5_cut_10 : decode cX5_cut 10 = .ok (.aload_n 0, 1) := by decide +kernel
theorem dX5_cut_11 : decode cX5_cut 11 = .ok (.getfield 54, 3) := by decide +kernel
theorem dX5_cut_14 : decode cX5_cut 14 = .ok (.if_icmp .le 9, 3) := by decide +kernel
theorem dX5_cut_17 : decode cX5_cut 17 = .ok (.aload_n 0, 1) := by decide +kernel
theorem dX5_cut_18 : decode cX5_cut 18 = .ok (.iconst 1, 1) := by decide +kernel
theorem dX5_cut_19 : decode cX5_cut 19 = .ok (.invokevirtual 65, 3) := by decide +kernel
theorem dX5_cut_22 : decode cX5_cut 22 = .ok (.ireturn, 1) := by decide +kernel
theorem dX5_cut_23 : decode cX5_cut 23 = .ok (.aload_n 0, 1) := by decide +kernel
theorem dX5_cut_24 : decode cX5_cut 24 = .ok (.dup, 1) := by decide +kernel
theorem dX5_cut_25 : decode cX5_cut 25 = .ok (.getfield 54, 3) := by decide +kernel
theorem dX5_cut_28 : decode cX5_cut 28 = .ok (.iload_n 1, 1) := by decide +kernel
theorem dX5_cut_29 : decode cX5_cut 29 = .ok (.isub, 1) := by decide +kernel
theorem dX5_cut_30 : decode cX5_cut 30 = .ok (.putfield 54, 3) := by decide +kernel
theorem dX5_cut_33 : decode cX5_cut 33 = .ok (.aload_n 0, 1) := by decide +kernel
theorem dX5_cut_34 : decode cX5_cut 34 = .ok (.iconst 0, 1) := by decide +kernel
theorem dX5_cut_35 : decode cX5_cut 35 = .ok (.putfield 61, 3) := by decide +kernel
theorem dX5_cut_38 : decode cX5_cut 38 = .ok (.aload_n 0, 1) := by decide +kernel
theorem dX5_cut_39 : decode cX5_cut 39 = .ok (.getfield 54, 3) := by decide +kernel
theorem dX5_cut_42 : decode cX5_cut 42 = .ok (.ireturn, 1) := by decide +kernel
theorem dX5_size_0 : decode cX5_size 0 = .ok (.aload_n 0, 1) := by decide +kernel
theorem dX5_size_1 : decode cX5_size 1 = .ok (.iconst 0, 1) := by decide +kernel
theorem dX5_size_2 : decode cX5_size 2 = .ok (.putfield 51, 3) := by decide +kernel
theorem dX5_size_5 : decode cX5_size 5 = .ok (.aload_n 0, 1) := by decide +kernel
theorem dX5_size_6 : decode cX5_size 6 = .ok (.getfield 54, 3) := by decide +kernel
theorem dX5_size_9 : decode cX5_size 9 = .ok (.ireturn, 1) := by decide +kernel
set_option maxRecDepth 20000 in
theorem ggX5_kind_X5_isInstruction : GoodIn wsX5_kind wsX5_isInstruction := goodIn_r _ [7, 8, 13, 14, 15, 16, 17, 18, 19, 20, 21, 22, 23, 24, 25, 26, 27, 28, 29, 30, 31, 32] (by decide +kernel) (by decide +kernel)
set_option maxRecDepth 20000 in
theorem gX5_kind_X5_isInstruction : GoodIn wsX5_kind (wsV RX5 57 RX5 yX5_isInstruction wsX5_isInstruction) := goodIn_app (goodIn_of _ (by decide +kernel)) ggX5_kind_X5_isInstruction
set_option maxRecDepth 20000 in
theorem ggX5_kind_X5_fail : GoodIn wsX5_kind wsX5_fail := goodIn_r _ [12, 1, 13, 14, 15, 16, 17, 18, 19, 20, 21, 22, 23, 24, 25, 26, 27, 28, 29, 30, 31, 32] (by decide +kernel) (by decide +kernel)
set_option maxRecDepth 20000 in
theorem gX5_kind_X5_fail : GoodIn wsX5_kind (wsV RX5 65 RX5 yX5_fail wsX5_fail) := goodIn_app (goodIn_of _ (by decide +kernel)) ggX5_kind_X5_fail
theorem dX5_kind_0 : decode cX5_kind 0 = .ok (.aload_n 0, 1) := by decide +kernel
theorem dX5_kind_1 : decode cX5_kind 1 = .ok (.iconst 0, 1) := by decide +kernel
theorem dX5_kind_2 : decode cX5_kind 2 = .ok (.putfield 51, 3) := by decide +kernel
theorem dX5_kind_5 : decode cX5_kind 5 = .ok (.aload_n 0, 1) := by decide +kernel
theorem dX5_kind_6 : decode cX5_kind 6 = .ok (.iload_n 1, 1) := by decide +kernel
theorem dX5_kind_7 : decode cX5_kind 7 = .ok (.invokevirtual 57, 3) := by decide +kernel
theorem dX5_kind_10 : decode cX5_kind 10 = .ok (.ifCond .eq 12, 3) := by decide +kernel
theorem dX5_kind_13 : decode cX5_kind 13 = .ok (.aload_n 0, 1) := by decide +kernel
theorem dX5_kind_14 : decode cX5_kind 14 = .ok (.getfield 9, 3) := by decide +kernel
theorem dX5_kind_17 : decode cX5_kind 17 = .ok (.iload_n 1, 1) := by decide +kernel
theorem dX5_kind_18 : decode cX5_kind 18 = .ok (.iaload, 1) := by decide +kernel
theorem dX5_kind_19 : decode cX5_kind 19 = .ok (.goto 8, 3) := by decide +kernel
theorem dX5_kind_22 : decode cX5_kind 22 = .ok (.aload_n 0, 1) := by decide +kernel
theorem dX5_kind_23 : decode cX5_kind 23 = .ok (.iconst 1, 1) := by decide +kernel
theorem dX5_kind_24 : decode cX5_kind 24 = .ok (.invokevirtual 65, 3) := by decide +kernel
theorem dX5_kind_27 : decode cX5_kind 27 = .ok (.ireturn, 1) := by decide +kernel
theorem dX5_takes_0 : decode cX5_takes 0 = .ok (.aload_n 0, 1) := by decide +kernel
theorem dX5_takes_1 : decode cX5_takes 1 = .ok (.getfield 9, 3) := by decide +kernel
theorem dX5_takes_4 : decode cX5_takes 4 = .ok (.iload_n 1, 1) := by decide +kernel
theorem dX5_takes_5 : decode cX5_takes 5 = .ok (.iaload, 1) := by decide +kernel
theorem dX5_takes_6 : decode cX5_takes 6 = .ok (.ifCond .eq 27, 3) := by decide +kernel
theorem dX5_takes_9 : decode cX5_takes 9 = .ok (.aload_n 0, 1) := by decide +kernel
theorem dX5_takes_10 : decode cX5_takes 10 = .ok (.getfield 13, 3) := by decide +kernel
theorem dX5_takes_13 : decode cX5_takes 13 = .ok (.iload_n 1, 1) := by decide +kernel
theorem dX5_takes_14 : decode cX5_takes 14 = .ok (.iaload, 1) := by decide +kernel
theorem dX5_takes_15 : decode cX5_takes 15 = .ok (.iload_n 2, 1) := by decide +kernel
theorem dX5_takes_16 : decode cX5_takes 16 = .ok (.if_icmp .eq 13, 3) := by decide +kernel
theorem dX5_takes_19 : decode cX5_takes 19 = .ok (.aload_n 0, 1) := by decide +kernel
theorem dX5_takes_20 : decode cX5_takes 20 = .ok (.getfield 16, 3) := by decide +kernel
theorem dX5_takes_23 : decode cX5_takes 23 = .ok (.iload_n 1, 1) := by decide +kernel
theorem dX5_takes_24 : decode cX5_takes 24 = .ok (.iaload, 1) := by decide +kernel
theorem dX5_takes_25 : decode cX5_takes 25 = .ok (.iload_n 2, 1) := by decide +kernel
theorem dX5_takes_26 : decode cX5_takes 26 = .ok (.if_icmp .ne 7, 3) := by decide +kernel
theorem dX5_takes_29 : decode cX5_takes 29 = .ok (.iconst 1, 1) := by decide +kernel
theorem dX5_takes_30 : decode cX5_takes 30 = .ok (.goto 4, 3) := by decide +kernel
theorem dX5_takes_33 : decode cX5_takes 33 = .ok (.iconst 0, 1) := by decide +kernel
theorem dX5_takes_34 : decode cX5_takes 34 = .ok (.ireturn, 1) := by decide +kernel
set_option maxRecDepth 20000 in
theorem ggX5_count_X5_takes : GoodIn wsX5_count wsX5_takes := goodIn_r _ [8, 3, 9, 10, 11, 12, 13, 14, 15, 16, 17, 18, 19, 20, 21, 22, 23, 24, 25, 26, 27, 28, 29, 30] (by decide +kernel) (by decide +kernel)
set_option maxRecDepth 20000 in
theorem gX5_count_X5_takes : GoodIn wsX5_count (wsV RX5 76 RX5 yX5_takes wsX5_takes) := goodIn_app (goodIn_of _ (by decide +kernel)) ggX5_count_X5_takes
theorem dX5_count_0 : decode cX5_count 0 = .ok (.aload_n 0, 1) := by decide +kernel
theorem dX5_count_1 : decode cX5_count 1 = .ok (.getfield 54, 3) := by decide +kernel
theorem dX5_count_4 : decode cX5_count 4 = .ok (.iconst 1, 1) := by decide +kernel
theorem dX5_count_5 : decode cX5_count 5 = .ok (.isub, 1) := by decide +kernel
theorem dX5_count_6 : decode cX5_count 6 = .ok (.istore_n 1, 1) := by decide +kernel
theorem dX5_count_7 : decode cX5_count 7 = .ok (.iload_n 1, 1) := by decide +kernel
theorem dX5_count_8 : decode cX5_count 8 = .ok (.ifCond .lt 87, 3) := by decide +kernel
theorem dX5_count_11 : decode cX5_count 11 = .ok (.aload_n 0, 1) := by decide +kernel
theorem dX5_count_12 : decode cX5_count 12 = .ok (.getfield 29, 3) := by decide +kernel
theorem dX5_count_15 : decode cX5_count 15 = .ok (.iload_n 1, 1) := by decide +kernel
theorem dX5_count_16 : decode cX5_count 16 = .ok (.aload_n 0, 1) := by decide +kernel
theorem dX5_count_17 : decode cX5_count 17 = .ok (.getfield 9, 3) := by decide +kernel
theorem dX5_count_20 : decode cX5_count 20 = .ok (.iload_n 1, 1) := by decide +kernel
theorem dX5_count_21 : decode cX5_count 21 = .ok (.iaload, 1) := by decide +kernel
theorem dX5_count_22 : decode cX5_count 22 = .ok (.bipush 6, 2) := by decide +kernel
theorem dX5_count_24 : decode cX5_count 24 = .ok (.if_icmp .ne 7, 3) := by decide +kernel
theorem dX5_count_27 : decode cX5_count 27 = .ok (.iconst 1, 1) := by decide +kernel
theorem dX5_count_28 : decode cX5_count 28 = .ok (.goto 4, 3) := by decide +kernel
theorem dX5_count_31 : decode cX5_count 31 = .ok (.iconst 0, 1) := by decide +kernel
theorem dX5_count_32 : decode cX5_count 32 = .ok (.bastore, 1) := by decide +kernel
theorem dX5_count_33 : decode cX5_count 33 = .ok (.iload_n 1, 1) := by decide +kernel
theorem dX5_count_34 : decode cX5_count 34 = .ok (.iconst 1, 1) := by decide +kernel
theorem dX5_count_35 : decode cX5_count 35 = .ok (.iadd, 1) := by decide +kernel
theorem dX5_count_36 : decode cX5_count 36 = .ok (.istore_n 2, 1) := by decide +kernel
theorem dX5_count_37 : decode cX5_count 37 = .ok (.iload_n 2, 1) := by decide +kernel
theorem dX5_count_38 : decode cX5_count 38 = .ok (.aload_n 0, 1) := by decide +kernel
theorem dX5_count_39 : decode cX5_count 39 = .ok (.getfield 54, 3) := by decide +kernel
theorem dX5_count_42 : decode cX5_count 42 = .ok (.if_icmp .ge 47, 3) := by decide +kernel
theorem dX5_count_45 : decode cX5_count 45 = .ok (.aload_n 0, 1) := by decide +kernel
theorem dX5_count_46 : decode cX5_count 46 = .ok (.getfield 29, 3) := by decide +kernel
theorem dX5_count_49 : decode cX5_count 49 = .ok (.iload_n 1, 1) := by decide +kernel
theorem dX5_count_50 : decode cX5_count 50 = .ok (.aload_n 0, 1) := by decide +kernel
theorem dX5_count_51 : decode cX5_count 51 = .ok (.getfield 29, 3) := by decide +kernel
theorem dX5_count_54 : decode cX5_count 54 = .ok (.iload_n 1, 1) := by decide +kernel
theorem dX5_count_55 : decode cX5_count 55 = .ok (.baload, 1) := by decide +kernel
theorem dX5_count_56 : decode cX5_count 56 = .ok (.ifCond .ne 21, 3) := by decide +kernel
theorem dX5_count_59 : decode cX5_count 59 = .ok (.aload_n 0, 1) := by decide +kernel
theorem dX5_count_60 : decode cX5_count 60 = .ok (.getfield 29, 3) := by decide +kernel
theorem dX5_count_63 : decode cX5_count 63 = .ok (.iload_n 2, 1) := by decide +kernel
theorem dX5_count_64 : decode cX5_count 64 = .ok (.baload, 1) := by decide +kernel
theorem dX5_count_65 : decode cX5_count 65 = .ok (.ifCond .eq 16, 3) := by decide +kernel
theorem dX5_count_68 : decode cX5_count 68 = .ok (.aload_n 0, 1) := by decide +kernel
theorem dX5_count_69 : decode cX5_count 69 = .ok (.iload_n 2, 1) := by decide +kernel
theorem dX5_count_70 : decode cX5_count 70 = .ok (.iload_n 1, 1) := by decide +kernel
theorem dX5_count_71 : decode cX5_count 71 = .ok (.invokevirtual 76, 3) := by decide +kernel
theorem dX5_count_74 : decode cX5_count 74 = .ok (.ifCond .eq 7, 3) := by decide +kernel
theorem dX5_count_77 : decode cX5_count 77 = .ok (.iconst 1, 1) := by decide +kernel
theorem dX5_count_78 : decode cX5_count 78 = .ok (.goto 4, 3) := by decide +kernel
theorem dX5_count_81 : decode cX5_count 81 = .ok (.iconst 0, 1) := by decide +kernel
theorem dX5_count_82 : decode cX5_count 82 = .ok (.bastore, 1) := by decide +kernel
theorem dX5_count_83 : decode cX5_count 83 = .ok (.iinc 2 1, 3) := by decide +kernel
theorem dX5_count_86 : decode cX5_count 86 = .ok (.goto (-49), 3) := by decide +kernel
theorem dX5_count_89 : decode cX5_count 89 = .ok (.iinc 1 (-1), 3) := by decide +kernel
theorem dX5_count_92 : decode cX5_count 92 = .ok (.goto (-85), 3) := by decide +kernel
theorem dX5_count_95 : decode cX5_count 95 = .ok (.return_, 1) := by decide +kernel
set_option maxRecDepth 20000 in
theorem ggX5_counts_X5_isInstruction : GoodIn wsX5_counts wsX5_isInstruction := goodIn_r _ [7, 8, 20, 21, 22, 23, 24, 25, 26, 27, 28, 29, 30, 31, 32, 33, 34, 35, 36, 37, 38, 39] (by decide +kernel) (by decide +kernel)
set_option maxRecDepth 20000 in
theorem gX5_counts_X5_isInstruction : GoodIn wsX5_counts (wsV RX5 57 RX5 yX5_isInstruction wsX5_isInstruction) := goodIn_app (goodIn_of _ (by decide +kernel)) ggX5_counts_X5_isInstruction
set_option maxRecDepth 20000 in
theorem ggX5_counts_X5_count : GoodIn wsX5_counts wsX5_count := goodIn_r _ [12, 8, 2, 13, 14, 15, 16, 6, 17, 18, 19, 20, 21, 22, 23, 24, 25, 26, 27, 28, 29, 30, 31, 32, 33, 34, 35, 36, 37, 38, 39] (by decide +kernel) (by decide +kernel)
set_option maxRecDepth 20000 in
theorem gX5_counts_X5_count : GoodIn wsX5_counts (wsV RX5 80 RX5 yX5_count wsX5_count) := goodIn_app (goodIn_of _ (by decide +kernel)) ggX5_counts_X5_count
theorem dX5_counts_0 : decode cX5_counts 0 = .ok (.aload_n 0, 1) := by decide +kernel
theorem dX5_counts_1 : decode cX5_counts 1 = .ok (.aload_n 0, 1) := by decide +kernel
theorem dX5_counts_2 : decode cX5_counts 2 = .ok (.iload_n 1, 1) := by decide +kernel
theorem dX5_counts_3 : decode cX5_counts 3 = .ok (.invokevirtual 57, 3) := by decide +kernel
theorem dX5_counts_6 : decode cX5_counts 6 = .ok (.ifCond .eq 7, 3) := by decide +kernel
theorem dX5_counts_9 : decode cX5_counts 9 = .ok (.iconst 0, 1) := by decide +kernel
theorem dX5_counts_10 : decode cX5_counts 10 = .ok (.goto 4, 3) := by decide +kernel
theorem dX5_counts_13 : decode cX5_counts 13 = .ok (.iconst 1, 1) := by decide +kernel
theorem dX5_counts_14 : decode cX5_counts 14 = .ok (.putfield 51, 3) := by decide +kernel
theorem dX5_counts_17 : decode cX5_counts 17 = .ok (.aload_n 0, 1) := by decide +kernel
theorem dX5_counts_18 : decode cX5_counts 18 = .ok (.getfield 51, 3) := by decide +kernel
theorem dX5_counts_21 : decode cX5_counts 21 = .ok (.ifCond .eq 5, 3) := by decide +kernel
theorem dX5_counts_24 : decode cX5_counts 24 = .ok (.iconst 0, 1) := by decide +kernel
theorem dX5_counts_25 : decode cX5_counts 25 = .ok (.ireturn, 1) := by decide +kernel
theorem dX5_counts_26 : decode cX5_counts 26 = .ok (.aload_n 0, 1) := by decide +kernel
theorem dX5_counts_27 : decode cX5_counts 27 = .ok (.invokevirtual 80, 3) := by decide +kernel
theorem dX5_counts_30 : decode cX5_counts 30 = .ok (.aload_n 0, 1) := by decide +kernel
theorem dX5_counts_31 : decode cX5_counts 31 = .ok (.getfield 29, 3) := by decide +kernel
theorem dX5_counts_34 : decode cX5_counts 34 = .ok (.iload_n 1, 1) := by decide +kernel
theorem dX5_counts_35 : decode cX5_counts 35 = .ok (.baload, 1) := by decide +kernel
theorem dX5_counts_36 : decode cX5_counts 36 = .ok (.ireturn, 1) := by decide +kernel
set_option maxRecDepth 20000 in
theorem ggX5_useFrom_X5_takes : GoodIn wsX5_useFrom wsX5_takes := goodIn_r _ [11, 12, 13, 14, 15, 16, 17, 18, 19, 20, 21, 22, 23, 24, 25, 26, 27, 28, 29, 30, 31, 32, 33, 34] (by decide +kernel) (by decide +kernel)
set_option maxRecDepth 20000 in
theorem gX5_useFrom_X5_takes : GoodIn wsX5_useFrom (wsV RX5 76 RX5 yX5_takes wsX5_takes) := goodIn_app (goodIn_of _ (by decide +kernel)) ggX5_useFrom_X5_takes
theorem dX5_useFrom_0 : decode cX5_useFrom 0 = .ok (.iload_n 2, 1) := by decide +kernel
theorem dX5_useFrom_1 : decode cX5_useFrom 1 = .ok (.iconst 0, 1) := by decide +kernel
theorem dX5_useFrom_2 : decode cX5_useFrom 2 = .ok (.invokestatic 83, 3) := by decide +kernel
theorem dX5_useFrom_5 : decode cX5_useFrom 5 = .ok (.istore_n 3, 1) := by decide +kernel
theorem dX5_useFrom_6 : decode cX5_useFrom 6 = .ok (.iload_n 3, 1) := by decide +kernel
theorem dX5_useFrom_7 : decode cX5_useFrom 7 = .ok (.aload_n 0, 1) := by decide +kernel
theorem dX5_useFrom_8 : decode cX5_useFrom 8 = .ok (.getfield 54, 3) := by decide +kernel
theorem dX5_useFrom_11 : decode cX5_useFrom 11 = .ok (.if_icmp .ge 29, 3) := by decide +kernel
theorem dX5_useFrom_14 : decode cX5_useFrom 14 = .ok (.aload_n 0, 1) := by decide +kernel
theorem dX5_useFrom_15 : decode cX5_useFrom 15 = .ok (.getfield 29, 3) := by decide +kernel
theorem dX5_useFrom_18 : decode cX5_useFrom 18 = .ok (.iload_n 3, 1) := by decide +kernel
theorem dX5_useFrom_19 : decode cX5_useFrom 19 = .ok (.baload, 1) := by decide +kernel
theorem dX5_useFrom_20 : decode cX5_useFrom 20 = .ok (.ifCond .eq 14, 3) := by decide +kernel
theorem dX5_useFrom_23 : decode cX5_useFrom 23 = .ok (.aload_n 0, 1) := by decide +kernel
theorem dX5_useFrom_24 : decode cX5_useFrom 24 = .ok (.iload_n 3, 1) := by decide +kernel
theorem dX5_useFrom_25 : decode cX5_useFrom 25 = .ok (.iload_n 1, 1) := by decide +kernel
theorem dX5_useFrom_26 : decode cX5_useFrom 26 = .ok (.invokevirtual 76, 3) := by decide +kernel
theorem dX5_useFrom_29 : decode cX5_useFrom 29 = .ok (.ifCond .eq 5, 3) := by decide +kernel
theorem dX5_useFrom_32 : decode cX5_useFrom 32 = .ok (.iload_n 3, 1) := by decide +kernel
theorem dX5_useFrom_33 : decode cX5_useFrom 33 = .ok (.ireturn, 1) := by decide +kernel
theorem dX5_useFrom_34 : decode cX5_useFrom 34 = .ok (.iinc 3 1, 3) := by decide +kernel
theorem dX5_useFrom_37 : decode cX5_useFrom 37 = .ok (.goto (-31), 3) := by decide +kernel
theorem dX5_useFrom_40 : decode cX5_useFrom 40 = .ok (.iconst (-1), 1) := by decide +kernel
theorem dX5_useFrom_41 : decode cX5_useFrom 41 = .ok (.ireturn, 1) := by decide +kernel
set_option maxRecDepth 20000 in
theorem ggX5_nextUse_X5_isInstruction : GoodIn wsX5_nextUse wsX5_isInstruction := goodIn_r _ [6, 7, 32, 33, 34, 35, 36, 37, 38, 39, 40, 41, 42, 43, 44, 45, 46, 47, 48, 49, 50, 51] (by decide +kernel) (by decide +kernel)
set_option maxRecDepth 20000 in
theorem gX5_nextUse_X5_isInstruction : GoodIn wsX5_nextUse (wsV RX5 57 RX5 yX5_isInstruction wsX5_isInstruction) := goodIn_app (goodIn_of _ (by decide +kernel)) ggX5_nextUse_X5_isInstruction
set_option maxRecDepth 20000 in
theorem ggX5_nextUse_X5_fail : GoodIn wsX5_nextUse wsX5_fail := goodIn_r _ [11, 1, 32, 33, 34, 35, 36, 37, 38, 39, 40, 41, 42, 43, 44, 45, 46, 47, 48, 49, 50, 51] (by decide +kernel) (by decide +kernel)
set_option maxRecDepth 20000 in
theorem gX5_nextUse_X5_fail : GoodIn wsX5_nextUse (wsV RX5 65 RX5 yX5_fail wsX5_fail) := goodIn_app (goodIn_of _ (by decide +kernel)) ggX5_nextUse_X5_fail
set_option maxRecDepth 20000 in
theorem ggX5_nextUse_X5_count : GoodIn wsX5_nextUse wsX5_count := goodIn_r _ [15, 7, 16, 17, 18, 19, 20, 5, 21, 22, 23, 32, 33, 34, 35, 36, 37, 38, 39, 40, 41, 42, 43, 44, 45, 46, 47, 48, 49, 50, 51] (by decide +kernel) (by decide +kernel)
set_option maxRecDepth 20000 in
theorem gX5_nextUse_X5_count : GoodIn wsX5_nextUse (wsV RX5 80 RX5 yX5_count wsX5_count) := goodIn_app (goodIn_of _ (by decide +kernel)) ggX5_nextUse_X5_count
set_option maxRecDepth 20000 in
theorem ggX5_nextUse_X5_useFrom : GoodIn wsX5_nextUse wsX5_useFrom := goodIn_r _ [27, 28, 29, 30, 31, 7, 16, 18, 19, 20, 5, 21, 17, 22, 23, 32, 33, 34, 35, 36, 37, 38, 39, 40, 41, 42, 43, 44, 45, 46, 47, 48, 49, 50, 51] (by decide +kernel) (by decide +kernel)
set_option maxRecDepth 20000 in
theorem gX5_nextUse_X5_useFrom : GoodIn wsX5_nextUse (wsV RX5 89 RX5 yX5_useFrom wsX5_useFrom) := goodIn_app (goodIn_of _ (by decide +kernel)) ggX5_nextUse_X5_useFrom
theorem dX5_nextUse_0 : decode cX5_nextUse 0 = .ok (.aload_n 0, 1) := by decide +kernel
theorem dX5_nextUse_1 : decode cX5_nextUse 1 = .ok (.iconst 0, 1) := by decide +kernel
theorem dX5_nextUse_2 : decode cX5_nextUse 2 = .ok (.putfield 51, 3) := by decide +kernel
theorem dX5_nextUse_5 : decode cX5_nextUse 5 = .ok (.aload_n 0, 1) := by decide +kernel
theorem dX5_nextUse_6 : decode cX5_nextUse 6 = .ok (.iload_n 1, 1) := by decide +kernel
theorem dX5_nextUse_7 : decode cX5_nextUse 7 = .ok (.invokevirtual 57, 3) := by decide +kernel
theorem dX5_nextUse_10 : decode cX5_nextUse 10 = .ok (.ifCond .ne 9, 3) := by decide +kernel
theorem dX5_nextUse_13 : decode cX5_nextUse 13 = .ok (.aload_n 0, 1) := by decide +kernel
theorem dX5_nextUse_14 : decode cX5_nextUse 14 = .ok (.iconst 1, 1) := by decide +kernel
theorem dX5_nextUse_15 : decode cX5_nextUse 15 = .ok (.invokevirtual 65, 3) := by decide +kernel
theorem dX5_nextUse_18 : decode cX5_nextUse 18 = .ok (.ireturn, 1) := by decide +kernel
theorem dX5_nextUse_19 : decode cX5_nextUse 19 = .ok (.aload_n 0, 1) := by decide +kernel
theorem dX5_nextUse_20 : decode cX5_nextUse 20 = .ok (.invokevirtual 80, 3) := by decide +kernel
theorem dX5_nextUse_23 : decode cX5_nextUse 23 = .ok (.aload_n 0, 1) := by decide +kernel
theorem dX5_nextUse_24 : decode cX5_nextUse 24 = .ok (.iload_n 1, 1) := by decide +kernel
theorem dX5_nextUse_25 : decode cX5_nextUse 25 = .ok (.iload_n 2, 1) := by decide +kernel
theorem dX5_nextUse_26 : decode cX5_nextUse 26 = .ok (.invokevirtual 89, 3) := by decide +kernel
theorem dX5_nextUse_29 : decode cX5_nextUse 29 = .ok (.ireturn, 1) := by decide +kernel
set_option maxRecDepth 20000 in
theorem ggX5_pressure_X5_isInstruction : GoodIn wsX5_pressure wsX5_isInstruction := goodIn_r _ [6, 7, 32, 33, 34, 35, 36, 37, 38, 39, 40, 41, 42, 43, 44, 45, 46, 47, 48, 49, 50, 51] (by decide +kernel) (by decide +kernel)
set_option maxRecDepth 20000 in
theorem gX5_pressure_X5_isInstruction : GoodIn wsX5_pressure (wsV RX5 57 RX5 yX5_isInstruction wsX5_isInstruction) := goodIn_app (goodIn_of _ (by decide +kernel)) ggX5_pressure_X5_isInstruction
set_option maxRecDepth 20000 in
theorem ggX5_pressure_X5_fail : GoodIn wsX5_pressure wsX5_fail := goodIn_r _ [11, 1, 32, 33, 34, 35, 36, 37, 38, 39, 40, 41, 42, 43, 44, 45, 46, 47, 48, 49, 50, 51] (by decide +kernel) (by decide +kernel)
set_option maxRecDepth 20000 in
theorem gX5_pressure_X5_fail : GoodIn wsX5_pressure (wsV RX5 65 RX5 yX5_fail wsX5_fail) := goodIn_app (goodIn_of _ (by decide +kernel)) ggX5_pressure_X5_fail
set_option maxRecDepth 20000 in
theorem ggX5_pressure_X5_count : GoodIn wsX5_pressure wsX5_count := goodIn_r _ [15, 7, 16, 17, 18, 19, 20, 5, 21, 22, 23, 32, 33, 34, 35, 36, 37, 38, 39, 40, 41, 42, 43, 44, 45, 46, 47, 48, 49, 50, 51] (by decide +kernel) (by decide +kernel)
set_option maxRecDepth 20000 in
theorem gX5_pressure_X5_count : GoodIn wsX5_pressure (wsV RX5 80 RX5 yX5_count wsX5_count) := goodIn_app (goodIn_of _ (by decide +kernel)) ggX5_pressure_X5_count
set_option maxRecDepth 20000 in
theorem ggX5_pressure_X5_useFrom : GoodIn wsX5_pressure wsX5_useFrom := goodIn_r _ [27, 28, 29, 30, 31, 7, 16, 18, 19, 20, 5, 21, 17, 22, 23, 32, 33, 34, 35, 36, 37, 38, 39, 40, 41, 42, 43, 44, 45, 46, 47, 48, 49, 50, 51] (by decide +kernel) (by decide +kernel)
set_option maxRecDepth 20000 in
theorem gX5_pressure_X5_useFrom : GoodIn wsX5_pressure (wsV RX5 89 RX5 yX5_useFrom wsX5_useFrom) := goodIn_app (goodIn_of _ (by decide +kernel)) ggX5_pressure_X5_useFrom
theorem dX5_pressure_0 : decode cX5_pressure 0 = .ok (.aload_n 0, 1) := by decide +kernel
theorem dX5_pressure_1 : decode cX5_pressure 1 = .ok (.iconst 0, 1) := by decide +kernel
theorem dX5_pressure_2 : decode cX5_pressure 2 = .ok (.putfield 51, 3) := by decide +kernel
theorem dX5_pressure_5 : decode cX5_pressure 5 = .ok (.aload_n 0, 1) := by decide +kernel
theorem dX5_pressure_6 : decode cX5_pressure 6 = .ok (.iload_n 1, 1) := by decide +kernel
theorem dX5_pressure_7 : decode cX5_pressure 7 = .ok (.invokevirtual 57, 3) := by decide +kernel
theorem dX5_pressure_10 : decode cX5_pressure 10 = .ok (.ifCond .ne 9, 3) := by decide +kernel
theorem dX5_pressure_13 : decode cX5_pressure 13 = .ok (.aload_n 0, 1) := by decide +kernel
theorem dX5_pressure_14 : decode cX5_pressure 14 = .ok (.iconst 1, 1) := by decide +kernel
theorem dX5_pressure_15 : decode cX5_pressure 15 = .ok (.invokevirtual 65, 3) := by decide +kernel
theorem dX5_pressure_18 : decode cX5_pressure 18 = .ok (.ireturn, 1) := by decide +kernel
theorem dX5_pressure_19 : decode cX5_pressure 19 = .ok (.aload_n 0, 1) := by decide +kernel
theorem dX5_pressure_20 : decode cX5_pressure 20 = .ok (.invokevirtual 80, 3) := by decide +kernel
theorem dX5_pressure_23 : decode cX5_pressure 23 = .ok (.iconst 0, 1) := by decide +kernel
theorem dX5_pressure_24 : decode cX5_pressure 24 = .ok (.istore_n 2, 1) := by decide +kernel
theorem dX5_pressure_25 : decode cX5_pressure 25 = .ok (.iconst 0, 1) := by decide +kernel
theorem dX5_pressure_26 : decode cX5_pressure 26 = .ok (.istore_n 3, 1) := by decide +kernel
theorem dX5_pressure_27 : decode cX5_pressure 27 = .ok (.iload_n 3, 1) := by decide +kernel
theorem dX5_pressure_28 : decode cX5_pressure 28 = .ok (.iload_n 1, 1) := by decide +kernel
theorem dX5_pressure_29 : decode cX5_pressure 29 = .ok (.if_icmp .gt 29, 3) := by decide +kernel
theorem dX5_pressure_32 : decode cX5_pressure 32 = .ok (.iload_n 2, 1) := by decide +kernel
theorem dX5_pressure_33 : decode cX5_pressure 33 = .ok (.aload_n 0, 1) := by decide +kernel
theorem dX5_pressure_34 : decode cX5_pressure 34 = .ok (.iload_n 3, 1) := by decide +kernel
theorem dX5_pressure_35 : decode cX5_pressure 35 = .ok (.iload_n 1, 1) := by decide +kernel
theorem dX5_pressure_36 : decode cX5_pressure 36 = .ok (.iconst 1, 1) := by decide +kernel
theorem dX5_pressure_37 : decode cX5_pressure 37 = .ok (.iadd, 1) := by decide +kernel
theorem dX5_pressure_38 : decode cX5_pressure 38 = .ok (.invokevirtual 89, 3) := by decide +kernel
theorem dX5_pressure_41 : decode cX5_pressure 41 = .ok (.iconst (-1), 1) := by decide +kernel
theorem dX5_pressure_42 : decode cX5_pressure 42 = .ok (.if_icmp .ne 7, 3) := by decide +kernel
theorem dX5_pressure_45 : decode cX5_pressure 45 = .ok (.iconst 0, 1) := by decide +kernel
theorem dX5_pressure_46 : decode cX5_pressure 46 = .ok (.goto 4, 3) := by decide +kernel
theorem dX5_pressure_49 : decode cX5_pressure 49 = .ok (.iconst 1, 1) := by decide +kernel
theorem dX5_pressure_50 : decode cX5_pressure 50 = .ok (.iadd, 1) := by decide +kernel
theorem dX5_pressure_51 : decode cX5_pressure 51 = .ok (.istore_n 2, 1) := by decide +kernel
theorem dX5_pressure_52 : decode cX5_pressure 52 = .ok (.iinc 3 1, 3) := by decide +kernel
theorem dX5_pressure_55 : decode cX5_pressure 55 = .ok (.goto (-28), 3) := by decide +kernel
theorem dX5_pressure_58 : decode cX5_pressure 58 = .ok (.iload_n 2, 1) := by decide +kernel
theorem dX5_pressure_59 : decode cX5_pressure 59 = .ok (.ireturn, 1) := by decide +kernel
set_option maxRecDepth 20000 in
theorem ggX5_setRegisters_X5_fail : GoodIn wsX5_setRegisters wsX5_fail := goodIn_r _ [8, 1, 9, 10, 11, 12, 13, 14, 15, 16, 17, 18, 19, 20, 21, 22, 23, 24, 25, 26, 27, 28] (by decide +kernel) (by decide +kernel)
set_option maxRecDepth 20000 in
theorem gX5_setRegisters_X5_fail : GoodIn wsX5_setRegisters (wsV RX5 65 RX5 yX5_fail wsX5_fail) := goodIn_app (goodIn_of _ (by decide +kernel)) ggX5_setRegisters_X5_fail
theorem dX5_setRegisters_0 : decode cX5_setRegisters 0 = .ok (.aload_n 0, 1) := by decide +kernel
theorem dX5_setRegisters_1 : decode cX5_setRegisters 1 = .ok (.iconst 0, 1) := by decide +kernel
theorem dX5_setRegisters_2 : decode cX5_setRegisters 2 = .ok (.putfield 51, 3) := by decide +kernel
theorem dX5_setRegisters_5 : decode cX5_setRegisters 5 = .ok (.iload_n 1, 1) := by decide +kernel
theorem dX5_setRegisters_6 : decode cX5_setRegisters 6 = .ok (.iconst 2, 1) := by decide +kernel
theorem dX5_setRegisters_7 : decode cX5_setRegisters 7 = .ok (.if_icmp .lt 9, 3) := by decide +kernel
theorem dX5_setRegisters_10 : decode cX5_setRegisters 10 = .ok (.iload_n 1, 1) := by decide +kernel
theorem dX5_setRegisters_11 : decode cX5_setRegisters 11 = .ok (.bipush 8, 2) := by decide +kernel
theorem dX5_setRegisters_13 : decode cX5_setRegisters 13 = .ok (.if_icmp .le 9, 3) := by decide +kernel
theorem dX5_setRegisters_16 : decode cX5_setRegisters 16 = .ok (.aload_n 0, 1) := by decide +kernel
theorem dX5_setRegisters_17 : decode cX5_setRegisters 17 = .ok (.iconst 1, 1) := by decide +kernel
theorem dX5_setRegisters_18 : decode cX5_setRegisters 18 = .ok (.invokevirtual 65, 3) := by decide +kernel
theorem dX5_setRegisters_21 : decode cX5_setRegisters 21 = .ok (.ireturn, 1) := by decide +kernel
theorem dX5_setRegisters_22 : decode cX5_setRegisters 22 = .ok (.aload_n 0, 1) := by decide +kernel
theorem dX5_setRegisters_23 : decode cX5_setRegisters 23 = .ok (.getfield 19, 3) := by decide +kernel
theorem dX5_setRegisters_26 : decode cX5_setRegisters 26 = .ok (.istore_n 2, 1) := by decide +kernel
theorem dX5_setRegisters_27 : decode cX5_setRegisters 27 = .ok (.aload_n 0, 1) := by decide +kernel
theorem dX5_setRegisters_28 : decode cX5_setRegisters 28 = .ok (.iload_n 1, 1) := by decide +kernel
theorem dX5_setRegisters_29 : decode cX5_setRegisters 29 = .ok (.putfield 19, 3) := by decide +kernel
theorem dX5_setRegisters_32 : decode cX5_setRegisters 32 = .ok (.aload_n 0, 1) := by decide +kernel
theorem dX5_setRegisters_33 : decode cX5_setRegisters 33 = .ok (.iconst 0, 1) := by decide +kernel
theorem dX5_setRegisters_34 : decode cX5_setRegisters 34 = .ok (.putfield 61, 3) := by decide +kernel
theorem dX5_setRegisters_37 : decode cX5_setRegisters 37 = .ok (.iload_n 2, 1) := by decide +kernel
theorem dX5_setRegisters_38 : decode cX5_setRegisters 38 = .ok (.ireturn, 1) := by decide +kernel
theorem dX5_add_0 : decode cX5_add 0 = .ok (.iconst 4, 1) := by decide +kernel
theorem dX5_add_1 : decode cX5_add 1 = .ok (.aload_n 0, 1) := by decide +kernel
theorem dX5_add_2 : decode cX5_add 2 = .ok (.getfield 92, 3) := by decide +kernel
theorem dX5_add_5 : decode cX5_add 5 = .ok (.imul, 1) := by decide +kernel
theorem dX5_add_6 : decode cX5_add 6 = .ok (.istore 5, 2) := by decide +kernel
theorem dX5_add_8 : decode cX5_add 8 = .ok (.aload_n 0, 1) := by decide +kernel
theorem dX5_add_9 : decode cX5_add 9 = .ok (.getfield 23, 3) := by decide +kernel
theorem dX5_add_12 : decode cX5_add 12 = .ok (.iload 5, 2) := by decide +kernel
theorem dX5_add_14 : decode cX5_add 14 = .ok (.iload_n 1, 1) := by decide +kernel
theorem dX5_add_15 : decode cX5_add 15 = .ok (.iastore, 1) := by decide +kernel
theorem dX5_add_16 : decode cX5_add 16 = .ok (.aload_n 0, 1) := by decide +kernel
theorem dX5_add_17 : decode cX5_add 17 = .ok (.getfield 23, 3) := by decide +kernel
theorem dX5_add_20 : decode cX5_add 20 = .ok (.iload 5, 2) := by decide +kernel
theorem dX5_add_22 : decode cX5_add 22 = .ok (.iconst 1, 1) := by decide +kernel
theorem dX5_add_23 : decode cX5_add 23 = .ok (.iadd, 1) := by decide +kernel
theorem dX5_add_24 : decode cX5_add 24 = .ok (.iload_n 2, 1) := by decide +kernel
theorem dX5_add_25 : decode cX5_add 25 = .ok (.iastore, 1) := by decide +kernel
theorem dX5_add_26 : decode cX5_add 26 = .ok (.aload_n 0, 1) := by decide +kernel
theorem dX5_add_27 : decode cX5_add 27 = .ok (.getfield 23, 3) := by decide +kernel
theorem dX5_add_30 : decode cX5_add 30 = .ok (.iload 5, 2) := by decide +kernel
theorem dX5_add_32 : decode cX5_add 32 = .ok (.iconst 2, 1) := by decide +kernel
theorem dX5_add_33 : decode cX5_add 33 = .ok (.iadd, 1) := by decide +kernel
theorem dX5_add_34 : decode cX5_add 34 = .ok (.iload_n 3, 1) := by decide +kernel
theorem dX5_add_35 : decode cX5_add 35 = .ok (.iastore, 1) := by decide +kernel
theorem dX5_add_36 : decode cX5_add 36 = .ok (.aload_n 0, 1) := by decide +kernel
theorem dX5_add_37 : decode cX5_add 37 = .ok (.getfield 23, 3) := by decide +kernel
theorem dX5_add_40 : decode cX5_add 40 = .ok (.iload 5, 2) := by decide +kernel
theorem dX5_add_42 : decode cX5_add 42 = .ok (.iconst 3, 1) := by decide +kernel
theorem dX5_add_43 : decode cX5_add 43 = .ok (.iadd, 1) := by decide +kernel
theorem dX5_add_44 : decode cX5_add 44 = .ok (.iload 4, 2) := by decide +kernel
theorem dX5_add_46 : decode cX5_add 46 = .ok (.iastore, 1) := by decide +kernel
theorem dX5_add_47 : decode cX5_add 47 = .ok (.aload_n 0, 1) := by decide +kernel
theorem dX5_add_48 : decode cX5_add 48 = .ok (.dup, 1) := by decide +kernel
theorem dX5_add_49 : decode cX5_add 49 = .ok (.getfield 92, 3) := by decide +kernel
theorem dX5_add_52 : decode cX5_add 52 = .ok (.iconst 1, 1) := by decide +kernel
theorem dX5_add_53 : decode cX5_add 53 = .ok (.iadd, 1) := by decide +kernel
theorem dX5_add_54 : decode cX5_add 54 = .ok (.putfield 92, 3) := by decide +kernel
theorem dX5_add_57 : decode cX5_add 57 = .ok (.return_, 1) := by decide +kernel
theorem dX5_begin_0 : decode cX5_begin 0 = .ok (.aload_n 0, 1) := by decide +kernel
theorem dX5_begin_1 : decode cX5_begin 1 = .ok (.getfield 33, 3) := by decide +kernel
theorem dX5_begin_4 : decode cX5_begin 4 = .ok (.iload_n 1, 1) := by decide +kernel
theorem dX5_begin_5 : decode cX5_begin 5 = .ok (.iload_n 2, 1) := by decide +kernel
theorem dX5_begin_6 : decode cX5_begin 6 = .ok (.iastore, 1) := by decide +kernel
theorem dX5_begin_7 : decode cX5_begin 7 = .ok (.aload_n 0, 1) := by decide +kernel
theorem dX5_begin_8 : decode cX5_begin 8 = .ok (.getfield 42, 3) := by decide +kernel
theorem dX5_begin_11 : decode cX5_begin 11 = .ok (.iload_n 2, 1) := by decide +kernel
theorem dX5_begin_12 : decode cX5_begin 12 = .ok (.iload_n 1, 1) := by decide +kernel
theorem dX5_begin_13 : decode cX5_begin 13 = .ok (.iastore, 1) := by decide +kernel
theorem dX5_begin_14 : decode cX5_begin 14 = .ok (.aload_n 0, 1) := by decide +kernel
theorem dX5_begin_15 : decode cX5_begin 15 = .ok (.getfield 39, 3) := by decide +kernel
theorem dX5_begin_18 : decode cX5_begin 18 = .ok (.iload_n 1, 1) := by decide +kernel
theorem dX5_begin_19 : decode cX5_begin 19 = .ok (.aload_n 0, 1) := by decide +kernel
theorem dX5_begin_20 : decode cX5_begin 20 = .ok (.getfield 95, 3) := by decide +kernel
theorem dX5_begin_23 : decode cX5_begin 23 = .ok (.iastore, 1) := by decide +kernel
theorem dX5_begin_24 : decode cX5_begin 24 = .ok (.iconst 4, 1) := by decide +kernel
theorem dX5_begin_25 : decode cX5_begin 25 = .ok (.aload_n 0, 1) := by decide +kernel
theorem dX5_begin_26 : decode cX5_begin 26 = .ok (.getfield 95, 3) := by decide +kernel
theorem dX5_begin_29 : decode cX5_begin 29 = .ok (.imul, 1) := by decide +kernel
theorem dX5_begin_30 : decode cX5_begin 30 = .ok (.istore_n 3, 1) := by decide +kernel
theorem dX5_begin_31 : decode cX5_begin 31 = .ok (.aload_n 0, 1) := by decide +kernel
theorem dX5_begin_32 : decode cX5_begin 32 = .ok (.getfield 26, 3) := by decide +kernel
theorem dX5_begin_35 : decode cX5_begin 35 = .ok (.iload_n 3, 1) := by decide +kernel
theorem dX5_begin_36 : decode cX5_begin 36 = .ok (.iload_n 1, 1) := by decide +kernel
theorem dX5_begin_37 : decode cX5_begin 37 = .ok (.iastore, 1) := by decide +kernel
theorem dX5_begin_38 : decode cX5_begin 38 = .ok (.aload_n 0, 1) := by decide +kernel
theorem dX5_begin_39 : decode cX5_begin 39 = .ok (.getfield 26, 3) := by decide +kernel
theorem dX5_begin_42 : decode cX5_begin 42 = .ok (.iload_n 3, 1) := by decide +kernel
theorem dX5_begin_43 : decode cX5_begin 43 = .ok (.iconst 1, 1) := by decide +kernel
theorem dX5_begin_44 : decode cX5_begin 44 = .ok (.iadd, 1) := by decide +kernel
theorem dX5_begin_45 : decode cX5_begin 45 = .ok (.iload_n 2, 1) := by decide +kernel
theorem dX5_begin_46 : decode cX5_begin 46 = .ok (.iastore, 1) := by decide +kernel
theorem dX5_begin_47 : decode cX5_begin 47 = .ok (.aload_n 0, 1) := by decide +kernel
theorem dX5_begin_48 : decode cX5_begin 48 = .ok (.getfield 26, 3) := by decide +kernel
theorem dX5_begin_51 : decode cX5_begin 51 = .ok (.iload_n 3, 1) := by decide +kernel
theorem dX5_begin_52 : decode cX5_begin 52 = .ok (.iconst 2, 1) := by decide +kernel
theorem dX5_begin_53 : decode cX5_begin 53 = .ok (.iadd, 1) := by decide +kernel
theorem dX5_begin_54 : decode cX5_begin 54 = .ok (.aload_n 0, 1) := by decide +kernel
theorem dX5_begin_55 : decode cX5_begin 55 = .ok (.getfield 92, 3) := by decide +kernel
theorem dX5_begin_58 : decode cX5_begin 58 = .ok (.iconst 1, 1) := by decide +kernel
theorem dX5_begin_59 : decode cX5_begin 59 = .ok (.isub, 1) := by decide +kernel
theorem dX5_begin_60 : decode cX5_begin 60 = .ok (.iastore, 1) := by decide +kernel
theorem dX5_begin_61 : decode cX5_begin 61 = .ok (.aload_n 0, 1) := by decide +kernel
theorem dX5_begin_62 : decode cX5_begin 62 = .ok (.getfield 26, 3) := by decide +kernel
theorem dX5_begin_65 : decode cX5_begin 65 = .ok (.iload_n 3, 1) := by decide +kernel
theorem dX5_begin_66 : decode cX5_begin 66 = .ok (.iconst 3, 1) := by decide +kernel
theorem dX5_begin_67 : decode cX5_begin 67 = .ok (.iadd, 1) := by decide +kernel
theorem dX5_begin_68 : decode cX5_begin 68 = .ok (.aload_n 0, 1) := by decide +kernel
theorem dX5_begin_69 : decode cX5_begin 69 = .ok (.getfield 92, 3) := by decide +kernel
theorem dX5_begin_72 : decode cX5_begin 72 = .ok (.iconst 1, 1) := by decide +kernel
theorem dX5_begin_73 : decode cX5_begin 73 = .ok (.isub, 1) := by decide +kernel
theorem dX5_begin_74 : decode cX5_begin 74 = .ok (.iastore, 1) := by decide +kernel
theorem dX5_begin_75 : decode cX5_begin 75 = .ok (.aload_n 0, 1) := by decide +kernel
theorem dX5_begin_76 : decode cX5_begin 76 = .ok (.dup, 1) := by decide +kernel
theorem dX5_begin_77 : decode cX5_begin 77 = .ok (.getfield 95, 3) := by decide +kernel
theorem dX5_begin_80 : decode cX5_begin 80 = .ok (.iconst 1, 1) := by decide +kernel
theorem dX5_begin_81 : decode cX5_begin 81 = .ok (.iadd, 1) := by decide +kernel
theorem dX5_begin_82 : decode cX5_begin 82 = .ok (.putfield 95, 3) := by decide +kernel
theorem dX5_begin_85 : decode cX5_begin 85 = .ok (.return_, 1) := by decide +kernel
theorem dX5_reads_0 : decode cX5_reads 0 = .ok (.aload_n 0, 1) := by decide +kernel
theorem dX5_reads_1 : decode cX5_reads 1 = .ok (.getfield 26, 3) := by decide +kernel
theorem dX5_reads_4 : decode cX5_reads 4 = .ok (.iconst 4, 1) := by decide +kernel
theorem dX5_reads_5 : decode cX5_reads 5 = .ok (.aload_n 0, 1) := by decide +kernel
theorem dX5_reads_6 : decode cX5_reads 6 = .ok (.getfield 39, 3) := by decide +kernel
theorem dX5_reads_9 : decode cX5_reads 9 = .ok (.iload_n 1, 1) := by decide +kernel
theorem dX5_reads_10 : decode cX5_reads 10 = .ok (.iaload, 1) := by decide +kernel
theorem dX5_reads_11 : decode cX5_reads 11 = .ok (.imul, 1) := by decide +kernel
theorem dX5_reads_12 : decode cX5_reads 12 = .ok (.iconst 3, 1) := by decide +kernel
theorem dX5_reads_13 : decode cX5_reads 13 = .ok (.iadd, 1) := by decide +kernel
theorem dX5_reads_14 : decode cX5_reads 14 = .ok (.aload_n 0, 1) := by decide +kernel
theorem dX5_reads_15 : decode cX5_reads 15 = .ok (.getfield 92, 3) := by decide +kernel
theorem dX5_reads_18 : decode cX5_reads 18 = .ok (.iconst 1, 1) := by decide +kernel
theorem dX5_reads_19 : decode cX5_reads 19 = .ok (.isub, 1) := by decide +kernel
theorem dX5_reads_20 : decode cX5_reads 20 = .ok (.iastore, 1) := by decide +kernel
theorem dX5_reads_21 : decode cX5_reads 21 = .ok (.return_, 1) := by decide +kernel
theorem dX5_leave_0 : decode cX5_leave 0 = .ok (.aload_n 0, 1) := by decide +kernel
theorem dX5_leave_1 : decode cX5_leave 1 = .ok (.getfield 42, 3) := by decide +kernel
theorem dX5_leave_4 : decode cX5_leave 4 = .ok (.aload_n 0, 1) := by decide +kernel
theorem dX5_leave_5 : decode cX5_leave 5 = .ok (.getfield 33, 3) := by decide +kernel
theorem dX5_leave_8 : decode cX5_leave 8 = .ok (.iload_n 1, 1) := by decide +kernel
theorem dX5_leave_9 : decode cX5_leave 9 = .ok (.iaload, 1) := by decide +kernel
theorem dX5_leave_10 : decode cX5_leave 10 = .ok (.iconst (-1), 1) := by decide +kernel
theorem dX5_leave_11 : decode cX5_leave 11 = .ok (.iastore, 1) := by decide +kernel
theorem dX5_leave_12 : decode cX5_leave 12 = .ok (.aload_n 0, 1) := by decide +kernel
theorem dX5_leave_13 : decode cX5_leave 13 = .ok (.getfield 33, 3) := by decide +kernel
theorem dX5_leave_16 : decode cX5_leave 16 = .ok (.iload_n 1, 1) := by decide +kernel
theorem dX5_leave_17 : decode cX5_leave 17 = .ok (.iconst (-1), 1) := by decide +kernel
theorem dX5_leave_18 : decode cX5_leave 18 = .ok (.iastore, 1) := by decide +kernel
theorem dX5_leave_19 : decode cX5_leave 19 = .ok (.return_, 1) := by decide +kernel
set_option maxRecDepth 20000 in
theorem ggX5_isBefore_X5_useFrom : GoodIn wsX5_isBefore wsX5_useFrom := goodIn_r _ [7, 8, 9, 10, 11, 12, 13, 14, 15, 16, 6, 17, 1, 18, 19, 20, 21, 22, 23, 24, 25, 26, 27, 28, 29, 30, 31, 32, 33, 34, 35, 36, 37, 38, 39] (by decide +kernel) (by decide +kernel)
set_option maxRecDepth 20000 in
theorem gX5_isBefore_X5_useFrom : GoodIn wsX5_isBefore (wsV RX5 89 RX5 yX5_useFrom wsX5_useFrom) := goodIn_app (goodIn_of _ (by decide +kernel)) ggX5_isBefore_X5_useFrom
theorem dX5_isBefore_0 : decode cX5_isBefore 0 = .ok (.aload_n 0, 1) := by decide +kernel
theorem dX5_isBefore_1 : decode cX5_isBefore 1 = .ok (.iload_n 1, 1) := by decide +kernel
theorem dX5_isBefore_2 : decode cX5_isBefore 2 = .ok (.iload_n 3, 1) := by decide +kernel
theorem dX5_isBefore_3 : decode cX5_isBefore 3 = .ok (.iconst 1, 1) := by decide +kernel
theorem dX5_isBefore_4 : decode cX5_isBefore 4 = .ok (.iadd, 1) := by decide +kernel
theorem dX5_isBefore_5 : decode cX5_isBefore 5 = .ok (.invokevirtual 89, 3) := by decide +kernel
theorem dX5_isBefore_8 : decode cX5_isBefore 8 = .ok (.istore 4, 2) := by decide +kernel
theorem dX5_isBefore_10 : decode cX5_isBefore 10 = .ok (.aload_n 0, 1) := by decide +kernel
theorem dX5_isBefore_11 : decode cX5_isBefore 11 = .ok (.iload_n 2, 1) := by decide +kernel
theorem dX5_isBefore_12 : decode cX5_isBefore 12 = .ok (.iload_n 3, 1) := by decide +kernel
theorem dX5_isBefore_13 : decode cX5_isBefore 13 = .ok (.iconst 1, 1) := by decide +kernel
theorem dX5_isBefore_14 : decode cX5_isBefore 14 = .ok (.iadd, 1) := by decide +kernel
theorem dX5_isBefore_15 : decode cX5_isBefore 15 = .ok (.invokevirtual 89, 3) := by decide +kernel
theorem dX5_isBefore_18 : decode cX5_isBefore 18 = .ok (.istore 5, 2) := by decide +kernel
theorem dX5_isBefore_20 : decode cX5_isBefore 20 = .ok (.iload 4, 2) := by decide +kernel
theorem dX5_isBefore_22 : decode cX5_isBefore 22 = .ok (.iload 5, 2) := by decide +kernel
theorem dX5_isBefore_24 : decode cX5_isBefore 24 = .ok (.if_icmp .eq 16, 3) := by decide +kernel
theorem dX5_isBefore_27 : decode cX5_isBefore 27 = .ok (.iload 4, 2) := by decide +kernel
theorem dX5_isBefore_29 : decode cX5_isBefore 29 = .ok (.iload 5, 2) := by decide +kernel
theorem dX5_isBefore_31 : decode cX5_isBefore 31 = .ok (.if_icmp .le 7, 3) := by decide +kernel
theorem dX5_isBefore_34 : decode cX5_isBefore 34 = .ok (.iconst 1, 1) := by decide +kernel
theorem dX5_isBefore_35 : decode cX5_isBefore 35 = .ok (.goto 4, 3) := by decide +kernel
theorem dX5_isBefore_38 : decode cX5_isBefore 38 = .ok (.iconst 0, 1) := by decide +kernel
theorem dX5_isBefore_39 : decode cX5_isBefore 39 = .ok (.ireturn, 1) := by decide +kernel
theorem dX5_isBefore_40 : decode cX5_isBefore 40 = .ok (.aload_n 0, 1) := by decide +kernel
theorem dX5_isBefore_41 : decode cX5_isBefore 41 = .ok (.getfield 9, 3) := by decide +kernel
theorem dX5_isBefore_44 : decode cX5_isBefore 44 = .ok (.iload_n 1, 1) := by decide +kernel
theorem dX5_isBefore_45 : decode cX5_isBefore 45 = .ok (.iaload, 1) := by decide +kernel
theorem dX5_isBefore_46 : decode cX5_isBefore 46 = .ok (.ifCond .ne 7, 3) := by decide +kernel
theorem dX5_isBefore_49 : decode cX5_isBefore 49 = .ok (.iconst 1, 1) := by decide +kernel
theorem dX5_isBefore_50 : decode cX5_isBefore 50 = .ok (.goto 4, 3) := by decide +kernel
theorem dX5_isBefore_53 : decode cX5_isBefore 53 = .ok (.iconst 0, 1) := by decide +kernel
theorem dX5_isBefore_54 : decode cX5_isBefore 54 = .ok (.istore 6, 2) := by decide +kernel
theorem dX5_isBefore_56 : decode cX5_isBefore 56 = .ok (.iload 6, 2) := by decide +kernel
theorem dX5_isBefore_58 : decode cX5_isBefore 58 = .ok (.aload_n 0, 1) := by decide +kernel
theorem dX5_isBefore_59 : decode cX5_isBefore 59 = .ok (.getfield 9, 3) := by decide +kernel
theorem dX5_isBefore_62 : decode cX5_isBefore 62 = .ok (.iload_n 2, 1) := by decide +kernel
theorem dX5_isBefore_63 : decode cX5_isBefore 63 = .ok (.iaload, 1) := by decide +kernel
theorem dX5_isBefore_64 : decode cX5_isBefore 64 = .ok (.ifCond .ne 7, 3) := by decide +kernel
theorem dX5_isBefore_67 : decode cX5_isBefore 67 = .ok (.iconst 1, 1) := by decide +kernel
theorem dX5_isBefore_68 : decode cX5_isBefore 68 = .ok (.goto 4, 3) := by decide +kernel
theorem dX5_isBefore_71 : decode cX5_isBefore 71 = .ok (.iconst 0, 1) := by decide +kernel
theorem dX5_isBefore_72 : decode cX5_isBefore 72 = .ok (.if_icmp .eq 6, 3) := by decide +kernel
theorem dX5_isBefore_75 : decode cX5_isBefore 75 = .ok (.iload 6, 2) := by decide +kernel
theorem dX5_isBefore_77 : decode cX5_isBefore 77 = .ok (.ireturn, 1) := by decide +kernel
theorem dX5_isBefore_78 : decode cX5_isBefore 78 = .ok (.aload_n 0, 1) := by decide +kernel
theorem dX5_isBefore_79 : decode cX5_isBefore 79 = .ok (.getfield 36, 3) := by decide +kernel
theorem dX5_isBefore_82 : decode cX5_isBefore 82 = .ok (.iload_n 1, 1) := by decide +kernel
theorem dX5_isBefore_83 : decode cX5_isBefore 83 = .ok (.iaload, 1) := by decide +kernel
theorem dX5_isBefore_84 : decode cX5_isBefore 84 = .ok (.iconst (-1), 1) := by decide +kernel
theorem dX5_isBefore_85 : decode cX5_isBefore 85 = .ok (.if_icmp .eq 17, 3) := by decide +kernel
theorem dX5_isBefore_88 : decode cX5_isBefore 88 = .ok (.aload_n 0, 1) := by decide +kernel
theorem dX5_isBefore_89 : decode cX5_isBefore 89 = .ok (.getfield 36, 3) := by decide +kernel
theorem dX5_isBefore_92 : decode cX5_isBefore 92 = .ok (.iload_n 2, 1) := by decide +kernel
theorem dX5_isBefore_93 : decode cX5_isBefore 93 = .ok (.iaload, 1) := by decide +kernel
theorem dX5_isBefore_94 : decode cX5_isBefore 94 = .ok (.iconst (-1), 1) := by decide +kernel
theorem dX5_isBefore_95 : decode cX5_isBefore 95 = .ok (.if_icmp .ne 7, 3) := by decide +kernel
theorem dX5_isBefore_98 : decode cX5_isBefore 98 = .ok (.iconst 1, 1) := by decide +kernel
theorem dX5_isBefore_99 : decode cX5_isBefore 99 = .ok (.goto 4, 3) := by decide +kernel
theorem dX5_isBefore_102 : decode cX5_isBefore 102 = .ok (.iconst 0, 1) := by decide +kernel
theorem dX5_isBefore_103 : decode cX5_isBefore 103 = .ok (.ireturn, 1) := by decide +kernel
set_option maxRecDepth 20000 in
theorem ggX5_get_X5_takes : GoodIn wsX5_get wsX5_takes := goodIn_r _ [14, 2, 15, 16, 44, 45, 46, 47, 48, 49, 50, 51, 52, 53, 54, 55, 56, 57, 58, 59, 60, 61, 62, 63] (by decide +kernel) (by decide +kernel)
set_option maxRecDepth 20000 in
theorem gX5_get_X5_takes : GoodIn wsX5_get (wsV RX5 76 RX5 yX5_takes wsX5_takes) := goodIn_app (goodIn_of _ (by decide +kernel)) ggX5_get_X5_takes
set_option maxRecDepth 20000 in
theorem ggX5_get_X5_isBefore : GoodIn wsX5_get wsX5_isBefore := goodIn_r _ [20, 2, 3, 21, 22, 23, 13, 24, 6, 7, 8, 9, 25, 26, 10, 11, 12, 14, 15, 16, 44, 45, 46, 47, 48, 49, 50, 51, 52, 53, 54, 55, 56, 57, 58, 59, 60, 61, 62, 63] (by decide +kernel) (by decide +kernel)
set_option maxRecDepth 20000 in
theorem gX5_get_X5_isBefore : GoodIn wsX5_get (wsV RX5 98 RX5 yX5_isBefore wsX5_isBefore) := goodIn_app (goodIn_of _ (by decide +kernel)) ggX5_get_X5_isBefore
set_option maxRecDepth 20000 in
theorem ggX5_get_X5_add : GoodIn wsX5_get wsX5_add := goodIn_r _ [30, 31, 32, 44, 45, 46, 47, 48, 49, 50, 51, 52, 53, 54, 55, 56, 57, 58, 59, 60, 61, 62, 63] (by decide +kernel) (by decide +kernel)
set_option maxRecDepth 20000 in
theorem gX5_get_X5_add : GoodIn wsX5_get (wsV RX5 105 RX5 yX5_add wsX5_add) := goodIn_app (goodIn_of _ (by decide +kernel)) ggX5_get_X5_add
set_option maxRecDepth 20000 in
theorem ggX5_get_X5_reads : GoodIn wsX5_get wsX5_reads := goodIn_r _ [36, 37, 38, 31, 44, 45, 46, 47, 48, 49, 50, 51, 52, 53, 54, 55, 56, 57, 58, 59, 60, 61, 62, 63] (by decide +kernel) (by decide +kernel)
set_option maxRecDepth 20000 in
theorem gX5_get_X5_reads : GoodIn wsX5_get (wsV RX5 109 RX5 yX5_reads wsX5_reads) := goodIn_app (goodIn_of _ (by decide +kernel)) ggX5_get_X5_reads
set_option maxRecDepth 20000 in
theorem ggX5_get_X5_leave : GoodIn wsX5_get wsX5_leave := goodIn_r _ [42, 1, 43, 44, 45, 46, 47, 48, 49, 50, 51, 52, 53, 54, 55, 56, 57, 58, 59, 60, 61, 62, 63] (by decide +kernel) (by decide +kernel)
set_option maxRecDepth 20000 in
theorem gX5_get_X5_leave : GoodIn wsX5_get (wsV RX5 113 RX5 yX5_leave wsX5_leave) := goodIn_app (goodIn_of _ (by decide +kernel)) ggX5_get_X5_leave
theorem dX5_get_0 : decode cX5_get 0 = .ok (.iconst (-1), 1) := by decide +kernel
theorem dX5_get_1 : decode cX5_get 1 = .ok (.istore 4, 2) := by decide +kernel
theorem dX5_get_3 : decode cX5_get 3 = .ok (.iload_n 3, 1) := by decide +kernel
theorem dX5_get_4 : decode cX5_get 4 = .ok (.iconst 1, 1) := by decide +kernel
theorem dX5_get_5 : decode cX5_get 5 = .ok (.isub, 1) := by decide +kernel
theorem dX5_get_6 : decode cX5_get 6 = .ok (.istore 5, 2) := by decide +kernel
theorem dX5_get_8 : decode cX5_get 8 = .ok (.iload 5, 2) := by decide +kernel
theorem dX5_get_10 : decode cX5_get 10 = .ok (.ifCond .lt 24, 3) := by decide +kernel
theorem dX5_get_13 : decode cX5_get 13 = .ok (.aload_n 0, 1) := by decide +kernel
theorem dX5_get_14 : decode cX5_get 14 = .ok (.getfield 42, 3) := by decide +kernel
theorem dX5_get_17 : decode cX5_get 17 = .ok (.iload 5, 2) := by decide +kernel
theorem dX5_get_19 : decode cX5_get 19 = .ok (.iaload, 1) := by decide +kernel
theorem dX5_get_20 : decode cX5_get 20 = .ok (.iconst (-1), 1) := by decide +kernel
theorem dX5_get_21 : decode cX5_get 21 = .ok (.if_icmp .ne 7, 3) := by decide +kernel
theorem dX5_get_24 : decode cX5_get 24 = .ok (.iload 5, 2) := by decide +kernel
theorem dX5_get_26 : decode cX5_get 26 = .ok (.istore 4, 2) := by decide +kernel
theorem dX5_get_28 : decode cX5_get 28 = .ok (.iinc 5 (-1), 3) := by decide +kernel
theorem dX5_get_31 : decode cX5_get 31 = .ok (.goto (-23), 3) := by decide +kernel
theorem dX5_get_34 : decode cX5_get 34 = .ok (.iload 4, 2) := by decide +kernel
theorem dX5_get_36 : decode cX5_get 36 = .ok (.iconst (-1), 1) := by decide +kernel
theorem dX5_get_37 : decode cX5_get 37 = .ok (.if_icmp .eq 6, 3) := by decide +kernel
theorem dX5_get_40 : decode cX5_get 40 = .ok (.iload 4, 2) := by decide +kernel
theorem dX5_get_42 : decode cX5_get 42 = .ok (.ireturn, 1) := by decide +kernel
theorem dX5_get_43 : decode cX5_get 43 = .ok (.iconst 0, 1) := by decide +kernel
theorem dX5_get_44 : decode cX5_get 44 = .ok (.istore 5, 2) := by decide +kernel
theorem dX5_get_46 : decode cX5_get 46 = .ok (.iload 5, 2) := by decide +kernel
theorem dX5_get_48 : decode cX5_get 48 = .ok (.iload_n 3, 1) := by decide +kernel
theorem dX5_get_49 : decode cX5_get 49 = .ok (.if_icmp .ge 63, 3) := by decide +kernel
theorem dX5_get_52 : decode cX5_get 52 = .ok (.iload_n 2, 1) := by decide +kernel
theorem dX5_get_53 : decode cX5_get 53 = .ok (.ifCond .eq 21, 3) := by decide +kernel
theorem dX5_get_56 : decode cX5_get 56 = .ok (.aload_n 0, 1) := by decide +kernel
theorem dX5_get_57 : decode cX5_get 57 = .ok (.iload_n 1, 1) := by decide +kernel
theorem dX5_get_58 : decode cX5_get 58 = .ok (.aload_n 0, 1) := by decide +kernel
theorem dX5_get_59 : decode cX5_get 59 = .ok (.getfield 42, 3) := by decide +kernel
theorem dX5_get_62 : decode cX5_get 62 = .ok (.iload 5, 2) := by decide +kernel
theorem dX5_get_64 : decode cX5_get 64 = .ok (.iaload, 1) := by decide +kernel
theorem dX5_get_65 : decode cX5_get 65 = .ok (.invokevirtual 76, 3) := by decide +kernel
theorem dX5_get_68 : decode cX5_get 68 = .ok (.ifCond .eq 6, 3) := by decide +kernel
theorem dX5_get_71 : decode cX5_get 71 = .ok (.goto 35, 3) := by decide +kernel
theorem dX5_get_74 : decode cX5_get 74 = .ok (.iload 4, 2) := by decide +kernel
theorem dX5_get_76 : decode cX5_get 76 = .ok (.iconst (-1), 1) := by decide +kernel
theorem dX5_get_77 : decode cX5_get 77 = .ok (.if_icmp .eq 25, 3) := by decide +kernel
theorem dX5_get_80 : decode cX5_get 80 = .ok (.aload_n 0, 1) := by decide +kernel
theorem dX5_get_81 : decode cX5_get 81 = .ok (.aload_n 0, 1) := by decide +kernel
theorem dX5_get_82 : decode cX5_get 82 = .ok (.getfield 42, 3) := by decide +kernel
theorem dX5_get_85 : decode cX5_get 85 = .ok (.iload 5, 2) := by decide +kernel
theorem dX5_get_87 : decode cX5_get 87 = .ok (.iaload, 1) := by decide +kernel
theorem dX5_get_88 : decode cX5_get 88 = .ok (.aload_n 0, 1) := by decide +kernel
theorem dX5_get_89 : decode cX5_get 89 = .ok (.getfield 42, 3) := by decide +kernel
theorem dX5_get_92 : decode cX5_get 92 = .ok (.iload 4, 2) := by decide +kernel
theorem dX5_get_94 : decode cX5_get 94 = .ok (.iaload, 1) := by decide +kernel
theorem dX5_get_95 : decode cX5_get 95 = .ok (.iload_n 1, 1) := by decide +kernel
theorem dX5_get_96 : decode cX5_get 96 = .ok (.invokevirtual 98, 3) := by decide +kernel
theorem dX5_get_99 : decode cX5_get 99 = .ok (.ifCond .eq 7, 3) := by decide +kernel
theorem dX5_get_102 : decode cX5_get 102 = .ok (.iload 5, 2) := by decide +kernel
theorem dX5_get_104 : decode cX5_get 104 = .ok (.istore 4, 2) := by decide +kernel
theorem dX5_get_106 : decode cX5_get 106 = .ok (.iinc 5 1, 3) := by decide +kernel
theorem dX5_get_109 : decode cX5_get 109 = .ok (.goto (-63), 3) := by decide +kernel
theorem dX5_get_112 : decode cX5_get 112 = .ok (.aload_n 0, 1) := by decide +kernel
theorem dX5_get_113 : decode cX5_get 113 = .ok (.getfield 42, 3) := by decide +kernel
theorem dX5_get_116 : decode cX5_get 116 = .ok (.iload 4, 2) := by decide +kernel
theorem dX5_get_118 : decode cX5_get 118 = .ok (.iaload, 1) := by decide +kernel
theorem dX5_get_119 : decode cX5_get 119 = .ok (.istore 5, 2) := by decide +kernel
theorem dX5_get_121 : decode cX5_get 121 = .ok (.aload_n 0, 1) := by decide +kernel
theorem dX5_get_122 : decode cX5_get 122 = .ok (.getfield 9, 3) := by decide +kernel
theorem dX5_get_125 : decode cX5_get 125 = .ok (.iload 5, 2) := by decide +kernel
theorem dX5_get_127 : decode cX5_get 127 = .ok (.iaload, 1) := by decide +kernel
theorem dX5_get_128 : decode cX5_get 128 = .ok (.ifCond .eq 82, 3) := by decide +kernel
theorem dX5_get_131 : decode cX5_get 131 = .ok (.aload_n 0, 1) := by decide +kernel
theorem dX5_get_132 : decode cX5_get 132 = .ok (.getfield 36, 3) := by decide +kernel
theorem dX5_get_135 : decode cX5_get 135 = .ok (.iload 5, 2) := by decide +kernel
theorem dX5_get_137 : decode cX5_get 137 = .ok (.iaload, 1) := by decide +kernel
theorem dX5_get_138 : decode cX5_get 138 = .ok (.iconst (-1), 1) := by decide +kernel
theorem dX5_get_139 : decode cX5_get 139 = .ok (.if_icmp .ne 71, 3) := by decide +kernel
theorem dX5_get_142 : decode cX5_get 142 = .ok (.iconst 0, 1) := by decide +kernel
theorem dX5_get_143 : decode cX5_get 143 = .ok (.istore 6, 2) := by decide +kernel
theorem dX5_get_145 : decode cX5_get 145 = .ok (.aload_n 0, 1) := by decide +kernel
theorem dX5_get_146 : decode cX5_get 146 = .ok (.getfield 45, 3) := by decide +kernel
theorem dX5_get_149 : decode cX5_get 149 = .ok (.iload 6, 2) := by decide +kernel
theorem dX5_get_151 : decode cX5_get 151 = .ok (.baload, 1) := by decide +kernel
theorem dX5_get_152 : decode cX5_get 152 = .ok (.ifCond .eq 9, 3) := by decide +kernel
theorem dX5_get_155 : decode cX5_get 155 = .ok (.iinc 6 1, 3) := by decide +kernel
theorem dX5_get_158 : decode cX5_get 158 = .ok (.goto (-13), 3) := by decide +kernel
theorem dX5_get_161 : decode cX5_get 161 = .ok (.aload_n 0, 1) := by decide +kernel
theorem dX5_get_162 : decode cX5_get 162 = .ok (.getfield 45, 3) := by decide +kernel
theorem dX5_get_165 : decode cX5_get 165 = .ok (.iload 6, 2) := by decide +kernel
theorem dX5_get_167 : decode cX5_get 167 = .ok (.iconst 1, 1) := by decide +kernel
theorem dX5_get_168 : decode cX5_get 168 = .ok (.bastore, 1) := by decide +kernel
theorem dX5_get_169 : decode cX5_get 169 = .ok (.aload_n 0, 1) := by decide +kernel
theorem dX5_get_170 : decode cX5_get 170 = .ok (.getfield 36, 3) := by decide +kernel
theorem dX5_get_173 : decode cX5_get 173 = .ok (.iload 5, 2) := by decide +kernel
theorem dX5_get_175 : decode cX5_get 175 = .ok (.iload 6, 2) := by decide +kernel
theorem dX5_get_177 : decode cX5_get 177 = .ok (.iastore, 1) := by decide +kernel
theorem dX5_get_178 : decode cX5_get 178 = .ok (.aload_n 0, 1) := by decide +kernel
theorem dX5_get_179 : decode cX5_get 179 = .ok (.aload_n 0, 1) := by decide +kernel
theorem dX5_get_180 : decode cX5_get 180 = .ok (.getfield 102, 3) := by decide +kernel
theorem dX5_get_183 : decode cX5_get 183 = .ok (.iload 6, 2) := by decide +kernel
theorem dX5_get_185 : decode cX5_get 185 = .ok (.iconst 1, 1) := by decide +kernel
theorem dX5_get_186 : decode cX5_get 186 = .ok (.iadd, 1) := by decide +kernel
theorem dX5_get_187 : decode cX5_get 187 = .ok (.invokestatic 83, 3) := by decide +kernel
theorem dX5_get_190 : decode cX5_get 190 = .ok (.putfield 102, 3) := by decide +kernel
theorem dX5_get_193 : decode cX5_get 193 = .ok (.aload_n 0, 1) := by decide +kernel
theorem dX5_get_194 : decode cX5_get 194 = .ok (.bipush 8, 2) := by decide +kernel
theorem dX5_get_196 : decode cX5_get 196 = .ok (.iload 4, 2) := by decide +kernel
theorem dX5_get_198 : decode cX5_get 198 = .ok (.iload 6, 2) := by decide +kernel
theorem dX5_get_200 : decode cX5_get 200 = .ok (.iconst (-1), 1) := by decide +kernel
theorem dX5_get_201 : decode cX5_get 201 = .ok (.invokevirtual 105, 3) := by decide +kernel
theorem dX5_get_204 : decode cX5_get 204 = .ok (.aload_n 0, 1) := by decide +kernel
theorem dX5_get_205 : decode cX5_get 205 = .ok (.iload 5, 2) := by decide +kernel
theorem dX5_get_207 : decode cX5_get 207 = .ok (.invokevirtual 109, 3) := by decide +kernel
theorem dX5_get_210 : decode cX5_get 210 = .ok (.aload_n 0, 1) := by decide +kernel
theorem dX5_get_211 : decode cX5_get 211 = .ok (.iload 5, 2) := by decide +kernel
theorem dX5_get_213 : decode cX5_get 213 = .ok (.invokevirtual 113, 3) := by decide +kernel
theorem dX5_get_216 : decode cX5_get 216 = .ok (.iload 4, 2) := by decide +kernel
theorem dX5_get_218 : decode cX5_get 218 = .ok (.ireturn, 1) := by decide +kernel
set_option maxRecDepth 20000 in
theorem ggX5_bring_X5_get : GoodIn wsX5_bring wsX5_get := goodIn_r _ [9, 10, 2, 4, 11, 12, 13, 14, 15, 16, 17, 18, 19, 8, 20, 3, 21, 22, 23, 24, 25, 26, 27, 28, 29, 30, 31, 32, 33, 34, 35, 36, 37, 38, 39, 40, 41, 42, 43, 44, 45, 46, 47, 1, 53, 54, 55, 56, 57, 58, 59, 60, 61, 62, 63, 64, 65, 66, 67, 68, 69, 70, 71, 72] (by decide +kernel) (by decide +kernel)
set_option maxRecDepth 20000 in
theorem gX5_bring_X5_get : GoodIn wsX5_bring (wsV RX5 116 RX5 yX5_get wsX5_get) := goodIn_app (goodIn_of _ (by decide +kernel)) ggX5_bring_X5_get
set_option maxRecDepth 20000 in
theorem ggX5_bring_X5_add : GoodIn wsX5_bring wsX5_add := goodIn_r _ [35, 36, 37, 53, 54, 55, 56, 57, 58, 59, 60, 61, 62, 63, 64, 65, 66, 67, 68, 69, 70, 71, 72] (by decide +kernel) (by decide +kernel)
set_option maxRecDepth 20000 in
theorem gX5_bring_X5_add : GoodIn wsX5_bring (wsV RX5 105 RX5 yX5_add wsX5_add) := goodIn_app (goodIn_of _ (by decide +kernel)) ggX5_bring_X5_add
set_option maxRecDepth 20000 in
theorem ggX5_bring_X5_begin : GoodIn wsX5_bring wsX5_begin := goodIn_r _ [51, 1, 10, 43, 52, 42, 36, 53, 54, 55, 56, 57, 58, 59, 60, 61, 62, 63, 64, 65, 66, 67, 68, 69, 70, 71, 72] (by decide +kernel) (by decide +kernel)
set_option maxRecDepth 20000 in
theorem gX5_bring_X5_begin : GoodIn wsX5_bring (wsV RX5 120 RX5 yX5_begin wsX5_begin) := goodIn_app (goodIn_of _ (by decide +kernel)) ggX5_bring_X5_begin
theorem dX5_bring_0 : decode cX5_bring 0 = .ok (.aload_n 0, 1) := by decide +kernel
theorem dX5_bring_1 : decode cX5_bring 1 = .ok (.getfield 33, 3) := by decide +kernel
theorem dX5_bring_4 : decode cX5_bring 4 = .ok (.iload_n 1, 1) := by decide +kernel
theorem dX5_bring_5 : decode cX5_bring 5 = .ok (.iaload, 1) := by decide +kernel
theorem dX5_bring_6 : decode cX5_bring 6 = .ok (.iconst (-1), 1) := by decide +kernel
theorem dX5_bring_7 : decode cX5_bring 7 = .ok (.if_icmp .eq 4, 3) := by decide +kernel
theorem dX5_bring_10 : decode cX5_bring 10 = .ok (.return_, 1) := by decide +kernel
theorem dX5_bring_11 : decode cX5_bring 11 = .ok (.aload_n 0, 1) := by decide +kernel
theorem dX5_bring_12 : decode cX5_bring 12 = .ok (.iload_n 2, 1) := by decide +kernel
theorem dX5_bring_13 : decode cX5_bring 13 = .ok (.iconst 1, 1) := by decide +kernel
theorem dX5_bring_14 : decode cX5_bring 14 = .ok (.iload_n 3, 1) := by decide +kernel
theorem dX5_bring_15 : decode cX5_bring 15 = .ok (.invokevirtual 116, 3) := by decide +kernel
theorem dX5_bring_18 : decode cX5_bring 18 = .ok (.istore 4, 2) := by decide +kernel
theorem dX5_bring_20 : decode cX5_bring 20 = .ok (.aload_n 0, 1) := by decide +kernel
theorem dX5_bring_21 : decode cX5_bring 21 = .ok (.getfield 9, 3) := by decide +kernel
theorem dX5_bring_24 : decode cX5_bring 24 = .ok (.iload_n 1, 1) := by decide +kernel
theorem dX5_bring_25 : decode cX5_bring 25 = .ok (.iaload, 1) := by decide +kernel
theorem dX5_bring_26 : decode cX5_bring 26 = .ok (.ifCond .ne 20, 3) := by decide +kernel
theorem dX5_bring_29 : decode cX5_bring 29 = .ok (.aload_n 0, 1) := by decide +kernel
theorem dX5_bring_30 : decode cX5_bring 30 = .ok (.iconst 0, 1) := by decide +kernel
theorem dX5_bring_31 : decode cX5_bring 31 = .ok (.iload 4, 2) := by decide +kernel
theorem dX5_bring_33 : decode cX5_bring 33 = .ok (.aload_n 0, 1) := by decide +kernel
theorem dX5_bring_34 : decode cX5_bring 34 = .ok (.getfield 13, 3) := by decide +kernel
theorem dX5_bring_37 : decode cX5_bring 37 = .ok (.iload_n 1, 1) := by decide +kernel
theorem dX5_bring_38 : decode cX5_bring 38 = .ok (.iaload, 1) := by decide +kernel
theorem dX5_bring_39 : decode cX5_bring 39 = .ok (.iconst (-1), 1) := by decide +kernel
theorem dX5_bring_40 : decode cX5_bring 40 = .ok (.invokevirtual 105, 3) := by decide +kernel
theorem dX5_bring_43 : decode cX5_bring 43 = .ok (.goto 18, 3) := by decide +kernel
theorem dX5_bring_46 : decode cX5_bring 46 = .ok (.aload_n 0, 1) := by decide +kernel
theorem dX5_bring_47 : decode cX5_bring 47 = .ok (.bipush 7, 2) := by decide +kernel
theorem dX5_bring_49 : decode cX5_bring 49 = .ok (.iload 4, 2) := by decide +kernel
theorem dX5_bring_51 : decode cX5_bring 51 = .ok (.aload_n 0, 1) := by decide +kernel
theorem dX5_bring_52 : decode cX5_bring 52 = .ok (.getfield 36, 3) := by decide +kernel
theorem dX5_bring_55 : decode cX5_bring 55 = .ok (.iload_n 1, 1) := by decide +kernel
theorem dX5_bring_56 : decode cX5_bring 56 = .ok (.iaload, 1) := by decide +kernel
theorem dX5_bring_57 : decode cX5_bring 57 = .ok (.iconst (-1), 1) := by decide +kernel
theorem dX5_bring_58 : decode cX5_bring 58 = .ok (.invokevirtual 105, 3) := by decide +kernel
theorem dX5_bring_61 : decode cX5_bring 61 = .ok (.aload_n 0, 1) := by decide +kernel
theorem dX5_bring_62 : decode cX5_bring 62 = .ok (.iload_n 1, 1) := by decide +kernel
theorem dX5_bring_63 : decode cX5_bring 63 = .ok (.iload 4, 2) := by decide +kernel
theorem dX5_bring_65 : decode cX5_bring 65 = .ok (.invokevirtual 120, 3) := by decide +kernel
theorem dX5_bring_68 : decode cX5_bring 68 = .ok (.return_, 1) := by decide +kernel
set_option maxRecDepth 20000 in
theorem ggX5_ends_X5_useFrom : GoodIn wsX5_ends wsX5_useFrom := goodIn_r _ [8, 9, 10, 11, 12, 13, 14, 15, 16, 17, 7, 18, 19, 20, 21, 27, 28, 29, 30, 31, 32, 33, 34, 35, 36, 37, 38, 39, 40, 41, 42, 43, 44, 45, 46] (by decide +kernel) (by decide +kernel)
set_option maxRecDepth 20000 in
theorem gX5_ends_X5_useFrom : GoodIn wsX5_ends (wsV RX5 89 RX5 yX5_useFrom wsX5_useFrom) := goodIn_app (goodIn_of _ (by decide +kernel)) ggX5_ends_X5_useFrom
set_option maxRecDepth 20000 in
theorem ggX5_ends_X5_leave : GoodIn wsX5_ends wsX5_leave := goodIn_r _ [25, 26, 1, 27, 28, 29, 30, 31, 32, 33, 34, 35, 36, 37, 38, 39, 40, 41, 42, 43, 44, 45, 46] (by decide +kernel) (by decide +kernel)
set_option maxRecDepth 20000 in
theorem gX5_ends_X5_leave : GoodIn wsX5_ends (wsV RX5 113 RX5 yX5_leave wsX5_leave) := goodIn_app (goodIn_of _ (by decide +kernel)) ggX5_ends_X5_leave
theorem dX5_ends_0 : decode cX5_ends 0 = .ok (.aload_n 0, 1) := by decide +kernel
theorem dX5_ends_1 : decode cX5_ends 1 = .ok (.getfield 33, 3) := by decide +kernel
theorem dX5_ends_4 : decode cX5_ends 4 = .ok (.iload_n 1, 1) := by decide +kernel
theorem dX5_ends_5 : decode cX5_ends 5 = .ok (.iaload, 1) := by decide +kernel
theorem dX5_ends_6 : decode cX5_ends 6 = .ok (.iconst (-1), 1) := by decide +kernel
theorem dX5_ends_7 : decode cX5_ends 7 = .ok (.if_icmp .eq 15, 3) := by decide +kernel
theorem dX5_ends_10 : decode cX5_ends 10 = .ok (.aload_n 0, 1) := by decide +kernel
theorem dX5_ends_11 : decode cX5_ends 11 = .ok (.iload_n 1, 1) := by decide +kernel
theorem dX5_ends_12 : decode cX5_ends 12 = .ok (.iload_n 2, 1) := by decide +kernel
theorem dX5_ends_13 : decode cX5_ends 13 = .ok (.iconst 1, 1) := by decide +kernel
theorem dX5_ends_14 : decode cX5_ends 14 = .ok (.iadd, 1) := by decide +kernel
theorem dX5_ends_15 : decode cX5_ends 15 = .ok (.invokevirtual 89, 3) := by decide +kernel
theorem dX5_ends_18 : decode cX5_ends 18 = .ok (.iconst (-1), 1) := by decide +kernel
theorem dX5_ends_19 : decode cX5_ends 19 = .ok (.if_icmp .eq 5, 3) := by decide +kernel
theorem dX5_ends_22 : decode cX5_ends 22 = .ok (.iconst 0, 1) := by decide +kernel
theorem dX5_ends_23 : decode cX5_ends 23 = .ok (.ireturn, 1) := by decide +kernel
theorem dX5_ends_24 : decode cX5_ends 24 = .ok (.aload_n 0, 1) := by decide +kernel
theorem dX5_ends_25 : decode cX5_ends 25 = .ok (.iload_n 1, 1) := by decide +kernel
theorem dX5_ends_26 : decode cX5_ends 26 = .ok (.invokevirtual 113, 3) := by decide +kernel
theorem dX5_ends_29 : decode cX5_ends 29 = .ok (.aload_n 0, 1) := by decide +kernel
theorem dX5_ends_30 : decode cX5_ends 30 = .ok (.getfield 36, 3) := by decide +kernel
theorem dX5_ends_33 : decode cX5_ends 33 = .ok (.iload_n 1, 1) := by decide +kernel
theorem dX5_ends_34 : decode cX5_ends 34 = .ok (.iaload, 1) := by decide +kernel
theorem dX5_ends_35 : decode cX5_ends 35 = .ok (.iconst (-1), 1) := by decide +kernel
theorem dX5_ends_36 : decode cX5_ends 36 = .ok (.if_icmp .eq 15, 3) := by decide +kernel
theorem dX5_ends_39 : decode cX5_ends 39 = .ok (.aload_n 0, 1) := by decide +kernel
theorem dX5_ends_40 : decode cX5_ends 40 = .ok (.getfield 45, 3) := by decide +kernel
theorem dX5_ends_43 : decode cX5_ends 43 = .ok (.aload_n 0, 1) := by decide +kernel
theorem dX5_ends_44 : decode cX5_ends 44 = .ok (.getfield 36, 3) := by decide +kernel
theorem dX5_ends_47 : decode cX5_ends 47 = .ok (.iload_n 1, 1) := by decide +kernel
theorem dX5_ends_48 : decode cX5_ends 48 = .ok (.iaload, 1) := by decide +kernel
theorem dX5_ends_49 : decode cX5_ends 49 = .ok (.iconst 0, 1) := by decide +kernel
theorem dX5_ends_50 : decode cX5_ends 50 = .ok (.bastore, 1) := by decide +kernel
theorem dX5_ends_51 : decode cX5_ends 51 = .ok (.aload_n 0, 1) := by decide +kernel
theorem dX5_ends_52 : decode cX5_ends 52 = .ok (.getfield 36, 3) := by decide +kernel
theorem dX5_ends_55 : decode cX5_ends 55 = .ok (.iload_n 1, 1) := by decide +kernel
theorem dX5_ends_56 : decode cX5_ends 56 = .ok (.iconst (-1), 1) := by decide +kernel
theorem dX5_ends_57 : decode cX5_ends 57 = .ok (.iastore, 1) := by decide +kernel
theorem dX5_ends_58 : decode cX5_ends 58 = .ok (.iconst 1, 1) := by decide +kernel
theorem dX5_ends_59 : decode cX5_ends 59 = .ok (.ireturn, 1) := by decide +kernel
set_option maxRecDepth 20000 in
theorem ggX5_doInstruction_X5_bring : GoodIn wsX5_doInstruction wsX5_bring := goodIn_r _ [9, 3, 4, 1, 10, 11, 12, 13, 8, 14, 15, 16, 17, 18, 19, 20, 21, 22, 23, 24, 25, 2, 26, 27, 28, 29, 30, 31, 32, 33, 34, 35, 36, 37, 38, 39, 40, 41, 42, 43, 44, 45, 46, 47, 48, 49, 50, 51, 52, 53, 54, 55, 56, 61, 62, 63, 64, 65, 66, 67, 68, 69, 70, 71, 72, 73, 74, 75, 76, 77, 78, 79, 80] (by decide +kernel) (by decide +kernel)
set_option maxRecDepth 20000 in
theorem gX5_doInstruction_X5_bring : GoodIn wsX5_doInstruction (wsV RX5 124 RX5 yX5_bring wsX5_bring) := goodIn_app (goodIn_of _ (by decide +kernel)) ggX5_doInstruction_X5_bring
set_option maxRecDepth 20000 in
theorem ggX5_doInstruction_X5_ends : GoodIn wsX5_doInstruction wsX5_ends := goodIn_r _ [60, 3, 10, 16, 30, 31, 32, 8, 33, 18, 19, 20, 21, 34, 35, 22, 23, 24, 25, 4, 1, 2, 48, 49, 50, 51, 15, 61, 62, 63, 64, 65, 66, 67, 68, 69, 70, 71, 72, 73, 74, 75, 76, 77, 78, 79, 80] (by decide +kernel) (by decide +kernel)
set_option maxRecDepth 20000 in
theorem gX5_doInstruction_X5_ends : GoodIn wsX5_doInstruction (wsV RX5 128 RX5 yX5_ends wsX5_ends) := goodIn_app (goodIn_of _ (by decide +kernel)) ggX5_doInstruction_X5_ends
set_option maxRecDepth 20000 in
theorem ggX5_doInstruction_X5_add : GoodIn wsX5_doInstruction wsX5_add := goodIn_r _ [39, 40, 41, 61, 62, 63, 64, 65, 66, 67, 68, 69, 70, 71, 72, 73, 74, 75, 76, 77, 78, 79, 80] (by decide +kernel) (by decide +kernel)
set_option maxRecDepth 20000 in
theorem gX5_doInstruction_X5_add : GoodIn wsX5_doInstruction (wsV RX5 105 RX5 yX5_add wsX5_add) := goodIn_app (goodIn_of _ (by decide +kernel)) ggX5_doInstruction_X5_add
set_option maxRecDepth 20000 in
theorem ggX5_doInstruction_X5_get : GoodIn wsX5_doInstruction wsX5_get := goodIn_r _ [14, 15, 4, 10, 16, 17, 18, 19, 20, 21, 22, 23, 24, 8, 25, 1, 2, 26, 27, 28, 29, 30, 31, 32, 33, 34, 35, 36, 37, 38, 39, 40, 41, 42, 43, 44, 45, 46, 47, 48, 49, 50, 51, 3, 61, 62, 63, 64, 65, 66, 67, 68, 69, 70, 71, 72, 73, 74, 75, 76, 77, 78, 79, 80] (by decide +kernel) (by decide +kernel)
set_option maxRecDepth 20000 in
theorem gX5_doInstruction_X5_get : GoodIn wsX5_doInstruction (wsV RX5 116 RX5 yX5_get wsX5_get) := goodIn_app (goodIn_of _ (by decide +kernel)) ggX5_doInstruction_X5_get
set_option maxRecDepth 20000 in
theorem ggX5_doInstruction_X5_begin : GoodIn wsX5_doInstruction wsX5_begin := goodIn_r _ [55, 3, 15, 47, 56, 46, 40, 61, 62, 63, 64, 65, 66, 67, 68, 69, 70, 71, 72, 73, 74, 75, 76, 77, 78, 79, 80] (by decide +kernel) (by decide +kernel)
set_option maxRecDepth 20000 in
theorem gX5_doInstruction_X5_begin : GoodIn wsX5_doInstruction (wsV RX5 120 RX5 yX5_begin wsX5_begin) := goodIn_app (goodIn_of _ (by decide +kernel)) ggX5_doInstruction_X5_begin
set_option maxRecDepth 20000 in
theorem ggX5_doInstruction_X5_reads : GoodIn wsX5_doInstruction wsX5_reads := goodIn_r _ [45, 46, 47, 40, 61, 62, 63, 64, 65, 66, 67, 68, 69, 70, 71, 72, 73, 74, 75, 76, 77, 78, 79, 80] (by decide +kernel) (by decide +kernel)
set_option maxRecDepth 20000 in
theorem gX5_doInstruction_X5_reads : GoodIn wsX5_doInstruction (wsV RX5 109 RX5 yX5_reads wsX5_reads) := goodIn_app (goodIn_of _ (by decide +kernel)) ggX5_doInstruction_X5_reads
theorem dX5_doInstruction_0 : decode cX5_doInstruction 0 = .ok (.aload_n 0, 1) := by decide +kernel
theorem dX5_doInstruction_1 : decode cX5_doInstruction 1 = .ok (.getfield 13, 3) := by decide +kernel
theorem dX5_doInstruction_4 : decode cX5_doInstruction 4 = .ok (.iload_n 1, 1) := by decide +kernel
theorem dX5_doInstruction_5 : decode cX5_doInstruction 5 = .ok (.iaload, 1) := by decide +kernel
theorem dX5_doInstruction_6 : decode cX5_doInstruction 6 = .ok (.istore_n 3, 1) := by decide +kernel
theorem dX5_doInstruction_7 : decode cX5_doInstruction 7 = .ok (.aload_n 0, 1) := by decide +kernel
theorem dX5_doInstruction_8 : decode cX5_doInstruction 8 = .ok (.getfield 16, 3) := by decide +kernel
theorem dX5_doInstruction_11 : decode cX5_doInstruction 11 = .ok (.iload_n 1, 1) := by decide +kernel
theorem dX5_doInstruction_12 : decode cX5_doInstruction 12 = .ok (.iaload, 1) := by decide +kernel
theorem dX5_doInstruction_13 : decode cX5_doInstruction 13 = .ok (.istore 4, 2) := by decide +kernel
theorem dX5_doInstruction_15 : decode cX5_doInstruction 15 = .ok (.aload_n 0, 1) := by decide +kernel
theorem dX5_doInstruction_16 : decode cX5_doInstruction 16 = .ok (.iload_n 3, 1) := by decide +kernel
theorem dX5_doInstruction_17 : decode cX5_doInstruction 17 = .ok (.iload_n 1, 1) := by decide +kernel
theorem dX5_doInstruction_18 : decode cX5_doInstruction 18 = .ok (.iload_n 2, 1) := by decide +kernel
theorem dX5_doInstruction_19 : decode cX5_doInstruction 19 = .ok (.invokevirtual 124, 3) := by decide +kernel
theorem dX5_doInstruction_22 : decode cX5_doInstruction 22 = .ok (.iload 4, 2) := by decide +kernel
theorem dX5_doInstruction_24 : decode cX5_doInstruction 24 = .ok (.iconst (-1), 1) := by decide +kernel
theorem dX5_doInstruction_25 : decode cX5_doInstruction 25 = .ok (.if_icmp .eq 11, 3) := by decide +kernel
theorem dX5_doInstruction_28 : decode cX5_doInstruction 28 = .ok (.aload_n 0, 1) := by decide +kernel
theorem dX5_doInstruction_29 : decode cX5_doInstruction 29 = .ok (.iload 4, 2) := by decide +kernel
theorem dX5_doInstruction_31 : decode cX5_doInstruction 31 = .ok (.iload_n 1, 1) := by decide +kernel
theorem dX5_doInstruction_32 : decode cX5_doInstruction 32 = .ok (.iload_n 2, 1) := by decide +kernel
theorem dX5_doInstruction_33 : decode cX5_doInstruction 33 = .ok (.invokevirtual 124, 3) := by decide +kernel
theorem dX5_doInstruction_36 : decode cX5_doInstruction 36 = .ok (.aload_n 0, 1) := by decide +kernel
theorem dX5_doInstruction_37 : decode cX5_doInstruction 37 = .ok (.getfield 33, 3) := by decide +kernel
theorem dX5_doInstruction_40 : decode cX5_doInstruction 40 = .ok (.iload_n 3, 1) := by decide +kernel
theorem dX5_doInstruction_41 : decode cX5_doInstruction 41 = .ok (.iaload, 1) := by decide +kernel
theorem dX5_doInstruction_42 : decode cX5_doInstruction 42 = .ok (.istore 5, 2) := by decide +kernel
theorem dX5_doInstruction_44 : decode cX5_doInstruction 44 = .ok (.iload 4, 2) := by decide +kernel
theorem dX5_doInstruction_46 : decode cX5_doInstruction 46 = .ok (.iconst (-1), 1) := by decide +kernel
theorem dX5_doInstruction_47 : decode cX5_doInstruction 47 = .ok (.if_icmp .ne 7, 3) := by decide +kernel
theorem dX5_doInstruction_50 : decode cX5_doInstruction 50 = .ok (.iconst (-1), 1) := by decide +kernel
theorem dX5_doInstruction_51 : decode cX5_doInstruction 51 = .ok (.goto 10, 3) := by decide +kernel
theorem dX5_doInstruction_54 : decode cX5_doInstruction 54 = .ok (.aload_n 0, 1) := by decide +kernel
theorem dX5_doInstruction_55 : decode cX5_doInstruction 55 = .ok (.getfield 33, 3) := by decide +kernel
theorem dX5_doInstruction_58 : decode cX5_doInstruction 58 = .ok (.iload 4, 2) := by decide +kernel
theorem dX5_doInstruction_60 : decode cX5_doInstruction 60 = .ok (.iaload, 1) := by decide +kernel
theorem dX5_doInstruction_61 : decode cX5_doInstruction 61 = .ok (.istore 6, 2) := by decide +kernel
theorem dX5_doInstruction_63 : decode cX5_doInstruction 63 = .ok (.aload_n 0, 1) := by decide +kernel
theorem dX5_doInstruction_64 : decode cX5_doInstruction 64 = .ok (.iload_n 3, 1) := by decide +kernel
theorem dX5_doInstruction_65 : decode cX5_doInstruction 65 = .ok (.iload_n 1, 1) := by decide +kernel
theorem dX5_doInstruction_66 : decode cX5_doInstruction 66 = .ok (.invokevirtual 128, 3) := by decide +kernel
theorem dX5_doInstruction_69 : decode cX5_doInstruction 69 = .ok (.istore 7, 2) := by decide +kernel
theorem dX5_doInstruction_71 : decode cX5_doInstruction 71 = .ok (.iload 4, 2) := by decide +kernel
theorem dX5_doInstruction_73 : decode cX5_doInstruction 73 = .ok (.iconst (-1), 1) := by decide +kernel
theorem dX5_doInstruction_74 : decode cX5_doInstruction 74 = .ok (.if_icmp .eq 17, 3) := by decide +kernel
theorem dX5_doInstruction_77 : decode cX5_doInstruction 77 = .ok (.aload_n 0, 1) := by decide +kernel
theorem dX5_doInstruction_78 : decode cX5_doInstruction 78 = .ok (.iload 4, 2) := by decide +kernel
theorem dX5_doInstruction_80 : decode cX5_doInstruction 80 = .ok (.iload_n 1, 1) := by decide +kernel
theorem dX5_doInstruction_81 : decode cX5_doInstruction 81 = .ok (.invokevirtual 128, 3) := by decide +kernel
theorem dX5_doInstruction_84 : decode cX5_doInstruction 84 = .ok (.ifCond .eq 7, 3) := by decide +kernel
theorem dX5_doInstruction_87 : decode cX5_doInstruction 87 = .ok (.iconst 1, 1) := by decide +kernel
theorem dX5_doInstruction_88 : decode cX5_doInstruction 88 = .ok (.goto 4, 3) := by decide +kernel
theorem dX5_doInstruction_91 : decode cX5_doInstruction 91 = .ok (.iconst 0, 1) := by decide +kernel
theorem dX5_doInstruction_92 : decode cX5_doInstruction 92 = .ok (.istore 8, 2) := by decide +kernel
theorem dX5_doInstruction_94 : decode cX5_doInstruction 94 = .ok (.aload_n 0, 1) := by decide +kernel
theorem dX5_doInstruction_95 : decode cX5_doInstruction 95 = .ok (.getfield 9, 3) := by decide +kernel
theorem dX5_doInstruction_98 : decode cX5_doInstruction 98 = .ok (.iload_n 1, 1) := by decide +kernel
theorem dX5_doInstruction_99 : decode cX5_doInstruction 99 = .ok (.iaload, 1) := by decide +kernel
theorem dX5_doInstruction_100 : decode cX5_doInstruction 100 = .ok (.bipush 6, 2) := by decide +kernel
theorem dX5_doInstruction_102 : decode cX5_doInstruction 102 = .ok (.if_icmp .ne 16, 3) := by decide +kernel
theorem dX5_doInstruction_105 : decode cX5_doInstruction 105 = .ok (.aload_n 0, 1) := by decide +kernel
theorem dX5_doInstruction_106 : decode cX5_doInstruction 106 = .ok (.bipush 6, 2) := by decide +kernel
theorem dX5_doInstruction_108 : decode cX5_doInstruction 108 = .ok (.iload 5, 2) := by decide +kernel
theorem dX5_doInstruction_110 : decode cX5_doInstruction 110 = .ok (.iconst (-1), 1) := by decide +kernel
theorem dX5_doInstruction_111 : decode cX5_doInstruction 111 = .ok (.iconst (-1), 1) := by decide +kernel
theorem dX5_doInstruction_112 : decode cX5_doInstruction 112 = .ok (.invokevirtual 105, 3) := by decide +kernel
theorem dX5_doInstruction_115 : decode cX5_doInstruction 115 = .ok (.goto 69, 3) := by decide +kernel
theorem dX5_doInstruction_118 : decode cX5_doInstruction 118 = .ok (.iload 7, 2) := by decide +kernel
theorem dX5_doInstruction_120 : decode cX5_doInstruction 120 = .ok (.ifCond .eq 8, 3) := by decide +kernel
theorem dX5_doInstruction_123 : decode cX5_doInstruction 123 = .ok (.iload 5, 2) := by decide +kernel
theorem dX5_doInstruction_125 : decode cX5_doInstruction 125 = .ok (.goto 20, 3) := by decide +kernel
theorem dX5_doInstruction_128 : decode cX5_doInstruction 128 = .ok (.iload 8, 2) := by decide +kernel
theorem dX5_doInstruction_130 : decode cX5_doInstruction 130 = .ok (.ifCond .eq 8, 3) := by decide +kernel
theorem dX5_doInstruction_133 : decode cX5_doInstruction 133 = .ok (.iload 6, 2) := by decide +kernel
theorem dX5_doInstruction_135 : decode cX5_doInstruction 135 = .ok (.goto 10, 3) := by decide +kernel
theorem dX5_doInstruction_138 : decode cX5_doInstruction 138 = .ok (.aload_n 0, 1) := by decide +kernel
theorem dX5_doInstruction_139 : decode cX5_doInstruction 139 = .ok (.iload_n 1, 1) := by decide +kernel
theorem dX5_doInstruction_140 : decode cX5_doInstruction 140 = .ok (.iconst 0, 1) := by decide +kernel
theorem dX5_doInstruction_141 : decode cX5_doInstruction 141 = .ok (.iload_n 2, 1) := by decide +kernel
theorem dX5_doInstruction_142 : decode cX5_doInstruction 142 = .ok (.invokevirtual 116, 3) := by decide +kernel
theorem dX5_doInstruction_145 : decode cX5_doInstruction 145 = .ok (.istore 9, 2) := by decide +kernel
theorem dX5_doInstruction_147 : decode cX5_doInstruction 147 = .ok (.aload_n 0, 1) := by decide +kernel
theorem dX5_doInstruction_148 : decode cX5_doInstruction 148 = .ok (.aload_n 0, 1) := by decide +kernel
theorem dX5_doInstruction_149 : decode cX5_doInstruction 149 = .ok (.getfield 9, 3) := by decide +kernel
theorem dX5_doInstruction_152 : decode cX5_doInstruction 152 = .ok (.iload_n 1, 1) := by decide +kernel
theorem dX5_doInstruction_153 : decode cX5_doInstruction 153 = .ok (.iaload, 1) := by decide +kernel
theorem dX5_doInstruction_154 : decode cX5_doInstruction 154 = .ok (.iconst 5, 1) := by decide +kernel
theorem dX5_doInstruction_155 : decode cX5_doInstruction 155 = .ok (.if_icmp .ne 7, 3) := by decide +kernel
theorem dX5_doInstruction_158 : decode cX5_doInstruction 158 = .ok (.iconst 5, 1) := by decide +kernel
theorem dX5_doInstruction_159 : decode cX5_doInstruction 159 = .ok (.goto 9, 3) := by decide +kernel
theorem dX5_doInstruction_162 : decode cX5_doInstruction 162 = .ok (.aload_n 0, 1) := by decide +kernel
theorem dX5_doInstruction_163 : decode cX5_doInstruction 163 = .ok (.getfield 9, 3) := by decide +kernel
theorem dX5_doInstruction_166 : decode cX5_doInstruction 166 = .ok (.iload_n 1, 1) := by decide +kernel
theorem dX5_doInstruction_167 : decode cX5_doInstruction 167 = .ok (.iaload, 1) := by decide +kernel
theorem dX5_doInstruction_168 : decode cX5_doInstruction 168 = .ok (.iload 9, 2) := by decide +kernel
theorem dX5_doInstruction_170 : decode cX5_doInstruction 170 = .ok (.iload 5, 2) := by decide +kernel
theorem dX5_doInstruction_172 : decode cX5_doInstruction 172 = .ok (.iload 6, 2) := by decide +kernel
theorem dX5_doInstruction_174 : decode cX5_doInstruction 174 = .ok (.invokevirtual 105, 3) := by decide +kernel
theorem dX5_doInstruction_177 : decode cX5_doInstruction 177 = .ok (.aload_n 0, 1) := by decide +kernel
theorem dX5_doInstruction_178 : decode cX5_doInstruction 178 = .ok (.iload_n 1, 1) := by decide +kernel
theorem dX5_doInstruction_179 : decode cX5_doInstruction 179 = .ok (.iload 9, 2) := by decide +kernel
theorem dX5_doInstruction_181 : decode cX5_doInstruction 181 = .ok (.invokevirtual 120, 3) := by decide +kernel
theorem dX5_doInstruction_184 : decode cX5_doInstruction 184 = .ok (.aload_n 0, 1) := by decide +kernel
theorem dX5_doInstruction_185 : decode cX5_doInstruction 185 = .ok (.iload_n 3, 1) := by decide +kernel
theorem dX5_doInstruction_186 : decode cX5_doInstruction 186 = .ok (.invokevirtual 109, 3) := by decide +kernel
theorem dX5_doInstruction_189 : decode cX5_doInstruction 189 = .ok (.iload 4, 2) := by decide +kernel
theorem dX5_doInstruction_191 : decode cX5_doInstruction 191 = .ok (.iconst (-1), 1) := by decide +kernel
theorem dX5_doInstruction_192 : decode cX5_doInstruction 192 = .ok (.if_icmp .eq 9, 3) := by decide +kernel
theorem dX5_doInstruction_195 : decode cX5_doInstruction 195 = .ok (.aload_n 0, 1) := by decide +kernel
theorem dX5_doInstruction_196 : decode cX5_doInstruction 196 = .ok (.iload 4, 2) := by decide +kernel
theorem dX5_doInstruction_198 : decode cX5_doInstruction 198 = .ok (.invokevirtual 109, 3) := by decide +kernel
theorem dX5_doInstruction_201 : decode cX5_doInstruction 201 = .ok (.return_, 1) := by decide +kernel
set_option maxRecDepth 20000 in
theorem ggX5_make_X5_count : GoodIn wsX5_make wsX5_count := goodIn_r _ [15, 8, 9, 10, 16, 17, 18, 14, 19, 20, 21, 69, 70, 71, 72, 73, 74, 75, 76, 77, 78, 79, 80, 81, 82, 83, 84, 85, 86, 87, 88] (by decide +kernel) (by decide +kernel)
set_option maxRecDepth 20000 in
theorem gX5_make_X5_count : GoodIn wsX5_make (wsV RX5 80 RX5 yX5_count wsX5_count) := goodIn_app (goodIn_of _ (by decide +kernel)) ggX5_make_X5_count
set_option maxRecDepth 20000 in
theorem ggX5_make_X5_doInstruction : GoodIn wsX5_make wsX5_doInstruction := goodIn_r _ [25, 20, 21, 4, 10, 26, 27, 28, 14, 29, 5, 30, 31, 32, 33, 7, 6, 3, 34, 35, 36, 37, 16, 17, 18, 19, 38, 39, 40, 41, 42, 43, 44, 45, 8, 9, 46, 47, 48, 49, 1, 50, 51, 52, 53, 54, 55, 56, 57, 58, 59, 60, 61, 62, 63, 64, 2, 65, 66, 67, 68, 69, 70, 71, 72, 73, 74, 75, 76, 77, 78, 79, 80, 81, 82, 83, 84, 85, 86, 87, 88] (by decide +kernel) (by decide +kernel)
set_option maxRecDepth 20000 in
theorem gX5_make_X5_doInstruction : GoodIn wsX5_make (wsV RX5 131 RX5 yX5_doInstruction wsX5_doInstruction) := goodIn_app (goodIn_of _ (by decide +kernel)) ggX5_make_X5_doInstruction
theorem dX5_make_0 : decode cX5_make 0 = .ok (.aload_n 0, 1) := by decide +kernel
theorem dX5_make_1 : decode cX5_make 1 = .ok (.invokevirtual 80, 3) := by decide +kernel
theorem dX5_make_4 : decode cX5_make 4 = .ok (.aload_n 0, 1) := by decide +kernel
theorem dX5_make_5 : decode cX5_make 5 = .ok (.iconst 0, 1) := by decide +kernel
theorem dX5_make_6 : decode cX5_make 6 = .ok (.putfield 92, 3) := by decide +kernel
theorem dX5_make_9 : decode cX5_make 9 = .ok (.aload_n 0, 1) := by decide +kernel
theorem dX5_make_10 : decode cX5_make 10 = .ok (.iconst 0, 1) := by decide +kernel
theorem dX5_make_11 : decode cX5_make 11 = .ok (.putfield 95, 3) := by decide +kernel
theorem dX5_make_14 : decode cX5_make 14 = .ok (.aload_n 0, 1) := by decide +kernel
theorem dX5_make_15 : decode cX5_make 15 = .ok (.iconst 0, 1) := by decide +kernel
theorem dX5_make_16 : decode cX5_make 16 = .ok (.putfield 102, 3) := by decide +kernel
theorem dX5_make_19 : decode cX5_make 19 = .ok (.iconst 0, 1) := by decide +kernel
theorem dX5_make_20 : decode cX5_make 20 = .ok (.istore_n 2, 1) := by decide +kernel
theorem dX5_make_21 : decode cX5_make 21 = .ok (.iload_n 2, 1) := by decide +kernel
theorem dX5_make_22 : decode cX5_make 22 = .ok (.bipush 60, 2) := by decide +kernel
theorem dX5_make_24 : decode cX5_make 24 = .ok (.if_icmp .ge 30, 3) := by decide +kernel
theorem dX5_make_27 : decode cX5_make 27 = .ok (.aload_n 0, 1) := by decide +kernel
theorem dX5_make_28 : decode cX5_make 28 = .ok (.getfield 33, 3) := by decide +kernel
theorem dX5_make_31 : decode cX5_make 31 = .ok (.iload_n 2, 1) := by decide +kernel
theorem dX5_make_32 : decode cX5_make 32 = .ok (.iconst (-1), 1) := by decide +kernel
theorem dX5_make_33 : decode cX5_make 33 = .ok (.iastore, 1) := by decide +kernel
theorem dX5_make_34 : decode cX5_make 34 = .ok (.aload_n 0, 1) := by decide +kernel
theorem dX5_make_35 : decode cX5_make 35 = .ok (.getfield 36, 3) := by decide +kernel
theorem dX5_make_38 : decode cX5_make 38 = .ok (.iload_n 2, 1) := by decide +kernel
theorem dX5_make_39 : decode cX5_make 39 = .ok (.iconst (-1), 1) := by decide +kernel
theorem dX5_make_40 : decode cX5_make 40 = .ok (.iastore, 1) := by decide +kernel
theorem dX5_make_41 : decode cX5_make 41 = .ok (.aload_n 0, 1) := by decide +kernel
theorem dX5_make_42 : decode cX5_make 42 = .ok (.getfield 45, 3) := by decide +kernel
theorem dX5_make_45 : decode cX5_make 45 = .ok (.iload_n 2, 1) := by decide +kernel
theorem dX5_make_46 : decode cX5_make 46 = .ok (.iconst 0, 1) := by decide +kernel
theorem dX5_make_47 : decode cX5_make 47 = .ok (.bastore, 1) := by decide +kernel
theorem dX5_make_48 : decode cX5_make 48 = .ok (.iinc 2 1, 3) := by decide +kernel
theorem dX5_make_51 : decode cX5_make 51 = .ok (.goto (-30), 3) := by decide +kernel
theorem dX5_make_54 : decode cX5_make 54 = .ok (.iconst 0, 1) := by decide +kernel
theorem dX5_make_55 : decode cX5_make 55 = .ok (.istore_n 2, 1) := by decide +kernel
theorem dX5_make_56 : decode cX5_make 56 = .ok (.iload_n 2, 1) := by decide +kernel
theorem dX5_make_57 : decode cX5_make 57 = .ok (.bipush 8, 2) := by decide +kernel
theorem dX5_make_59 : decode cX5_make 59 = .ok (.if_icmp .ge 16, 3) := by decide +kernel
theorem dX5_make_62 : decode cX5_make 62 = .ok (.aload_n 0, 1) := by decide +kernel
theorem dX5_make_63 : decode cX5_make 63 = .ok (.getfield 42, 3) := by decide +kernel
theorem dX5_make_66 : decode cX5_make 66 = .ok (.iload_n 2, 1) := by decide +kernel
theorem dX5_make_67 : decode cX5_make 67 = .ok (.iconst (-1), 1) := by decide +kernel
theorem dX5_make_68 : decode cX5_make 68 = .ok (.iastore, 1) := by decide +kernel
theorem dX5_make_69 : decode cX5_make 69 = .ok (.iinc 2 1, 3) := by decide +kernel
theorem dX5_make_72 : decode cX5_make 72 = .ok (.goto (-16), 3) := by decide +kernel
theorem dX5_make_75 : decode cX5_make 75 = .ok (.iconst 0, 1) := by decide +kernel
theorem dX5_make_76 : decode cX5_make 76 = .ok (.istore_n 2, 1) := by decide +kernel
theorem dX5_make_77 : decode cX5_make 77 = .ok (.iload_n 2, 1) := by decide +kernel
theorem dX5_make_78 : decode cX5_make 78 = .ok (.aload_n 0, 1) := by decide +kernel
theorem dX5_make_79 : decode cX5_make 79 = .ok (.getfield 54, 3) := by decide +kernel
theorem dX5_make_82 : decode cX5_make 82 = .ok (.if_icmp .ge 33, 3) := by decide +kernel
theorem dX5_make_85 : decode cX5_make 85 = .ok (.aload_n 0, 1) := by decide +kernel
theorem dX5_make_86 : decode cX5_make 86 = .ok (.getfield 29, 3) := by decide +kernel
theorem dX5_make_89 : decode cX5_make 89 = .ok (.iload_n 2, 1) := by decide +kernel
theorem dX5_make_90 : decode cX5_make 90 = .ok (.baload, 1) := by decide +kernel
theorem dX5_make_91 : decode cX5_make 91 = .ok (.ifCond .eq 18, 3) := by decide +kernel
theorem dX5_make_94 : decode cX5_make 94 = .ok (.aload_n 0, 1) := by decide +kernel
theorem dX5_make_95 : decode cX5_make 95 = .ok (.getfield 9, 3) := by decide +kernel
theorem dX5_make_98 : decode cX5_make 98 = .ok (.iload_n 2, 1) := by decide +kernel
theorem dX5_make_99 : decode cX5_make 99 = .ok (.iaload, 1) := by decide +kernel
theorem dX5_make_100 : decode cX5_make 100 = .ok (.ifCond .eq 9, 3) := by decide +kernel
theorem dX5_make_103 : decode cX5_make 103 = .ok (.aload_n 0, 1) := by decide +kernel
theorem dX5_make_104 : decode cX5_make 104 = .ok (.iload_n 2, 1) := by decide +kernel
theorem dX5_make_105 : decode cX5_make 105 = .ok (.iload_n 1, 1) := by decide +kernel
theorem dX5_make_106 : decode cX5_make 106 = .ok (.invokevirtual 131, 3) := by decide +kernel
theorem dX5_make_109 : decode cX5_make 109 = .ok (.iinc 2 1, 3) := by decide +kernel
theorem dX5_make_112 : decode cX5_make 112 = .ok (.goto (-35), 3) := by decide +kernel
theorem dX5_make_115 : decode cX5_make 115 = .ok (.return_, 1) := by decide +kernel
set_option maxRecDepth 20000 in
theorem ggX5_allocate_X5_make : GoodIn wsX5_allocate wsX5_make := goodIn_r _ [9, 4, 10, 11, 12, 13, 14, 15, 16, 17, 18, 19, 20, 21, 8, 22, 23, 24, 25, 26, 27, 28, 29, 30, 31, 32, 33, 34, 35, 36, 37, 38, 39, 40, 41, 42, 43, 44, 45, 46, 47, 48, 49, 50, 51, 52, 53, 54, 55, 56, 57, 58, 59, 60, 61, 62, 63, 64, 65, 66, 67, 68, 69, 70, 71, 72, 73, 74, 75, 76, 77, 78, 79, 80, 81, 82, 83, 84, 85, 86, 87, 88, 89, 90, 91, 92, 93, 94, 95] (by decide +kernel) (by decide +kernel)
set_option maxRecDepth 20000 in
theorem gX5_allocate_X5_make : GoodIn wsX5_allocate (wsV RX5 134 RX5 yX5_make wsX5_make) := goodIn_app (goodIn_of _ (by decide +kernel)) ggX5_allocate_X5_make
theorem dX5_allocate_0 : decode cX5_allocate 0 = .ok (.aload_n 0, 1) := by decide +kernel
theorem dX5_allocate_1 : decode cX5_allocate 1 = .ok (.iconst 0, 1) := by decide +kernel
theorem dX5_allocate_2 : decode cX5_allocate 2 = .ok (.putfield 51, 3) := by decide +kernel
theorem dX5_allocate_5 : decode cX5_allocate 5 = .ok (.aload_n 0, 1) := by decide +kernel
theorem dX5_allocate_6 : decode cX5_allocate 6 = .ok (.aload_n 0, 1) := by decide +kernel
theorem dX5_allocate_7 : decode cX5_allocate 7 = .ok (.getfield 19, 3) := by decide +kernel
theorem dX5_allocate_10 : decode cX5_allocate 10 = .ok (.invokevirtual 134, 3) := by decide +kernel
theorem dX5_allocate_13 : decode cX5_allocate 13 = .ok (.aload_n 0, 1) := by decide +kernel
theorem dX5_allocate_14 : decode cX5_allocate 14 = .ok (.iconst 1, 1) := by decide +kernel
theorem dX5_allocate_15 : decode cX5_allocate 15 = .ok (.putfield 61, 3) := by decide +kernel
theorem dX5_allocate_18 : decode cX5_allocate 18 = .ok (.aload_n 0, 1) := by decide +kernel
theorem dX5_allocate_19 : decode cX5_allocate 19 = .ok (.getfield 92, 3) := by decide +kernel
theorem dX5_allocate_22 : decode cX5_allocate 22 = .ok (.ireturn, 1) := by decide +kernel
theorem dX5_isAllocated_0 : decode cX5_isAllocated 0 = .ok (.aload_n 0, 1) := by decide +kernel
theorem dX5_isAllocated_1 : decode cX5_isAllocated 1 = .ok (.iconst 0, 1) := by decide +kernel
theorem dX5_isAllocated_2 : decode cX5_isAllocated 2 = .ok (.putfield 51, 3) := by decide +kernel
theorem dX5_isAllocated_5 : decode cX5_isAllocated 5 = .ok (.aload_n 0, 1) := by decide +kernel
theorem dX5_isAllocated_6 : decode cX5_isAllocated 6 = .ok (.getfield 61, 3) := by decide +kernel
theorem dX5_isAllocated_9 : decode cX5_isAllocated 9 = .ok (.ireturn, 1) := by decide +kernel
set_option maxRecDepth 20000 in
theorem ggX5_step_X5_fail : GoodIn wsX5_step wsX5_fail := goodIn_r _ [9, 1, 10, 11, 12, 13, 14, 15, 16, 17, 18, 19, 20, 21, 22, 23, 24, 25, 26, 27, 28, 29] (by decide +kernel) (by decide +kernel)
set_option maxRecDepth 20000 in
theorem gX5_step_X5_fail : GoodIn wsX5_step (wsV RX5 65 RX5 yX5_fail wsX5_fail) := goodIn_app (goodIn_of _ (by decide +kernel)) ggX5_step_X5_fail
theorem dX5_step_0 : decode cX5_step 0 = .ok (.aload_n 0, 1) := by decide +kernel
theorem dX5_step_1 : decode cX5_step 1 = .ok (.iconst 0, 1) := by decide +kernel
theorem dX5_step_2 : decode cX5_step 2 = .ok (.putfield 51, 3) := by decide +kernel
theorem dX5_step_5 : decode cX5_step 5 = .ok (.aload_n 0, 1) := by decide +kernel
theorem dX5_step_6 : decode cX5_step 6 = .ok (.getfield 61, 3) := by decide +kernel
theorem dX5_step_9 : decode cX5_step 9 = .ok (.ifCond .ne 9, 3) := by decide +kernel
theorem dX5_step_12 : decode cX5_step 12 = .ok (.aload_n 0, 1) := by decide +kernel
theorem dX5_step_13 : decode cX5_step 13 = .ok (.iconst 1, 1) := by decide +kernel
theorem dX5_step_14 : decode cX5_step 14 = .ok (.invokevirtual 65, 3) := by decide +kernel
theorem dX5_step_17 : decode cX5_step 17 = .ok (.ireturn, 1) := by decide +kernel
theorem dX5_step_18 : decode cX5_step 18 = .ok (.iload_n 1, 1) := by decide +kernel
theorem dX5_step_19 : decode cX5_step 19 = .ok (.ifCond .lt 33, 3) := by decide +kernel
theorem dX5_step_22 : decode cX5_step 22 = .ok (.iload_n 1, 1) := by decide +kernel
theorem dX5_step_23 : decode cX5_step 23 = .ok (.aload_n 0, 1) := by decide +kernel
theorem dX5_step_24 : decode cX5_step 24 = .ok (.getfield 92, 3) := by decide +kernel
theorem dX5_step_27 : decode cX5_step 27 = .ok (.if_icmp .ge 25, 3) := by decide +kernel
theorem dX5_step_30 : decode cX5_step 30 = .ok (.iload_n 2, 1) := by decide +kernel
theorem dX5_step_31 : decode cX5_step 31 = .ok (.ifCond .lt 21, 3) := by decide +kernel
theorem dX5_step_34 : decode cX5_step 34 = .ok (.iload_n 2, 1) := by decide +kernel
theorem dX5_step_35 : decode cX5_step 35 = .ok (.iconst 3, 1) := by decide +kernel
theorem dX5_step_36 : decode cX5_step 36 = .ok (.if_icmp .gt 16, 3) := by decide +kernel
theorem dX5_step_39 : decode cX5_step 39 = .ok (.aload_n 0, 1) := by decide +kernel
theorem dX5_step_40 : decode cX5_step 40 = .ok (.getfield 23, 3) := by decide +kernel
theorem dX5_step_43 : decode cX5_step 43 = .ok (.iconst 4, 1) := by decide +kernel
theorem dX5_step_44 : decode cX5_step 44 = .ok (.iload_n 1, 1) := by decide +kernel
theorem dX5_step_45 : decode cX5_step 45 = .ok (.imul, 1) := by decide +kernel
theorem dX5_step_46 : decode cX5_step 46 = .ok (.iload_n 2, 1) := by decide +kernel
theorem dX5_step_47 : decode cX5_step 47 = .ok (.iadd, 1) := by decide +kernel
theorem dX5_step_48 : decode cX5_step 48 = .ok (.iaload, 1) := by decide +kernel
theorem dX5_step_49 : decode cX5_step 49 = .ok (.goto 8, 3) := by decide +kernel
theorem dX5_step_52 : decode cX5_step 52 = .ok (.aload_n 0, 1) := by decide +kernel
theorem dX5_step_53 : decode cX5_step 53 = .ok (.iconst 2, 1) := by decide +kernel
theorem dX5_step_54 : decode cX5_step 54 = .ok (.invokevirtual 65, 3) := by decide +kernel
theorem dX5_step_57 : decode cX5_step 57 = .ok (.ireturn, 1) := by decide +kernel
theorem dX5_stepsOf_0 : decode cX5_stepsOf 0 = .ok (.iconst 0, 1) := by decide +kernel
theorem dX5_stepsOf_1 : decode cX5_stepsOf 1 = .ok (.istore_n 2, 1) := by decide +kernel
theorem dX5_stepsOf_2 : decode cX5_stepsOf 2 = .ok (.iconst 0, 1) := by decide +kernel
theorem dX5_stepsOf_3 : decode cX5_stepsOf 3 = .ok (.istore_n 3, 1) := by decide +kernel
theorem dX5_stepsOf_4 : decode cX5_stepsOf 4 = .ok (.iload_n 3, 1) := by decide +kernel
theorem dX5_stepsOf_5 : decode cX5_stepsOf 5 = .ok (.aload_n 0, 1) := by decide +kernel
theorem dX5_stepsOf_6 : decode cX5_stepsOf 6 = .ok (.getfield 92, 3) := by decide +kernel
theorem dX5_stepsOf_9 : decode cX5_stepsOf 9 = .ok (.if_icmp .ge 29, 3) := by decide +kernel
theorem dX5_stepsOf_12 : decode cX5_stepsOf 12 = .ok (.iload_n 2, 1) := by decide +kernel
theorem dX5_stepsOf_13 : decode cX5_stepsOf 13 = .ok (.aload_n 0, 1) := by decide +kernel
theorem dX5_stepsOf_14 : decode cX5_stepsOf 14 = .ok (.getfield 23, 3) := by decide +kernel
theorem dX5_stepsOf_17 : decode cX5_stepsOf 17 = .ok (.iconst 4, 1) := by decide +kernel
theorem dX5_stepsOf_18 : decode cX5_stepsOf 18 = .ok (.iload_n 3, 1) := by decide +kernel
theorem dX5_stepsOf_19 : decode cX5_stepsOf 19 = .ok (.imul, 1) := by decide +kernel
theorem dX5_stepsOf_20 : decode cX5_stepsOf 20 = .ok (.iaload, 1) := by decide +kernel
theorem dX5_stepsOf_21 : decode cX5_stepsOf 21 = .ok (.iload_n 1, 1) := by decide +kernel
theorem dX5_stepsOf_22 : decode cX5_stepsOf 22 = .ok (.if_icmp .ne 7, 3) := by decide +kernel
theorem dX5_stepsOf_25 : decode cX5_stepsOf 25 = .ok (.iconst 1, 1) := by decide +kernel
theorem dX5_stepsOf_26 : decode cX5_stepsOf 26 = .ok (.goto 4, 3) := by decide +kernel
theorem dX5_stepsOf_29 : decode cX5_stepsOf 29 = .ok (.iconst 0, 1) := by decide +kernel
theorem dX5_stepsOf_30 : decode cX5_stepsOf 30 = .ok (.iadd, 1) := by decide +kernel
theorem dX5_stepsOf_31 : decode cX5_stepsOf 31 = .ok (.istore_n 2, 1) := by decide +kernel
theorem dX5_stepsOf_32 : decode cX5_stepsOf 32 = .ok (.iinc 3 1, 3) := by decide +kernel
theorem dX5_stepsOf_35 : decode cX5_stepsOf 35 = .ok (.goto (-31), 3) := by decide +kernel
theorem dX5_stepsOf_38 : decode cX5_stepsOf 38 = .ok (.iload_n 2, 1) := by decide +kernel
theorem dX5_stepsOf_39 : decode cX5_stepsOf 39 = .ok (.ireturn, 1) := by decide +kernel
set_option maxRecDepth 20000 in
theorem ggX5_stepCount_X5_fail : GoodIn wsX5_stepCount wsX5_fail := goodIn_r _ [7, 1, 14, 15, 16, 17, 18, 19, 20, 21, 22, 23, 24, 25, 26, 27, 28, 29, 30, 31, 32, 33] (by decide +kernel) (by decide +kernel)
set_option maxRecDepth 20000 in
theorem gX5_stepCount_X5_fail : GoodIn wsX5_stepCount (wsV RX5 65 RX5 yX5_fail wsX5_fail) := goodIn_app (goodIn_of _ (by decide +kernel)) ggX5_stepCount_X5_fail
set_option maxRecDepth 20000 in
theorem ggX5_stepCount_X5_stepsOf : GoodIn wsX5_stepCount wsX5_stepsOf := goodIn_r _ [11, 12, 13, 14, 15, 16, 17, 18, 19, 20, 21, 22, 23, 24, 25, 26, 27, 28, 29, 30, 31, 32, 33] (by decide +kernel) (by decide +kernel)
set_option maxRecDepth 20000 in
theorem gX5_stepCount_X5_stepsOf : GoodIn wsX5_stepCount (wsV RX5 137 RX5 yX5_stepsOf wsX5_stepsOf) := goodIn_app (goodIn_of _ (by decide +kernel)) ggX5_stepCount_X5_stepsOf
theorem dX5_stepCount_0 : decode cX5_stepCount 0 = .ok (.aload_n 0, 1) := by decide +kernel
theorem dX5_stepCount_1 : decode cX5_stepCount 1 = .ok (.iconst 0, 1) := by decide +kernel
theorem dX5_stepCount_2 : decode cX5_stepCount 2 = .ok (.putfield 51, 3) := by decide +kernel
theorem dX5_stepCount_5 : decode cX5_stepCount 5 = .ok (.aload_n 0, 1) := by decide +kernel
theorem dX5_stepCount_6 : decode cX5_stepCount 6 = .ok (.getfield 61, 3) := by decide +kernel
theorem dX5_stepCount_9 : decode cX5_stepCount 9 = .ok (.ifCond .ne 9, 3) := by decide +kernel
theorem dX5_stepCount_12 : decode cX5_stepCount 12 = .ok (.aload_n 0, 1) := by decide +kernel
theorem dX5_stepCount_13 : decode cX5_stepCount 13 = .ok (.iconst 1, 1) := by decide +kernel
theorem dX5_stepCount_14 : decode cX5_stepCount 14 = .ok (.invokevirtual 65, 3) := by decide +kernel
theorem dX5_stepCount_17 : decode cX5_stepCount 17 = .ok (.ireturn, 1) := by decide +kernel
theorem dX5_stepCount_18 : decode cX5_stepCount 18 = .ok (.iload_n 1, 1) := by decide +kernel
theorem dX5_stepCount_19 : decode cX5_stepCount 19 = .ok (.ifCond .lt 17, 3) := by decide +kernel
theorem dX5_stepCount_22 : decode cX5_stepCount 22 = .ok (.iload_n 1, 1) := by decide +kernel
theorem dX5_stepCount_23 : decode cX5_stepCount 23 = .ok (.bipush 8, 2) := by decide +kernel
theorem dX5_stepCount_25 : decode cX5_stepCount 25 = .ok (.if_icmp .gt 11, 3) := by decide +kernel
theorem dX5_stepCount_28 : decode cX5_stepCount 28 = .ok (.aload_n 0, 1) := by decide +kernel
theorem dX5_stepCount_29 : decode cX5_stepCount 29 = .ok (.iload_n 1, 1) := by decide +kernel
theorem dX5_stepCount_30 : decode cX5_stepCount 30 = .ok (.invokevirtual 137, 3) := by decide +kernel
theorem dX5_stepCount_33 : decode cX5_stepCount 33 = .ok (.goto 8, 3) := by decide +kernel
theorem dX5_stepCount_36 : decode cX5_stepCount 36 = .ok (.aload_n 0, 1) := by decide +kernel
theorem dX5_stepCount_37 : decode cX5_stepCount 37 = .ok (.iconst 2, 1) := by decide +kernel
theorem dX5_stepCount_38 : decode cX5_stepCount 38 = .ok (.invokevirtual 65, 3) := by decide +kernel
theorem dX5_stepCount_41 : decode cX5_stepCount 41 = .ok (.ireturn, 1) := by decide +kernel
set_option maxRecDepth 20000 in
theorem ggX5_slots_X5_fail : GoodIn wsX5_slots wsX5_fail := goodIn_r _ [8, 1, 9, 10, 11, 12, 13, 14, 15, 16, 17, 18, 19, 20, 21, 22, 23, 24, 25, 26, 27, 28] (by decide +kernel) (by decide +kernel)
set_option maxRecDepth 20000 in
theorem gX5_slots_X5_fail : GoodIn wsX5_slots (wsV RX5 65 RX5 yX5_fail wsX5_fail) := goodIn_app (goodIn_of _ (by decide +kernel)) ggX5_slots_X5_fail
theorem dX5_slots_0 : decode cX5_slots 0 = .ok (.aload_n 0, 1) := by decide +kernel
theorem dX5_slots_1 : decode cX5_slots 1 = .ok (.iconst 0, 1) := by decide +kernel
theorem dX5_slots_2 : decode cX5_slots 2 = .ok (.putfield 51, 3) := by decide +kernel
theorem dX5_slots_5 : decode cX5_slots 5 = .ok (.aload_n 0, 1) := by decide +kernel
theorem dX5_slots_6 : decode cX5_slots 6 = .ok (.getfield 61, 3) := by decide +kernel
theorem dX5_slots_9 : decode cX5_slots 9 = .ok (.ifCond .eq 10, 3) := by decide +kernel
theorem dX5_slots_12 : decode cX5_slots 12 = .ok (.aload_n 0, 1) := by decide +kernel
theorem dX5_slots_13 : decode cX5_slots 13 = .ok (.getfield 102, 3) := by decide +kernel
theorem dX5_slots_16 : decode cX5_slots 16 = .ok (.goto 8, 3) := by decide +kernel
theorem dX5_slots_19 : decode cX5_slots 19 = .ok (.aload_n 0, 1) := by decide +kernel
theorem dX5_slots_20 : decode cX5_slots 20 = .ok (.iconst 1, 1) := by decide +kernel
theorem dX5_slots_21 : decode cX5_slots 21 = .ok (.invokevirtual 65, 3) := by decide +kernel
theorem dX5_slots_24 : decode cX5_slots 24 = .ok (.ireturn, 1) := by decide +kernel
set_option maxRecDepth 20000 in
theorem ggX5_pieceCount_X5_fail : GoodIn wsX5_pieceCount wsX5_fail := goodIn_r _ [8, 1, 9, 10, 11, 12, 13, 14, 15, 16, 17, 18, 19, 20, 21, 22, 23, 24, 25, 26, 27, 28] (by decide +kernel) (by decide +kernel)
set_option maxRecDepth 20000 in
theorem gX5_pieceCount_X5_fail : GoodIn wsX5_pieceCount (wsV RX5 65 RX5 yX5_fail wsX5_fail) := goodIn_app (goodIn_of _ (by decide +kernel)) ggX5_pieceCount_X5_fail
theorem dX5_pieceCount_0 : decode cX5_pieceCount 0 = .ok (.aload_n 0, 1) := by decide +kernel
theorem dX5_pieceCount_1 : decode cX5_pieceCount 1 = .ok (.iconst 0, 1) := by decide +kernel
theorem dX5_pieceCount_2 : decode cX5_pieceCount 2 = .ok (.putfield 51, 3) := by decide +kernel
theorem dX5_pieceCount_5 : decode cX5_pieceCount 5 = .ok (.aload_n 0, 1) := by decide +kernel
theorem dX5_pieceCount_6 : decode cX5_pieceCount 6 = .ok (.getfield 61, 3) := by decide +kernel
theorem dX5_pieceCount_9 : decode cX5_pieceCount 9 = .ok (.ifCond .eq 10, 3) := by decide +kernel
theorem dX5_pieceCount_12 : decode cX5_pieceCount 12 = .ok (.aload_n 0, 1) := by decide +kernel
theorem dX5_pieceCount_13 : decode cX5_pieceCount 13 = .ok (.getfield 95, 3) := by decide +kernel
theorem dX5_pieceCount_16 : decode cX5_pieceCount 16 = .ok (.goto 8, 3) := by decide +kernel
theorem dX5_pieceCount_19 : decode cX5_pieceCount 19 = .ok (.aload_n 0, 1) := by decide +kernel
theorem dX5_pieceCount_20 : decode cX5_pieceCount 20 = .ok (.iconst 1, 1) := by decide +kernel
theorem dX5_pieceCount_21 : decode cX5_pieceCount 21 = .ok (.invokevirtual 65, 3) := by decide +kernel
theorem dX5_pieceCount_24 : decode cX5_pieceCount 24 = .ok (.ireturn, 1) := by decide +kernel
set_option maxRecDepth 20000 in
theorem ggX5_piece_X5_fail : GoodIn wsX5_piece wsX5_fail := goodIn_r _ [9, 1, 10, 11, 12, 13, 14, 15, 16, 17, 18, 19, 20, 21, 22, 23, 24, 25, 26, 27, 28, 29] (by decide +kernel) (by decide +kernel)
set_option maxRecDepth 20000 in
theorem gX5_piece_X5_fail : GoodIn wsX5_piece (wsV RX5 65 RX5 yX5_fail wsX5_fail) := goodIn_app (goodIn_of _ (by decide +kernel)) ggX5_piece_X5_fail
theorem dX5_piece_0 : decode cX5_piece 0 = .ok (.aload_n 0, 1) := by decide +kernel
theorem dX5_piece_1 : decode cX5_piece 1 = .ok (.iconst 0, 1) := by decide +kernel
theorem dX5_piece_2 : decode cX5_piece 2 = .ok (.putfield 51, 3) := by decide +kernel
theorem dX5_piece_5 : decode cX5_piece 5 = .ok (.aload_n 0, 1) := by decide +kernel
theorem dX5_piece_6 : decode cX5_piece 6 = .ok (.getfield 61, 3) := by decide +kernel
theorem dX5_piece_9 : decode cX5_piece 9 = .ok (.ifCond .ne 9, 3) := by decide +kernel
theorem dX5_piece_12 : decode cX5_piece 12 = .ok (.aload_n 0, 1) := by decide +kernel
theorem dX5_piece_13 : decode cX5_piece 13 = .ok (.iconst 1, 1) := by decide +kernel
theorem dX5_piece_14 : decode cX5_piece 14 = .ok (.invokevirtual 65, 3) := by decide +kernel
theorem dX5_piece_17 : decode cX5_piece 17 = .ok (.ireturn, 1) := by decide +kernel
theorem dX5_piece_18 : decode cX5_piece 18 = .ok (.iload_n 1, 1) := by decide +kernel
theorem dX5_piece_19 : decode cX5_piece 19 = .ok (.ifCond .lt 33, 3) := by decide +kernel
theorem dX5_piece_22 : decode cX5_piece 22 = .ok (.iload_n 1, 1) := by decide +kernel
theorem dX5_piece_23 : decode cX5_piece 23 = .ok (.aload_n 0, 1) := by decide +kernel
theorem dX5_piece_24 : decode cX5_piece 24 = .ok (.getfield 95, 3) := by decide +kernel
theorem dX5_piece_27 : decode cX5_piece 27 = .ok (.if_icmp .ge 25, 3) := by decide +kernel
theorem dX5_piece_30 : decode cX5_piece 30 = .ok (.iload_n 2, 1) := by decide +kernel
theorem dX5_piece_31 : decode cX5_piece 31 = .ok (.ifCond .lt 21, 3) := by decide +kernel
theorem dX5_piece_34 : decode cX5_piece 34 = .ok (.iload_n 2, 1) := by decide +kernel
theorem dX5_piece_35 : decode cX5_piece 35 = .ok (.iconst 3, 1) := by decide +kernel
theorem dX5_piece_36 : decode cX5_piece 36 = .ok (.if_icmp .gt 16, 3) := by decide +kernel
theorem dX5_piece_39 : decode cX5_piece 39 = .ok (.aload_n 0, 1) := by decide +kernel
theorem dX5_piece_40 : decode cX5_piece 40 = .ok (.getfield 26, 3) := by decide +kernel
theorem dX5_piece_43 : decode cX5_piece 43 = .ok (.iconst 4, 1) := by decide +kernel
theorem dX5_piece_44 : decode cX5_piece 44 = .ok (.iload_n 1, 1) := by decide +kernel
theorem dX5_piece_45 : decode cX5_piece 45 = .ok (.imul, 1) := by decide +kernel
theorem dX5_piece_46 : decode cX5_piece 46 = .ok (.iload_n 2, 1) := by decide +kernel
theorem dX5_piece_47 : decode cX5_piece 47 = .ok (.iadd, 1) := by decide +kernel
theorem dX5_piece_48 : decode cX5_piece 48 = .ok (.iaload, 1) := by decide +kernel
theorem dX5_piece_49 : decode cX5_piece 49 = .ok (.goto 8, 3) := by decide +kernel
theorem dX5_piece_52 : decode cX5_piece 52 = .ok (.aload_n 0, 1) := by decide +kernel
theorem dX5_piece_53 : decode cX5_piece 53 = .ok (.iconst 2, 1) := by decide +kernel
theorem dX5_piece_54 : decode cX5_piece 54 = .ok (.invokevirtual 65, 3) := by decide +kernel
theorem dX5_piece_57 : decode cX5_piece 57 = .ok (.ireturn, 1) := by decide +kernel
set_option maxRecDepth 20000 in
theorem ggX5_comfortable_X5_make : GoodIn wsX5_comfortable wsX5_make := goodIn_r _ [8, 9, 10, 11, 12, 13, 14, 15, 16, 17, 18, 19, 20, 21, 7, 22, 23, 24, 25, 26, 27, 28, 29, 30, 31, 32, 33, 34, 35, 36, 37, 38, 39, 40, 41, 42, 43, 44, 45, 46, 47, 48, 49, 50, 51, 52, 53, 54, 55, 56, 57, 58, 59, 60, 61, 62, 63, 64, 65, 66, 67, 68, 69, 70, 71, 72, 73, 74, 75, 80, 81, 82, 83, 84, 85, 86, 87, 88, 89, 90, 91, 92, 93, 94, 95, 96, 97, 98, 99] (by decide +kernel) (by decide +kernel)
set_option maxRecDepth 20000 in
theorem gX5_comfortable_X5_make : GoodIn wsX5_comfortable (wsV RX5 134 RX5 yX5_make wsX5_make) := goodIn_app (goodIn_of _ (by decide +kernel)) ggX5_comfortable_X5_make
set_option maxRecDepth 20000 in
theorem ggX5_comfortable_X5_stepsOf : GoodIn wsX5_comfortable wsX5_stepsOf := goodIn_r _ [79, 9, 57, 80, 81, 82, 83, 84, 85, 86, 87, 88, 89, 90, 91, 92, 93, 94, 95, 96, 97, 98, 99] (by decide +kernel) (by decide +kernel)
set_option maxRecDepth 20000 in
theorem gX5_comfortable_X5_stepsOf : GoodIn wsX5_comfortable (wsV RX5 137 RX5 yX5_stepsOf wsX5_stepsOf) := goodIn_app (goodIn_of _ (by decide +kernel)) ggX5_comfortable_X5_stepsOf
theorem dX5_comfortable_0 : decode cX5_comfortable 0 = .ok (.aload_n 0, 1) := by decide +kernel
theorem dX5_comfortable_1 : decode cX5_comfortable 1 = .ok (.iconst 0, 1) := by decide +kernel
theorem dX5_comfortable_2 : decode cX5_comfortable 2 = .ok (.putfield 51, 3) := by decide +kernel
theorem dX5_comfortable_5 : decode cX5_comfortable 5 = .ok (.iconst (-1), 1) := by decide +kernel
theorem dX5_comfortable_6 : decode cX5_comfortable 6 = .ok (.istore_n 1, 1) := by decide +kernel
theorem dX5_comfortable_7 : decode cX5_comfortable 7 = .ok (.iconst 2, 1) := by decide +kernel
theorem dX5_comfortable_8 : decode cX5_comfortable 8 = .ok (.istore_n 2, 1) := by decide +kernel
theorem dX5_comfortable_9 : decode cX5_comfortable 9 = .ok (.iload_n 2, 1) := by decide +kernel
theorem dX5_comfortable_10 : decode cX5_comfortable 10 = .ok (.bipush 8, 2) := by decide +kernel
theorem dX5_comfortable_12 : decode cX5_comfortable 12 = .ok (.if_icmp .gt 39, 3) := by decide +kernel
theorem dX5_comfortable_15 : decode cX5_comfortable 15 = .ok (.iload_n 1, 1) := by decide +kernel
theorem dX5_comfortable_16 : decode cX5_comfortable 16 = .ok (.iconst (-1), 1) := by decide +kernel
theorem dX5_comfortable_17 : decode cX5_comfortable 17 = .ok (.if_icmp .ne 34, 3) := by decide +kernel
theorem dX5_comfortable_20 : decode cX5_comfortable 20 = .ok (.aload_n 0, 1) := by decide +kernel
theorem dX5_comfortable_21 : decode cX5_comfortable 21 = .ok (.iload_n 2, 1) := by decide +kernel
theorem dX5_comfortable_22 : decode cX5_comfortable 22 = .ok (.invokevirtual 134, 3) := by decide +kernel
theorem dX5_comfortable_25 : decode cX5_comfortable 25 = .ok (.aload_n 0, 1) := by decide +kernel
theorem dX5_comfortable_26 : decode cX5_comfortable 26 = .ok (.bipush 7, 2) := by decide +kernel
theorem dX5_comfortable_28 : decode cX5_comfortable 28 = .ok (.invokevirtual 137, 3) := by decide +kernel
theorem dX5_comfortable_31 : decode cX5_comfortable 31 = .ok (.ifCond .ne 14, 3) := by decide +kernel
theorem dX5_comfortable_34 : decode cX5_comfortable 34 = .ok (.aload_n 0, 1) := by decide +kernel
theorem dX5_comfortable_35 : decode cX5_comfortable 35 = .ok (.bipush 8, 2) := by decide +kernel
theorem dX5_comfortable_37 : decode cX5_comfortable 37 = .ok (.invokevirtual 137, 3) := by decide +kernel
theorem dX5_comfortable_40 : decode cX5_comfortable 40 = .ok (.ifCond .ne 5, 3) := by decide +kernel
theorem dX5_comfortable_43 : decode cX5_comfortable 43 = .ok (.iload_n 2, 1) := by decide +kernel
theorem dX5_comfortable_44 : decode cX5_comfortable 44 = .ok (.istore_n 1, 1) := by decide +kernel
theorem dX5_comfortable_45 : decode cX5_comfortable 45 = .ok (.iinc 2 1, 3) := by decide +kernel
theorem dX5_comfortable_48 : decode cX5_comfortable 48 = .ok (.goto (-39), 3) := by decide +kernel
theorem dX5_comfortable_51 : decode cX5_comfortable 51 = .ok (.aload_n 0, 1) := by decide +kernel
theorem dX5_comfortable_52 : decode cX5_comfortable 52 = .ok (.getfield 61, 3) := by decide +kernel
theorem dX5_comfortable_55 : decode cX5_comfortable 55 = .ok (.ifCond .eq 11, 3) := by decide +kernel
theorem dX5_comfortable_58 : decode cX5_comfortable 58 = .ok (.aload_n 0, 1) := by decide +kernel
theorem dX5_comfortable_59 : decode cX5_comfortable 59 = .ok (.aload_n 0, 1) := by decide +kernel
theorem dX5_comfortable_60 : decode cX5_comfortable 60 = .ok (.getfield 19, 3) := by decide +kernel
theorem dX5_comfortable_63 : decode cX5_comfortable 63 = .ok (.invokevirtual 134, 3) := by decide +kernel
theorem dX5_comfortable_66 : decode cX5_comfortable 66 = .ok (.iload_n 1, 1) := by decide +kernel
theorem dX5_comfortable_67 : decode cX5_comfortable 67 = .ok (.ireturn, 1) := by decide +kernel
set_option maxRecDepth 20000 in
theorem ggX5_run_X5_fail : GoodIn wsX5_run wsX5_fail := goodIn_r _ [12, 1, 13, 14, 15, 16, 17, 18, 19, 20, 21, 22, 23, 24, 25, 26, 27, 28, 29, 30, 31, 32] (by decide +kernel) (by decide +kernel)
set_option maxRecDepth 20000 in
theorem gX5_run_X5_fail : GoodIn wsX5_run (wsV RX5 65 RX5 yX5_fail wsX5_fail) := goodIn_app (goodIn_of _ (by decide +kernel)) ggX5_run_X5_fail
theorem dX5_run_0 : decode cX5_run 0 = .ok (.aload_n 0, 1) := by decide +kernel
theorem dX5_run_1 : decode cX5_run 1 = .ok (.iconst 0, 1) := by decide +kernel
theorem dX5_run_2 : decode cX5_run 2 = .ok (.putfield 51, 3) := by decide +kernel
theorem dX5_run_5 : decode cX5_run 5 = .ok (.aload_n 0, 1) := by decide +kernel
theorem dX5_run_6 : decode cX5_run 6 = .ok (.getfield 61, 3) := by decide +kernel
theorem dX5_run_9 : decode cX5_run 9 = .ok (.ifCond .ne 9, 3) := by decide +kernel
theorem dX5_run_12 : decode cX5_run 12 = .ok (.aload_n 0, 1) := by decide +kernel
theorem dX5_run_13 : decode cX5_run 13 = .ok (.iconst 1, 1) := by decide +kernel
theorem dX5_run_14 : decode cX5_run 14 = .ok (.invokevirtual 65, 3) := by decide +kernel
theorem dX5_run_17 : decode cX5_run 17 = .ok (.ireturn, 1) := by decide +kernel
theorem dX5_run_18 : decode cX5_run 18 = .ok (.bipush 8, 2) := by decide +kernel
theorem dX5_run_20 : decode cX5_run 20 = .ok (.newarray .int, 2) := by decide +kernel
theorem dX5_run_22 : decode cX5_run 22 = .ok (.astore_n 1, 1) := by decide +kernel
theorem dX5_run_23 : decode cX5_run 23 = .ok (.bipush 60, 2) := by decide +kernel
theorem dX5_run_25 : decode cX5_run 25 = .ok (.newarray .int, 2) := by decide +kernel
theorem dX5_run_27 : decode cX5_run 27 = .ok (.astore_n 2, 1) := by decide +kernel
theorem dX5_run_28 : decode cX5_run 28 = .ok (.aload_n 0, 1) := by decide +kernel
theorem dX5_run_29 : decode cX5_run 29 = .ok (.iconst 0, 1) := by decide +kernel
theorem dX5_run_30 : decode cX5_run 30 = .ok (.putfield 140, 3) := by decide +kernel
theorem dX5_run_33 : decode cX5_run 33 = .ok (.iconst 0, 1) := by decide +kernel
theorem dX5_run_34 : decode cX5_run 34 = .ok (.istore_n 3, 1) := by decide +kernel
theorem dX5_run_35 : decode cX5_run 35 = .ok (.iload_n 3, 1) := by decide +kernel
theorem dX5_run_36 : decode cX5_run 36 = .ok (.aload_n 0, 1) := by decide +kernel
theorem dX5_run_37 : decode cX5_run 37 = .ok (.getfield 92, 3) := by decide +kernel
theorem dX5_run_40 : decode cX5_run 40 = .ok (.if_icmp .ge 227, 3) := by decide +kernel
theorem dX5_run_43 : decode cX5_run 43 = .ok (.aload_n 0, 1) := by decide +kernel
theorem dX5_run_44 : decode cX5_run 44 = .ok (.getfield 23, 3) := by decide +kernel
theorem dX5_run_47 : decode cX5_run 47 = .ok (.iconst 4, 1) := by decide +kernel
theorem dX5_run_48 : decode cX5_run 48 = .ok (.iload_n 3, 1) := by decide +kernel
theorem dX5_run_49 : decode cX5_run 49 = .ok (.imul, 1) := by decide +kernel
theorem dX5_run_50 : decode cX5_run 50 = .ok (.iconst 1, 1) := by decide +kernel
theorem dX5_run_51 : decode cX5_run 51 = .ok (.iadd, 1) := by decide +kernel
theorem dX5_run_52 : decode cX5_run 52 = .ok (.iaload, 1) := by decide +kernel
theorem dX5_run_53 : decode cX5_run 53 = .ok (.istore 4, 2) := by decide +kernel
theorem dX5_run_55 : decode cX5_run 55 = .ok (.aload_n 0, 1) := by decide +kernel
theorem dX5_run_56 : decode cX5_run 56 = .ok (.getfield 23, 3) := by decide +kernel
theorem dX5_run_59 : decode cX5_run 59 = .ok (.iconst 4, 1) := by decide +kernel
theorem dX5_run_60 : decode cX5_run 60 = .ok (.iload_n 3, 1) := by decide +kernel
theorem dX5_run_61 : decode cX5_run 61 = .ok (.imul, 1) := by decide +kernel
theorem dX5_run_62 : decode cX5_run 62 = .ok (.iconst 2, 1) := by decide +kernel
theorem dX5_run_63 : decode cX5_run 63 = .ok (.iadd, 1) := by decide +kernel
theorem dX5_run_64 : decode cX5_run 64 = .ok (.iaload, 1) := by decide +kernel
theorem dX5_run_65 : decode cX5_run 65 = .ok (.istore 5, 2) := by decide +kernel
theorem dX5_run_67 : decode cX5_run 67 = .ok (.aload_n 0, 1) := by decide +kernel
theorem dX5_run_68 : decode cX5_run 68 = .ok (.getfield 23, 3) := by decide +kernel
theorem dX5_run_71 : decode cX5_run 71 = .ok (.iconst 4, 1) := by decide +kernel
theorem dX5_run_72 : decode cX5_run 72 = .ok (.iload_n 3, 1) := by decide +kernel
theorem dX5_run_73 : decode cX5_run 73 = .ok (.imul, 1) := by decide +kernel
theorem dX5_run_74 : decode cX5_run 74 = .ok (.iconst 3, 1) := by decide +kernel
theorem dX5_run_75 : decode cX5_run 75 = .ok (.iadd, 1) := by decide +kernel
theorem dX5_run_76 : decode cX5_run 76 = .ok (.iaload, 1) := by decide +kernel
theorem dX5_run_77 : decode cX5_run 77 = .ok (.istore 6, 2) := by decide +kernel
theorem dX5_run_79 : decode cX5_run 79 = .ok (.aload_n 0, 1) := by decide +kernel
theorem dX5_run_80 : decode cX5_run 80 = .ok (.getfield 23, 3) := by decide +kernel
theorem dX5_run_83 : decode cX5_run 83 = .ok (.iconst 4, 1) := by decide +kernel
theorem dX5_run_84 : decode cX5_run 84 = .ok (.iload_n 3, 1) := by decide +kernel
theorem dX5_run_85 : decode cX5_run 85 = .ok (.imul, 1) := by decide +kernel
theorem dX5_run_86 : decode cX5_run 86 = .ok (.iaload, 1) := by decide +kernel
theorem dX5_run_87 : decode cX5_run 87 = .ok (.tableswitch 166 0 7 #[45, 54, 70, 86, 102, 118, 129, 155], 45) := by decide +kernel
theorem dX5_run_132 : decode cX5_run 132 = .ok (.aload_n 1, 1) := by decide +kernel
theorem dX5_run_133 : decode cX5_run 133 = .ok (.iload 4, 2) := by decide +kernel
theorem dX5_run_135 : decode cX5_run 135 = .ok (.iload 5, 2) := by decide +kernel
theorem dX5_run_137 : decode cX5_run 137 = .ok (.iastore, 1) := by decide +kernel
theorem dX5_run_138 : decode cX5_run 138 = .ok (.goto 123, 3) := by decide +kernel
theorem dX5_run_141 : decode cX5_run 141 = .ok (.aload_n 1, 1) := by decide +kernel
theorem dX5_run_142 : decode cX5_run 142 = .ok (.iload 4, 2) := by decide +kernel
theorem dX5_run_144 : decode cX5_run 144 = .ok (.aload_n 1, 1) := by decide +kernel
theorem dX5_run_145 : decode cX5_run 145 = .ok (.iload 5, 2) := by decide +kernel
theorem dX5_run_147 : decode cX5_run 147 = .ok (.iaload, 1) := by decide +kernel
theorem dX5_run_148 : decode cX5_run 148 = .ok (.aload_n 1, 1) := by decide +kernel
theorem dX5_run_149 : decode cX5_run 149 = .ok (.iload 6, 2) := by decide +kernel
theorem dX5_run_151 : decode cX5_run 151 = .ok (.iaload, 1) := by decide +kernel
theorem dX5_run_152 : decode cX5_run 152 = .ok (.iadd, 1) := by decide +kernel
theorem dX5_run_153 : decode cX5_run 153 = .ok (.iastore, 1) := by decide +kernel
theorem dX5_run_154 : decode cX5_run 154 = .ok (.goto 107, 3) := by decide +kernel
theorem dX5_run_157 : decode cX5_run 157 = .ok (.aload_n 1, 1) := by decide +kernel
theorem dX5_run_158 : decode cX5_run 158 = .ok (.iload 4, 2) := by decide +kernel
theorem dX5_run_160 : decode cX5_run 160 = .ok (.aload_n 1, 1) := by decide +kernel
theorem dX5_run_161 : decode cX5_run 161 = .ok (.iload 5, 2) := by decide +kernel
theorem dX5_run_163 : decode cX5_run 163 = .ok (.iaload, 1) := by decide +kernel
theorem dX5_run_164 : decode cX5_run 164 = .ok (.aload_n 1, 1) := by decide +kernel
theorem dX5_run_165 : decode cX5_run 165 = .ok (.iload 6, 2) := by decide +kernel
theorem dX5_run_167 : decode cX5_run 167 = .ok (.iaload, 1) := by decide +kernel
theorem dX5_run_168 : decode cX5_run 168 = .ok (.isub, 1) := by decide +kernel
theorem dX5_run_169 : decode cX5_run 169 = .ok (.iastore, 1) := by decide +kernel
theorem dX5_run_170 : decode cX5_run 170 = .ok (.goto 91, 3) := by decide +kernel
theorem dX5_run_173 : decode cX5_run 173 = .ok (.aload_n 1, 1) := by decide +kernel
theorem dX5_run_174 : decode cX5_run 174 = .ok (.iload 4, 2) := by decide +kernel
theorem dX5_run_176 : decode cX5_run 176 = .ok (.aload_n 1, 1) := by decide +kernel
theorem dX5_run_177 : decode cX5_run 177 = .ok (.iload 5, 2) := by decide +kernel
theorem dX5_run_179 : decode cX5_run 179 = .ok (.iaload, 1) := by decide +kernel
theorem dX5_run_180 : decode cX5_run 180 = .ok (.aload_n 1, 1) := by decide +kernel
theorem dX5_run_181 : decode cX5_run 181 = .ok (.iload 6, 2) := by decide +kernel
theorem dX5_run_183 : decode cX5_run 183 = .ok (.iaload, 1) := by decide +kernel
theorem dX5_run_184 : decode cX5_run 184 = .ok (.imul, 1) := by decide +kernel
theorem dX5_run_185 : decode cX5_run 185 = .ok (.iastore, 1) := by decide +kernel
theorem dX5_run_186 : decode cX5_run 186 = .ok (.goto 75, 3) := by decide +kernel
theorem dX5_run_189 : decode cX5_run 189 = .ok (.aload_n 1, 1) := by decide +kernel
theorem dX5_run_190 : decode cX5_run 190 = .ok (.iload 4, 2) := by decide +kernel
theorem dX5_run_192 : decode cX5_run 192 = .ok (.aload_n 1, 1) := by decide +kernel
theorem dX5_run_193 : decode cX5_run 193 = .ok (.iload 5, 2) := by decide +kernel
theorem dX5_run_195 : decode cX5_run 195 = .ok (.iaload, 1) := by decide +kernel
theorem dX5_run_196 : decode cX5_run 196 = .ok (.aload_n 1, 1) := by decide +kernel
theorem dX5_run_197 : decode cX5_run 197 = .ok (.iload 6, 2) := by decide +kernel
theorem dX5_run_199 : decode cX5_run 199 = .ok (.iaload, 1) := by decide +kernel
theorem dX5_run_200 : decode cX5_run 200 = .ok (.ixor, 1) := by decide +kernel
theorem dX5_run_201 : decode cX5_run 201 = .ok (.iastore, 1) := by decide +kernel
theorem dX5_run_202 : decode cX5_run 202 = .ok (.goto 59, 3) := by decide +kernel
theorem dX5_run_205 : decode cX5_run 205 = .ok (.aload_n 1, 1) := by decide +kernel
theorem dX5_run_206 : decode cX5_run 206 = .ok (.iload 4, 2) := by decide +kernel
theorem dX5_run_208 : decode cX5_run 208 = .ok (.aload_n 1, 1) := by decide +kernel
theorem dX5_run_209 : decode cX5_run 209 = .ok (.iload 5, 2) := by decide +kernel
theorem dX5_run_211 : decode cX5_run 211 = .ok (.iaload, 1) := by decide +kernel
theorem dX5_run_212 : decode cX5_run 212 = .ok (.iastore, 1) := by decide +kernel
theorem dX5_run_213 : decode cX5_run 213 = .ok (.goto 48, 3) := by decide +kernel
theorem dX5_run_216 : decode cX5_run 216 = .ok (.aload_n 0, 1) := by decide +kernel
theorem dX5_run_217 : decode cX5_run 217 = .ok (.getfield 48, 3) := by decide +kernel
theorem dX5_run_220 : decode cX5_run 220 = .ok (.aload_n 0, 1) := by decide +kernel
theorem dX5_run_221 : decode cX5_run 221 = .ok (.getfield 140, 3) := by decide +kernel
theorem dX5_run_224 : decode cX5_run 224 = .ok (.aload_n 1, 1) := by decide +kernel
theorem dX5_run_225 : decode cX5_run 225 = .ok (.iload 4, 2) := by decide +kernel
theorem dX5_run_227 : decode cX5_run 227 = .ok (.iaload, 1) := by decide +kernel
theorem dX5_run_228 : decode cX5_run 228 = .ok (.iastore, 1) := by decide +kernel
theorem dX5_run_229 : decode cX5_run 229 = .ok (.aload_n 0, 1) := by decide +kernel
theorem dX5_run_230 : decode cX5_run 230 = .ok (.dup, 1) := by decide +kernel
theorem dX5_run_231 : decode cX5_run 231 = .ok (.getfield 140, 3) := by decide +kernel
theorem dX5_run_234 : decode cX5_run 234 = .ok (.iconst 1, 1) := by decide +kernel
theorem dX5_run_235 : decode cX5_run 235 = .ok (.iadd, 1) := by decide +kernel
theorem dX5_run_236 : decode cX5_run 236 = .ok (.putfield 140, 3) := by decide +kernel
theorem dX5_run_239 : decode cX5_run 239 = .ok (.goto 22, 3) := by decide +kernel
theorem dX5_run_242 : decode cX5_run 242 = .ok (.aload_n 1, 1) := by decide +kernel
theorem dX5_run_243 : decode cX5_run 243 = .ok (.iload 4, 2) := by decide +kernel
theorem dX5_run_245 : decode cX5_run 245 = .ok (.aload_n 2, 1) := by decide +kernel
theorem dX5_run_246 : decode cX5_run 246 = .ok (.iload 5, 2) := by decide +kernel
theorem dX5_run_248 : decode cX5_run 248 = .ok (.iaload, 1) := by decide +kernel
theorem dX5_run_249 : decode cX5_run 249 = .ok (.iastore, 1) := by decide +kernel
theorem dX5_run_250 : decode cX5_run 250 = .ok (.goto 11, 3) := by decide +kernel
theorem dX5_run_253 : decode cX5_run 253 = .ok (.aload_n 2, 1) := by decide +kernel
theorem dX5_run_254 : decode cX5_run 254 = .ok (.iload 5, 2) := by decide +kernel
theorem dX5_run_256 : decode cX5_run 256 = .ok (.aload_n 1, 1) := by decide +kernel
theorem dX5_run_257 : decode cX5_run 257 = .ok (.iload 4, 2) := by decide +kernel
theorem dX5_run_259 : decode cX5_run 259 = .ok (.iaload, 1) := by decide +kernel
theorem dX5_run_260 : decode cX5_run 260 = .ok (.iastore, 1) := by decide +kernel
theorem dX5_run_261 : decode cX5_run 261 = .ok (.iinc 3 1, 3) := by decide +kernel
theorem dX5_run_264 : decode cX5_run 264 = .ok (.goto (-229), 3) := by decide +kernel
theorem dX5_run_267 : decode cX5_run 267 = .ok (.aload_n 0, 1) := by decide +kernel
theorem dX5_run_268 : decode cX5_run 268 = .ok (.getfield 140, 3) := by decide +kernel
theorem dX5_run_271 : decode cX5_run 271 = .ok (.ireturn, 1) := by decide +kernel
set_option maxRecDepth 20000 in
theorem ggX5_output_X5_fail : GoodIn wsX5_output wsX5_fail := goodIn_r _ [8, 1, 9, 10, 11, 12, 13, 14, 15, 16, 17, 18, 19, 20, 21, 22, 23, 24, 25, 26, 27, 28] (by decide +kernel) (by decide +kernel)
set_option maxRecDepth 20000 in
theorem gX5_output_X5_fail : GoodIn wsX5_output (wsV RX5 65 RX5 yX5_fail wsX5_fail) := goodIn_app (goodIn_of _ (by decide +kernel)) ggX5_output_X5_fail
theorem dX5_output_0 : decode cX5_output 0 = .ok (.aload_n 0, 1) := by decide +kernel
theorem dX5_output_1 : decode cX5_output 1 = .ok (.iconst 0, 1) := by decide +kernel
theorem dX5_output_2 : decode cX5_output 2 = .ok (.putfield 51, 3) := by decide +kernel
theorem dX5_output_5 : decode cX5_output 5 = .ok (.iload_n 1, 1) := by decide +kernel
theorem dX5_output_6 : decode cX5_output 6 = .ok (.ifCond .lt 20, 3) := by decide +kernel
theorem dX5_output_9 : decode cX5_output 9 = .ok (.iload_n 1, 1) := by decide +kernel
theorem dX5_output_10 : decode cX5_output 10 = .ok (.aload_n 0, 1) := by decide +kernel
theorem dX5_output_11 : decode cX5_output 11 = .ok (.getfield 140, 3) := by decide +kernel
theorem dX5_output_14 : decode cX5_output 14 = .ok (.if_icmp .ge 12, 3) := by decide +kernel
theorem dX5_output_17 : decode cX5_output 17 = .ok (.aload_n 0, 1) := by decide +kernel
theorem dX5_output_18 : decode cX5_output 18 = .ok (.getfield 48, 3) := by decide +kernel
theorem dX5_output_21 : decode cX5_output 21 = .ok (.iload_n 1, 1) := by decide +kernel
theorem dX5_output_22 : decode cX5_output 22 = .ok (.iaload, 1) := by decide +kernel
theorem dX5_output_23 : decode cX5_output 23 = .ok (.goto 8, 3) := by decide +kernel
theorem dX5_output_26 : decode cX5_output 26 = .ok (.aload_n 0, 1) := by decide +kernel
theorem dX5_output_27 : decode cX5_output 27 = .ok (.iconst 1, 1) := by decide +kernel
theorem dX5_output_28 : decode cX5_output 28 = .ok (.invokevirtual 65, 3) := by decide +kernel
theorem dX5_output_31 : decode cX5_output 31 = .ok (.ireturn, 1) := by decide +kernel
theorem dX5_digest_0 : decode cX5_digest 0 = .ok (.aload_n 0, 1) := by decide +kernel
theorem dX5_digest_1 : decode cX5_digest 1 = .ok (.iconst 0, 1) := by decide +kernel
theorem dX5_digest_2 : decode cX5_digest 2 = .ok (.putfield 51, 3) := by decide +kernel
theorem dX5_digest_5 : decode cX5_digest 5 = .ok (.ldc2_w 143, 3) := by decide +kernel
theorem dX5_digest_8 : decode cX5_digest 8 = .ok (.aload_n 0, 1) := by decide +kernel
theorem dX5_digest_9 : decode cX5_digest 9 = .ok (.getfield 19, 3) := by decide +kernel
theorem dX5_digest_12 : decode cX5_digest 12 = .ok (.i2l, 1) := by decide +kernel
theorem dX5_digest_13 : decode cX5_digest 13 = .ok (.ladd, 1) := by decide +kernel
theorem dX5_digest_14 : decode cX5_digest 14 = .ok (.ldc2_w 145, 3) := by decide +kernel
theorem dX5_digest_17 : decode cX5_digest 17 = .ok (.lmul, 1) := by decide +kernel
theorem dX5_digest_18 : decode cX5_digest 18 = .ok (.aload_n 0, 1) := by decide +kernel
theorem dX5_digest_19 : decode cX5_digest 19 = .ok (.getfield 54, 3) := by decide +kernel
theorem dX5_digest_22 : decode cX5_digest 22 = .ok (.i2l, 1) := by decide +kernel
theorem dX5_digest_23 : decode cX5_digest 23 = .ok (.ladd, 1) := by decide +kernel
theorem dX5_digest_24 : decode cX5_digest 24 = .ok (.lstore_n 1, 1) := by decide +kernel
theorem dX5_digest_25 : decode cX5_digest 25 = .ok (.iconst 0, 1) := by decide +kernel
theorem dX5_digest_26 : decode cX5_digest 26 = .ok (.istore_n 3, 1) := by decide +kernel
theorem dX5_digest_27 : decode cX5_digest 27 = .ok (.iload_n 3, 1) := by decide +kernel
theorem dX5_digest_28 : decode cX5_digest 28 = .ok (.aload_n 0, 1) := by decide +kernel
theorem dX5_digest_29 : decode cX5_digest 29 = .ok (.getfield 54, 3) := by decide +kernel
theorem dX5_digest_32 : decode cX5_digest 32 = .ok (.if_icmp .ge 23, 3) := by decide +kernel
theorem dX5_digest_35 : decode cX5_digest 35 = .ok (.lload_n 1, 1) := by decide +kernel
theorem dX5_digest_36 : decode cX5_digest 36 = .ok (.ldc2_w 145, 3) := by decide +kernel
theorem dX5_digest_39 : decode cX5_digest 39 = .ok (.lmul, 1) := by decide +kernel
theorem dX5_digest_40 : decode cX5_digest 40 = .ok (.aload_n 0, 1) := by decide +kernel
theorem dX5_digest_41 : decode cX5_digest 41 = .ok (.getfield 9, 3) := by decide +kernel
theorem dX5_digest_44 : decode cX5_digest 44 = .ok (.iload_n 3, 1) := by decide +kernel
theorem dX5_digest_45 : decode cX5_digest 45 = .ok (.iaload, 1) := by decide +kernel
theorem dX5_digest_46 : decode cX5_digest 46 = .ok (.i2l, 1) := by decide +kernel
theorem dX5_digest_47 : decode cX5_digest 47 = .ok (.ladd, 1) := by decide +kernel
theorem dX5_digest_48 : decode cX5_digest 48 = .ok (.lstore_n 1, 1) := by decide +kernel
theorem dX5_digest_49 : decode cX5_digest 49 = .ok (.iinc 3 1, 3) := by decide +kernel
theorem dX5_digest_52 : decode cX5_digest 52 = .ok (.goto (-25), 3) := by decide +kernel
theorem dX5_digest_55 : decode cX5_digest 55 = .ok (.aload_n 0, 1) := by decide +kernel
theorem dX5_digest_56 : decode cX5_digest 56 = .ok (.getfield 61, 3) := by decide +kernel
theorem dX5_digest_59 : decode cX5_digest 59 = .ok (.ifCond .eq 47, 3) := by decide +kernel
theorem dX5_digest_62 : decode cX5_digest 62 = .ok (.lload_n 1, 1) := by decide +kernel
theorem dX5_digest_63 : decode cX5_digest 63 = .ok (.ldc2_w 145, 3) := by decide +kernel
theorem dX5_digest_66 : decode cX5_digest 66 = .ok (.lmul, 1) := by decide +kernel
theorem dX5_digest_67 : decode cX5_digest 67 = .ok (.aload_n 0, 1) := by decide +kernel
theorem dX5_digest_68 : decode cX5_digest 68 = .ok (.getfield 92, 3) := by decide +kernel
theorem dX5_digest_71 : decode cX5_digest 71 = .ok (.i2l, 1) := by decide +kernel
theorem dX5_digest_72 : decode cX5_digest 72 = .ok (.ladd, 1) := by decide +kernel
theorem dX5_digest_73 : decode cX5_digest 73 = .ok (.lstore_n 1, 1) := by decide +kernel
theorem dX5_digest_74 : decode cX5_digest 74 = .ok (.iconst 0, 1) := by decide +kernel
theorem dX5_digest_75 : decode cX5_digest 75 = .ok (.istore_n 3, 1) := by decide +kernel
theorem dX5_digest_76 : decode cX5_digest 76 = .ok (.iload_n 3, 1) := by decide +kernel
theorem dX5_digest_77 : decode cX5_digest 77 = .ok (.iconst 4, 1) := by decide +kernel
theorem dX5_digest_78 : decode cX5_digest 78 = .ok (.aload_n 0, 1) := by decide +kernel
theorem dX5_digest_79 : decode cX5_digest 79 = .ok (.getfield 92, 3) := by decide +kernel
theorem dX5_digest_82 : decode cX5_digest 82 = .ok (.imul, 1) := by decide +kernel
theorem dX5_digest_83 : decode cX5_digest 83 = .ok (.if_icmp .ge 23, 3) := by decide +kernel
theorem dX5_digest_86 : decode cX5_digest 86 = .ok (.lload_n 1, 1) := by decide +kernel
theorem dX5_digest_87 : decode cX5_digest 87 = .ok (.ldc2_w 145, 3) := by decide +kernel
theorem dX5_digest_90 : decode cX5_digest 90 = .ok (.lmul, 1) := by decide +kernel
theorem dX5_digest_91 : decode cX5_digest 91 = .ok (.aload_n 0, 1) := by decide +kernel
theorem dX5_digest_92 : decode cX5_digest 92 = .ok (.getfield 23, 3) := by decide +kernel
theorem dX5_digest_95 : decode cX5_digest 95 = .ok (.iload_n 3, 1) := by decide +kernel
theorem dX5_digest_96 : decode cX5_digest 96 = .ok (.iaload, 1) := by decide +kernel
theorem dX5_digest_97 : decode cX5_digest 97 = .ok (.i2l, 1) := by decide +kernel
theorem dX5_digest_98 : decode cX5_digest 98 = .ok (.ladd, 1) := by decide +kernel
theorem dX5_digest_99 : decode cX5_digest 99 = .ok (.lstore_n 1, 1) := by decide +kernel
theorem dX5_digest_100 : decode cX5_digest 100 = .ok (.iinc 3 1, 3) := by decide +kernel
theorem dX5_digest_103 : decode cX5_digest 103 = .ok (.goto (-27), 3) := by decide +kernel
theorem dX5_digest_106 : decode cX5_digest 106 = .ok (.lload_n 1, 1) := by decide +kernel
theorem dX5_digest_107 : decode cX5_digest 107 = .ok (.ldc2_w 145, 3) := by decide +kernel
theorem dX5_digest_110 : decode cX5_digest 110 = .ok (.lmul, 1) := by decide +kernel
theorem dX5_digest_111 : decode cX5_digest 111 = .ok (.aload_n 0, 1) := by decide +kernel
theorem dX5_digest_112 : decode cX5_digest 112 = .ok (.getfield 140, 3) := by decide +kernel
theorem dX5_digest_115 : decode cX5_digest 115 = .ok (.i2l, 1) := by decide +kernel
theorem dX5_digest_116 : decode cX5_digest 116 = .ok (.ladd, 1) := by decide +kernel
theorem dX5_digest_117 : decode cX5_digest 117 = .ok (.lstore_n 1, 1) := by decide +kernel
theorem dX5_digest_118 : decode cX5_digest 118 = .ok (.iconst 0, 1) := by decide +kernel
theorem dX5_digest_119 : decode cX5_digest 119 = .ok (.istore_n 3, 1) := by decide +kernel
theorem dX5_digest_120 : decode cX5_digest 120 = .ok (.iload_n 3, 1) := by decide +kernel
theorem dX5_digest_121 : decode cX5_digest 121 = .ok (.aload_n 0, 1) := by decide +kernel
theorem dX5_digest_122 : decode cX5_digest 122 = .ok (.getfield 140, 3) := by decide +kernel
theorem dX5_digest_125 : decode cX5_digest 125 = .ok (.if_icmp .ge 23, 3) := by decide +kernel
theorem dX5_digest_128 : decode cX5_digest 128 = .ok (.lload_n 1, 1) := by decide +kernel
theorem dX5_digest_129 : decode cX5_digest 129 = .ok (.ldc2_w 145, 3) := by decide +kernel
theorem dX5_digest_132 : decode cX5_digest 132 = .ok (.lmul, 1) := by decide +kernel
theorem dX5_digest_133 : decode cX5_digest 133 = .ok (.aload_n 0, 1) := by decide +kernel
theorem dX5_digest_134 : decode cX5_digest 134 = .ok (.getfield 48, 3) := by decide +kernel
theorem dX5_digest_137 : decode cX5_digest 137 = .ok (.iload_n 3, 1) := by decide +kernel
theorem dX5_digest_138 : decode cX5_digest 138 = .ok (.iaload, 1) := by decide +kernel
theorem dX5_digest_139 : decode cX5_digest 139 = .ok (.i2l, 1) := by decide +kernel
theorem dX5_digest_140 : decode cX5_digest 140 = .ok (.ladd, 1) := by decide +kernel
theorem dX5_digest_141 : decode cX5_digest 141 = .ok (.lstore_n 1, 1) := by decide +kernel
theorem dX5_digest_142 : decode cX5_digest 142 = .ok (.iinc 3 1, 3) := by decide +kernel
theorem dX5_digest_145 : decode cX5_digest 145 = .ok (.goto (-25), 3) := by decide +kernel
theorem dX5_digest_148 : decode cX5_digest 148 = .ok (.lload_n 1, 1) := by decide +kernel
theorem dX5_digest_149 : decode cX5_digest 149 = .ok (.lreturn, 1) := by decide +kernel
theorem dJ9_max_7cf53_0 : decode cJ9_max_7cf53 0 = .ok (.iload_n 0, 1) := by decide +kernel
theorem dJ9_max_7cf53_1 : decode cJ9_max_7cf53 1 = .ok (.iload_n 1, 1) := by decide +kernel
theorem dJ9_max_7cf53_2 : decode cJ9_max_7cf53 2 = .ok (.if_icmp .lt 7, 3) := by decide +kernel
theorem dJ9_max_7cf53_5 : decode cJ9_max_7cf53 5 = .ok (.iload_n 0, 1) := by decide +kernel
theorem dJ9_max_7cf53_6 : decode cJ9_max_7cf53 6 = .ok (.goto 4, 3) := by decide +kernel
theorem dJ9_max_7cf53_9 : decode cJ9_max_7cf53 9 = .ok (.iload_n 1, 1) := by decide +kernel
theorem dJ9_max_7cf53_10 : decode cJ9_max_7cf53 10 = .ok (.ireturn, 1) := by decide +kernel
theorem dJ9_min_7cf53_0 : decode cJ9_min_7cf53 0 = .ok (.iload_n 0, 1) := by decide +kernel
theorem dJ9_min_7cf53_1 : decode cJ9_min_7cf53 1 = .ok (.iload_n 1, 1) := by decide +kernel
theorem dJ9_min_7cf53_2 : decode cJ9_min_7cf53 2 = .ok (.if_icmp .gt 7, 3) := by decide +kernel
theorem dJ9_min_7cf53_5 : decode cJ9_min_7cf53 5 = .ok (.iload_n 0, 1) := by decide +kernel
theorem dJ9_min_7cf53_6 : decode cJ9_min_7cf53 6 = .ok (.goto 4, 3) := by decide +kernel
theorem dJ9_min_7cf53_9 : decode cJ9_min_7cf53 9 = .ok (.iload_n 1, 1) := by decide +kernel
theorem dJ9_min_7cf53_10 : decode cJ9_min_7cf53 10 = .ok (.ireturn, 1) := by decide +kernel
