set_option maxRecDepth 20000 in
theorem ggX4_init_X1_init : GoodIn wsX4_init wsX1_init := goodIn_r _ [21, 22, 2, 3, 23, 24, 25, 26, 27, 28, 29, 30, 68, 69, 70, 71, 72, 73] (by decide +kernel) (by decide +kernel)
set_option maxRecDepth 20000 in
theorem gX4_init_X1_init : GoodIn wsX4_init (wsX1_init) := ggX4_init_X1_init
set_option maxRecDepth 20000 in
theorem ggX4_init_X0_init : GoodIn wsX4_init wsX0_init := goodIn_r _ [33, 34, 2, 3, 35, 36, 37, 38, 39, 40, 23, 41, 42, 43, 44, 45, 28, 46, 47, 48, 49, 50, 51, 52, 53, 54, 55, 56, 57, 58, 59, 80, 81, 82, 83, 84, 85, 86, 87, 88, 89, 90, 95, 96, 97] (by decide +kernel) (by decide +kernel)
set_option maxRecDepth 20000 in
theorem gX4_init_X0_init : GoodIn wsX4_init (wsX0_init) := ggX4_init_X0_init
set_option maxRecDepth 20000 in
theorem ggX4_init_X2_init : GoodIn wsX4_init wsX2_init := goodIn_r _ [62, 63, 2, 3, 23, 64, 65, 66, 67, 91, 92, 93, 94] (by decide +kernel) (by decide +kernel)
set_option maxRecDepth 20000 in
theorem gX4_init_X2_init : GoodIn wsX4_init (wsX2_init) := ggX4_init_X2_init
theorem dX4_init_0 : decode cX4_init 0 = .ok (.aload_n 0, 1) := by decide +kernel
theorem dX4_init_1 : decode cX4_init 1 = .ok (.invokespecial 3, 3) := by decide +kernel
theorem dX4_init_4 : decode cX4_init 4 = .ok (.aload_n 0, 1) := by decide +kernel
theorem dX4_init_5 : decode cX4_init 5 = .ok (.new 9, 3) := by decide +kernel
theorem dX4_init_8 : decode cX4_init 8 = .ok (.dup, 1) := by decide +kernel
theorem dX4_init_9 : decode cX4_init 9 = .ok (.invokespecial 11, 3) := by decide +kernel
theorem dX4_init_12 : decode cX4_init 12 = .ok (.putfield 12, 3) := by decide +kernel
theorem dX4_init_15 : decode cX4_init 15 = .ok (.aload_n 0, 1) := by decide +kernel
theorem dX4_init_16 : decode cX4_init 16 = .ok (.new 16, 3) := by decide +kernel
theorem dX4_init_19 : decode cX4_init 19 = .ok (.dup, 1) := by decide +kernel
theorem dX4_init_20 : decode cX4_init 20 = .ok (.aload_n 0, 1) := by decide +kernel
theorem dX4_init_21 : decode cX4_init 21 = .ok (.getfield 12, 3) := by decide +kernel
theorem dX4_init_24 : decode cX4_init 24 = .ok (.invokespecial 18, 3) := by decide +kernel
theorem dX4_init_27 : decode cX4_init 27 = .ok (.putfield 21, 3) := by decide +kernel
theorem dX4_init_30 : decode cX4_init 30 = .ok (.aload_n 0, 1) := by decide +kernel
theorem dX4_init_31 : decode cX4_init 31 = .ok (.new 16, 3) := by decide +kernel
theorem dX4_init_34 : decode cX4_init 34 = .ok (.dup, 1) := by decide +kernel
theorem dX4_init_35 : decode cX4_init 35 = .ok (.aload_n 0, 1) := by decide +kernel
theorem dX4_init_36 : decode cX4_init 36 = .ok (.getfield 12, 3) := by decide +kernel
theorem dX4_init_39 : decode cX4_init 39 = .ok (.invokespecial 18, 3) := by decide +kernel
theorem dX4_init_42 : decode cX4_init 42 = .ok (.putfield 25, 3) := by decide +kernel
theorem dX4_init_45 : decode cX4_init 45 = .ok (.aload_n 0, 1) := by decide +kernel
theorem dX4_init_46 : decode cX4_init 46 = .ok (.new 28, 3) := by decide +kernel
theorem dX4_init_49 : decode cX4_init 49 = .ok (.dup, 1) := by decide +kernel
theorem dX4_init_50 : decode cX4_init 50 = .ok (.invokespecial 30, 3) := by decide +kernel
theorem dX4_init_53 : decode cX4_init 53 = .ok (.putfield 31, 3) := by decide +kernel
theorem dX4_init_56 : decode cX4_init 56 = .ok (.aload_n 0, 1) := by decide +kernel
theorem dX4_init_57 : decode cX4_init 57 = .ok (.iconst 4, 1) := by decide +kernel
theorem dX4_init_58 : decode cX4_init 58 = .ok (.putfield 35, 3) := by decide +kernel
theorem dX4_init_61 : decode cX4_init 61 = .ok (.aload_n 0, 1) := by decide +kernel
theorem dX4_init_62 : decode cX4_init 62 = .ok (.iconst 0, 1) := by decide +kernel
theorem dX4_init_63 : decode cX4_init 63 = .ok (.putfield 39, 3) := by decide +kernel
theorem dX4_init_66 : decode cX4_init 66 = .ok (.return_, 1) := by decide +kernel
set_option maxRecDepth 20000 in
theorem ggX4_constant_X4_refuseFullCode : GoodIn wsX4_constant wsX4_refuseFullCode := goodIn_ca (goodIn_r _ [5, 6, 7, 8, 9, 10, 11, 12, 13, 14, 42, 43, 44, 45, 46, 47, 48, 49, 50, 51, 52, 53] (by decide +kernel) (by decide +kernel)) (goodIn_sub (fun _ h => List.mem_cons_of_mem _ (List.mem_append_right _ h)) (by decide +kernel))
set_option maxRecDepth 20000 in
theorem gX4_constant_X4_refuseFullCode : GoodIn wsX4_constant (wsV RX4 43 RX4 yX4_refuseFullCode wsX4_refuseFullCode) := goodIn_app (goodIn_of _ (by decide +kernel)) ggX4_constant_X4_refuseFullCode
set_option maxRecDepth 20000 in
theorem ggX4_constant_X4_append : GoodIn wsX4_constant wsX4_append := goodIn_r _ [18, 19, 8, 20, 21, 22, 12, 23, 14, 24, 25, 26, 27, 28, 10, 11, 13, 29, 30, 31, 32, 33, 34, 35, 36, 37, 38, 39, 40, 41, 42, 43, 44, 45, 46, 47, 48, 49, 50, 51, 52, 53] (by decide +kernel) (by decide +kernel)
set_option maxRecDepth 20000 in
theorem gX4_constant_X4_append : GoodIn wsX4_constant (wsV RX4 46 RX4 yX4_append wsX4_append) := goodIn_app (goodIn_of _ (by decide +kernel)) ggX4_constant_X4_append
theorem dX4_constant_0 : decode cX4_constant 0 = .ok (.aload_n 0, 1) := by decide +kernel
theorem dX4_constant_1 : decode cX4_constant 1 = .ok (.invokevirtual 43, 3) := by decide +kernel
theorem dX4_constant_4 : decode cX4_constant 4 = .ok (.aload_n 0, 1) := by decide +kernel
theorem dX4_constant_5 : decode cX4_constant 5 = .ok (.iconst 0, 1) := by decide +kernel
theorem dX4_constant_6 : decode cX4_constant 6 = .ok (.iconst (-1), 1) := by decide +kernel
theorem dX4_constant_7 : decode cX4_constant 7 = .ok (.iconst (-1), 1) := by decide +kernel
theorem dX4_constant_8 : decode cX4_constant 8 = .ok (.iload_n 1, 1) := by decide +kernel
theorem dX4_constant_9 : decode cX4_constant 9 = .ok (.invokevirtual 46, 3) := by decide +kernel
theorem dX4_constant_12 : decode cX4_constant 12 = .ok (.ireturn, 1) := by decide +kernel
set_option maxRecDepth 20000 in
theorem ggX4_operate_X4_refuseNoValue : GoodIn wsX4_operate wsX4_refuseNoValue := goodIn_ca (goodIn_r _ [5, 6, 7, 8, 9, 10, 11, 12, 13, 14, 15, 16, 17, 18, 19, 57, 58, 59, 60, 61, 62, 63, 64, 65, 66, 67, 68] (by decide +kernel) (by decide +kernel)) (goodIn_sub (fun _ h => List.mem_cons_of_mem _ (List.mem_append_left _ (List.mem_append_left _ (List.mem_append_right _ h)))) (by decide +kernel))
set_option maxRecDepth 20000 in
theorem gX4_operate_X4_refuseNoValue : GoodIn wsX4_operate (wsV RX4 50 RX4 yX4_refuseNoValue wsX4_refuseNoValue) := goodIn_app (goodIn_of _ (by decide +kernel)) ggX4_operate_X4_refuseNoValue
set_option maxRecDepth 20000 in
theorem ggX4_operate_X4_refuseKindOutside : GoodIn wsX4_operate wsX4_refuseKindOutside := goodIn_ca (goodIn_r _ [22, 23, 24] (by decide +kernel) (by decide +kernel)) (goodIn_sub (fun _ h => List.mem_cons_of_mem _ (List.mem_append_left _ (List.mem_append_right _ h))) (by decide +kernel))
set_option maxRecDepth 20000 in
theorem gX4_operate_X4_refuseKindOutside : GoodIn wsX4_operate (va_wsS RX4 54 yX4_refuseKindOutside wsX4_refuseKindOutside) := goodIn_app (goodIn_of _ (by decide +kernel)) ggX4_operate_X4_refuseKindOutside
set_option maxRecDepth 20000 in
theorem ggX4_operate_X4_refuseFullCode : GoodIn wsX4_operate wsX4_refuseFullCode := goodIn_ca (goodIn_r _ [28, 29, 30, 8, 31, 32, 33, 12, 34, 19, 57, 58, 59, 60, 61, 62, 63, 64, 65, 66, 67, 68] (by decide +kernel) (by decide +kernel)) (goodIn_sub (fun _ h => List.mem_cons_of_mem _ (List.mem_append_right _ h)) (by decide +kernel))
set_option maxRecDepth 20000 in
theorem gX4_operate_X4_refuseFullCode : GoodIn wsX4_operate (wsV RX4 43 RX4 yX4_refuseFullCode wsX4_refuseFullCode) := goodIn_app (goodIn_of _ (by decide +kernel)) ggX4_operate_X4_refuseFullCode
set_option maxRecDepth 20000 in
theorem ggX4_operate_X4_append : GoodIn wsX4_operate wsX4_append := goodIn_r _ [38, 39, 8, 40, 41, 42, 12, 43, 19, 14, 44, 45, 46, 47, 32, 33, 34, 48, 49, 50, 51, 52, 53, 54, 55, 56, 15, 16, 17, 18, 57, 58, 59, 60, 61, 62, 63, 64, 65, 66, 67, 68] (by decide +kernel) (by decide +kernel)
set_option maxRecDepth 20000 in
theorem gX4_operate_X4_append : GoodIn wsX4_operate (wsV RX4 46 RX4 yX4_append wsX4_append) := goodIn_app (goodIn_of _ (by decide +kernel)) ggX4_operate_X4_append
theorem dX4_operate_0 : decode cX4_operate 0 = .ok (.aload_n 0, 1) := by decide +kernel
theorem dX4_operate_1 : decode cX4_operate 1 = .ok (.iload_n 2, 1) := by decide +kernel
theorem dX4_operate_2 : decode cX4_operate 2 = .ok (.invokevirtual 50, 3) := by decide +kernel
theorem dX4_operate_5 : decode cX4_operate 5 = .ok (.aload_n 0, 1) := by decide +kernel
theorem dX4_operate_6 : decode cX4_operate 6 = .ok (.iload_n 3, 1) := by decide +kernel
theorem dX4_operate_7 : decode cX4_operate 7 = .ok (.invokevirtual 50, 3) := by decide +kernel
theorem dX4_operate_10 : decode cX4_operate 10 = .ok (.iload_n 1, 1) := by decide +kernel
theorem dX4_operate_11 : decode cX4_operate 11 = .ok (.iconst 1, 1) := by decide +kernel
theorem dX4_operate_12 : decode cX4_operate 12 = .ok (.iconst 4, 1) := by decide +kernel
theorem dX4_operate_13 : decode cX4_operate 13 = .ok (.invokestatic 54, 3) := by decide +kernel
theorem dX4_operate_16 : decode cX4_operate 16 = .ok (.aload_n 0, 1) := by decide +kernel
theorem dX4_operate_17 : decode cX4_operate 17 = .ok (.invokevirtual 43, 3) := by decide +kernel
theorem dX4_operate_20 : decode cX4_operate 20 = .ok (.aload_n 0, 1) := by decide +kernel
theorem dX4_operate_21 : decode cX4_operate 21 = .ok (.iload_n 1, 1) := by decide +kernel
theorem dX4_operate_22 : decode cX4_operate 22 = .ok (.iload_n 2, 1) := by decide +kernel
theorem dX4_operate_23 : decode cX4_operate 23 = .ok (.iload_n 3, 1) := by decide +kernel
theorem dX4_operate_24 : decode cX4_operate 24 = .ok (.iconst 0, 1) := by decide +kernel
theorem dX4_operate_25 : decode cX4_operate 25 = .ok (.invokevirtual 46, 3) := by decide +kernel
theorem dX4_operate_28 : decode cX4_operate 28 = .ok (.ireturn, 1) := by decide +kernel
set_option maxRecDepth 20000 in
theorem ggX4_pass_X4_refuseNoValue : GoodIn wsX4_pass wsX4_refuseNoValue := goodIn_ca (goodIn_r _ [5, 6, 7, 8, 9, 10, 11, 12, 13, 14, 15, 16, 17, 18, 19, 57, 58, 59, 60, 61, 62, 63, 64, 65, 66, 67, 68] (by decide +kernel) (by decide +kernel)) (goodIn_sub (fun _ h => List.mem_cons_of_mem _ (List.mem_append_left _ (List.mem_append_left _ (List.mem_append_right _ h)))) (by decide +kernel))
set_option maxRecDepth 20000 in
theorem gX4_pass_X4_refuseNoValue : GoodIn wsX4_pass (wsV RX4 50 RX4 yX4_refuseNoValue wsX4_refuseNoValue) := goodIn_app (goodIn_of _ (by decide +kernel)) ggX4_pass_X4_refuseNoValue
set_option maxRecDepth 20000 in
theorem ggX4_pass_X4_refuseKindOutside : GoodIn wsX4_pass wsX4_refuseKindOutside := goodIn_ca (goodIn_r _ [22, 23, 24] (by decide +kernel) (by decide +kernel)) (goodIn_sub (fun _ h => List.mem_cons_of_mem _ (List.mem_append_left _ (List.mem_append_right _ h))) (by decide +kernel))
set_option maxRecDepth 20000 in
theorem gX4_pass_X4_refuseKindOutside : GoodIn wsX4_pass (va_wsS RX4 54 yX4_refuseKindOutside wsX4_refuseKindOutside) := goodIn_app (goodIn_of _ (by decide +kernel)) ggX4_pass_X4_refuseKindOutside
set_option maxRecDepth 20000 in
theorem ggX4_pass_X4_refuseFullCode : GoodIn wsX4_pass wsX4_refuseFullCode := goodIn_ca (goodIn_r _ [28, 29, 30, 8, 31, 32, 33, 12, 34, 19, 57, 58, 59, 60, 61, 62, 63, 64, 65, 66, 67, 68] (by decide +kernel) (by decide +kernel)) (goodIn_sub (fun _ h => List.mem_cons_of_mem _ (List.mem_append_right _ h)) (by decide +kernel))
set_option maxRecDepth 20000 in
theorem gX4_pass_X4_refuseFullCode : GoodIn wsX4_pass (wsV RX4 43 RX4 yX4_refuseFullCode wsX4_refuseFullCode) := goodIn_app (goodIn_of _ (by decide +kernel)) ggX4_pass_X4_refuseFullCode
set_option maxRecDepth 20000 in
theorem ggX4_pass_X4_append : GoodIn wsX4_pass wsX4_append := goodIn_r _ [38, 39, 8, 40, 41, 42, 12, 43, 19, 14, 44, 45, 46, 47, 32, 33, 34, 48, 49, 50, 51, 52, 53, 54, 55, 56, 15, 16, 17, 18, 57, 58, 59, 60, 61, 62, 63, 64, 65, 66, 67, 68] (by decide +kernel) (by decide +kernel)
set_option maxRecDepth 20000 in
theorem gX4_pass_X4_append : GoodIn wsX4_pass (wsV RX4 46 RX4 yX4_append wsX4_append) := goodIn_app (goodIn_of _ (by decide +kernel)) ggX4_pass_X4_append
theorem dX4_pass_0 : decode cX4_pass 0 = .ok (.aload_n 0, 1) := by decide +kernel
theorem dX4_pass_1 : decode cX4_pass 1 = .ok (.iload_n 2, 1) := by decide +kernel
theorem dX4_pass_2 : decode cX4_pass 2 = .ok (.invokevirtual 50, 3) := by decide +kernel
theorem dX4_pass_5 : decode cX4_pass 5 = .ok (.iload_n 1, 1) := by decide +kernel
theorem dX4_pass_6 : decode cX4_pass 6 = .ok (.iconst 5, 1) := by decide +kernel
theorem dX4_pass_7 : decode cX4_pass 7 = .ok (.bipush 6, 2) := by decide +kernel
theorem dX4_pass_9 : decode cX4_pass 9 = .ok (.invokestatic 54, 3) := by decide +kernel
theorem dX4_pass_12 : decode cX4_pass 12 = .ok (.aload_n 0, 1) := by decide +kernel
theorem dX4_pass_13 : decode cX4_pass 13 = .ok (.invokevirtual 43, 3) := by decide +kernel
theorem dX4_pass_16 : decode cX4_pass 16 = .ok (.aload_n 0, 1) := by decide +kernel
theorem dX4_pass_17 : decode cX4_pass 17 = .ok (.iload_n 1, 1) := by decide +kernel
theorem dX4_pass_18 : decode cX4_pass 18 = .ok (.iload_n 2, 1) := by decide +kernel
theorem dX4_pass_19 : decode cX4_pass 19 = .ok (.iconst (-1), 1) := by decide +kernel
theorem dX4_pass_20 : decode cX4_pass 20 = .ok (.iconst 0, 1) := by decide +kernel
theorem dX4_pass_21 : decode cX4_pass 21 = .ok (.invokevirtual 46, 3) := by decide +kernel
theorem dX4_pass_24 : decode cX4_pass 24 = .ok (.ireturn, 1) := by decide +kernel
set_option maxRecDepth 20000 in
theorem ggX4_size_X1_length : GoodIn wsX4_size wsX1_length := goodIn_r _ [6, 7, 14, 15, 16, 17, 18, 19] (by decide +kernel) (by decide +kernel)
set_option maxRecDepth 20000 in
theorem gX4_size_X1_length : GoodIn wsX4_size (wsV RX4 76 RX1 yX1_length wsX1_length) := goodIn_app (goodIn_of _ (by decide +kernel)) ggX4_size_X1_length
theorem dX4_size_0 : decode cX4_size 0 = .ok (.aload_n 0, 1) := by decide +kernel
theorem dX4_size_1 : decode cX4_size 1 = .ok (.getfield 12, 3) := by decide +kernel
theorem dX4_size_4 : decode cX4_size 4 = .ok (.invokevirtual 76, 3) := by decide +kernel
theorem dX4_size_7 : decode cX4_size 7 = .ok (.ireturn, 1) := by decide +kernel
set_option maxRecDepth 20000 in
theorem ggX4_kind_X4_refuseNoInstruction : GoodIn wsX4_kind wsX4_refuseNoInstruction := goodIn_ca (goodIn_r _ [6, 7, 8, 1, 9, 10, 11, 12, 13, 14, 21, 22, 23, 24, 25, 26, 27, 28, 29, 30, 31, 32] (by decide +kernel) (by decide +kernel)) (goodIn_sub (fun _ h => List.mem_cons_of_mem _ (List.mem_append_right _ h)) (by decide +kernel))
set_option maxRecDepth 20000 in
theorem gX4_kind_X4_refuseNoInstruction : GoodIn wsX4_kind (wsV RX4 58 RX4 yX4_refuseNoInstruction wsX4_refuseNoInstruction) := goodIn_app (goodIn_of _ (by decide +kernel)) ggX4_kind_X4_refuseNoInstruction
set_option maxRecDepth 20000 in
theorem ggX4_kind_X1_kindOf : GoodIn wsX4_kind wsX1_kindOf := goodIn_r _ [18, 19, 20, 10, 11, 12, 13, 14, 27, 28, 29, 30, 31, 32] (by decide +kernel) (by decide +kernel)
set_option maxRecDepth 20000 in
theorem gX4_kind_X1_kindOf : GoodIn wsX4_kind (wsV RX4 85 RX1 yX1_kindOf wsX1_kindOf) := goodIn_app (goodIn_of _ (by decide +kernel)) ggX4_kind_X1_kindOf
theorem dX4_kind_0 : decode cX4_kind 0 = .ok (.aload_n 0, 1) := by decide +kernel
theorem dX4_kind_1 : decode cX4_kind 1 = .ok (.iload_n 1, 1) := by decide +kernel
theorem dX4_kind_2 : decode cX4_kind 2 = .ok (.invokevirtual 58, 3) := by decide +kernel
theorem dX4_kind_5 : decode cX4_kind 5 = .ok (.aload_n 0, 1) := by decide +kernel
theorem dX4_kind_6 : decode cX4_kind 6 = .ok (.getfield 12, 3) := by decide +kernel
theorem dX4_kind_9 : decode cX4_kind 9 = .ok (.iload_n 1, 1) := by decide +kernel
theorem dX4_kind_10 : decode cX4_kind 10 = .ok (.invokevirtual 85, 3) := by decide +kernel
theorem dX4_kind_13 : decode cX4_kind 13 = .ok (.ireturn, 1) := by decide +kernel
theorem dX4_setRegisters_0 : decode cX4_setRegisters 0 = .ok (.iload_n 1, 1) := by decide +kernel
theorem dX4_setRegisters_1 : decode cX4_setRegisters 1 = .ok (.iconst 2, 1) := by decide +kernel
theorem dX4_setRegisters_2 : decode cX4_setRegisters 2 = .ok (.if_icmp .lt 9, 3) := by decide +kernel
theorem dX4_setRegisters_5 : decode cX4_setRegisters 5 = .ok (.iload_n 1, 1) := by decide +kernel
theorem dX4_setRegisters_6 : decode cX4_setRegisters 6 = .ok (.bipush 8, 2) := by decide +kernel
theorem dX4_setRegisters_8 : decode cX4_setRegisters 8 = .ok (.if_icmp .le 13, 3) := by decide +kernel
theorem dX4_setRegisters_11 : decode cX4_setRegisters 11 = .ok (.new 65, 3) := by decide +kernel
theorem dX4_setRegisters_14 : decode cX4_setRegisters 14 = .ok (.dup, 1) := by decide +kernel
theorem dX4_setRegisters_15 : decode cX4_setRegisters 15 = .ok (.ldc 98, 2) := by decide +kernel
theorem dX4_setRegisters_17 : decode cX4_setRegisters 17 = .ok (.invokespecial 69, 3) := by decide +kernel
theorem dX4_setRegisters_20 : decode cX4_setRegisters 20 = .ok (.athrow, 1) := by decide +kernel
theorem dX4_setRegisters_21 : decode cX4_setRegisters 21 = .ok (.aload_n 0, 1) := by decide +kernel
theorem dX4_setRegisters_22 : decode cX4_setRegisters 22 = .ok (.getfield 35, 3) := by decide +kernel
theorem dX4_setRegisters_25 : decode cX4_setRegisters 25 = .ok (.istore_n 2, 1) := by decide +kernel
theorem dX4_setRegisters_26 : decode cX4_setRegisters 26 = .ok (.aload_n 0, 1) := by decide +kernel
theorem dX4_setRegisters_27 : decode cX4_setRegisters 27 = .ok (.iload_n 1, 1) := by decide +kernel
theorem dX4_setRegisters_28 : decode cX4_setRegisters 28 = .ok (.putfield 35, 3) := by decide +kernel
theorem dX4_setRegisters_31 : decode cX4_setRegisters 31 = .ok (.aload_n 0, 1) := by decide +kernel
theorem dX4_setRegisters_32 : decode cX4_setRegisters 32 = .ok (.iconst 0, 1) := by decide +kernel
theorem dX4_setRegisters_33 : decode cX4_setRegisters 33 = .ok (.putfield 39, 3) := by decide +kernel
theorem dX4_setRegisters_36 : decode cX4_setRegisters 36 = .ok (.iload_n 2, 1) := by decide +kernel
theorem dX4_setRegisters_37 : decode cX4_setRegisters 37 = .ok (.ireturn, 1) := by decide +kernel
set_option maxRecDepth 20000 in
theorem ggX4_allocate_X0_make : GoodIn wsX4_allocate wsX0_make := goodIn_r _ [8, 9, 10, 11, 12, 7, 13, 14, 15, 16, 17, 18, 19, 20, 21, 22, 23, 24, 25, 26, 27, 28, 29, 30, 31, 32, 33, 34, 35, 36, 37, 38, 39, 40, 41, 42, 43, 44, 45, 46, 47, 48, 49, 50, 51, 52, 53, 54, 55, 56, 57, 58, 59, 60, 61, 62, 63, 64, 65, 66, 67, 68, 69, 70, 71, 72, 73, 74, 75, 76, 77, 78, 79, 80, 81, 82, 83, 84, 85, 86, 87, 88, 89, 90, 91, 92, 93, 94, 95, 96, 97, 98, 99, 100, 101, 102, 103, 104, 105, 106, 107, 108, 109, 110, 111, 112, 113, 114, 115, 116, 117, 118, 119, 120, 121, 122, 123, 124, 125, 126, 127, 128, 129, 130, 131, 132, 133, 134, 135, 136, 137, 138, 139, 140, 141, 142, 143, 144, 145, 146, 147, 148, 149, 150, 151, 152, 153, 154, 155, 156, 157, 158, 159, 160, 161, 162, 163, 164, 165, 166, 167, 168, 169, 170, 171, 172, 173, 174, 175, 176, 177, 192, 193, 194, 195, 196, 197, 198, 199, 200, 201, 202, 203, 204, 205, 206, 207, 208, 209, 210, 211] (by decide +kernel) (by decide +kernel)
set_option maxRecDepth 20000 in
theorem gX4_allocate_X0_make : GoodIn wsX4_allocate (wsV RX4 100 RX0 yX0_make wsX0_make) := goodIn_app (goodIn_of _ (by decide +kernel)) ggX4_allocate_X0_make
set_option maxRecDepth 20000 in
theorem ggX4_allocate_X0_steps : GoodIn wsX4_allocate wsX0_steps := goodIn_r _ [181, 14, 192, 193, 194, 195, 196, 197, 198, 199, 200, 201, 202] (by decide +kernel) (by decide +kernel)
set_option maxRecDepth 20000 in
theorem gX4_allocate_X0_steps : GoodIn wsX4_allocate (wsV RX4 103 RX0 yX0_steps wsX0_steps) := goodIn_app (goodIn_of _ (by decide +kernel)) ggX4_allocate_X0_steps
set_option maxRecDepth 20000 in
theorem ggX4_allocate_X3_length : GoodIn wsX4_allocate wsX3_length := goodIn_r _ [185, 36, 203, 204, 205] (by decide +kernel) (by decide +kernel)
set_option maxRecDepth 20000 in
theorem gX4_allocate_X3_length : GoodIn wsX4_allocate (wsV RX4 107 RX3 yX3_length wsX3_length) := goodIn_app (goodIn_of _ (by decide +kernel)) ggX4_allocate_X3_length
theorem dX4_allocate_0 : decode cX4_allocate 0 = .ok (.aload_n 0, 1) := by decide +kernel
theorem dX4_allocate_1 : decode cX4_allocate 1 = .ok (.getfield 21, 3) := by decide +kernel
theorem dX4_allocate_4 : decode cX4_allocate 4 = .ok (.aload_n 0, 1) := by decide +kernel
theorem dX4_allocate_5 : decode cX4_allocate 5 = .ok (.getfield 35, 3) := by decide +kernel
theorem dX4_allocate_8 : decode cX4_allocate 8 = .ok (.invokevirtual 100, 3) := by decide +kernel
theorem dX4_allocate_11 : decode cX4_allocate 11 = .ok (.aload_n 0, 1) := by decide +kernel
theorem dX4_allocate_12 : decode cX4_allocate 12 = .ok (.iconst 1, 1) := by decide +kernel
theorem dX4_allocate_13 : decode cX4_allocate 13 = .ok (.putfield 39, 3) := by decide +kernel
theorem dX4_allocate_16 : decode cX4_allocate 16 = .ok (.aload_n 0, 1) := by decide +kernel
theorem dX4_allocate_17 : decode cX4_allocate 17 = .ok (.getfield 21, 3) := by decide +kernel
theorem dX4_allocate_20 : decode cX4_allocate 20 = .ok (.invokevirtual 103, 3) := by decide +kernel
theorem dX4_allocate_23 : decode cX4_allocate 23 = .ok (.invokevirtual 107, 3) := by decide +kernel
theorem dX4_allocate_26 : decode cX4_allocate 26 = .ok (.ireturn, 1) := by decide +kernel
set_option maxRecDepth 20000 in
theorem ggX4_step_X4_refuseNoAllocation : GoodIn wsX4_step wsX4_refuseNoAllocation := goodIn_ca (goodIn_r _ [6, 7, 8, 9, 33, 34, 35, 36, 37, 38] (by decide +kernel) (by decide +kernel)) (goodIn_sub (fun _ h => List.mem_cons_of_mem _ (List.mem_append_left _ (List.mem_append_right _ h))) (by decide +kernel))
set_option maxRecDepth 20000 in
theorem gX4_step_X4_refuseNoAllocation : GoodIn wsX4_step (wsV RX4 110 RX4 yX4_refuseNoAllocation wsX4_refuseNoAllocation) := goodIn_app (goodIn_of _ (by decide +kernel)) ggX4_step_X4_refuseNoAllocation
set_option maxRecDepth 20000 in
theorem ggX4_step_X0_steps : GoodIn wsX4_step wsX0_steps := goodIn_r _ [14, 15, 39, 40, 41, 42, 43, 44, 45, 46, 47, 48, 49] (by decide +kernel) (by decide +kernel)
set_option maxRecDepth 20000 in
theorem gX4_step_X0_steps : GoodIn wsX4_step (wsV RX4 103 RX0 yX0_steps wsX0_steps) := goodIn_app (goodIn_of _ (by decide +kernel)) ggX4_step_X0_steps
set_option maxRecDepth 20000 in
theorem ggX4_step_X4_numberIn : GoodIn wsX4_step wsX4_numberIn := goodIn_ca (goodIn_r _ [18, 19, 20, 21, 22, 23, 24, 25, 26, 27, 28, 29, 30, 31, 32, 50, 51, 52] (by decide +kernel) (by decide +kernel)) (goodIn_sub (fun _ h => List.mem_cons_of_mem _ (List.mem_append_right _ h)) (by decide +kernel))
set_option maxRecDepth 20000 in
theorem gX4_step_X4_numberIn : GoodIn wsX4_step (va_wsS RX4 113 yX4_numberIn wsX4_numberIn) := goodIn_app (goodIn_of _ (by decide +kernel)) ggX4_step_X4_numberIn
theorem dX4_step_0 : decode cX4_step 0 = .ok (.aload_n 0, 1) := by decide +kernel
theorem dX4_step_1 : decode cX4_step 1 = .ok (.invokevirtual 110, 3) := by decide +kernel
theorem dX4_step_4 : decode cX4_step 4 = .ok (.aload_n 0, 1) := by decide +kernel
theorem dX4_step_5 : decode cX4_step 5 = .ok (.getfield 21, 3) := by decide +kernel
theorem dX4_step_8 : decode cX4_step 8 = .ok (.invokevirtual 103, 3) := by decide +kernel
theorem dX4_step_11 : decode cX4_step 11 = .ok (.iload_n 1, 1) := by decide +kernel
theorem dX4_step_12 : decode cX4_step 12 = .ok (.iload_n 2, 1) := by decide +kernel
theorem dX4_step_13 : decode cX4_step 13 = .ok (.invokestatic 113, 3) := by decide +kernel
theorem dX4_step_16 : decode cX4_step 16 = .ok (.ireturn, 1) := by decide +kernel
set_option maxRecDepth 20000 in
theorem ggX4_stepCount_X4_refuseNoAllocation : GoodIn wsX4_stepCount wsX4_refuseNoAllocation := goodIn_ca (goodIn_r _ [8, 9, 10, 11, 33, 34, 35, 36, 37, 38] (by decide +kernel) (by decide +kernel)) (goodIn_sub (fun _ h => List.mem_cons_of_mem _ (List.mem_append_right _ h)) (by decide +kernel))
set_option maxRecDepth 20000 in
theorem gX4_stepCount_X4_refuseNoAllocation : GoodIn wsX4_stepCount (wsV RX4 110 RX4 yX4_refuseNoAllocation wsX4_refuseNoAllocation) := goodIn_app (goodIn_of _ (by decide +kernel)) ggX4_stepCount_X4_refuseNoAllocation
set_option maxRecDepth 20000 in
theorem ggX4_stepCount_X0_steps : GoodIn wsX4_stepCount wsX0_steps := goodIn_r _ [16, 17, 39, 40, 41, 42, 43, 44, 45, 46, 47, 48, 49] (by decide +kernel) (by decide +kernel)
set_option maxRecDepth 20000 in
theorem gX4_stepCount_X0_steps : GoodIn wsX4_stepCount (wsV RX4 103 RX0 yX0_steps wsX0_steps) := goodIn_app (goodIn_of _ (by decide +kernel)) ggX4_stepCount_X0_steps
set_option maxRecDepth 20000 in
theorem ggX4_stepCount_X3_countOfFirst : GoodIn wsX4_stepCount wsX3_countOfFirst := goodIn_r _ [22, 23, 24, 25, 26, 21, 27, 28, 29, 30, 31, 32, 50, 51, 52] (by decide +kernel) (by decide +kernel)
set_option maxRecDepth 20000 in
theorem gX4_stepCount_X3_countOfFirst : GoodIn wsX4_stepCount (wsV RX4 122 RX3 yX3_countOfFirst wsX3_countOfFirst) := goodIn_app (goodIn_of _ (by decide +kernel)) ggX4_stepCount_X3_countOfFirst
theorem dX4_stepCount_0 : decode cX4_stepCount 0 = .ok (.aload_n 0, 1) := by decide +kernel
theorem dX4_stepCount_1 : decode cX4_stepCount 1 = .ok (.invokevirtual 110, 3) := by decide +kernel
theorem dX4_stepCount_4 : decode cX4_stepCount 4 = .ok (.iload_n 1, 1) := by decide +kernel
theorem dX4_stepCount_5 : decode cX4_stepCount 5 = .ok (.ifCond .lt 9, 3) := by decide +kernel
theorem dX4_stepCount_8 : decode cX4_stepCount 8 = .ok (.iload_n 1, 1) := by decide +kernel
theorem dX4_stepCount_9 : decode cX4_stepCount 9 = .ok (.bipush 8, 2) := by decide +kernel
theorem dX4_stepCount_11 : decode cX4_stepCount 11 = .ok (.if_icmp .le 13, 3) := by decide +kernel
theorem dX4_stepCount_14 : decode cX4_stepCount 14 = .ok (.new 117, 3) := by decide +kernel
theorem dX4_stepCount_17 : decode cX4_stepCount 17 = .ok (.dup, 1) := by decide +kernel
theorem dX4_stepCount_18 : decode cX4_stepCount 18 = .ok (.ldc 119, 2) := by decide +kernel
theorem dX4_stepCount_20 : decode cX4_stepCount 20 = .ok (.invokespecial 121, 3) := by decide +kernel
theorem dX4_stepCount_23 : decode cX4_stepCount 23 = .ok (.athrow, 1) := by decide +kernel
theorem dX4_stepCount_24 : decode cX4_stepCount 24 = .ok (.aload_n 0, 1) := by decide +kernel
theorem dX4_stepCount_25 : decode cX4_stepCount 25 = .ok (.getfield 21, 3) := by decide +kernel
theorem dX4_stepCount_28 : decode cX4_stepCount 28 = .ok (.invokevirtual 103, 3) := by decide +kernel
theorem dX4_stepCount_31 : decode cX4_stepCount 31 = .ok (.iload_n 1, 1) := by decide +kernel
theorem dX4_stepCount_32 : decode cX4_stepCount 32 = .ok (.invokevirtual 122, 3) := by decide +kernel
theorem dX4_stepCount_35 : decode cX4_stepCount 35 = .ok (.ireturn, 1) := by decide +kernel
set_option maxRecDepth 20000 in
theorem ggX4_slots_X4_refuseNoAllocation : GoodIn wsX4_slots wsX4_refuseNoAllocation := goodIn_ca (goodIn_r _ [6, 7, 8, 9, 16, 17, 18, 19, 20, 21] (by decide +kernel) (by decide +kernel)) (goodIn_sub (fun _ h => List.mem_cons_of_mem _ (List.mem_append_right _ h)) (by decide +kernel))
set_option maxRecDepth 20000 in
theorem gX4_slots_X4_refuseNoAllocation : GoodIn wsX4_slots (wsV RX4 110 RX4 yX4_refuseNoAllocation wsX4_refuseNoAllocation) := goodIn_app (goodIn_of _ (by decide +kernel)) ggX4_slots_X4_refuseNoAllocation
set_option maxRecDepth 20000 in
theorem ggX4_slots_X0_slotCount : GoodIn wsX4_slots wsX0_slotCount := goodIn_r _ [14, 15, 22, 23, 24, 25, 26, 27, 28, 29, 30, 31, 32] (by decide +kernel) (by decide +kernel)
set_option maxRecDepth 20000 in
theorem gX4_slots_X0_slotCount : GoodIn wsX4_slots (wsV RX4 125 RX0 yX0_slotCount wsX0_slotCount) := goodIn_app (goodIn_of _ (by decide +kernel)) ggX4_slots_X0_slotCount
theorem dX4_slots_0 : decode cX4_slots 0 = .ok (.aload_n 0, 1) := by decide +kernel
theorem dX4_slots_1 : decode cX4_slots 1 = .ok (.invokevirtual 110, 3) := by decide +kernel
theorem dX4_slots_4 : decode cX4_slots 4 = .ok (.aload_n 0, 1) := by decide +kernel
theorem dX4_slots_5 : decode cX4_slots 5 = .ok (.getfield 21, 3) := by decide +kernel
theorem dX4_slots_8 : decode cX4_slots 8 = .ok (.invokevirtual 125, 3) := by decide +kernel
theorem dX4_slots_11 : decode cX4_slots 11 = .ok (.ireturn, 1) := by decide +kernel
set_option maxRecDepth 20000 in
theorem ggX4_pieceCount_X4_refuseNoAllocation : GoodIn wsX4_pieceCount wsX4_refuseNoAllocation := goodIn_ca (goodIn_r _ [6, 7, 8, 9, 22, 23, 24, 25, 26, 27] (by decide +kernel) (by decide +kernel)) (goodIn_sub (fun _ h => List.mem_cons_of_mem _ (List.mem_append_right _ h)) (by decide +kernel))
set_option maxRecDepth 20000 in
theorem gX4_pieceCount_X4_refuseNoAllocation : GoodIn wsX4_pieceCount (wsV RX4 110 RX4 yX4_refuseNoAllocation wsX4_refuseNoAllocation) := goodIn_app (goodIn_of _ (by decide +kernel)) ggX4_pieceCount_X4_refuseNoAllocation
set_option maxRecDepth 20000 in
theorem ggX4_pieceCount_X0_pieces : GoodIn wsX4_pieceCount wsX0_pieces := goodIn_r _ [14, 15, 28, 29, 30, 31, 32, 33, 34, 35, 36, 37, 38] (by decide +kernel) (by decide +kernel)
set_option maxRecDepth 20000 in
theorem gX4_pieceCount_X0_pieces : GoodIn wsX4_pieceCount (wsV RX4 128 RX0 yX0_pieces wsX0_pieces) := goodIn_app (goodIn_of _ (by decide +kernel)) ggX4_pieceCount_X0_pieces
set_option maxRecDepth 20000 in
theorem ggX4_pieceCount_X3_length : GoodIn wsX4_pieceCount wsX3_length := goodIn_r _ [20, 21, 39, 40, 41] (by decide +kernel) (by decide +kernel)
set_option maxRecDepth 20000 in
theorem gX4_pieceCount_X3_length : GoodIn wsX4_pieceCount (wsV RX4 107 RX3 yX3_length wsX3_length) := goodIn_app (goodIn_of _ (by decide +kernel)) ggX4_pieceCount_X3_length
theorem dX4_pieceCount_0 : decode cX4_pieceCount 0 = .ok (.aload_n 0, 1) := by decide +kernel
theorem dX4_pieceCount_1 : decode cX4_pieceCount 1 = .ok (.invokevirtual 110, 3) := by decide +kernel
theorem dX4_pieceCount_4 : decode cX4_pieceCount 4 = .ok (.aload_n 0, 1) := by decide +kernel
theorem dX4_pieceCount_5 : decode cX4_pieceCount 5 = .ok (.getfield 21, 3) := by decide +kernel
theorem dX4_pieceCount_8 : decode cX4_pieceCount 8 = .ok (.invokevirtual 128, 3) := by decide +kernel
theorem dX4_pieceCount_11 : decode cX4_pieceCount 11 = .ok (.invokevirtual 107, 3) := by decide +kernel
theorem dX4_pieceCount_14 : decode cX4_pieceCount 14 = .ok (.ireturn, 1) := by decide +kernel
set_option maxRecDepth 20000 in
theorem ggX4_piece_X4_refuseNoAllocation : GoodIn wsX4_piece wsX4_refuseNoAllocation := goodIn_ca (goodIn_r _ [6, 7, 8, 9, 33, 34, 35, 36, 37, 38] (by decide +kernel) (by decide +kernel)) (goodIn_sub (fun _ h => List.mem_cons_of_mem _ (List.mem_append_left _ (List.mem_append_right _ h))) (by decide +kernel))
set_option maxRecDepth 20000 in
theorem gX4_piece_X4_refuseNoAllocation : GoodIn wsX4_piece (wsV RX4 110 RX4 yX4_refuseNoAllocation wsX4_refuseNoAllocation) := goodIn_app (goodIn_of _ (by decide +kernel)) ggX4_piece_X4_refuseNoAllocation
set_option maxRecDepth 20000 in
theorem ggX4_piece_X0_pieces : GoodIn wsX4_piece wsX0_pieces := goodIn_r _ [14, 15, 39, 40, 41, 42, 43, 44, 45, 46, 47, 48, 49] (by decide +kernel) (by decide +kernel)
set_option maxRecDepth 20000 in
theorem gX4_piece_X0_pieces : GoodIn wsX4_piece (wsV RX4 128 RX0 yX0_pieces wsX0_pieces) := goodIn_app (goodIn_of _ (by decide +kernel)) ggX4_piece_X0_pieces
set_option maxRecDepth 20000 in
theorem ggX4_piece_X4_numberIn : GoodIn wsX4_piece wsX4_numberIn := goodIn_ca (goodIn_r _ [18, 19, 20, 21, 22, 23, 24, 25, 26, 27, 28, 29, 30, 31, 32, 50, 51, 52] (by decide +kernel) (by decide +kernel)) (goodIn_sub (fun _ h => List.mem_cons_of_mem _ (List.mem_append_right _ h)) (by decide +kernel))
set_option maxRecDepth 20000 in
theorem gX4_piece_X4_numberIn : GoodIn wsX4_piece (va_wsS RX4 113 yX4_numberIn wsX4_numberIn) := goodIn_app (goodIn_of _ (by decide +kernel)) ggX4_piece_X4_numberIn
theorem dX4_piece_0 : decode cX4_piece 0 = .ok (.aload_n 0, 1) := by decide +kernel
theorem dX4_piece_1 : decode cX4_piece 1 = .ok (.invokevirtual 110, 3) := by decide +kernel
theorem dX4_piece_4 : decode cX4_piece 4 = .ok (.aload_n 0, 1) := by decide +kernel
theorem dX4_piece_5 : decode cX4_piece 5 = .ok (.getfield 21, 3) := by decide +kernel
theorem dX4_piece_8 : decode cX4_piece 8 = .ok (.invokevirtual 128, 3) := by decide +kernel
theorem dX4_piece_11 : decode cX4_piece 11 = .ok (.iload_n 1, 1) := by decide +kernel
theorem dX4_piece_12 : decode cX4_piece 12 = .ok (.iload_n 2, 1) := by decide +kernel
theorem dX4_piece_13 : decode cX4_piece 13 = .ok (.invokestatic 113, 3) := by decide +kernel
theorem dX4_piece_16 : decode cX4_piece 16 = .ok (.ireturn, 1) := by decide +kernel
set_option maxRecDepth 20000 in
theorem ggX4_run_X4_refuseNoAllocation : GoodIn wsX4_run wsX4_refuseNoAllocation := goodIn_ca (goodIn_r _ [7, 8, 9, 10, 72, 73, 74, 75, 76, 77] (by decide +kernel) (by decide +kernel)) (goodIn_sub (fun _ h => List.mem_cons_of_mem _ (List.mem_append_right _ h)) (by decide +kernel))
set_option maxRecDepth 20000 in
theorem gX4_run_X4_refuseNoAllocation : GoodIn wsX4_run (wsV RX4 110 RX4 yX4_refuseNoAllocation wsX4_refuseNoAllocation) := goodIn_app (goodIn_of _ (by decide +kernel)) ggX4_run_X4_refuseNoAllocation
set_option maxRecDepth 20000 in
theorem ggX4_run_X0_steps : GoodIn wsX4_run wsX0_steps := goodIn_r _ [15, 16, 78, 79, 80, 81, 82, 83, 84, 85, 86, 87, 88] (by decide +kernel) (by decide +kernel)
set_option maxRecDepth 20000 in
theorem gX4_run_X0_steps : GoodIn wsX4_run (wsV RX4 103 RX0 yX0_steps wsX0_steps) := goodIn_app (goodIn_of _ (by decide +kernel)) ggX4_run_X0_steps
set_option maxRecDepth 20000 in
theorem ggX4_run_X2_execute : GoodIn wsX4_run wsX2_execute := goodIn_r _ [21, 22, 23, 24, 25, 26, 27, 28, 29, 30, 31, 32, 33, 34, 35, 36, 37, 38, 39, 40, 41, 42, 20, 43, 44, 45, 46, 47, 48, 49, 50, 51, 52, 53, 54, 55, 56, 57, 58, 59, 60, 61, 62, 63, 64, 65, 66, 67, 89, 90, 91, 92, 93, 94, 95] (by decide +kernel) (by decide +kernel)
set_option maxRecDepth 20000 in
theorem gX4_run_X2_execute : GoodIn wsX4_run (wsV RX4 135 RX2 yX2_execute wsX2_execute) := goodIn_app (goodIn_of _ (by decide +kernel)) ggX4_run_X2_execute
set_option maxRecDepth 20000 in
theorem ggX4_run_X2_outputCount : GoodIn wsX4_run wsX2_outputCount := goodIn_r _ [71, 24, 89, 90, 91, 92] (by decide +kernel) (by decide +kernel)
set_option maxRecDepth 20000 in
theorem gX4_run_X2_outputCount : GoodIn wsX4_run (wsV RX4 139 RX2 yX2_outputCount wsX2_outputCount) := goodIn_app (goodIn_of _ (by decide +kernel)) ggX4_run_X2_outputCount
theorem dX4_run_0 : decode cX4_run 0 = .ok (.aload_n 0, 1) := by decide +kernel
theorem dX4_run_1 : decode cX4_run 1 = .ok (.invokevirtual 110, 3) := by decide +kernel
theorem dX4_run_4 : decode cX4_run 4 = .ok (.aload_n 0, 1) := by decide +kernel
theorem dX4_run_5 : decode cX4_run 5 = .ok (.getfield 31, 3) := by decide +kernel
theorem dX4_run_8 : decode cX4_run 8 = .ok (.aload_n 0, 1) := by decide +kernel
theorem dX4_run_9 : decode cX4_run 9 = .ok (.getfield 21, 3) := by decide +kernel
theorem dX4_run_12 : decode cX4_run 12 = .ok (.invokevirtual 103, 3) := by decide +kernel
theorem dX4_run_15 : decode cX4_run 15 = .ok (.invokevirtual 135, 3) := by decide +kernel
theorem dX4_run_18 : decode cX4_run 18 = .ok (.aload_n 0, 1) := by decide +kernel
theorem dX4_run_19 : decode cX4_run 19 = .ok (.getfield 31, 3) := by decide +kernel
theorem dX4_run_22 : decode cX4_run 22 = .ok (.invokevirtual 139, 3) := by decide +kernel
theorem dX4_run_25 : decode cX4_run 25 = .ok (.ireturn, 1) := by decide +kernel
set_option maxRecDepth 20000 in
theorem ggX4_output_X2_outputCount : GoodIn wsX4_output wsX2_outputCount := goodIn_r _ [8, 9, 21, 22, 23, 24] (by decide +kernel) (by decide +kernel)
set_option maxRecDepth 20000 in
theorem gX4_output_X2_outputCount : GoodIn wsX4_output (wsV RX4 139 RX2 yX2_outputCount wsX2_outputCount) := goodIn_app (goodIn_of _ (by decide +kernel)) ggX4_output_X2_outputCount
set_option maxRecDepth 20000 in
theorem ggX4_output_X2_outputAt : GoodIn wsX4_output wsX2_outputAt := goodIn_r _ [13, 9, 14, 21, 22, 23, 24] (by decide +kernel) (by decide +kernel)
set_option maxRecDepth 20000 in
theorem gX4_output_X2_outputAt : GoodIn wsX4_output (wsV RX4 144 RX2 yX2_outputAt wsX2_outputAt) := goodIn_app (goodIn_of _ (by decide +kernel)) ggX4_output_X2_outputAt
theorem dX4_output_0 : decode cX4_output 0 = .ok (.iload_n 1, 1) := by decide +kernel
theorem dX4_output_1 : decode cX4_output 1 = .ok (.ifCond .lt 14, 3) := by decide +kernel
theorem dX4_output_4 : decode cX4_output 4 = .ok (.iload_n 1, 1) := by decide +kernel
theorem dX4_output_5 : decode cX4_output 5 = .ok (.aload_n 0, 1) := by decide +kernel
theorem dX4_output_6 : decode cX4_output 6 = .ok (.getfield 31, 3) := by decide +kernel
theorem dX4_output_9 : decode cX4_output 9 = .ok (.invokevirtual 139, 3) := by decide +kernel
theorem dX4_output_12 : decode cX4_output 12 = .ok (.if_icmp .lt 13, 3) := by decide +kernel
theorem dX4_output_15 : decode cX4_output 15 = .ok (.new 117, 3) := by decide +kernel
theorem dX4_output_18 : decode cX4_output 18 = .ok (.dup, 1) := by decide +kernel
theorem dX4_output_19 : decode cX4_output 19 = .ok (.ldc 142, 2) := by decide +kernel
theorem dX4_output_21 : decode cX4_output 21 = .ok (.invokespecial 121, 3) := by decide +kernel
theorem dX4_output_24 : decode cX4_output 24 = .ok (.athrow, 1) := by decide +kernel
theorem dX4_output_25 : decode cX4_output 25 = .ok (.aload_n 0, 1) := by decide +kernel
theorem dX4_output_26 : decode cX4_output 26 = .ok (.getfield 31, 3) := by decide +kernel
theorem dX4_output_29 : decode cX4_output 29 = .ok (.iload_n 1, 1) := by decide +kernel
theorem dX4_output_30 : decode cX4_output 30 = .ok (.invokevirtual 144, 3) := by decide +kernel
theorem dX4_output_33 : decode cX4_output 33 = .ok (.ireturn, 1) := by decide +kernel
set_option maxRecDepth 20000 in
theorem ggX4_append_X1_append : GoodIn wsX4_append wsX1_append := goodIn_r _ [7, 8, 9, 10, 11, 12, 13, 14, 15, 6, 16, 17, 18, 19, 20, 21, 22, 23, 24, 25, 26, 27, 28, 29, 36, 37, 38, 39, 40, 41] (by decide +kernel) (by decide +kernel)
set_option maxRecDepth 20000 in
theorem gX4_append_X1_append : GoodIn wsX4_append (wsV RX4 162 RX1 yX1_append wsX1_append) := goodIn_app (goodIn_of _ (by decide +kernel)) ggX4_append_X1_append
theorem dX4_append_0 : decode cX4_append 0 = .ok (.aload_n 0, 1) := by decide +kernel
theorem dX4_append_1 : decode cX4_append 1 = .ok (.iconst 0, 1) := by decide +kernel
theorem dX4_append_2 : decode cX4_append 2 = .ok (.putfield 39, 3) := by decide +kernel
theorem dX4_append_5 : decode cX4_append 5 = .ok (.aload_n 0, 1) := by decide +kernel
theorem dX4_append_6 : decode cX4_append 6 = .ok (.getfield 12, 3) := by decide +kernel
theorem dX4_append_9 : decode cX4_append 9 = .ok (.iload_n 1, 1) := by decide +kernel
theorem dX4_append_10 : decode cX4_append 10 = .ok (.iload_n 2, 1) := by decide +kernel
theorem dX4_append_11 : decode cX4_append 11 = .ok (.iload_n 3, 1) := by decide +kernel
theorem dX4_append_12 : decode cX4_append 12 = .ok (.iload 4, 2) := by decide +kernel
theorem dX4_append_14 : decode cX4_append 14 = .ok (.invokevirtual 162, 3) := by decide +kernel
theorem dX4_append_17 : decode cX4_append 17 = .ok (.ireturn, 1) := by decide +kernel
set_option maxRecDepth 20000 in
theorem ggX4_numberIn_X3_has : GoodIn wsX4_numberIn wsX3_has := goodIn_r _ [7, 8, 15, 16, 17] (by decide +kernel) (by decide +kernel)
set_option maxRecDepth 20000 in
theorem gX4_numberIn_X3_has : GoodIn wsX4_numberIn (wsV RX4 163 RX3 yX3_has wsX3_has) := goodIn_app (goodIn_of _ (by decide +kernel)) ggX4_numberIn_X3_has
set_option maxRecDepth 20000 in
theorem ggX4_numberIn_X3_at : GoodIn wsX4_numberIn wsX3_at := goodIn_r _ [12, 13, 14, 4, 5, 6, 7, 8, 15, 16, 17] (by decide +kernel) (by decide +kernel)
set_option maxRecDepth 20000 in
theorem gX4_numberIn_X3_at : GoodIn wsX4_numberIn (wsV RX4 157 RX3 yX3_at wsX3_at) := goodIn_app (goodIn_of _ (by decide +kernel)) ggX4_numberIn_X3_at
theorem dX4_numberIn_0 : decode cX4_numberIn 0 = .ok (.aload_n 0, 1) := by decide +kernel
theorem dX4_numberIn_1 : decode cX4_numberIn 1 = .ok (.iload_n 1, 1) := by decide +kernel
theorem dX4_numberIn_2 : decode cX4_numberIn 2 = .ok (.iload_n 2, 1) := by decide +kernel
theorem dX4_numberIn_3 : decode cX4_numberIn 3 = .ok (.invokevirtual 163, 3) := by decide +kernel
theorem dX4_numberIn_6 : decode cX4_numberIn 6 = .ok (.ifCond .ne 13, 3) := by decide +kernel
theorem dX4_numberIn_9 : decode cX4_numberIn 9 = .ok (.new 117, 3) := by decide +kernel
theorem dX4_numberIn_12 : decode cX4_numberIn 12 = .ok (.dup, 1) := by decide +kernel
theorem dX4_numberIn_13 : decode cX4_numberIn 13 = .ok (.ldc 167, 2) := by decide +kernel
theorem dX4_numberIn_15 : decode cX4_numberIn 15 = .ok (.invokespecial 121, 3) := by decide +kernel
theorem dX4_numberIn_18 : decode cX4_numberIn 18 = .ok (.athrow, 1) := by decide +kernel
theorem dX4_numberIn_19 : decode cX4_numberIn 19 = .ok (.aload_n 0, 1) := by decide +kernel
theorem dX4_numberIn_20 : decode cX4_numberIn 20 = .ok (.iload_n 1, 1) := by decide +kernel
theorem dX4_numberIn_21 : decode cX4_numberIn 21 = .ok (.iload_n 2, 1) := by decide +kernel
theorem dX4_numberIn_22 : decode cX4_numberIn 22 = .ok (.invokevirtual 157, 3) := by decide +kernel
theorem dX4_numberIn_25 : decode cX4_numberIn 25 = .ok (.ireturn, 1) := by decide +kernel
set_option maxRecDepth 20000 in
theorem ggX4_refuseNoInstruction_X1_has : GoodIn wsX4_refuseNoInstruction wsX1_has := goodIn_r _ [8, 9, 16, 17, 18, 19, 20, 21] (by decide +kernel) (by decide +kernel)
set_option maxRecDepth 20000 in
theorem gX4_refuseNoInstruction_X1_has : GoodIn wsX4_refuseNoInstruction (wsV RX4 169 RX1 yX1_has wsX1_has) := goodIn_app (goodIn_of _ (by decide +kernel)) ggX4_refuseNoInstruction_X1_has
theorem dX4_refuseNoInstruction_0 : decode cX4_refuseNoInstruction 0 = .ok (.aload_n 0, 1) := by decide +kernel
theorem dX4_refuseNoInstruction_1 : decode cX4_refuseNoInstruction 1 = .ok (.getfield 12, 3) := by decide +kernel
theorem dX4_refuseNoInstruction_4 : decode cX4_refuseNoInstruction 4 = .ok (.iload_n 1, 1) := by decide +kernel
theorem dX4_refuseNoInstruction_5 : decode cX4_refuseNoInstruction 5 = .ok (.invokevirtual 169, 3) := by decide +kernel
theorem dX4_refuseNoInstruction_8 : decode cX4_refuseNoInstruction 8 = .ok (.ifCond .ne 13, 3) := by decide +kernel
theorem dX4_refuseNoInstruction_11 : decode cX4_refuseNoInstruction 11 = .ok (.new 117, 3) := by decide +kernel
theorem dX4_refuseNoInstruction_14 : decode cX4_refuseNoInstruction 14 = .ok (.dup, 1) := by decide +kernel
theorem dX4_refuseNoInstruction_15 : decode cX4_refuseNoInstruction 15 = .ok (.ldc 171, 2) := by decide +kernel
theorem dX4_refuseNoInstruction_17 : decode cX4_refuseNoInstruction 17 = .ok (.invokespecial 121, 3) := by decide +kernel
theorem dX4_refuseNoInstruction_20 : decode cX4_refuseNoInstruction 20 = .ok (.athrow, 1) := by decide +kernel
theorem dX4_refuseNoInstruction_21 : decode cX4_refuseNoInstruction 21 = .ok (.return_, 1) := by decide +kernel
set_option maxRecDepth 20000 in
theorem ggX4_refuseNoValue_X1_hasValue : GoodIn wsX4_refuseNoValue wsX1_hasValue := goodIn_r _ [8, 9, 10, 11, 12, 7, 13, 14, 21, 22, 23, 24, 25, 26] (by decide +kernel) (by decide +kernel)
set_option maxRecDepth 20000 in
theorem gX4_refuseNoValue_X1_hasValue : GoodIn wsX4_refuseNoValue (wsV RX4 173 RX1 yX1_hasValue wsX1_hasValue) := goodIn_app (goodIn_of _ (by decide +kernel)) ggX4_refuseNoValue_X1_hasValue
theorem dX4_refuseNoValue_0 : decode cX4_refuseNoValue 0 = .ok (.aload_n 0, 1) := by decide +kernel
theorem dX4_refuseNoValue_1 : decode cX4_refuseNoValue 1 = .ok (.getfield 12, 3) := by decide +kernel
theorem dX4_refuseNoValue_4 : decode cX4_refuseNoValue 4 = .ok (.iload_n 1, 1) := by decide +kernel
theorem dX4_refuseNoValue_5 : decode cX4_refuseNoValue 5 = .ok (.invokevirtual 173, 3) := by decide +kernel
theorem dX4_refuseNoValue_8 : decode cX4_refuseNoValue 8 = .ok (.ifCond .ne 13, 3) := by decide +kernel
theorem dX4_refuseNoValue_11 : decode cX4_refuseNoValue 11 = .ok (.new 117, 3) := by decide +kernel
theorem dX4_refuseNoValue_14 : decode cX4_refuseNoValue 14 = .ok (.dup, 1) := by decide +kernel
theorem dX4_refuseNoValue_15 : decode cX4_refuseNoValue 15 = .ok (.ldc 176, 2) := by decide +kernel
theorem dX4_refuseNoValue_17 : decode cX4_refuseNoValue 17 = .ok (.invokespecial 121, 3) := by decide +kernel
theorem dX4_refuseNoValue_20 : decode cX4_refuseNoValue 20 = .ok (.athrow, 1) := by decide +kernel
theorem dX4_refuseNoValue_21 : decode cX4_refuseNoValue 21 = .ok (.return_, 1) := by decide +kernel
theorem dX4_refuseKindOutside_0 : decode cX4_refuseKindOutside 0 = .ok (.iload_n 0, 1) := by decide +kernel
theorem dX4_refuseKindOutside_1 : decode cX4_refuseKindOutside 1 = .ok (.iload_n 1, 1) := by decide +kernel
theorem dX4_refuseKindOutside_2 : decode cX4_refuseKindOutside 2 = .ok (.if_icmp .lt 8, 3) := by decide +kernel
theorem dX4_refuseKindOutside_5 : decode cX4_refuseKindOutside 5 = .ok (.iload_n 0, 1) := by decide +kernel
theorem dX4_refuseKindOutside_6 : decode cX4_refuseKindOutside 6 = .ok (.iload_n 2, 1) := by decide +kernel
theorem dX4_refuseKindOutside_7 : decode cX4_refuseKindOutside 7 = .ok (.if_icmp .le 13, 3) := by decide +kernel
theorem dX4_refuseKindOutside_10 : decode cX4_refuseKindOutside 10 = .ok (.new 65, 3) := by decide +kernel
theorem dX4_refuseKindOutside_13 : decode cX4_refuseKindOutside 13 = .ok (.dup, 1) := by decide +kernel
theorem dX4_refuseKindOutside_14 : decode cX4_refuseKindOutside 14 = .ok (.ldc 178, 2) := by decide +kernel
theorem dX4_refuseKindOutside_16 : decode cX4_refuseKindOutside 16 = .ok (.invokespecial 69, 3) := by decide +kernel
theorem dX4_refuseKindOutside_19 : decode cX4_refuseKindOutside 19 = .ok (.athrow, 1) := by decide +kernel
theorem dX4_refuseKindOutside_20 : decode cX4_refuseKindOutside 20 = .ok (.return_, 1) := by decide +kernel
set_option maxRecDepth 20000 in
theorem ggX4_refuseFullCode_X1_isFull : GoodIn wsX4_refuseFullCode wsX1_isFull := goodIn_r _ [8, 9, 16, 17, 18, 19, 20, 21] (by decide +kernel) (by decide +kernel)
set_option maxRecDepth 20000 in
theorem gX4_refuseFullCode_X1_isFull : GoodIn wsX4_refuseFullCode (wsV RX4 180 RX1 yX1_isFull wsX1_isFull) := goodIn_app (goodIn_of _ (by decide +kernel)) ggX4_refuseFullCode_X1_isFull
theorem dX4_refuseFullCode_0 : decode cX4_refuseFullCode 0 = .ok (.aload_n 0, 1) := by decide +kernel
theorem dX4_refuseFullCode_1 : decode cX4_refuseFullCode 1 = .ok (.getfield 12, 3) := by decide +kernel
theorem dX4_refuseFullCode_4 : decode cX4_refuseFullCode 4 = .ok (.invokevirtual 180, 3) := by decide +kernel
theorem dX4_refuseFullCode_7 : decode cX4_refuseFullCode 7 = .ok (.ifCond .eq 13, 3) := by decide +kernel
theorem dX4_refuseFullCode_10 : decode cX4_refuseFullCode 10 = .ok (.new 183, 3) := by decide +kernel
theorem dX4_refuseFullCode_13 : decode cX4_refuseFullCode 13 = .ok (.dup, 1) := by decide +kernel
theorem dX4_refuseFullCode_14 : decode cX4_refuseFullCode 14 = .ok (.ldc 185, 2) := by decide +kernel
theorem dX4_refuseFullCode_16 : decode cX4_refuseFullCode 16 = .ok (.invokespecial 187, 3) := by decide +kernel
theorem dX4_refuseFullCode_19 : decode cX4_refuseFullCode 19 = .ok (.athrow, 1) := by decide +kernel
theorem dX4_refuseFullCode_20 : decode cX4_refuseFullCode 20 = .ok (.return_, 1) := by decide +kernel
theorem dX4_refuseNoAllocation_0 : decode cX4_refuseNoAllocation 0 = .ok (.aload_n 0, 1) := by decide +kernel
theorem dX4_refuseNoAllocation_1 : decode cX4_refuseNoAllocation 1 = .ok (.getfield 39, 3) := by decide +kernel
theorem dX4_refuseNoAllocation_4 : decode cX4_refuseNoAllocation 4 = .ok (.ifCond .ne 13, 3) := by decide +kernel
theorem dX4_refuseNoAllocation_7 : decode cX4_refuseNoAllocation 7 = .ok (.new 183, 3) := by decide +kernel
theorem dX4_refuseNoAllocation_10 : decode cX4_refuseNoAllocation 10 = .ok (.dup, 1) := by decide +kernel
theorem dX4_refuseNoAllocation_11 : decode cX4_refuseNoAllocation 11 = .ok (.ldc 188, 2) := by decide +kernel
theorem dX4_refuseNoAllocation_13 : decode cX4_refuseNoAllocation 13 = .ok (.invokespecial 187, 3) := by decide +kernel
theorem dX4_refuseNoAllocation_16 : decode cX4_refuseNoAllocation 16 = .ok (.athrow, 1) := by decide +kernel
theorem dX4_refuseNoAllocation_17 : decode cX4_refuseNoAllocation 17 = .ok (.return_, 1) := by decide +kernel
theorem dJ9_max_7cf53_0 : decode cJ9_max_7cf53 0 = .ok (.iload_n 0, 1) := by decide +kernel
theorem dJ9_max_7cf53_1 : decode cJ9_max_7cf53 1 = .ok (.iload_n 1, 1) := by decide +kernel
theorem dJ9_max_7cf53_2 : decode cJ9_max_7cf53 2 = .ok (.if_icmp .lt 7, 3) := by decide +kernel
theorem dJ9_max_7cf53_5 : decode cJ9_max_7cf53 5 = .ok (.iload_n 0, 1) := by decide +kernel
theorem dJ9_max_7cf53_6 : decode cJ9_max_7cf53 6 = .ok (.goto 4, 3) := by decide +kernel
theorem dJ9_max_7cf53_9 : decode cJ9_max_7cf53 9 = .ok (.iload_n 1, 1) := by decide +kernel
theorem dJ9_max_7cf53_10 : decode cJ9_max_7cf53 10 = .ok (.ireturn, 1) := by decide +kernel
theorem dJ9_min_7cf53_0 : decode cJ9_min_7cf53 0 = .ok (.iload_n 0, 1) := by decide +kernel
theorem dJ9_min_7cf53_1 : decode cJ9_min_7cf53 1 = .ok (.iload_n 1, 1) := by decide +kernel
theorem dJ9_min_7cf53_2 : decode cJ9_min_7cf53 2 = .ok (.if_icmp .gt 7, 3) := by decide +kernel
theorem dJ9_min_7cf53_5 : decode cJ9_min_7cf53 5 = .ok (.iload_n 0, 1) := by decide +kernel
theorem dJ9_min_7cf53_6 : decode cJ9_min_7cf53 6 = .ok (.goto 4, 3) := by decide +kernel
theorem dJ9_min_7cf53_9 : decode cJ9_min_7cf53 9 = .ok (.iload_n 1, 1) := by decide +kernel
theorem dJ9_min_7cf53_10 : decode cJ9_min_7cf53 10 = .ok (.ireturn, 1) := by decide +kernel
