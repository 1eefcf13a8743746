set_option maxRecDepth 20000 in
theorem ggX0_init_X3_init : GoodIn wsX0_init wsX3_init := goodIn_r _ [22, 23, 2, 3, 24, 25, 26, 27, 28, 10, 29, 30, 42, 43, 44] (by decide +kernel) (by decide +kernel)
set_option maxRecDepth 20000 in
theorem gX0_init_X3_init : GoodIn wsX0_init (wsX3_init) := ggX0_init_X3_init
theorem dX0_init_0 : decode cX0_init 0 = .ok (.aload_n 0, 1) := by decide +kernel
theorem dX0_init_1 : decode cX0_init 1 = .ok (.invokespecial 3, 3) := by decide +kernel
theorem dX0_init_4 : decode cX0_init 4 = .ok (.aload_n 0, 1) := by decide +kernel
theorem dX0_init_5 : decode cX0_init 5 = .ok (.aload_n 1, 1) := by decide +kernel
theorem dX0_init_6 : decode cX0_init 6 = .ok (.putfield 9, 3) := by decide +kernel
theorem dX0_init_9 : decode cX0_init 9 = .ok (.aload_n 0, 1) := by decide +kernel
theorem dX0_init_10 : decode cX0_init 10 = .ok (.new 15, 3) := by decide +kernel
theorem dX0_init_13 : decode cX0_init 13 = .ok (.dup, 1) := by decide +kernel
theorem dX0_init_14 : decode cX0_init 14 = .ok (.sipush 240, 3) := by decide +kernel
theorem dX0_init_17 : decode cX0_init 17 = .ok (.invokespecial 17, 3) := by decide +kernel
theorem dX0_init_20 : decode cX0_init 20 = .ok (.putfield 20, 3) := by decide +kernel
theorem dX0_init_23 : decode cX0_init 23 = .ok (.aload_n 0, 1) := by decide +kernel
theorem dX0_init_24 : decode cX0_init 24 = .ok (.new 15, 3) := by decide +kernel
theorem dX0_init_27 : decode cX0_init 27 = .ok (.dup, 1) := by decide +kernel
theorem dX0_init_28 : decode cX0_init 28 = .ok (.sipush 180, 3) := by decide +kernel
theorem dX0_init_31 : decode cX0_init 31 = .ok (.invokespecial 17, 3) := by decide +kernel
theorem dX0_init_34 : decode cX0_init 34 = .ok (.putfield 24, 3) := by decide +kernel
theorem dX0_init_37 : decode cX0_init 37 = .ok (.aload_n 0, 1) := by decide +kernel
theorem dX0_init_38 : decode cX0_init 38 = .ok (.bipush 8, 2) := by decide +kernel
theorem dX0_init_40 : decode cX0_init 40 = .ok (.newarray .int, 2) := by decide +kernel
theorem dX0_init_42 : decode cX0_init 42 = .ok (.putfield 27, 3) := by decide +kernel
theorem dX0_init_45 : decode cX0_init 45 = .ok (.aload_n 0, 1) := by decide +kernel
theorem dX0_init_46 : decode cX0_init 46 = .ok (.bipush 60, 2) := by decide +kernel
theorem dX0_init_48 : decode cX0_init 48 = .ok (.newarray .int, 2) := by decide +kernel
theorem dX0_init_50 : decode cX0_init 50 = .ok (.putfield 31, 3) := by decide +kernel
theorem dX0_init_53 : decode cX0_init 53 = .ok (.aload_n 0, 1) := by decide +kernel
theorem dX0_init_54 : decode cX0_init 54 = .ok (.bipush 60, 2) := by decide +kernel
theorem dX0_init_56 : decode cX0_init 56 = .ok (.newarray .int, 2) := by decide +kernel
theorem dX0_init_58 : decode cX0_init 58 = .ok (.putfield 34, 3) := by decide +kernel
theorem dX0_init_61 : decode cX0_init 61 = .ok (.aload_n 0, 1) := by decide +kernel
theorem dX0_init_62 : decode cX0_init 62 = .ok (.bipush 60, 2) := by decide +kernel
theorem dX0_init_64 : decode cX0_init 64 = .ok (.newarray .int, 2) := by decide +kernel
theorem dX0_init_66 : decode cX0_init 66 = .ok (.putfield 37, 3) := by decide +kernel
theorem dX0_init_69 : decode cX0_init 69 = .ok (.aload_n 0, 1) := by decide +kernel
theorem dX0_init_70 : decode cX0_init 70 = .ok (.bipush 60, 2) := by decide +kernel
theorem dX0_init_72 : decode cX0_init 72 = .ok (.newarray .int, 2) := by decide +kernel
theorem dX0_init_74 : decode cX0_init 74 = .ok (.putfield 40, 3) := by decide +kernel
theorem dX0_init_77 : decode cX0_init 77 = .ok (.aload_n 0, 1) := by decide +kernel
theorem dX0_init_78 : decode cX0_init 78 = .ok (.bipush 60, 2) := by decide +kernel
theorem dX0_init_80 : decode cX0_init 80 = .ok (.newarray .boolean, 2) := by decide +kernel
theorem dX0_init_82 : decode cX0_init 82 = .ok (.putfield 43, 3) := by decide +kernel
theorem dX0_init_85 : decode cX0_init 85 = .ok (.aload_n 0, 1) := by decide +kernel
theorem dX0_init_86 : decode cX0_init 86 = .ok (.iconst 0, 1) := by decide +kernel
theorem dX0_init_87 : decode cX0_init 87 = .ok (.putfield 47, 3) := by decide +kernel
theorem dX0_init_90 : decode cX0_init 90 = .ok (.aload_n 0, 1) := by decide +kernel
theorem dX0_init_91 : decode cX0_init 91 = .ok (.iconst 0, 1) := by decide +kernel
theorem dX0_init_92 : decode cX0_init 92 = .ok (.putfield 51, 3) := by decide +kernel
theorem dX0_init_95 : decode cX0_init 95 = .ok (.return_, 1) := by decide +kernel
theorem dX0_steps_0 : decode cX0_steps 0 = .ok (.aload_n 0, 1) := by decide +kernel
theorem dX0_steps_1 : decode cX0_steps 1 = .ok (.getfield 20, 3) := by decide +kernel
theorem dX0_steps_4 : decode cX0_steps 4 = .ok (.areturn, 1) := by decide +kernel
theorem dX0_pieces_0 : decode cX0_pieces 0 = .ok (.aload_n 0, 1) := by decide +kernel
theorem dX0_pieces_1 : decode cX0_pieces 1 = .ok (.getfield 24, 3) := by decide +kernel
theorem dX0_pieces_4 : decode cX0_pieces 4 = .ok (.areturn, 1) := by decide +kernel
theorem dX0_slotCount_0 : decode cX0_slotCount 0 = .ok (.aload_n 0, 1) := by decide +kernel
theorem dX0_slotCount_1 : decode cX0_slotCount 1 = .ok (.getfield 51, 3) := by decide +kernel
theorem dX0_slotCount_4 : decode cX0_slotCount 4 = .ok (.ireturn, 1) := by decide +kernel
set_option maxRecDepth 20000 in
theorem ggX0_make_X0_clear : GoodIn wsX0_make wsX0_clear := goodIn_r _ [6, 7, 8, 9, 10, 11, 12, 13, 14, 15, 16, 17, 18, 19, 20, 21, 22, 1, 23, 24, 25, 26, 27, 28, 29, 30, 31, 32, 33, 34, 35, 36, 37, 38, 39, 40, 41, 42, 43, 171, 172, 173, 174, 175, 176, 177, 178, 179, 180, 181, 182, 183, 184, 185, 186, 187, 188, 189, 190] (by decide +kernel) (by decide +kernel)
set_option maxRecDepth 20000 in
theorem gX0_make_X0_clear : GoodIn wsX0_make (wsV RX0 58 RX0 yX0_clear wsX0_clear) := goodIn_app (goodIn_of _ (by decide +kernel)) ggX0_make_X0_clear
set_option maxRecDepth 20000 in
theorem ggX0_make_X1_length : GoodIn wsX0_make wsX1_length := goodIn_r _ [47, 36, 185, 186, 187, 188, 189, 190] (by decide +kernel) (by decide +kernel)
set_option maxRecDepth 20000 in
theorem gX0_make_X1_length : GoodIn wsX0_make (wsV RX0 61 RX1 yX1_length wsX1_length) := goodIn_app (goodIn_of _ (by decide +kernel)) ggX0_make_X1_length
set_option maxRecDepth 20000 in
theorem ggX0_make_X1_isCounting : GoodIn wsX0_make wsX1_isCounting := goodIn_r _ [51, 37, 40, 41, 42, 33, 43, 36, 185, 186, 187, 188, 189, 190] (by decide +kernel) (by decide +kernel)
set_option maxRecDepth 20000 in
theorem gX0_make_X1_isCounting : GoodIn wsX0_make (wsV RX0 67 RX1 yX1_isCounting wsX1_isCounting) := goodIn_app (goodIn_of _ (by decide +kernel)) ggX0_make_X1_isCounting
set_option maxRecDepth 20000 in
theorem ggX0_make_X1_isConst : GoodIn wsX0_make wsX1_isConst := goodIn_r _ [55, 36, 56, 185, 186, 187, 188, 189, 190] (by decide +kernel) (by decide +kernel)
set_option maxRecDepth 20000 in
theorem gX0_make_X1_isConst : GoodIn wsX0_make (wsV RX0 71 RX1 yX1_isConst wsX1_isConst) := goodIn_app (goodIn_of _ (by decide +kernel)) ggX0_make_X1_isConst
set_option maxRecDepth 20000 in
theorem ggX0_make_X0_treat : GoodIn wsX0_make wsX0_treat := goodIn_r _ [60, 1, 7, 61, 62, 63, 33, 64, 38, 40, 41, 42, 43, 36, 65, 66, 67, 68, 39, 69, 70, 71, 5, 72, 19, 73, 74, 75, 76, 77, 78, 79, 16, 80, 81, 82, 83, 18, 84, 85, 86, 87, 88, 89, 90, 91, 92, 93, 94, 95, 96, 97, 98, 99, 22, 20, 52, 53, 54, 55, 56, 100, 101, 102, 103, 23, 17, 13, 14, 11, 15, 8, 21, 104, 105, 106, 107, 108, 109, 110, 27, 111, 29, 112, 113, 114, 115, 116, 117, 118, 119, 120, 121, 122, 123, 124, 125, 126, 127, 128, 129, 130, 131, 132, 133, 134, 135, 136, 137, 138, 139, 140, 141, 142, 143, 144, 145, 146, 147, 148, 149, 150, 30, 31, 32, 34, 35, 37, 151, 152, 153, 154, 155, 156, 157, 158, 159, 160, 161, 162, 163, 164, 165, 166, 167, 168, 169, 170, 171, 172, 173, 174, 175, 176, 177, 178, 179, 180, 181, 185, 186, 187, 188, 189, 190, 182, 183, 184] (by decide +kernel) (by decide +kernel)
set_option maxRecDepth 20000 in
theorem gX0_make_X0_treat : GoodIn wsX0_make (wsV RX0 74 RX0 yX0_treat wsX0_treat) := goodIn_app (goodIn_of _ (by decide +kernel)) ggX0_make_X0_treat
theorem dX0_make_0 : decode cX0_make 0 = .ok (.aload_n 0, 1) := by decide +kernel
theorem dX0_make_1 : decode cX0_make 1 = .ok (.iload_n 1, 1) := by decide +kernel
theorem dX0_make_2 : decode cX0_make 2 = .ok (.invokevirtual 58, 3) := by decide +kernel
theorem dX0_make_5 : decode cX0_make 5 = .ok (.iconst 0, 1) := by decide +kernel
theorem dX0_make_6 : decode cX0_make 6 = .ok (.istore_n 2, 1) := by decide +kernel
theorem dX0_make_7 : decode cX0_make 7 = .ok (.iload_n 2, 1) := by decide +kernel
theorem dX0_make_8 : decode cX0_make 8 = .ok (.aload_n 0, 1) := by decide +kernel
theorem dX0_make_9 : decode cX0_make 9 = .ok (.getfield 9, 3) := by decide +kernel
theorem dX0_make_12 : decode cX0_make 12 = .ok (.invokevirtual 61, 3) := by decide +kernel
theorem dX0_make_15 : decode cX0_make 15 = .ok (.if_icmp .ge 36, 3) := by decide +kernel
theorem dX0_make_18 : decode cX0_make 18 = .ok (.aload_n 0, 1) := by decide +kernel
theorem dX0_make_19 : decode cX0_make 19 = .ok (.getfield 9, 3) := by decide +kernel
theorem dX0_make_22 : decode cX0_make 22 = .ok (.iload_n 2, 1) := by decide +kernel
theorem dX0_make_23 : decode cX0_make 23 = .ok (.invokevirtual 67, 3) := by decide +kernel
theorem dX0_make_26 : decode cX0_make 26 = .ok (.ifCond .eq 19, 3) := by decide +kernel
theorem dX0_make_29 : decode cX0_make 29 = .ok (.aload_n 0, 1) := by decide +kernel
theorem dX0_make_30 : decode cX0_make 30 = .ok (.getfield 9, 3) := by decide +kernel
theorem dX0_make_33 : decode cX0_make 33 = .ok (.iload_n 2, 1) := by decide +kernel
theorem dX0_make_34 : decode cX0_make 34 = .ok (.invokevirtual 71, 3) := by decide +kernel
theorem dX0_make_37 : decode cX0_make 37 = .ok (.ifCond .ne 8, 3) := by decide +kernel
theorem dX0_make_40 : decode cX0_make 40 = .ok (.aload_n 0, 1) := by decide +kernel
theorem dX0_make_41 : decode cX0_make 41 = .ok (.iload_n 2, 1) := by decide +kernel
theorem dX0_make_42 : decode cX0_make 42 = .ok (.invokevirtual 74, 3) := by decide +kernel
theorem dX0_make_45 : decode cX0_make 45 = .ok (.iinc 2 1, 3) := by decide +kernel
theorem dX0_make_48 : decode cX0_make 48 = .ok (.goto (-41), 3) := by decide +kernel
theorem dX0_make_51 : decode cX0_make 51 = .ok (.return_, 1) := by decide +kernel
set_option maxRecDepth 20000 in
theorem ggX0_clear_X3_clear : GoodIn wsX0_clear wsX3_clear := goodIn_r _ [23, 24, 50, 51, 52] (by decide +kernel) (by decide +kernel)
set_option maxRecDepth 20000 in
theorem gX0_clear_X3_clear : GoodIn wsX0_clear (wsV RX0 77 RX3 yX3_clear wsX3_clear) := goodIn_app (goodIn_of _ (by decide +kernel)) ggX0_clear_X3_clear
set_option maxRecDepth 20000 in
theorem ggX0_clear_X1_firstUse : GoodIn wsX0_clear wsX1_firstUse := goodIn_r _ [29, 30, 8, 5, 9, 31, 32, 33, 34, 35, 36, 37, 28, 38, 53, 54, 55, 56, 57, 58] (by decide +kernel) (by decide +kernel)
set_option maxRecDepth 20000 in
theorem gX0_clear_X1_firstUse : GoodIn wsX0_clear (wsV RX0 88 RX1 yX1_firstUse wsX1_firstUse) := goodIn_app (goodIn_of _ (by decide +kernel)) ggX0_clear_X1_firstUse
theorem dX0_clear_0 : decode cX0_clear 0 = .ok (.aload_n 0, 1) := by decide +kernel
theorem dX0_clear_1 : decode cX0_clear 1 = .ok (.getfield 20, 3) := by decide +kernel
theorem dX0_clear_4 : decode cX0_clear 4 = .ok (.invokevirtual 77, 3) := by decide +kernel
theorem dX0_clear_7 : decode cX0_clear 7 = .ok (.aload_n 0, 1) := by decide +kernel
theorem dX0_clear_8 : decode cX0_clear 8 = .ok (.getfield 24, 3) := by decide +kernel
theorem dX0_clear_11 : decode cX0_clear 11 = .ok (.invokevirtual 77, 3) := by decide +kernel
theorem dX0_clear_14 : decode cX0_clear 14 = .ok (.aload_n 0, 1) := by decide +kernel
theorem dX0_clear_15 : decode cX0_clear 15 = .ok (.iconst 2, 1) := by decide +kernel
theorem dX0_clear_16 : decode cX0_clear 16 = .ok (.iload_n 1, 1) := by decide +kernel
theorem dX0_clear_17 : decode cX0_clear 17 = .ok (.bipush 8, 2) := by decide +kernel
theorem dX0_clear_19 : decode cX0_clear 19 = .ok (.invokestatic 79, 3) := by decide +kernel
theorem dX0_clear_22 : decode cX0_clear 22 = .ok (.invokestatic 85, 3) := by decide +kernel
theorem dX0_clear_25 : decode cX0_clear 25 = .ok (.putfield 47, 3) := by decide +kernel
theorem dX0_clear_28 : decode cX0_clear 28 = .ok (.aload_n 0, 1) := by decide +kernel
theorem dX0_clear_29 : decode cX0_clear 29 = .ok (.iconst 0, 1) := by decide +kernel
theorem dX0_clear_30 : decode cX0_clear 30 = .ok (.putfield 51, 3) := by decide +kernel
theorem dX0_clear_33 : decode cX0_clear 33 = .ok (.iconst 0, 1) := by decide +kernel
theorem dX0_clear_34 : decode cX0_clear 34 = .ok (.istore_n 2, 1) := by decide +kernel
theorem dX0_clear_35 : decode cX0_clear 35 = .ok (.iload_n 2, 1) := by decide +kernel
theorem dX0_clear_36 : decode cX0_clear 36 = .ok (.bipush 8, 2) := by decide +kernel
theorem dX0_clear_38 : decode cX0_clear 38 = .ok (.if_icmp .ge 16, 3) := by decide +kernel
theorem dX0_clear_41 : decode cX0_clear 41 = .ok (.aload_n 0, 1) := by decide +kernel
theorem dX0_clear_42 : decode cX0_clear 42 = .ok (.getfield 27, 3) := by decide +kernel
theorem dX0_clear_45 : decode cX0_clear 45 = .ok (.iload_n 2, 1) := by decide +kernel
theorem dX0_clear_46 : decode cX0_clear 46 = .ok (.iconst (-1), 1) := by decide +kernel
theorem dX0_clear_47 : decode cX0_clear 47 = .ok (.iastore, 1) := by decide +kernel
theorem dX0_clear_48 : decode cX0_clear 48 = .ok (.iinc 2 1, 3) := by decide +kernel
theorem dX0_clear_51 : decode cX0_clear 51 = .ok (.goto (-16), 3) := by decide +kernel
theorem dX0_clear_54 : decode cX0_clear 54 = .ok (.iconst 0, 1) := by decide +kernel
theorem dX0_clear_55 : decode cX0_clear 55 = .ok (.istore_n 2, 1) := by decide +kernel
theorem dX0_clear_56 : decode cX0_clear 56 = .ok (.iload_n 2, 1) := by decide +kernel
theorem dX0_clear_57 : decode cX0_clear 57 = .ok (.bipush 60, 2) := by decide +kernel
theorem dX0_clear_59 : decode cX0_clear 59 = .ok (.if_icmp .ge 54, 3) := by decide +kernel
theorem dX0_clear_62 : decode cX0_clear 62 = .ok (.aload_n 0, 1) := by decide +kernel
theorem dX0_clear_63 : decode cX0_clear 63 = .ok (.getfield 31, 3) := by decide +kernel
theorem dX0_clear_66 : decode cX0_clear 66 = .ok (.iload_n 2, 1) := by decide +kernel
theorem dX0_clear_67 : decode cX0_clear 67 = .ok (.iconst (-1), 1) := by decide +kernel
theorem dX0_clear_68 : decode cX0_clear 68 = .ok (.iastore, 1) := by decide +kernel
theorem dX0_clear_69 : decode cX0_clear 69 = .ok (.aload_n 0, 1) := by decide +kernel
theorem dX0_clear_70 : decode cX0_clear 70 = .ok (.getfield 34, 3) := by decide +kernel
theorem dX0_clear_73 : decode cX0_clear 73 = .ok (.iload_n 2, 1) := by decide +kernel
theorem dX0_clear_74 : decode cX0_clear 74 = .ok (.iconst (-1), 1) := by decide +kernel
theorem dX0_clear_75 : decode cX0_clear 75 = .ok (.iastore, 1) := by decide +kernel
theorem dX0_clear_76 : decode cX0_clear 76 = .ok (.aload_n 0, 1) := by decide +kernel
theorem dX0_clear_77 : decode cX0_clear 77 = .ok (.getfield 37, 3) := by decide +kernel
theorem dX0_clear_80 : decode cX0_clear 80 = .ok (.iload_n 2, 1) := by decide +kernel
theorem dX0_clear_81 : decode cX0_clear 81 = .ok (.iconst (-1), 1) := by decide +kernel
theorem dX0_clear_82 : decode cX0_clear 82 = .ok (.iastore, 1) := by decide +kernel
theorem dX0_clear_83 : decode cX0_clear 83 = .ok (.aload_n 0, 1) := by decide +kernel
theorem dX0_clear_84 : decode cX0_clear 84 = .ok (.getfield 40, 3) := by decide +kernel
theorem dX0_clear_87 : decode cX0_clear 87 = .ok (.iload_n 2, 1) := by decide +kernel
theorem dX0_clear_88 : decode cX0_clear 88 = .ok (.aload_n 0, 1) := by decide +kernel
theorem dX0_clear_89 : decode cX0_clear 89 = .ok (.getfield 9, 3) := by decide +kernel
theorem dX0_clear_92 : decode cX0_clear 92 = .ok (.iload_n 2, 1) := by decide +kernel
theorem dX0_clear_93 : decode cX0_clear 93 = .ok (.iload_n 2, 1) := by decide +kernel
theorem dX0_clear_94 : decode cX0_clear 94 = .ok (.iconst 1, 1) := by decide +kernel
theorem dX0_clear_95 : decode cX0_clear 95 = .ok (.iadd, 1) := by decide +kernel
theorem dX0_clear_96 : decode cX0_clear 96 = .ok (.invokevirtual 88, 3) := by decide +kernel
theorem dX0_clear_99 : decode cX0_clear 99 = .ok (.iastore, 1) := by decide +kernel
theorem dX0_clear_100 : decode cX0_clear 100 = .ok (.aload_n 0, 1) := by decide +kernel
theorem dX0_clear_101 : decode cX0_clear 101 = .ok (.getfield 43, 3) := by decide +kernel
theorem dX0_clear_104 : decode cX0_clear 104 = .ok (.iload_n 2, 1) := by decide +kernel
theorem dX0_clear_105 : decode cX0_clear 105 = .ok (.iconst 0, 1) := by decide +kernel
theorem dX0_clear_106 : decode cX0_clear 106 = .ok (.bastore, 1) := by decide +kernel
theorem dX0_clear_107 : decode cX0_clear 107 = .ok (.iinc 2 1, 3) := by decide +kernel
theorem dX0_clear_110 : decode cX0_clear 110 = .ok (.goto (-54), 3) := by decide +kernel
theorem dX0_clear_113 : decode cX0_clear 113 = .ok (.return_, 1) := by decide +kernel
set_option maxRecDepth 20000 in
theorem ggX0_treat_X1_firstOf : GoodIn wsX0_treat wsX1_firstOf := goodIn_r _ [7, 8, 9, 10, 11, 6, 12, 13, 159, 160, 161, 162, 163, 164] (by decide +kernel) (by decide +kernel)
set_option maxRecDepth 20000 in
theorem gX0_treat_X1_firstOf : GoodIn wsX0_treat (wsV RX0 91 RX1 yX1_firstOf wsX1_firstOf) := goodIn_app (goodIn_of _ (by decide +kernel)) ggX0_treat_X1_firstOf
set_option maxRecDepth 20000 in
theorem ggX0_treat_X1_secondOf : GoodIn wsX0_treat wsX1_secondOf := goodIn_r _ [17, 18, 9, 10, 11, 6, 12, 13, 159, 160, 161, 162, 163, 164] (by decide +kernel) (by decide +kernel)
set_option maxRecDepth 20000 in
theorem gX0_treat_X1_secondOf : GoodIn wsX0_treat (wsV RX0 94 RX1 yX1_secondOf wsX1_secondOf) := goodIn_app (goodIn_of _ (by decide +kernel)) ggX0_treat_X1_secondOf
set_option maxRecDepth 20000 in
theorem ggX0_treat_X0_isMissing : GoodIn wsX0_treat wsX0_isMissing := goodIn_r _ [23, 24, 25, 26, 22, 27, 148, 149, 150, 151, 152, 153, 154, 155, 156, 157, 158] (by decide +kernel) (by decide +kernel)
set_option maxRecDepth 20000 in
theorem gX0_treat_X0_isMissing : GoodIn wsX0_treat (wsV RX0 97 RX0 yX0_isMissing wsX0_isMissing) := goodIn_app (goodIn_of _ (by decide +kernel)) ggX0_treat_X0_isMissing
set_option maxRecDepth 20000 in
theorem ggX0_treat_X0_getRegister : GoodIn wsX0_treat wsX0_getRegister := goodIn_r _ [31, 32, 33, 34, 35, 22, 36, 37, 38, 39, 40, 41, 42, 43, 44, 45, 46, 47, 48, 49, 50, 51, 52, 53, 54, 1, 55, 25, 26, 27, 56, 57, 58, 6, 59, 13, 60, 61, 62, 63, 64, 65, 66, 67, 68, 69, 70, 2, 71, 72, 73, 74, 75, 76, 77, 78, 79, 80, 81, 82, 83, 84, 85, 86, 87, 88, 89, 90, 91, 92, 93, 94, 95, 96, 24, 97, 98, 99, 100, 148, 149, 150, 151, 152, 153, 154, 155, 156, 157, 158, 159, 160, 161, 162, 163, 164, 165, 166, 167] (by decide +kernel) (by decide +kernel)
set_option maxRecDepth 20000 in
theorem gX0_treat_X0_getRegister : GoodIn wsX0_treat (wsV RX0 100 RX0 yX0_getRegister wsX0_getRegister) := goodIn_app (goodIn_of _ (by decide +kernel)) ggX0_treat_X0_getRegister
set_option maxRecDepth 20000 in
theorem ggX0_treat_X0_fetch : GoodIn wsX0_treat wsX0_fetch := goodIn_r _ [104, 1, 2, 56, 57, 58, 6, 59, 13, 60, 105, 106, 107, 108, 109, 9, 10, 11, 12, 77, 78, 79, 80, 81, 82, 83, 84, 110, 111, 112, 22, 113, 55, 25, 26, 27, 114, 115, 116, 117, 37, 24, 72, 71, 38, 39, 40, 41, 32, 148, 149, 150, 151, 152, 153, 154, 155, 156, 157, 158, 159, 160, 161, 162, 163, 164, 165, 166, 167] (by decide +kernel) (by decide +kernel)
set_option maxRecDepth 20000 in
theorem gX0_treat_X0_fetch : GoodIn wsX0_treat (wsV RX0 103 RX0 yX0_fetch wsX0_fetch) := goodIn_app (goodIn_of _ (by decide +kernel)) ggX0_treat_X0_fetch
set_option maxRecDepth 20000 in
theorem ggX0_treat_X0_registerHolding : GoodIn wsX0_treat wsX0_registerHolding := goodIn_r _ [100, 24, 25, 26, 22, 27, 148, 149, 150, 151, 152, 153, 154, 155, 156, 157, 158] (by decide +kernel) (by decide +kernel)
set_option maxRecDepth 20000 in
theorem gX0_treat_X0_registerHolding : GoodIn wsX0_treat (wsV RX0 107 RX0 yX0_registerHolding wsX0_registerHolding) := goodIn_app (goodIn_of _ (by decide +kernel)) ggX0_treat_X0_registerHolding
set_option maxRecDepth 20000 in
theorem ggX0_treat_X0_moveToNextUse : GoodIn wsX0_treat wsX0_moveToNextUse := goodIn_r _ [121, 54, 1, 25, 26, 22, 27, 122, 123, 124, 6, 125, 126, 68, 69, 70, 13, 127, 8, 18, 9, 10, 11, 12, 93, 94, 95, 96, 37, 24, 97, 98, 99, 100, 38, 39, 40, 41, 32, 128, 129, 130, 131, 65, 55, 110, 111, 112, 113, 148, 149, 150, 151, 152, 153, 154, 155, 156, 157, 158, 159, 160, 161, 162, 163, 164] (by decide +kernel) (by decide +kernel)
set_option maxRecDepth 20000 in
theorem gX0_treat_X0_moveToNextUse : GoodIn wsX0_treat (wsV RX0 110 RX0 yX0_moveToNextUse wsX0_moveToNextUse) := goodIn_app (goodIn_of _ (by decide +kernel)) ggX0_treat_X0_moveToNextUse
set_option maxRecDepth 20000 in
theorem ggX0_treat_X1_hasValue : GoodIn wsX0_treat wsX1_hasValue := goodIn_r _ [135, 60, 9, 10, 11, 6, 12, 13, 159, 160, 161, 162, 163, 164] (by decide +kernel) (by decide +kernel)
set_option maxRecDepth 20000 in
theorem gX0_treat_X1_hasValue : GoodIn wsX0_treat (wsV RX0 113 RX1 yX1_hasValue wsX1_hasValue) := goodIn_app (goodIn_of _ (by decide +kernel)) ggX0_treat_X1_hasValue
set_option maxRecDepth 20000 in
theorem ggX0_treat_X0_registerJustLeft : GoodIn wsX0_treat wsX0_registerJustLeft := goodIn_r _ [139, 33, 34, 35, 22, 36, 37, 38, 39, 40, 41, 32, 148, 149, 150, 151, 152, 153, 154, 155, 156, 157, 158] (by decide +kernel) (by decide +kernel)
set_option maxRecDepth 20000 in
theorem gX0_treat_X0_registerJustLeft : GoodIn wsX0_treat (wsV RX0 116 RX0 yX0_registerJustLeft wsX0_registerJustLeft) := goodIn_app (goodIn_of _ (by decide +kernel)) ggX0_treat_X0_registerJustLeft
set_option maxRecDepth 20000 in
theorem ggX0_treat_X1_kindOf : GoodIn wsX0_treat wsX1_kindOf := goodIn_r _ [143, 60, 9, 10, 11, 6, 12, 13, 159, 160, 161, 162, 163, 164] (by decide +kernel) (by decide +kernel)
set_option maxRecDepth 20000 in
theorem gX0_treat_X1_kindOf : GoodIn wsX0_treat (wsV RX0 119 RX1 yX1_kindOf wsX1_kindOf) := goodIn_app (goodIn_of _ (by decide +kernel)) ggX0_treat_X1_kindOf
set_option maxRecDepth 20000 in
theorem ggX0_treat_X3_append : GoodIn wsX0_treat wsX3_append := goodIn_r _ [81, 82, 83, 84, 165, 166, 167] (by decide +kernel) (by decide +kernel)
set_option maxRecDepth 20000 in
theorem gX0_treat_X3_append : GoodIn wsX0_treat (wsV RX0 122 RX3 yX3_append wsX3_append) := goodIn_app (goodIn_of _ (by decide +kernel)) ggX0_treat_X3_append
set_option maxRecDepth 20000 in
theorem ggX0_treat_X0_beginPiece : GoodIn wsX0_treat wsX0_beginPiece := goodIn_r _ [117, 37, 24, 72, 71, 25, 26, 22, 27, 38, 39, 40, 41, 32, 77, 78, 79, 80, 81, 82, 83, 84, 148, 149, 150, 151, 152, 153, 154, 155, 156, 157, 158, 165, 166, 167] (by decide +kernel) (by decide +kernel)
set_option maxRecDepth 20000 in
theorem gX0_treat_X0_beginPiece : GoodIn wsX0_treat (wsV RX0 126 RX0 yX0_beginPiece wsX0_beginPiece) := goodIn_app (goodIn_of _ (by decide +kernel)) ggX0_treat_X0_beginPiece
set_option maxRecDepth 20000 in
theorem ggX0_treat_X0_readAt : GoodIn wsX0_treat wsX0_readAt := goodIn_r _ [147, 71, 72, 25, 26, 22, 27, 85, 86, 87, 80, 88, 84, 89, 90, 91, 92, 82, 148, 149, 150, 151, 152, 153, 154, 155, 156, 157, 158, 165, 166, 167] (by decide +kernel) (by decide +kernel)
set_option maxRecDepth 20000 in
theorem gX0_treat_X0_readAt : GoodIn wsX0_treat (wsV RX0 130 RX0 yX0_readAt wsX0_readAt) := goodIn_app (goodIn_of _ (by decide +kernel)) ggX0_treat_X0_readAt
theorem dX0_treat_0 : decode cX0_treat 0 = .ok (.aload_n 0, 1) := by decide +kernel
theorem dX0_treat_1 : decode cX0_treat 1 = .ok (.getfield 9, 3) := by decide +kernel
theorem dX0_treat_4 : decode cX0_treat 4 = .ok (.iload_n 1, 1) := by decide +kernel
theorem dX0_treat_5 : decode cX0_treat 5 = .ok (.invokevirtual 91, 3) := by decide +kernel
theorem dX0_treat_8 : decode cX0_treat 8 = .ok (.istore_n 2, 1) := by decide +kernel
theorem dX0_treat_9 : decode cX0_treat 9 = .ok (.aload_n 0, 1) := by decide +kernel
theorem dX0_treat_10 : decode cX0_treat 10 = .ok (.getfield 9, 3) := by decide +kernel
theorem dX0_treat_13 : decode cX0_treat 13 = .ok (.iload_n 1, 1) := by decide +kernel
theorem dX0_treat_14 : decode cX0_treat 14 = .ok (.invokevirtual 94, 3) := by decide +kernel
theorem dX0_treat_17 : decode cX0_treat 17 = .ok (.istore_n 3, 1) := by decide +kernel
theorem dX0_treat_18 : decode cX0_treat 18 = .ok (.aload_n 0, 1) := by decide +kernel
theorem dX0_treat_19 : decode cX0_treat 19 = .ok (.iload_n 2, 1) := by decide +kernel
theorem dX0_treat_20 : decode cX0_treat 20 = .ok (.invokevirtual 97, 3) := by decide +kernel
theorem dX0_treat_23 : decode cX0_treat 23 = .ok (.ifCond .eq 14, 3) := by decide +kernel
theorem dX0_treat_26 : decode cX0_treat 26 = .ok (.aload_n 0, 1) := by decide +kernel
theorem dX0_treat_27 : decode cX0_treat 27 = .ok (.iload_n 2, 1) := by decide +kernel
theorem dX0_treat_28 : decode cX0_treat 28 = .ok (.aload_n 0, 1) := by decide +kernel
theorem dX0_treat_29 : decode cX0_treat 29 = .ok (.iload_n 2, 1) := by decide +kernel
theorem dX0_treat_30 : decode cX0_treat 30 = .ok (.iload_n 3, 1) := by decide +kernel
theorem dX0_treat_31 : decode cX0_treat 31 = .ok (.invokevirtual 100, 3) := by decide +kernel
theorem dX0_treat_34 : decode cX0_treat 34 = .ok (.invokevirtual 103, 3) := by decide +kernel
theorem dX0_treat_37 : decode cX0_treat 37 = .ok (.aload_n 0, 1) := by decide +kernel
theorem dX0_treat_38 : decode cX0_treat 38 = .ok (.iload_n 3, 1) := by decide +kernel
theorem dX0_treat_39 : decode cX0_treat 39 = .ok (.invokevirtual 97, 3) := by decide +kernel
theorem dX0_treat_42 : decode cX0_treat 42 = .ok (.ifCond .eq 14, 3) := by decide +kernel
theorem dX0_treat_45 : decode cX0_treat 45 = .ok (.aload_n 0, 1) := by decide +kernel
theorem dX0_treat_46 : decode cX0_treat 46 = .ok (.iload_n 3, 1) := by decide +kernel
theorem dX0_treat_47 : decode cX0_treat 47 = .ok (.aload_n 0, 1) := by decide +kernel
theorem dX0_treat_48 : decode cX0_treat 48 = .ok (.iload_n 2, 1) := by decide +kernel
theorem dX0_treat_49 : decode cX0_treat 49 = .ok (.iload_n 3, 1) := by decide +kernel
theorem dX0_treat_50 : decode cX0_treat 50 = .ok (.invokevirtual 100, 3) := by decide +kernel
theorem dX0_treat_53 : decode cX0_treat 53 = .ok (.invokevirtual 103, 3) := by decide +kernel
theorem dX0_treat_56 : decode cX0_treat 56 = .ok (.aload_n 0, 1) := by decide +kernel
theorem dX0_treat_57 : decode cX0_treat 57 = .ok (.iload_n 2, 1) := by decide +kernel
theorem dX0_treat_58 : decode cX0_treat 58 = .ok (.invokevirtual 107, 3) := by decide +kernel
theorem dX0_treat_61 : decode cX0_treat 61 = .ok (.istore 4, 2) := by decide +kernel
theorem dX0_treat_63 : decode cX0_treat 63 = .ok (.aload_n 0, 1) := by decide +kernel
theorem dX0_treat_64 : decode cX0_treat 64 = .ok (.iload_n 3, 1) := by decide +kernel
theorem dX0_treat_65 : decode cX0_treat 65 = .ok (.invokevirtual 107, 3) := by decide +kernel
theorem dX0_treat_68 : decode cX0_treat 68 = .ok (.istore 5, 2) := by decide +kernel
theorem dX0_treat_70 : decode cX0_treat 70 = .ok (.aload_n 0, 1) := by decide +kernel
theorem dX0_treat_71 : decode cX0_treat 71 = .ok (.iload_n 2, 1) := by decide +kernel
theorem dX0_treat_72 : decode cX0_treat 72 = .ok (.iload_n 1, 1) := by decide +kernel
theorem dX0_treat_73 : decode cX0_treat 73 = .ok (.invokevirtual 110, 3) := by decide +kernel
theorem dX0_treat_76 : decode cX0_treat 76 = .ok (.aload_n 0, 1) := by decide +kernel
theorem dX0_treat_77 : decode cX0_treat 77 = .ok (.iload_n 3, 1) := by decide +kernel
theorem dX0_treat_78 : decode cX0_treat 78 = .ok (.iload_n 1, 1) := by decide +kernel
theorem dX0_treat_79 : decode cX0_treat 79 = .ok (.invokevirtual 110, 3) := by decide +kernel
theorem dX0_treat_82 : decode cX0_treat 82 = .ok (.aload_n 0, 1) := by decide +kernel
theorem dX0_treat_83 : decode cX0_treat 83 = .ok (.getfield 9, 3) := by decide +kernel
theorem dX0_treat_86 : decode cX0_treat 86 = .ok (.iload_n 1, 1) := by decide +kernel
theorem dX0_treat_87 : decode cX0_treat 87 = .ok (.invokevirtual 113, 3) := by decide +kernel
theorem dX0_treat_90 : decode cX0_treat 90 = .ok (.ifCond .eq 62, 3) := by decide +kernel
theorem dX0_treat_93 : decode cX0_treat 93 = .ok (.aload_n 0, 1) := by decide +kernel
theorem dX0_treat_94 : decode cX0_treat 94 = .ok (.iload 4, 2) := by decide +kernel
theorem dX0_treat_96 : decode cX0_treat 96 = .ok (.iload 5, 2) := by decide +kernel
theorem dX0_treat_98 : decode cX0_treat 98 = .ok (.invokevirtual 116, 3) := by decide +kernel
theorem dX0_treat_101 : decode cX0_treat 101 = .ok (.istore 7, 2) := by decide +kernel
theorem dX0_treat_103 : decode cX0_treat 103 = .ok (.iload 7, 2) := by decide +kernel
theorem dX0_treat_105 : decode cX0_treat 105 = .ok (.iconst (-1), 1) := by decide +kernel
theorem dX0_treat_106 : decode cX0_treat 106 = .ok (.if_icmp .ne 11, 3) := by decide +kernel
theorem dX0_treat_109 : decode cX0_treat 109 = .ok (.aload_n 0, 1) := by decide +kernel
theorem dX0_treat_110 : decode cX0_treat 110 = .ok (.iconst (-1), 1) := by decide +kernel
theorem dX0_treat_111 : decode cX0_treat 111 = .ok (.iconst (-1), 1) := by decide +kernel
theorem dX0_treat_112 : decode cX0_treat 112 = .ok (.invokevirtual 100, 3) := by decide +kernel
theorem dX0_treat_115 : decode cX0_treat 115 = .ok (.istore 7, 2) := by decide +kernel
theorem dX0_treat_117 : decode cX0_treat 117 = .ok (.aload_n 0, 1) := by decide +kernel
theorem dX0_treat_118 : decode cX0_treat 118 = .ok (.getfield 20, 3) := by decide +kernel
theorem dX0_treat_121 : decode cX0_treat 121 = .ok (.aload_n 0, 1) := by decide +kernel
theorem dX0_treat_122 : decode cX0_treat 122 = .ok (.getfield 9, 3) := by decide +kernel
theorem dX0_treat_125 : decode cX0_treat 125 = .ok (.iload_n 1, 1) := by decide +kernel
theorem dX0_treat_126 : decode cX0_treat 126 = .ok (.invokevirtual 119, 3) := by decide +kernel
theorem dX0_treat_129 : decode cX0_treat 129 = .ok (.iload 7, 2) := by decide +kernel
theorem dX0_treat_131 : decode cX0_treat 131 = .ok (.iload 4, 2) := by decide +kernel
theorem dX0_treat_133 : decode cX0_treat 133 = .ok (.iload 5, 2) := by decide +kernel
theorem dX0_treat_135 : decode cX0_treat 135 = .ok (.invokevirtual 122, 3) := by decide +kernel
theorem dX0_treat_138 : decode cX0_treat 138 = .ok (.istore 6, 2) := by decide +kernel
theorem dX0_treat_140 : decode cX0_treat 140 = .ok (.aload_n 0, 1) := by decide +kernel
theorem dX0_treat_141 : decode cX0_treat 141 = .ok (.iload_n 1, 1) := by decide +kernel
theorem dX0_treat_142 : decode cX0_treat 142 = .ok (.iload 7, 2) := by decide +kernel
theorem dX0_treat_144 : decode cX0_treat 144 = .ok (.iload 6, 2) := by decide +kernel
theorem dX0_treat_146 : decode cX0_treat 146 = .ok (.invokevirtual 126, 3) := by decide +kernel
theorem dX0_treat_149 : decode cX0_treat 149 = .ok (.goto 18, 3) := by decide +kernel
theorem dX0_treat_152 : decode cX0_treat 152 = .ok (.aload_n 0, 1) := by decide +kernel
theorem dX0_treat_153 : decode cX0_treat 153 = .ok (.getfield 20, 3) := by decide +kernel
theorem dX0_treat_156 : decode cX0_treat 156 = .ok (.bipush 6, 2) := by decide +kernel
theorem dX0_treat_158 : decode cX0_treat 158 = .ok (.iload 4, 2) := by decide +kernel
theorem dX0_treat_160 : decode cX0_treat 160 = .ok (.iconst (-1), 1) := by decide +kernel
theorem dX0_treat_161 : decode cX0_treat 161 = .ok (.iconst (-1), 1) := by decide +kernel
theorem dX0_treat_162 : decode cX0_treat 162 = .ok (.invokevirtual 122, 3) := by decide +kernel
theorem dX0_treat_165 : decode cX0_treat 165 = .ok (.istore 6, 2) := by decide +kernel
theorem dX0_treat_167 : decode cX0_treat 167 = .ok (.aload_n 0, 1) := by decide +kernel
theorem dX0_treat_168 : decode cX0_treat 168 = .ok (.iload_n 2, 1) := by decide +kernel
theorem dX0_treat_169 : decode cX0_treat 169 = .ok (.iload 6, 2) := by decide +kernel
theorem dX0_treat_171 : decode cX0_treat 171 = .ok (.invokevirtual 130, 3) := by decide +kernel
theorem dX0_treat_174 : decode cX0_treat 174 = .ok (.aload_n 0, 1) := by decide +kernel
theorem dX0_treat_175 : decode cX0_treat 175 = .ok (.iload_n 3, 1) := by decide +kernel
theorem dX0_treat_176 : decode cX0_treat 176 = .ok (.iload 6, 2) := by decide +kernel
theorem dX0_treat_178 : decode cX0_treat 178 = .ok (.invokevirtual 130, 3) := by decide +kernel
theorem dX0_treat_181 : decode cX0_treat 181 = .ok (.return_, 1) := by decide +kernel
set_option maxRecDepth 20000 in
theorem ggX0_isMissing_X0_isRow : GoodIn wsX0_isMissing wsX0_isRow := goodIn_r _ [5] (by decide +kernel) (by decide +kernel)
set_option maxRecDepth 20000 in
theorem gX0_isMissing_X0_isRow : GoodIn wsX0_isMissing (va_wsS RX0 133 yX0_isRow wsX0_isRow) := goodIn_app (goodIn_of _ (by decide +kernel)) ggX0_isMissing_X0_isRow
theorem dX0_isMissing_0 : decode cX0_isMissing 0 = .ok (.iload_n 1, 1) := by decide +kernel
theorem dX0_isMissing_1 : decode cX0_isMissing 1 = .ok (.invokestatic 133, 3) := by decide +kernel
theorem dX0_isMissing_4 : decode cX0_isMissing 4 = .ok (.ifCond .eq 17, 3) := by decide +kernel
theorem dX0_isMissing_7 : decode cX0_isMissing 7 = .ok (.aload_n 0, 1) := by decide +kernel
theorem dX0_isMissing_8 : decode cX0_isMissing 8 = .ok (.getfield 31, 3) := by decide +kernel
theorem dX0_isMissing_11 : decode cX0_isMissing 11 = .ok (.iload_n 1, 1) := by decide +kernel
theorem dX0_isMissing_12 : decode cX0_isMissing 12 = .ok (.iaload, 1) := by decide +kernel
theorem dX0_isMissing_13 : decode cX0_isMissing 13 = .ok (.iconst (-1), 1) := by decide +kernel
theorem dX0_isMissing_14 : decode cX0_isMissing 14 = .ok (.if_icmp .ne 7, 3) := by decide +kernel
theorem dX0_isMissing_17 : decode cX0_isMissing 17 = .ok (.iconst 1, 1) := by decide +kernel
theorem dX0_isMissing_18 : decode cX0_isMissing 18 = .ok (.goto 4, 3) := by decide +kernel
theorem dX0_isMissing_21 : decode cX0_isMissing 21 = .ok (.iconst 0, 1) := by decide +kernel
theorem dX0_isMissing_22 : decode cX0_isMissing 22 = .ok (.ireturn, 1) := by decide +kernel
set_option maxRecDepth 20000 in
theorem ggX0_fetch_X1_isConst : GoodIn wsX0_fetch wsX1_isConst := goodIn_r _ [7, 8, 9, 60, 61, 62, 63, 64, 65] (by decide +kernel) (by decide +kernel)
set_option maxRecDepth 20000 in
theorem gX0_fetch_X1_isConst : GoodIn wsX0_fetch (wsV RX0 71 RX1 yX1_isConst wsX1_isConst) := goodIn_app (goodIn_of _ (by decide +kernel)) ggX0_fetch_X1_isConst
set_option maxRecDepth 20000 in
theorem ggX0_fetch_X1_intOf : GoodIn wsX0_fetch wsX1_intOf := goodIn_r _ [13, 14, 15, 16, 17, 6, 18, 8, 60, 61, 62, 63, 64, 65] (by decide +kernel) (by decide +kernel)
set_option maxRecDepth 20000 in
theorem gX0_fetch_X1_intOf : GoodIn wsX0_fetch (wsV RX0 136 RX1 yX1_intOf wsX1_intOf) := goodIn_app (goodIn_of _ (by decide +kernel)) ggX0_fetch_X1_intOf
set_option maxRecDepth 20000 in
theorem ggX0_fetch_X3_append : GoodIn wsX0_fetch wsX3_append := goodIn_r _ [23, 24, 25, 26, 66, 67, 68] (by decide +kernel) (by decide +kernel)
set_option maxRecDepth 20000 in
theorem gX0_fetch_X3_append : GoodIn wsX0_fetch (wsV RX0 122 RX3 yX3_append wsX3_append) := goodIn_app (goodIn_of _ (by decide +kernel)) ggX0_fetch_X3_append
set_option maxRecDepth 20000 in
theorem ggX0_fetch_X0_slotHolding : GoodIn wsX0_fetch wsX0_slotHolding := goodIn_r _ [31, 32, 33, 34, 30, 35, 49, 50, 51, 52, 53, 54, 55, 56, 57, 58, 59] (by decide +kernel) (by decide +kernel)
set_option maxRecDepth 20000 in
theorem gX0_fetch_X0_slotHolding : GoodIn wsX0_fetch (wsV RX0 139 RX0 yX0_slotHolding wsX0_slotHolding) := goodIn_app (goodIn_of _ (by decide +kernel)) ggX0_fetch_X0_slotHolding
set_option maxRecDepth 20000 in
theorem ggX0_fetch_X0_beginPiece : GoodIn wsX0_fetch wsX0_beginPiece := goodIn_r _ [39, 40, 41, 42, 43, 33, 34, 30, 35, 44, 45, 46, 47, 48, 19, 20, 21, 22, 23, 24, 25, 26, 49, 50, 51, 52, 53, 54, 55, 56, 57, 58, 59, 66, 67, 68] (by decide +kernel) (by decide +kernel)
set_option maxRecDepth 20000 in
theorem gX0_fetch_X0_beginPiece : GoodIn wsX0_fetch (wsV RX0 126 RX0 yX0_beginPiece wsX0_beginPiece) := goodIn_app (goodIn_of _ (by decide +kernel)) ggX0_fetch_X0_beginPiece
theorem dX0_fetch_0 : decode cX0_fetch 0 = .ok (.aload_n 0, 1) := by decide +kernel
theorem dX0_fetch_1 : decode cX0_fetch 1 = .ok (.getfield 9, 3) := by decide +kernel
theorem dX0_fetch_4 : decode cX0_fetch 4 = .ok (.iload_n 1, 1) := by decide +kernel
theorem dX0_fetch_5 : decode cX0_fetch 5 = .ok (.invokevirtual 71, 3) := by decide +kernel
theorem dX0_fetch_8 : decode cX0_fetch 8 = .ok (.ifCond .eq 25, 3) := by decide +kernel
theorem dX0_fetch_11 : decode cX0_fetch 11 = .ok (.aload_n 0, 1) := by decide +kernel
theorem dX0_fetch_12 : decode cX0_fetch 12 = .ok (.getfield 20, 3) := by decide +kernel
theorem dX0_fetch_15 : decode cX0_fetch 15 = .ok (.iconst 0, 1) := by decide +kernel
theorem dX0_fetch_16 : decode cX0_fetch 16 = .ok (.iload_n 2, 1) := by decide +kernel
theorem dX0_fetch_17 : decode cX0_fetch 17 = .ok (.aload_n 0, 1) := by decide +kernel
theorem dX0_fetch_18 : decode cX0_fetch 18 = .ok (.getfield 9, 3) := by decide +kernel
theorem dX0_fetch_21 : decode cX0_fetch 21 = .ok (.iload_n 1, 1) := by decide +kernel
theorem dX0_fetch_22 : decode cX0_fetch 22 = .ok (.invokevirtual 136, 3) := by decide +kernel
theorem dX0_fetch_25 : decode cX0_fetch 25 = .ok (.iconst (-1), 1) := by decide +kernel
theorem dX0_fetch_26 : decode cX0_fetch 26 = .ok (.invokevirtual 122, 3) := by decide +kernel
theorem dX0_fetch_29 : decode cX0_fetch 29 = .ok (.istore_n 3, 1) := by decide +kernel
theorem dX0_fetch_30 : decode cX0_fetch 30 = .ok (.goto 20, 3) := by decide +kernel
theorem dX0_fetch_33 : decode cX0_fetch 33 = .ok (.aload_n 0, 1) := by decide +kernel
theorem dX0_fetch_34 : decode cX0_fetch 34 = .ok (.getfield 20, 3) := by decide +kernel
theorem dX0_fetch_37 : decode cX0_fetch 37 = .ok (.bipush 7, 2) := by decide +kernel
theorem dX0_fetch_39 : decode cX0_fetch 39 = .ok (.iload_n 2, 1) := by decide +kernel
theorem dX0_fetch_40 : decode cX0_fetch 40 = .ok (.aload_n 0, 1) := by decide +kernel
theorem dX0_fetch_41 : decode cX0_fetch 41 = .ok (.iload_n 1, 1) := by decide +kernel
theorem dX0_fetch_42 : decode cX0_fetch 42 = .ok (.invokevirtual 139, 3) := by decide +kernel
theorem dX0_fetch_45 : decode cX0_fetch 45 = .ok (.iconst (-1), 1) := by decide +kernel
theorem dX0_fetch_46 : decode cX0_fetch 46 = .ok (.invokevirtual 122, 3) := by decide +kernel
theorem dX0_fetch_49 : decode cX0_fetch 49 = .ok (.istore_n 3, 1) := by decide +kernel
theorem dX0_fetch_50 : decode cX0_fetch 50 = .ok (.aload_n 0, 1) := by decide +kernel
theorem dX0_fetch_51 : decode cX0_fetch 51 = .ok (.iload_n 1, 1) := by decide +kernel
theorem dX0_fetch_52 : decode cX0_fetch 52 = .ok (.iload_n 2, 1) := by decide +kernel
theorem dX0_fetch_53 : decode cX0_fetch 53 = .ok (.iload_n 3, 1) := by decide +kernel
theorem dX0_fetch_54 : decode cX0_fetch 54 = .ok (.invokevirtual 126, 3) := by decide +kernel
theorem dX0_fetch_57 : decode cX0_fetch 57 = .ok (.return_, 1) := by decide +kernel
set_option maxRecDepth 20000 in
theorem ggX0_moveToNextUse_X0_isRow : GoodIn wsX0_moveToNextUse wsX0_isRow := goodIn_r _ [6] (by decide +kernel) (by decide +kernel)
set_option maxRecDepth 20000 in
theorem gX0_moveToNextUse_X0_isRow : GoodIn wsX0_moveToNextUse (va_wsS RX0 133 yX0_isRow wsX0_isRow) := goodIn_app (goodIn_of _ (by decide +kernel)) ggX0_moveToNextUse_X0_isRow
set_option maxRecDepth 20000 in
theorem ggX0_moveToNextUse_X1_firstUse : GoodIn wsX0_moveToNextUse wsX1_firstUse := goodIn_r _ [11, 12, 13, 14, 15, 16, 17, 18, 19, 20, 21, 22, 10, 23, 60, 61, 62, 63, 64, 65] (by decide +kernel) (by decide +kernel)
set_option maxRecDepth 20000 in
theorem gX0_moveToNextUse_X1_firstUse : GoodIn wsX0_moveToNextUse (wsV RX0 88 RX1 yX1_firstUse wsX1_firstUse) := goodIn_app (goodIn_of _ (by decide +kernel)) ggX0_moveToNextUse_X1_firstUse
set_option maxRecDepth 20000 in
theorem ggX0_moveToNextUse_X0_leaveRegister : GoodIn wsX0_moveToNextUse wsX0_leaveRegister := goodIn_r _ [27, 28, 29, 30, 31, 32, 5, 33, 3, 4, 6, 34, 35, 36, 37, 38, 49, 50, 51, 52, 53, 54, 55, 56, 57, 58, 59] (by decide +kernel) (by decide +kernel)
set_option maxRecDepth 20000 in
theorem gX0_moveToNextUse_X0_leaveRegister : GoodIn wsX0_moveToNextUse (wsV RX0 142 RX0 yX0_leaveRegister wsX0_leaveRegister) := goodIn_app (goodIn_of _ (by decide +kernel)) ggX0_moveToNextUse_X0_leaveRegister
set_option maxRecDepth 20000 in
theorem ggX0_moveToNextUse_X0_freeSlot : GoodIn wsX0_moveToNextUse wsX0_freeSlot := goodIn_r _ [42, 43, 44, 45, 46, 47, 5, 48, 3, 4, 6, 49, 50, 51, 52, 53, 54, 55, 56, 57, 58, 59] (by decide +kernel) (by decide +kernel)
set_option maxRecDepth 20000 in
theorem gX0_moveToNextUse_X0_freeSlot : GoodIn wsX0_moveToNextUse (wsV RX0 145 RX0 yX0_freeSlot wsX0_freeSlot) := goodIn_app (goodIn_of _ (by decide +kernel)) ggX0_moveToNextUse_X0_freeSlot
theorem dX0_moveToNextUse_0 : decode cX0_moveToNextUse 0 = .ok (.iload_n 1, 1) := by decide +kernel
theorem dX0_moveToNextUse_1 : decode cX0_moveToNextUse 1 = .ok (.invokestatic 133, 3) := by decide +kernel
theorem dX0_moveToNextUse_4 : decode cX0_moveToNextUse 4 = .ok (.ifCond .ne 4, 3) := by decide +kernel
theorem dX0_moveToNextUse_7 : decode cX0_moveToNextUse 7 = .ok (.return_, 1) := by decide +kernel
theorem dX0_moveToNextUse_8 : decode cX0_moveToNextUse 8 = .ok (.aload_n 0, 1) := by decide +kernel
theorem dX0_moveToNextUse_9 : decode cX0_moveToNextUse 9 = .ok (.getfield 40, 3) := by decide +kernel
theorem dX0_moveToNextUse_12 : decode cX0_moveToNextUse 12 = .ok (.iload_n 1, 1) := by decide +kernel
theorem dX0_moveToNextUse_13 : decode cX0_moveToNextUse 13 = .ok (.aload_n 0, 1) := by decide +kernel
theorem dX0_moveToNextUse_14 : decode cX0_moveToNextUse 14 = .ok (.getfield 9, 3) := by decide +kernel
theorem dX0_moveToNextUse_17 : decode cX0_moveToNextUse 17 = .ok (.iload_n 1, 1) := by decide +kernel
theorem dX0_moveToNextUse_18 : decode cX0_moveToNextUse 18 = .ok (.iload_n 2, 1) := by decide +kernel
theorem dX0_moveToNextUse_19 : decode cX0_moveToNextUse 19 = .ok (.iconst 1, 1) := by decide +kernel
theorem dX0_moveToNextUse_20 : decode cX0_moveToNextUse 20 = .ok (.iadd, 1) := by decide +kernel
theorem dX0_moveToNextUse_21 : decode cX0_moveToNextUse 21 = .ok (.invokevirtual 88, 3) := by decide +kernel
theorem dX0_moveToNextUse_24 : decode cX0_moveToNextUse 24 = .ok (.iastore, 1) := by decide +kernel
theorem dX0_moveToNextUse_25 : decode cX0_moveToNextUse 25 = .ok (.aload_n 0, 1) := by decide +kernel
theorem dX0_moveToNextUse_26 : decode cX0_moveToNextUse 26 = .ok (.getfield 40, 3) := by decide +kernel
theorem dX0_moveToNextUse_29 : decode cX0_moveToNextUse 29 = .ok (.iload_n 1, 1) := by decide +kernel
theorem dX0_moveToNextUse_30 : decode cX0_moveToNextUse 30 = .ok (.iaload, 1) := by decide +kernel
theorem dX0_moveToNextUse_31 : decode cX0_moveToNextUse 31 = .ok (.iconst (-1), 1) := by decide +kernel
theorem dX0_moveToNextUse_32 : decode cX0_moveToNextUse 32 = .ok (.if_icmp .ne 13, 3) := by decide +kernel
theorem dX0_moveToNextUse_35 : decode cX0_moveToNextUse 35 = .ok (.aload_n 0, 1) := by decide +kernel
theorem dX0_moveToNextUse_36 : decode cX0_moveToNextUse 36 = .ok (.iload_n 1, 1) := by decide +kernel
theorem dX0_moveToNextUse_37 : decode cX0_moveToNextUse 37 = .ok (.invokevirtual 142, 3) := by decide +kernel
theorem dX0_moveToNextUse_40 : decode cX0_moveToNextUse 40 = .ok (.aload_n 0, 1) := by decide +kernel
theorem dX0_moveToNextUse_41 : decode cX0_moveToNextUse 41 = .ok (.iload_n 1, 1) := by decide +kernel
theorem dX0_moveToNextUse_42 : decode cX0_moveToNextUse 42 = .ok (.invokevirtual 145, 3) := by decide +kernel
theorem dX0_moveToNextUse_45 : decode cX0_moveToNextUse 45 = .ok (.return_, 1) := by decide +kernel
set_option maxRecDepth 20000 in
theorem ggX0_registerJustLeft_X0_isFree : GoodIn wsX0_registerJustLeft wsX0_isFree := goodIn_r _ [5, 6, 7, 8, 9, 4, 10, 11, 12, 13, 14, 15, 16, 17, 18, 19, 20, 21, 22] (by decide +kernel) (by decide +kernel)
set_option maxRecDepth 20000 in
theorem gX0_registerJustLeft_X0_isFree : GoodIn wsX0_registerJustLeft (wsV RX0 148 RX0 yX0_isFree wsX0_isFree) := goodIn_app (goodIn_of _ (by decide +kernel)) ggX0_registerJustLeft_X0_isFree
theorem dX0_registerJustLeft_0 : decode cX0_registerJustLeft 0 = .ok (.aload_n 0, 1) := by decide +kernel
theorem dX0_registerJustLeft_1 : decode cX0_registerJustLeft 1 = .ok (.iload_n 1, 1) := by decide +kernel
theorem dX0_registerJustLeft_2 : decode cX0_registerJustLeft 2 = .ok (.invokevirtual 148, 3) := by decide +kernel
theorem dX0_registerJustLeft_5 : decode cX0_registerJustLeft 5 = .ok (.ifCond .eq 5, 3) := by decide +kernel
theorem dX0_registerJustLeft_8 : decode cX0_registerJustLeft 8 = .ok (.iload_n 1, 1) := by decide +kernel
theorem dX0_registerJustLeft_9 : decode cX0_registerJustLeft 9 = .ok (.ireturn, 1) := by decide +kernel
theorem dX0_registerJustLeft_10 : decode cX0_registerJustLeft 10 = .ok (.aload_n 0, 1) := by decide +kernel
theorem dX0_registerJustLeft_11 : decode cX0_registerJustLeft 11 = .ok (.iload_n 2, 1) := by decide +kernel
theorem dX0_registerJustLeft_12 : decode cX0_registerJustLeft 12 = .ok (.invokevirtual 148, 3) := by decide +kernel
theorem dX0_registerJustLeft_15 : decode cX0_registerJustLeft 15 = .ok (.ifCond .eq 7, 3) := by decide +kernel
theorem dX0_registerJustLeft_18 : decode cX0_registerJustLeft 18 = .ok (.iload_n 2, 1) := by decide +kernel
theorem dX0_registerJustLeft_19 : decode cX0_registerJustLeft 19 = .ok (.goto 4, 3) := by decide +kernel
theorem dX0_registerJustLeft_22 : decode cX0_registerJustLeft 22 = .ok (.iconst (-1), 1) := by decide +kernel
theorem dX0_registerJustLeft_23 : decode cX0_registerJustLeft 23 = .ok (.ireturn, 1) := by decide +kernel
set_option maxRecDepth 20000 in
theorem ggX0_getRegister_X0_isFree : GoodIn wsX0_getRegister wsX0_isFree := goodIn_r _ [6, 7, 8, 9, 10, 5, 11, 1, 79, 80, 81, 82, 83, 84, 85, 86, 87, 88, 89] (by decide +kernel) (by decide +kernel)
set_option maxRecDepth 20000 in
theorem gX0_getRegister_X0_isFree : GoodIn wsX0_getRegister (wsV RX0 148 RX0 yX0_isFree wsX0_isFree) := goodIn_app (goodIn_of _ (by decide +kernel)) ggX0_getRegister_X0_isFree
set_option maxRecDepth 20000 in
theorem ggX0_getRegister_X0_registerToLose : GoodIn wsX0_getRegister wsX0_registerToLose := goodIn_r _ [15, 1, 16, 17, 18, 5, 19, 7, 8, 9, 10, 11, 20, 21, 22, 23, 24, 25, 26, 27, 28, 29, 30, 31, 32, 33, 34, 35, 36, 79, 80, 81, 82, 83, 84, 85, 86, 87, 88, 89, 90, 91, 92, 93, 94, 95] (by decide +kernel) (by decide +kernel)
set_option maxRecDepth 20000 in
theorem gX0_getRegister_X0_registerToLose : GoodIn wsX0_getRegister (wsV RX0 151 RX0 yX0_registerToLose wsX0_registerToLose) := goodIn_app (goodIn_of _ (by decide +kernel)) ggX0_getRegister_X0_registerToLose
set_option maxRecDepth 20000 in
theorem ggX0_getRegister_X0_valueHeldIn : GoodIn wsX0_getRegister wsX0_valueHeldIn := goodIn_r _ [19, 7, 8, 9, 10, 5, 11, 1, 79, 80, 81, 82, 83, 84, 85, 86, 87, 88, 89] (by decide +kernel) (by decide +kernel)
set_option maxRecDepth 20000 in
theorem gX0_getRegister_X0_valueHeldIn : GoodIn wsX0_getRegister (wsV RX0 154 RX0 yX0_valueHeldIn wsX0_valueHeldIn) := goodIn_app (goodIn_of _ (by decide +kernel)) ggX0_getRegister_X0_valueHeldIn
set_option maxRecDepth 20000 in
theorem ggX0_getRegister_X0_storeIfNeeded : GoodIn wsX0_getRegister wsX0_storeIfNeeded := goodIn_r _ [40, 25, 26, 41, 42, 43, 44, 45, 46, 47, 48, 49, 27, 28, 5, 29, 30, 31, 32, 33, 34, 35, 36, 50, 51, 52, 53, 54, 55, 56, 57, 58, 59, 60, 61, 62, 63, 64, 65, 66, 67, 68, 69, 79, 80, 81, 82, 83, 84, 85, 86, 87, 88, 89, 90, 91, 92, 93, 94, 95, 96, 97, 98] (by decide +kernel) (by decide +kernel)
set_option maxRecDepth 20000 in
theorem gX0_getRegister_X0_storeIfNeeded : GoodIn wsX0_getRegister (wsV RX0 157 RX0 yX0_storeIfNeeded wsX0_storeIfNeeded) := goodIn_app (goodIn_of _ (by decide +kernel)) ggX0_getRegister_X0_storeIfNeeded
set_option maxRecDepth 20000 in
theorem ggX0_getRegister_X0_leaveRegister : GoodIn wsX0_getRegister wsX0_leaveRegister := goodIn_r _ [73, 7, 74, 75, 76, 77, 5, 78, 27, 28, 29, 8, 9, 10, 11, 1, 79, 80, 81, 82, 83, 84, 85, 86, 87, 88, 89] (by decide +kernel) (by decide +kernel)
set_option maxRecDepth 20000 in
theorem gX0_getRegister_X0_leaveRegister : GoodIn wsX0_getRegister (wsV RX0 142 RX0 yX0_leaveRegister wsX0_leaveRegister) := goodIn_app (goodIn_of _ (by decide +kernel)) ggX0_getRegister_X0_leaveRegister
theorem dX0_getRegister_0 : decode cX0_getRegister 0 = .ok (.iconst 0, 1) := by decide +kernel
theorem dX0_getRegister_1 : decode cX0_getRegister 1 = .ok (.istore_n 3, 1) := by decide +kernel
theorem dX0_getRegister_2 : decode cX0_getRegister 2 = .ok (.iload_n 3, 1) := by decide +kernel
theorem dX0_getRegister_3 : decode cX0_getRegister 3 = .ok (.aload_n 0, 1) := by decide +kernel
theorem dX0_getRegister_4 : decode cX0_getRegister 4 = .ok (.getfield 47, 3) := by decide +kernel
theorem dX0_getRegister_7 : decode cX0_getRegister 7 = .ok (.if_icmp .ge 19, 3) := by decide +kernel
theorem dX0_getRegister_10 : decode cX0_getRegister 10 = .ok (.aload_n 0, 1) := by decide +kernel
theorem dX0_getRegister_11 : decode cX0_getRegister 11 = .ok (.iload_n 3, 1) := by decide +kernel
theorem dX0_getRegister_12 : decode cX0_getRegister 12 = .ok (.invokevirtual 148, 3) := by decide +kernel
theorem dX0_getRegister_15 : decode cX0_getRegister 15 = .ok (.ifCond .eq 5, 3) := by decide +kernel
theorem dX0_getRegister_18 : decode cX0_getRegister 18 = .ok (.iload_n 3, 1) := by decide +kernel
theorem dX0_getRegister_19 : decode cX0_getRegister 19 = .ok (.ireturn, 1) := by decide +kernel
theorem dX0_getRegister_20 : decode cX0_getRegister 20 = .ok (.iinc 3 1, 3) := by decide +kernel
theorem dX0_getRegister_23 : decode cX0_getRegister 23 = .ok (.goto (-21), 3) := by decide +kernel
theorem dX0_getRegister_26 : decode cX0_getRegister 26 = .ok (.aload_n 0, 1) := by decide +kernel
theorem dX0_getRegister_27 : decode cX0_getRegister 27 = .ok (.iload_n 1, 1) := by decide +kernel
theorem dX0_getRegister_28 : decode cX0_getRegister 28 = .ok (.iload_n 2, 1) := by decide +kernel
theorem dX0_getRegister_29 : decode cX0_getRegister 29 = .ok (.invokevirtual 151, 3) := by decide +kernel
theorem dX0_getRegister_32 : decode cX0_getRegister 32 = .ok (.istore_n 3, 1) := by decide +kernel
theorem dX0_getRegister_33 : decode cX0_getRegister 33 = .ok (.aload_n 0, 1) := by decide +kernel
theorem dX0_getRegister_34 : decode cX0_getRegister 34 = .ok (.iload_n 3, 1) := by decide +kernel
theorem dX0_getRegister_35 : decode cX0_getRegister 35 = .ok (.invokevirtual 154, 3) := by decide +kernel
theorem dX0_getRegister_38 : decode cX0_getRegister 38 = .ok (.istore 4, 2) := by decide +kernel
theorem dX0_getRegister_40 : decode cX0_getRegister 40 = .ok (.aload_n 0, 1) := by decide +kernel
theorem dX0_getRegister_41 : decode cX0_getRegister 41 = .ok (.iload 4, 2) := by decide +kernel
theorem dX0_getRegister_43 : decode cX0_getRegister 43 = .ok (.iload_n 3, 1) := by decide +kernel
theorem dX0_getRegister_44 : decode cX0_getRegister 44 = .ok (.invokevirtual 157, 3) := by decide +kernel
theorem dX0_getRegister_47 : decode cX0_getRegister 47 = .ok (.aload_n 0, 1) := by decide +kernel
theorem dX0_getRegister_48 : decode cX0_getRegister 48 = .ok (.iload 4, 2) := by decide +kernel
theorem dX0_getRegister_50 : decode cX0_getRegister 50 = .ok (.invokevirtual 142, 3) := by decide +kernel
theorem dX0_getRegister_53 : decode cX0_getRegister 53 = .ok (.iload_n 3, 1) := by decide +kernel
theorem dX0_getRegister_54 : decode cX0_getRegister 54 = .ok (.ireturn, 1) := by decide +kernel
set_option maxRecDepth 20000 in
theorem ggX0_registerToLose_X0_valueHeldIn : GoodIn wsX0_registerToLose wsX0_valueHeldIn := goodIn_r _ [6, 7, 8, 9, 10, 5, 11, 1, 29, 30, 31, 32, 33, 34, 35, 36, 37, 38, 39] (by decide +kernel) (by decide +kernel)
set_option maxRecDepth 20000 in
theorem gX0_registerToLose_X0_valueHeldIn : GoodIn wsX0_registerToLose (wsV RX0 154 RX0 yX0_valueHeldIn wsX0_valueHeldIn) := goodIn_app (goodIn_of _ (by decide +kernel)) ggX0_registerToLose_X0_valueHeldIn
set_option maxRecDepth 20000 in
theorem ggX0_registerToLose_X0_losesBefore : GoodIn wsX0_registerToLose wsX0_losesBefore := goodIn_r _ [15, 16, 17, 18, 19, 20, 5, 21, 22, 23, 24, 25, 26, 27, 28, 29, 30, 31, 32, 33, 34, 35, 36, 37, 38, 39, 40, 41, 42, 43, 44, 45] (by decide +kernel) (by decide +kernel)
set_option maxRecDepth 20000 in
theorem gX0_registerToLose_X0_losesBefore : GoodIn wsX0_registerToLose (wsV RX0 160 RX0 yX0_losesBefore wsX0_losesBefore) := goodIn_app (goodIn_of _ (by decide +kernel)) ggX0_registerToLose_X0_losesBefore
theorem dX0_registerToLose_0 : decode cX0_registerToLose 0 = .ok (.iconst (-1), 1) := by decide +kernel
theorem dX0_registerToLose_1 : decode cX0_registerToLose 1 = .ok (.istore_n 3, 1) := by decide +kernel
theorem dX0_registerToLose_2 : decode cX0_registerToLose 2 = .ok (.iconst 0, 1) := by decide +kernel
theorem dX0_registerToLose_3 : decode cX0_registerToLose 3 = .ok (.istore 4, 2) := by decide +kernel
theorem dX0_registerToLose_5 : decode cX0_registerToLose 5 = .ok (.iload 4, 2) := by decide +kernel
theorem dX0_registerToLose_7 : decode cX0_registerToLose 7 = .ok (.aload_n 0, 1) := by decide +kernel
theorem dX0_registerToLose_8 : decode cX0_registerToLose 8 = .ok (.getfield 47, 3) := by decide +kernel
theorem dX0_registerToLose_11 : decode cX0_registerToLose 11 = .ok (.if_icmp .ge 63, 3) := by decide +kernel
theorem dX0_registerToLose_14 : decode cX0_registerToLose 14 = .ok (.aload_n 0, 1) := by decide +kernel
theorem dX0_registerToLose_15 : decode cX0_registerToLose 15 = .ok (.iload 4, 2) := by decide +kernel
theorem dX0_registerToLose_17 : decode cX0_registerToLose 17 = .ok (.invokevirtual 154, 3) := by decide +kernel
theorem dX0_registerToLose_20 : decode cX0_registerToLose 20 = .ok (.istore 5, 2) := by decide +kernel
theorem dX0_registerToLose_22 : decode cX0_registerToLose 22 = .ok (.iload 5, 2) := by decide +kernel
theorem dX0_registerToLose_24 : decode cX0_registerToLose 24 = .ok (.iload_n 1, 1) := by decide +kernel
theorem dX0_registerToLose_25 : decode cX0_registerToLose 25 = .ok (.if_icmp .eq 13, 3) := by decide +kernel
theorem dX0_registerToLose_28 : decode cX0_registerToLose 28 = .ok (.iload 5, 2) := by decide +kernel
theorem dX0_registerToLose_30 : decode cX0_registerToLose 30 = .ok (.iload_n 2, 1) := by decide +kernel
theorem dX0_registerToLose_31 : decode cX0_registerToLose 31 = .ok (.if_icmp .eq 7, 3) := by decide +kernel
theorem dX0_registerToLose_34 : decode cX0_registerToLose 34 = .ok (.iconst 1, 1) := by decide +kernel
theorem dX0_registerToLose_35 : decode cX0_registerToLose 35 = .ok (.goto 4, 3) := by decide +kernel
theorem dX0_registerToLose_38 : decode cX0_registerToLose 38 = .ok (.iconst 0, 1) := by decide +kernel
theorem dX0_registerToLose_39 : decode cX0_registerToLose 39 = .ok (.istore 6, 2) := by decide +kernel
theorem dX0_registerToLose_41 : decode cX0_registerToLose 41 = .ok (.iload 6, 2) := by decide +kernel
theorem dX0_registerToLose_43 : decode cX0_registerToLose 43 = .ok (.ifCond .eq 25, 3) := by decide +kernel
theorem dX0_registerToLose_46 : decode cX0_registerToLose 46 = .ok (.iload_n 3, 1) := by decide +kernel
theorem dX0_registerToLose_47 : decode cX0_registerToLose 47 = .ok (.iconst (-1), 1) := by decide +kernel
theorem dX0_registerToLose_48 : decode cX0_registerToLose 48 = .ok (.if_icmp .eq 17, 3) := by decide +kernel
theorem dX0_registerToLose_51 : decode cX0_registerToLose 51 = .ok (.aload_n 0, 1) := by decide +kernel
theorem dX0_registerToLose_52 : decode cX0_registerToLose 52 = .ok (.iload 5, 2) := by decide +kernel
theorem dX0_registerToLose_54 : decode cX0_registerToLose 54 = .ok (.aload_n 0, 1) := by decide +kernel
theorem dX0_registerToLose_55 : decode cX0_registerToLose 55 = .ok (.iload_n 3, 1) := by decide +kernel
theorem dX0_registerToLose_56 : decode cX0_registerToLose 56 = .ok (.invokevirtual 154, 3) := by decide +kernel
theorem dX0_registerToLose_59 : decode cX0_registerToLose 59 = .ok (.invokevirtual 160, 3) := by decide +kernel
theorem dX0_registerToLose_62 : decode cX0_registerToLose 62 = .ok (.ifCond .eq 6, 3) := by decide +kernel
theorem dX0_registerToLose_65 : decode cX0_registerToLose 65 = .ok (.iload 4, 2) := by decide +kernel
theorem dX0_registerToLose_67 : decode cX0_registerToLose 67 = .ok (.istore_n 3, 1) := by decide +kernel
theorem dX0_registerToLose_68 : decode cX0_registerToLose 68 = .ok (.iinc 4 1, 3) := by decide +kernel
theorem dX0_registerToLose_71 : decode cX0_registerToLose 71 = .ok (.goto (-66), 3) := by decide +kernel
theorem dX0_registerToLose_74 : decode cX0_registerToLose 74 = .ok (.iload_n 3, 1) := by decide +kernel
theorem dX0_registerToLose_75 : decode cX0_registerToLose 75 = .ok (.ireturn, 1) := by decide +kernel
set_option maxRecDepth 20000 in
theorem ggX0_losesBefore_X0_isRow : GoodIn wsX0_losesBefore wsX0_isRow := goodIn_r _ [7] (by decide +kernel) (by decide +kernel)
set_option maxRecDepth 20000 in
theorem gX0_losesBefore_X0_isRow : GoodIn wsX0_losesBefore (va_wsS RX0 133 yX0_isRow wsX0_isRow) := goodIn_app (goodIn_of _ (by decide +kernel)) ggX0_losesBefore_X0_isRow
set_option maxRecDepth 20000 in
theorem ggX0_losesBefore_X1_isConst : GoodIn wsX0_losesBefore wsX1_isConst := goodIn_r _ [12, 13, 14, 26, 27, 28, 29, 30, 31] (by decide +kernel) (by decide +kernel)
set_option maxRecDepth 20000 in
theorem gX0_losesBefore_X1_isConst : GoodIn wsX0_losesBefore (wsV RX0 71 RX1 yX1_isConst wsX1_isConst) := goodIn_app (goodIn_of _ (by decide +kernel)) ggX0_losesBefore_X1_isConst
theorem dX0_losesBefore_0 : decode cX0_losesBefore 0 = .ok (.iload_n 1, 1) := by decide +kernel
theorem dX0_losesBefore_1 : decode cX0_losesBefore 1 = .ok (.invokestatic 133, 3) := by decide +kernel
theorem dX0_losesBefore_4 : decode cX0_losesBefore 4 = .ok (.ifCond .eq 10, 3) := by decide +kernel
theorem dX0_losesBefore_7 : decode cX0_losesBefore 7 = .ok (.iload_n 2, 1) := by decide +kernel
theorem dX0_losesBefore_8 : decode cX0_losesBefore 8 = .ok (.invokestatic 133, 3) := by decide +kernel
theorem dX0_losesBefore_11 : decode cX0_losesBefore 11 = .ok (.ifCond .ne 5, 3) := by decide +kernel
theorem dX0_losesBefore_14 : decode cX0_losesBefore 14 = .ok (.iconst 0, 1) := by decide +kernel
theorem dX0_losesBefore_15 : decode cX0_losesBefore 15 = .ok (.ireturn, 1) := by decide +kernel
theorem dX0_losesBefore_16 : decode cX0_losesBefore 16 = .ok (.aload_n 0, 1) := by decide +kernel
theorem dX0_losesBefore_17 : decode cX0_losesBefore 17 = .ok (.getfield 40, 3) := by decide +kernel
theorem dX0_losesBefore_20 : decode cX0_losesBefore 20 = .ok (.iload_n 1, 1) := by decide +kernel
theorem dX0_losesBefore_21 : decode cX0_losesBefore 21 = .ok (.iaload, 1) := by decide +kernel
theorem dX0_losesBefore_22 : decode cX0_losesBefore 22 = .ok (.aload_n 0, 1) := by decide +kernel
theorem dX0_losesBefore_23 : decode cX0_losesBefore 23 = .ok (.getfield 40, 3) := by decide +kernel
theorem dX0_losesBefore_26 : decode cX0_losesBefore 26 = .ok (.iload_n 2, 1) := by decide +kernel
theorem dX0_losesBefore_27 : decode cX0_losesBefore 27 = .ok (.iaload, 1) := by decide +kernel
theorem dX0_losesBefore_28 : decode cX0_losesBefore 28 = .ok (.if_icmp .eq 24, 3) := by decide +kernel
theorem dX0_losesBefore_31 : decode cX0_losesBefore 31 = .ok (.aload_n 0, 1) := by decide +kernel
theorem dX0_losesBefore_32 : decode cX0_losesBefore 32 = .ok (.getfield 40, 3) := by decide +kernel
theorem dX0_losesBefore_35 : decode cX0_losesBefore 35 = .ok (.iload_n 1, 1) := by decide +kernel
theorem dX0_losesBefore_36 : decode cX0_losesBefore 36 = .ok (.iaload, 1) := by decide +kernel
theorem dX0_losesBefore_37 : decode cX0_losesBefore 37 = .ok (.aload_n 0, 1) := by decide +kernel
theorem dX0_losesBefore_38 : decode cX0_losesBefore 38 = .ok (.getfield 40, 3) := by decide +kernel
theorem dX0_losesBefore_41 : decode cX0_losesBefore 41 = .ok (.iload_n 2, 1) := by decide +kernel
theorem dX0_losesBefore_42 : decode cX0_losesBefore 42 = .ok (.iaload, 1) := by decide +kernel
theorem dX0_losesBefore_43 : decode cX0_losesBefore 43 = .ok (.if_icmp .le 7, 3) := by decide +kernel
theorem dX0_losesBefore_46 : decode cX0_losesBefore 46 = .ok (.iconst 1, 1) := by decide +kernel
theorem dX0_losesBefore_47 : decode cX0_losesBefore 47 = .ok (.goto 4, 3) := by decide +kernel
theorem dX0_losesBefore_50 : decode cX0_losesBefore 50 = .ok (.iconst 0, 1) := by decide +kernel
theorem dX0_losesBefore_51 : decode cX0_losesBefore 51 = .ok (.ireturn, 1) := by decide +kernel
theorem dX0_losesBefore_52 : decode cX0_losesBefore 52 = .ok (.aload_n 0, 1) := by decide +kernel
theorem dX0_losesBefore_53 : decode cX0_losesBefore 53 = .ok (.getfield 9, 3) := by decide +kernel
theorem dX0_losesBefore_56 : decode cX0_losesBefore 56 = .ok (.iload_n 1, 1) := by decide +kernel
theorem dX0_losesBefore_57 : decode cX0_losesBefore 57 = .ok (.invokevirtual 71, 3) := by decide +kernel
theorem dX0_losesBefore_60 : decode cX0_losesBefore 60 = .ok (.istore_n 3, 1) := by decide +kernel
theorem dX0_losesBefore_61 : decode cX0_losesBefore 61 = .ok (.iload_n 3, 1) := by decide +kernel
theorem dX0_losesBefore_62 : decode cX0_losesBefore 62 = .ok (.aload_n 0, 1) := by decide +kernel
theorem dX0_losesBefore_63 : decode cX0_losesBefore 63 = .ok (.getfield 9, 3) := by decide +kernel
theorem dX0_losesBefore_66 : decode cX0_losesBefore 66 = .ok (.iload_n 2, 1) := by decide +kernel
theorem dX0_losesBefore_67 : decode cX0_losesBefore 67 = .ok (.invokevirtual 71, 3) := by decide +kernel
theorem dX0_losesBefore_70 : decode cX0_losesBefore 70 = .ok (.if_icmp .eq 5, 3) := by decide +kernel
theorem dX0_losesBefore_73 : decode cX0_losesBefore 73 = .ok (.iload_n 3, 1) := by decide +kernel
theorem dX0_losesBefore_74 : decode cX0_losesBefore 74 = .ok (.ireturn, 1) := by decide +kernel
theorem dX0_losesBefore_75 : decode cX0_losesBefore 75 = .ok (.aload_n 0, 1) := by decide +kernel
theorem dX0_losesBefore_76 : decode cX0_losesBefore 76 = .ok (.getfield 34, 3) := by decide +kernel
theorem dX0_losesBefore_79 : decode cX0_losesBefore 79 = .ok (.iload_n 1, 1) := by decide +kernel
theorem dX0_losesBefore_80 : decode cX0_losesBefore 80 = .ok (.iaload, 1) := by decide +kernel
theorem dX0_losesBefore_81 : decode cX0_losesBefore 81 = .ok (.iconst (-1), 1) := by decide +kernel
theorem dX0_losesBefore_82 : decode cX0_losesBefore 82 = .ok (.if_icmp .eq 17, 3) := by decide +kernel
theorem dX0_losesBefore_85 : decode cX0_losesBefore 85 = .ok (.aload_n 0, 1) := by decide +kernel
theorem dX0_losesBefore_86 : decode cX0_losesBefore 86 = .ok (.getfield 34, 3) := by decide +kernel
theorem dX0_losesBefore_89 : decode cX0_losesBefore 89 = .ok (.iload_n 2, 1) := by decide +kernel
theorem dX0_losesBefore_90 : decode cX0_losesBefore 90 = .ok (.iaload, 1) := by decide +kernel
theorem dX0_losesBefore_91 : decode cX0_losesBefore 91 = .ok (.iconst (-1), 1) := by decide +kernel
theorem dX0_losesBefore_92 : decode cX0_losesBefore 92 = .ok (.if_icmp .ne 7, 3) := by decide +kernel
theorem dX0_losesBefore_95 : decode cX0_losesBefore 95 = .ok (.iconst 1, 1) := by decide +kernel
theorem dX0_losesBefore_96 : decode cX0_losesBefore 96 = .ok (.goto 4, 3) := by decide +kernel
theorem dX0_losesBefore_99 : decode cX0_losesBefore 99 = .ok (.iconst 0, 1) := by decide +kernel
theorem dX0_losesBefore_100 : decode cX0_losesBefore 100 = .ok (.ireturn, 1) := by decide +kernel
set_option maxRecDepth 20000 in
theorem ggX0_storeIfNeeded_X0_isRow : GoodIn wsX0_storeIfNeeded wsX0_isRow := goodIn_r _ [15] (by decide +kernel) (by decide +kernel)
set_option maxRecDepth 20000 in
theorem gX0_storeIfNeeded_X0_isRow : GoodIn wsX0_storeIfNeeded (va_wsS RX0 133 yX0_isRow wsX0_isRow) := goodIn_app (goodIn_of _ (by decide +kernel)) ggX0_storeIfNeeded_X0_isRow
set_option maxRecDepth 20000 in
theorem ggX0_storeIfNeeded_X1_isConst : GoodIn wsX0_storeIfNeeded wsX1_isConst := goodIn_r _ [20, 21, 22, 54, 55, 56, 57, 58, 59] (by decide +kernel) (by decide +kernel)
set_option maxRecDepth 20000 in
theorem gX0_storeIfNeeded_X1_isConst : GoodIn wsX0_storeIfNeeded (wsV RX0 71 RX1 yX1_isConst wsX1_isConst) := goodIn_app (goodIn_of _ (by decide +kernel)) ggX0_storeIfNeeded_X1_isConst
set_option maxRecDepth 20000 in
theorem ggX0_storeIfNeeded_X0_smallestFreeSlot : GoodIn wsX0_storeIfNeeded wsX0_smallestFreeSlot := goodIn_r _ [26, 3, 43, 44, 45, 46, 47, 48, 49, 50, 51, 52, 53] (by decide +kernel) (by decide +kernel)
set_option maxRecDepth 20000 in
theorem gX0_storeIfNeeded_X0_smallestFreeSlot : GoodIn wsX0_storeIfNeeded (wsV RX0 164 RX0 yX0_smallestFreeSlot wsX0_smallestFreeSlot) := goodIn_app (goodIn_of _ (by decide +kernel)) ggX0_storeIfNeeded_X0_smallestFreeSlot
set_option maxRecDepth 20000 in
theorem ggX0_storeIfNeeded_X3_append : GoodIn wsX0_storeIfNeeded wsX3_append := goodIn_r _ [31, 32, 33, 34, 60, 61, 62] (by decide +kernel) (by decide +kernel)
set_option maxRecDepth 20000 in
theorem gX0_storeIfNeeded_X3_append : GoodIn wsX0_storeIfNeeded (wsV RX0 122 RX3 yX3_append wsX3_append) := goodIn_app (goodIn_of _ (by decide +kernel)) ggX0_storeIfNeeded_X3_append
set_option maxRecDepth 20000 in
theorem ggX0_storeIfNeeded_X3_put : GoodIn wsX0_storeIfNeeded wsX3_put := goodIn_r _ [38, 34, 39, 40, 41, 30, 42, 32, 60, 61, 62] (by decide +kernel) (by decide +kernel)
set_option maxRecDepth 20000 in
theorem gX0_storeIfNeeded_X3_put : GoodIn wsX0_storeIfNeeded (wsV RX0 167 RX3 yX3_put wsX3_put) := goodIn_app (goodIn_of _ (by decide +kernel)) ggX0_storeIfNeeded_X3_put
theorem dX0_storeIfNeeded_0 : decode cX0_storeIfNeeded 0 = .ok (.iload_n 1, 1) := by decide +kernel
theorem dX0_storeIfNeeded_1 : decode cX0_storeIfNeeded 1 = .ok (.invokestatic 133, 3) := by decide +kernel
theorem dX0_storeIfNeeded_4 : decode cX0_storeIfNeeded 4 = .ok (.ifCond .eq 24, 3) := by decide +kernel
theorem dX0_storeIfNeeded_7 : decode cX0_storeIfNeeded 7 = .ok (.aload_n 0, 1) := by decide +kernel
theorem dX0_storeIfNeeded_8 : decode cX0_storeIfNeeded 8 = .ok (.getfield 9, 3) := by decide +kernel
theorem dX0_storeIfNeeded_11 : decode cX0_storeIfNeeded 11 = .ok (.iload_n 1, 1) := by decide +kernel
theorem dX0_storeIfNeeded_12 : decode cX0_storeIfNeeded 12 = .ok (.invokevirtual 71, 3) := by decide +kernel
theorem dX0_storeIfNeeded_15 : decode cX0_storeIfNeeded 15 = .ok (.ifCond .ne 13, 3) := by decide +kernel
theorem dX0_storeIfNeeded_18 : decode cX0_storeIfNeeded 18 = .ok (.aload_n 0, 1) := by decide +kernel
theorem dX0_storeIfNeeded_19 : decode cX0_storeIfNeeded 19 = .ok (.getfield 34, 3) := by decide +kernel
theorem dX0_storeIfNeeded_22 : decode cX0_storeIfNeeded 22 = .ok (.iload_n 1, 1) := by decide +kernel
theorem dX0_storeIfNeeded_23 : decode cX0_storeIfNeeded 23 = .ok (.iaload, 1) := by decide +kernel
theorem dX0_storeIfNeeded_24 : decode cX0_storeIfNeeded 24 = .ok (.iconst (-1), 1) := by decide +kernel
theorem dX0_storeIfNeeded_25 : decode cX0_storeIfNeeded 25 = .ok (.if_icmp .eq 4, 3) := by decide +kernel
theorem dX0_storeIfNeeded_28 : decode cX0_storeIfNeeded 28 = .ok (.return_, 1) := by decide +kernel
theorem dX0_storeIfNeeded_29 : decode cX0_storeIfNeeded 29 = .ok (.aload_n 0, 1) := by decide +kernel
theorem dX0_storeIfNeeded_30 : decode cX0_storeIfNeeded 30 = .ok (.invokevirtual 164, 3) := by decide +kernel
theorem dX0_storeIfNeeded_33 : decode cX0_storeIfNeeded 33 = .ok (.istore_n 3, 1) := by decide +kernel
theorem dX0_storeIfNeeded_34 : decode cX0_storeIfNeeded 34 = .ok (.iload_n 3, 1) := by decide +kernel
theorem dX0_storeIfNeeded_35 : decode cX0_storeIfNeeded 35 = .ok (.iconst (-1), 1) := by decide +kernel
theorem dX0_storeIfNeeded_36 : decode cX0_storeIfNeeded 36 = .ok (.if_icmp .ne 4, 3) := by decide +kernel
theorem dX0_storeIfNeeded_39 : decode cX0_storeIfNeeded 39 = .ok (.return_, 1) := by decide +kernel
theorem dX0_storeIfNeeded_40 : decode cX0_storeIfNeeded 40 = .ok (.aload_n 0, 1) := by decide +kernel
theorem dX0_storeIfNeeded_41 : decode cX0_storeIfNeeded 41 = .ok (.getfield 43, 3) := by decide +kernel
theorem dX0_storeIfNeeded_44 : decode cX0_storeIfNeeded 44 = .ok (.iload_n 3, 1) := by decide +kernel
theorem dX0_storeIfNeeded_45 : decode cX0_storeIfNeeded 45 = .ok (.iconst 1, 1) := by decide +kernel
theorem dX0_storeIfNeeded_46 : decode cX0_storeIfNeeded 46 = .ok (.bastore, 1) := by decide +kernel
theorem dX0_storeIfNeeded_47 : decode cX0_storeIfNeeded 47 = .ok (.aload_n 0, 1) := by decide +kernel
theorem dX0_storeIfNeeded_48 : decode cX0_storeIfNeeded 48 = .ok (.getfield 34, 3) := by decide +kernel
theorem dX0_storeIfNeeded_51 : decode cX0_storeIfNeeded 51 = .ok (.iload_n 1, 1) := by decide +kernel
theorem dX0_storeIfNeeded_52 : decode cX0_storeIfNeeded 52 = .ok (.iload_n 3, 1) := by decide +kernel
theorem dX0_storeIfNeeded_53 : decode cX0_storeIfNeeded 53 = .ok (.iastore, 1) := by decide +kernel
theorem dX0_storeIfNeeded_54 : decode cX0_storeIfNeeded 54 = .ok (.aload_n 0, 1) := by decide +kernel
theorem dX0_storeIfNeeded_55 : decode cX0_storeIfNeeded 55 = .ok (.aload_n 0, 1) := by decide +kernel
theorem dX0_storeIfNeeded_56 : decode cX0_storeIfNeeded 56 = .ok (.getfield 51, 3) := by decide +kernel
theorem dX0_storeIfNeeded_59 : decode cX0_storeIfNeeded 59 = .ok (.iload_n 3, 1) := by decide +kernel
theorem dX0_storeIfNeeded_60 : decode cX0_storeIfNeeded 60 = .ok (.iconst 1, 1) := by decide +kernel
theorem dX0_storeIfNeeded_61 : decode cX0_storeIfNeeded 61 = .ok (.iadd, 1) := by decide +kernel
theorem dX0_storeIfNeeded_62 : decode cX0_storeIfNeeded 62 = .ok (.invokestatic 85, 3) := by decide +kernel
theorem dX0_storeIfNeeded_65 : decode cX0_storeIfNeeded 65 = .ok (.putfield 51, 3) := by decide +kernel
theorem dX0_storeIfNeeded_68 : decode cX0_storeIfNeeded 68 = .ok (.aload_n 0, 1) := by decide +kernel
theorem dX0_storeIfNeeded_69 : decode cX0_storeIfNeeded 69 = .ok (.getfield 20, 3) := by decide +kernel
theorem dX0_storeIfNeeded_72 : decode cX0_storeIfNeeded 72 = .ok (.bipush 8, 2) := by decide +kernel
theorem dX0_storeIfNeeded_74 : decode cX0_storeIfNeeded 74 = .ok (.iload_n 2, 1) := by decide +kernel
theorem dX0_storeIfNeeded_75 : decode cX0_storeIfNeeded 75 = .ok (.iload_n 3, 1) := by decide +kernel
theorem dX0_storeIfNeeded_76 : decode cX0_storeIfNeeded 76 = .ok (.iconst (-1), 1) := by decide +kernel
theorem dX0_storeIfNeeded_77 : decode cX0_storeIfNeeded 77 = .ok (.invokevirtual 122, 3) := by decide +kernel
theorem dX0_storeIfNeeded_80 : decode cX0_storeIfNeeded 80 = .ok (.istore 4, 2) := by decide +kernel
theorem dX0_storeIfNeeded_82 : decode cX0_storeIfNeeded 82 = .ok (.aload_n 0, 1) := by decide +kernel
theorem dX0_storeIfNeeded_83 : decode cX0_storeIfNeeded 83 = .ok (.getfield 24, 3) := by decide +kernel
theorem dX0_storeIfNeeded_86 : decode cX0_storeIfNeeded 86 = .ok (.aload_n 0, 1) := by decide +kernel
theorem dX0_storeIfNeeded_87 : decode cX0_storeIfNeeded 87 = .ok (.getfield 37, 3) := by decide +kernel
theorem dX0_storeIfNeeded_90 : decode cX0_storeIfNeeded 90 = .ok (.iload_n 1, 1) := by decide +kernel
theorem dX0_storeIfNeeded_91 : decode cX0_storeIfNeeded 91 = .ok (.iaload, 1) := by decide +kernel
theorem dX0_storeIfNeeded_92 : decode cX0_storeIfNeeded 92 = .ok (.iconst 3, 1) := by decide +kernel
theorem dX0_storeIfNeeded_93 : decode cX0_storeIfNeeded 93 = .ok (.iload 4, 2) := by decide +kernel
theorem dX0_storeIfNeeded_95 : decode cX0_storeIfNeeded 95 = .ok (.invokevirtual 167, 3) := by decide +kernel
theorem dX0_storeIfNeeded_98 : decode cX0_storeIfNeeded 98 = .ok (.return_, 1) := by decide +kernel
theorem dX0_smallestFreeSlot_0 : decode cX0_smallestFreeSlot 0 = .ok (.iconst 0, 1) := by decide +kernel
theorem dX0_smallestFreeSlot_1 : decode cX0_smallestFreeSlot 1 = .ok (.istore_n 1, 1) := by decide +kernel
theorem dX0_smallestFreeSlot_2 : decode cX0_smallestFreeSlot 2 = .ok (.iload_n 1, 1) := by decide +kernel
theorem dX0_smallestFreeSlot_3 : decode cX0_smallestFreeSlot 3 = .ok (.bipush 60, 2) := by decide +kernel
theorem dX0_smallestFreeSlot_5 : decode cX0_smallestFreeSlot 5 = .ok (.if_icmp .ge 20, 3) := by decide +kernel
theorem dX0_smallestFreeSlot_8 : decode cX0_smallestFreeSlot 8 = .ok (.aload_n 0, 1) := by decide +kernel
theorem dX0_smallestFreeSlot_9 : decode cX0_smallestFreeSlot 9 = .ok (.getfield 43, 3) := by decide +kernel
theorem dX0_smallestFreeSlot_12 : decode cX0_smallestFreeSlot 12 = .ok (.iload_n 1, 1) := by decide +kernel
theorem dX0_smallestFreeSlot_13 : decode cX0_smallestFreeSlot 13 = .ok (.baload, 1) := by decide +kernel
theorem dX0_smallestFreeSlot_14 : decode cX0_smallestFreeSlot 14 = .ok (.ifCond .ne 5, 3) := by decide +kernel
theorem dX0_smallestFreeSlot_17 : decode cX0_smallestFreeSlot 17 = .ok (.iload_n 1, 1) := by decide +kernel
theorem dX0_smallestFreeSlot_18 : decode cX0_smallestFreeSlot 18 = .ok (.ireturn, 1) := by decide +kernel
theorem dX0_smallestFreeSlot_19 : decode cX0_smallestFreeSlot 19 = .ok (.iinc 1 1, 3) := by decide +kernel
theorem dX0_smallestFreeSlot_22 : decode cX0_smallestFreeSlot 22 = .ok (.goto (-20), 3) := by decide +kernel
theorem dX0_smallestFreeSlot_25 : decode cX0_smallestFreeSlot 25 = .ok (.iconst (-1), 1) := by decide +kernel
theorem dX0_smallestFreeSlot_26 : decode cX0_smallestFreeSlot 26 = .ok (.ireturn, 1) := by decide +kernel
set_option maxRecDepth 20000 in
theorem ggX0_freeSlot_X0_slotHolding : GoodIn wsX0_freeSlot wsX0_slotHolding := goodIn_r _ [7, 2, 8, 9, 6, 10, 11, 12, 13, 14, 15, 16, 17, 18, 19, 20, 21] (by decide +kernel) (by decide +kernel)
set_option maxRecDepth 20000 in
theorem gX0_freeSlot_X0_slotHolding : GoodIn wsX0_freeSlot (wsV RX0 139 RX0 yX0_slotHolding wsX0_slotHolding) := goodIn_app (goodIn_of _ (by decide +kernel)) ggX0_freeSlot_X0_slotHolding
set_option maxRecDepth 20000 in
theorem ggX0_freeSlot_X0_isRow : GoodIn wsX0_freeSlot wsX0_isRow := goodIn_r _ [10] (by decide +kernel) (by decide +kernel)
set_option maxRecDepth 20000 in
theorem gX0_freeSlot_X0_isRow : GoodIn wsX0_freeSlot (va_wsS RX0 133 yX0_isRow wsX0_isRow) := goodIn_app (goodIn_of _ (by decide +kernel)) ggX0_freeSlot_X0_isRow
theorem dX0_freeSlot_0 : decode cX0_freeSlot 0 = .ok (.aload_n 0, 1) := by decide +kernel
theorem dX0_freeSlot_1 : decode cX0_freeSlot 1 = .ok (.iload_n 1, 1) := by decide +kernel
theorem dX0_freeSlot_2 : decode cX0_freeSlot 2 = .ok (.invokevirtual 139, 3) := by decide +kernel
theorem dX0_freeSlot_5 : decode cX0_freeSlot 5 = .ok (.istore_n 2, 1) := by decide +kernel
theorem dX0_freeSlot_6 : decode cX0_freeSlot 6 = .ok (.iload_n 2, 1) := by decide +kernel
theorem dX0_freeSlot_7 : decode cX0_freeSlot 7 = .ok (.invokestatic 133, 3) := by decide +kernel
theorem dX0_freeSlot_10 : decode cX0_freeSlot 10 = .ok (.ifCond .eq 17, 3) := by decide +kernel
theorem dX0_freeSlot_13 : decode cX0_freeSlot 13 = .ok (.aload_n 0, 1) := by decide +kernel
theorem dX0_freeSlot_14 : decode cX0_freeSlot 14 = .ok (.getfield 43, 3) := by decide +kernel
theorem dX0_freeSlot_17 : decode cX0_freeSlot 17 = .ok (.iload_n 2, 1) := by decide +kernel
theorem dX0_freeSlot_18 : decode cX0_freeSlot 18 = .ok (.iconst 0, 1) := by decide +kernel
theorem dX0_freeSlot_19 : decode cX0_freeSlot 19 = .ok (.bastore, 1) := by decide +kernel
theorem dX0_freeSlot_20 : decode cX0_freeSlot 20 = .ok (.aload_n 0, 1) := by decide +kernel
theorem dX0_freeSlot_21 : decode cX0_freeSlot 21 = .ok (.getfield 34, 3) := by decide +kernel
theorem dX0_freeSlot_24 : decode cX0_freeSlot 24 = .ok (.iload_n 1, 1) := by decide +kernel
theorem dX0_freeSlot_25 : decode cX0_freeSlot 25 = .ok (.iconst (-1), 1) := by decide +kernel
theorem dX0_freeSlot_26 : decode cX0_freeSlot 26 = .ok (.iastore, 1) := by decide +kernel
theorem dX0_freeSlot_27 : decode cX0_freeSlot 27 = .ok (.return_, 1) := by decide +kernel
set_option maxRecDepth 20000 in
theorem ggX0_leaveRegister_X0_registerHolding : GoodIn wsX0_leaveRegister wsX0_registerHolding := goodIn_r _ [7, 2, 8, 9, 6, 10, 16, 17, 18, 19, 20, 21, 22, 23, 24, 25, 26] (by decide +kernel) (by decide +kernel)
set_option maxRecDepth 20000 in
theorem gX0_leaveRegister_X0_registerHolding : GoodIn wsX0_leaveRegister (wsV RX0 107 RX0 yX0_registerHolding wsX0_registerHolding) := goodIn_app (goodIn_of _ (by decide +kernel)) ggX0_leaveRegister_X0_registerHolding
set_option maxRecDepth 20000 in
theorem ggX0_leaveRegister_X0_isRegister : GoodIn wsX0_leaveRegister wsX0_isRegister := goodIn_r _ [14, 15, 16, 17, 18, 19, 20, 21, 22, 23, 24, 25, 26] (by decide +kernel) (by decide +kernel)
set_option maxRecDepth 20000 in
theorem gX0_leaveRegister_X0_isRegister : GoodIn wsX0_leaveRegister (wsV RX0 170 RX0 yX0_isRegister wsX0_isRegister) := goodIn_app (goodIn_of _ (by decide +kernel)) ggX0_leaveRegister_X0_isRegister
theorem dX0_leaveRegister_0 : decode cX0_leaveRegister 0 = .ok (.aload_n 0, 1) := by decide +kernel
theorem dX0_leaveRegister_1 : decode cX0_leaveRegister 1 = .ok (.iload_n 1, 1) := by decide +kernel
theorem dX0_leaveRegister_2 : decode cX0_leaveRegister 2 = .ok (.invokevirtual 107, 3) := by decide +kernel
theorem dX0_leaveRegister_5 : decode cX0_leaveRegister 5 = .ok (.istore_n 2, 1) := by decide +kernel
theorem dX0_leaveRegister_6 : decode cX0_leaveRegister 6 = .ok (.aload_n 0, 1) := by decide +kernel
theorem dX0_leaveRegister_7 : decode cX0_leaveRegister 7 = .ok (.iload_n 2, 1) := by decide +kernel
theorem dX0_leaveRegister_8 : decode cX0_leaveRegister 8 = .ok (.invokevirtual 170, 3) := by decide +kernel
theorem dX0_leaveRegister_11 : decode cX0_leaveRegister 11 = .ok (.ifCond .eq 17, 3) := by decide +kernel
theorem dX0_leaveRegister_14 : decode cX0_leaveRegister 14 = .ok (.aload_n 0, 1) := by decide +kernel
theorem dX0_leaveRegister_15 : decode cX0_leaveRegister 15 = .ok (.getfield 27, 3) := by decide +kernel
theorem dX0_leaveRegister_18 : decode cX0_leaveRegister 18 = .ok (.iload_n 2, 1) := by decide +kernel
theorem dX0_leaveRegister_19 : decode cX0_leaveRegister 19 = .ok (.iconst (-1), 1) := by decide +kernel
theorem dX0_leaveRegister_20 : decode cX0_leaveRegister 20 = .ok (.iastore, 1) := by decide +kernel
theorem dX0_leaveRegister_21 : decode cX0_leaveRegister 21 = .ok (.aload_n 0, 1) := by decide +kernel
theorem dX0_leaveRegister_22 : decode cX0_leaveRegister 22 = .ok (.getfield 31, 3) := by decide +kernel
theorem dX0_leaveRegister_25 : decode cX0_leaveRegister 25 = .ok (.iload_n 1, 1) := by decide +kernel
theorem dX0_leaveRegister_26 : decode cX0_leaveRegister 26 = .ok (.iconst (-1), 1) := by decide +kernel
theorem dX0_leaveRegister_27 : decode cX0_leaveRegister 27 = .ok (.iastore, 1) := by decide +kernel
theorem dX0_leaveRegister_28 : decode cX0_leaveRegister 28 = .ok (.return_, 1) := by decide +kernel
set_option maxRecDepth 20000 in
theorem ggX0_beginPiece_X0_isRow : GoodIn wsX0_beginPiece wsX0_isRow := goodIn_r _ [8] (by decide +kernel) (by decide +kernel)
set_option maxRecDepth 20000 in
theorem gX0_beginPiece_X0_isRow : GoodIn wsX0_beginPiece (va_wsS RX0 133 yX0_isRow wsX0_isRow) := goodIn_app (goodIn_of _ (by decide +kernel)) ggX0_beginPiece_X0_isRow
set_option maxRecDepth 20000 in
theorem ggX0_beginPiece_X0_isRegister : GoodIn wsX0_beginPiece wsX0_isRegister := goodIn_r _ [12, 13, 22, 23, 24, 25, 26, 27, 28, 29, 30, 31, 32] (by decide +kernel) (by decide +kernel)
set_option maxRecDepth 20000 in
theorem gX0_beginPiece_X0_isRegister : GoodIn wsX0_beginPiece (wsV RX0 170 RX0 yX0_isRegister wsX0_isRegister) := goodIn_app (goodIn_of _ (by decide +kernel)) ggX0_beginPiece_X0_isRegister
set_option maxRecDepth 20000 in
theorem ggX0_beginPiece_X3_append : GoodIn wsX0_beginPiece wsX3_append := goodIn_r _ [18, 19, 20, 21, 33, 34, 35] (by decide +kernel) (by decide +kernel)
set_option maxRecDepth 20000 in
theorem gX0_beginPiece_X3_append : GoodIn wsX0_beginPiece (wsV RX0 122 RX3 yX3_append wsX3_append) := goodIn_app (goodIn_of _ (by decide +kernel)) ggX0_beginPiece_X3_append
theorem dX0_beginPiece_0 : decode cX0_beginPiece 0 = .ok (.iload_n 1, 1) := by decide +kernel
theorem dX0_beginPiece_1 : decode cX0_beginPiece 1 = .ok (.invokestatic 133, 3) := by decide +kernel
theorem dX0_beginPiece_4 : decode cX0_beginPiece 4 = .ok (.ifCond .eq 42, 3) := by decide +kernel
theorem dX0_beginPiece_7 : decode cX0_beginPiece 7 = .ok (.aload_n 0, 1) := by decide +kernel
theorem dX0_beginPiece_8 : decode cX0_beginPiece 8 = .ok (.iload_n 2, 1) := by decide +kernel
theorem dX0_beginPiece_9 : decode cX0_beginPiece 9 = .ok (.invokevirtual 170, 3) := by decide +kernel
theorem dX0_beginPiece_12 : decode cX0_beginPiece 12 = .ok (.ifCond .eq 34, 3) := by decide +kernel
theorem dX0_beginPiece_15 : decode cX0_beginPiece 15 = .ok (.aload_n 0, 1) := by decide +kernel
theorem dX0_beginPiece_16 : decode cX0_beginPiece 16 = .ok (.getfield 27, 3) := by decide +kernel
theorem dX0_beginPiece_19 : decode cX0_beginPiece 19 = .ok (.iload_n 2, 1) := by decide +kernel
theorem dX0_beginPiece_20 : decode cX0_beginPiece 20 = .ok (.iload_n 1, 1) := by decide +kernel
theorem dX0_beginPiece_21 : decode cX0_beginPiece 21 = .ok (.iastore, 1) := by decide +kernel
theorem dX0_beginPiece_22 : decode cX0_beginPiece 22 = .ok (.aload_n 0, 1) := by decide +kernel
theorem dX0_beginPiece_23 : decode cX0_beginPiece 23 = .ok (.getfield 31, 3) := by decide +kernel
theorem dX0_beginPiece_26 : decode cX0_beginPiece 26 = .ok (.iload_n 1, 1) := by decide +kernel
theorem dX0_beginPiece_27 : decode cX0_beginPiece 27 = .ok (.iload_n 2, 1) := by decide +kernel
theorem dX0_beginPiece_28 : decode cX0_beginPiece 28 = .ok (.iastore, 1) := by decide +kernel
theorem dX0_beginPiece_29 : decode cX0_beginPiece 29 = .ok (.aload_n 0, 1) := by decide +kernel
theorem dX0_beginPiece_30 : decode cX0_beginPiece 30 = .ok (.getfield 37, 3) := by decide +kernel
theorem dX0_beginPiece_33 : decode cX0_beginPiece 33 = .ok (.iload_n 1, 1) := by decide +kernel
theorem dX0_beginPiece_34 : decode cX0_beginPiece 34 = .ok (.aload_n 0, 1) := by decide +kernel
theorem dX0_beginPiece_35 : decode cX0_beginPiece 35 = .ok (.getfield 24, 3) := by decide +kernel
theorem dX0_beginPiece_38 : decode cX0_beginPiece 38 = .ok (.iload_n 1, 1) := by decide +kernel
theorem dX0_beginPiece_39 : decode cX0_beginPiece 39 = .ok (.iload_n 2, 1) := by decide +kernel
theorem dX0_beginPiece_40 : decode cX0_beginPiece 40 = .ok (.iload_n 3, 1) := by decide +kernel
theorem dX0_beginPiece_41 : decode cX0_beginPiece 41 = .ok (.iload_n 3, 1) := by decide +kernel
theorem dX0_beginPiece_42 : decode cX0_beginPiece 42 = .ok (.invokevirtual 122, 3) := by decide +kernel
theorem dX0_beginPiece_45 : decode cX0_beginPiece 45 = .ok (.iastore, 1) := by decide +kernel
theorem dX0_beginPiece_46 : decode cX0_beginPiece 46 = .ok (.return_, 1) := by decide +kernel
set_option maxRecDepth 20000 in
theorem ggX0_readAt_X0_isRow : GoodIn wsX0_readAt wsX0_isRow := goodIn_r _ [6] (by decide +kernel) (by decide +kernel)
set_option maxRecDepth 20000 in
theorem gX0_readAt_X0_isRow : GoodIn wsX0_readAt (va_wsS RX0 133 yX0_isRow wsX0_isRow) := goodIn_app (goodIn_of _ (by decide +kernel)) ggX0_readAt_X0_isRow
set_option maxRecDepth 20000 in
theorem ggX0_readAt_X3_put : GoodIn wsX0_readAt wsX3_put := goodIn_r _ [11, 12, 13, 14, 15, 10, 16, 17, 29, 30, 31] (by decide +kernel) (by decide +kernel)
set_option maxRecDepth 20000 in
theorem gX0_readAt_X3_put : GoodIn wsX0_readAt (wsV RX0 167 RX3 yX3_put wsX3_put) := goodIn_app (goodIn_of _ (by decide +kernel)) ggX0_readAt_X3_put
theorem dX0_readAt_0 : decode cX0_readAt 0 = .ok (.iload_n 1, 1) := by decide +kernel
theorem dX0_readAt_1 : decode cX0_readAt 1 = .ok (.invokestatic 133, 3) := by decide +kernel
theorem dX0_readAt_4 : decode cX0_readAt 4 = .ok (.ifCond .eq 18, 3) := by decide +kernel
theorem dX0_readAt_7 : decode cX0_readAt 7 = .ok (.aload_n 0, 1) := by decide +kernel
theorem dX0_readAt_8 : decode cX0_readAt 8 = .ok (.getfield 24, 3) := by decide +kernel
theorem dX0_readAt_11 : decode cX0_readAt 11 = .ok (.aload_n 0, 1) := by decide +kernel
theorem dX0_readAt_12 : decode cX0_readAt 12 = .ok (.getfield 37, 3) := by decide +kernel
theorem dX0_readAt_15 : decode cX0_readAt 15 = .ok (.iload_n 1, 1) := by decide +kernel
theorem dX0_readAt_16 : decode cX0_readAt 16 = .ok (.iaload, 1) := by decide +kernel
theorem dX0_readAt_17 : decode cX0_readAt 17 = .ok (.iconst 3, 1) := by decide +kernel
theorem dX0_readAt_18 : decode cX0_readAt 18 = .ok (.iload_n 2, 1) := by decide +kernel
theorem dX0_readAt_19 : decode cX0_readAt 19 = .ok (.invokevirtual 167, 3) := by decide +kernel
theorem dX0_readAt_22 : decode cX0_readAt 22 = .ok (.return_, 1) := by decide +kernel
set_option maxRecDepth 20000 in
theorem ggX0_registerHolding_X0_isRow : GoodIn wsX0_registerHolding wsX0_isRow := goodIn_r _ [5] (by decide +kernel) (by decide +kernel)
set_option maxRecDepth 20000 in
theorem gX0_registerHolding_X0_isRow : GoodIn wsX0_registerHolding (va_wsS RX0 133 yX0_isRow wsX0_isRow) := goodIn_app (goodIn_of _ (by decide +kernel)) ggX0_registerHolding_X0_isRow
theorem dX0_registerHolding_0 : decode cX0_registerHolding 0 = .ok (.iload_n 1, 1) := by decide +kernel
theorem dX0_registerHolding_1 : decode cX0_registerHolding 1 = .ok (.invokestatic 133, 3) := by decide +kernel
theorem dX0_registerHolding_4 : decode cX0_registerHolding 4 = .ok (.ifCond .eq 12, 3) := by decide +kernel
theorem dX0_registerHolding_7 : decode cX0_registerHolding 7 = .ok (.aload_n 0, 1) := by decide +kernel
theorem dX0_registerHolding_8 : decode cX0_registerHolding 8 = .ok (.getfield 31, 3) := by decide +kernel
theorem dX0_registerHolding_11 : decode cX0_registerHolding 11 = .ok (.iload_n 1, 1) := by decide +kernel
theorem dX0_registerHolding_12 : decode cX0_registerHolding 12 = .ok (.iaload, 1) := by decide +kernel
theorem dX0_registerHolding_13 : decode cX0_registerHolding 13 = .ok (.goto 4, 3) := by decide +kernel
theorem dX0_registerHolding_16 : decode cX0_registerHolding 16 = .ok (.iconst (-1), 1) := by decide +kernel
theorem dX0_registerHolding_17 : decode cX0_registerHolding 17 = .ok (.ireturn, 1) := by decide +kernel
set_option maxRecDepth 20000 in
theorem ggX0_slotHolding_X0_isRow : GoodIn wsX0_slotHolding wsX0_isRow := goodIn_r _ [5] (by decide +kernel) (by decide +kernel)
set_option maxRecDepth 20000 in
theorem gX0_slotHolding_X0_isRow : GoodIn wsX0_slotHolding (va_wsS RX0 133 yX0_isRow wsX0_isRow) := goodIn_app (goodIn_of _ (by decide +kernel)) ggX0_slotHolding_X0_isRow
theorem dX0_slotHolding_0 : decode cX0_slotHolding 0 = .ok (.iload_n 1, 1) := by decide +kernel
theorem dX0_slotHolding_1 : decode cX0_slotHolding 1 = .ok (.invokestatic 133, 3) := by decide +kernel
theorem dX0_slotHolding_4 : decode cX0_slotHolding 4 = .ok (.ifCond .eq 12, 3) := by decide +kernel
theorem dX0_slotHolding_7 : decode cX0_slotHolding 7 = .ok (.aload_n 0, 1) := by decide +kernel
theorem dX0_slotHolding_8 : decode cX0_slotHolding 8 = .ok (.getfield 34, 3) := by decide +kernel
theorem dX0_slotHolding_11 : decode cX0_slotHolding 11 = .ok (.iload_n 1, 1) := by decide +kernel
theorem dX0_slotHolding_12 : decode cX0_slotHolding 12 = .ok (.iaload, 1) := by decide +kernel
theorem dX0_slotHolding_13 : decode cX0_slotHolding 13 = .ok (.goto 4, 3) := by decide +kernel
theorem dX0_slotHolding_16 : decode cX0_slotHolding 16 = .ok (.iconst (-1), 1) := by decide +kernel
theorem dX0_slotHolding_17 : decode cX0_slotHolding 17 = .ok (.ireturn, 1) := by decide +kernel
set_option maxRecDepth 20000 in
theorem ggX0_valueHeldIn_X0_isRegister : GoodIn wsX0_valueHeldIn wsX0_isRegister := goodIn_r _ [6, 7, 8, 9, 10, 11, 12, 13, 14, 15, 16, 17, 18] (by decide +kernel) (by decide +kernel)
set_option maxRecDepth 20000 in
theorem gX0_valueHeldIn_X0_isRegister : GoodIn wsX0_valueHeldIn (wsV RX0 170 RX0 yX0_isRegister wsX0_isRegister) := goodIn_app (goodIn_of _ (by decide +kernel)) ggX0_valueHeldIn_X0_isRegister
theorem dX0_valueHeldIn_0 : decode cX0_valueHeldIn 0 = .ok (.aload_n 0, 1) := by decide +kernel
theorem dX0_valueHeldIn_1 : decode cX0_valueHeldIn 1 = .ok (.iload_n 1, 1) := by decide +kernel
theorem dX0_valueHeldIn_2 : decode cX0_valueHeldIn 2 = .ok (.invokevirtual 170, 3) := by decide +kernel
theorem dX0_valueHeldIn_5 : decode cX0_valueHeldIn 5 = .ok (.ifCond .eq 12, 3) := by decide +kernel
theorem dX0_valueHeldIn_8 : decode cX0_valueHeldIn 8 = .ok (.aload_n 0, 1) := by decide +kernel
theorem dX0_valueHeldIn_9 : decode cX0_valueHeldIn 9 = .ok (.getfield 27, 3) := by decide +kernel
theorem dX0_valueHeldIn_12 : decode cX0_valueHeldIn 12 = .ok (.iload_n 1, 1) := by decide +kernel
theorem dX0_valueHeldIn_13 : decode cX0_valueHeldIn 13 = .ok (.iaload, 1) := by decide +kernel
theorem dX0_valueHeldIn_14 : decode cX0_valueHeldIn 14 = .ok (.goto 4, 3) := by decide +kernel
theorem dX0_valueHeldIn_17 : decode cX0_valueHeldIn 17 = .ok (.iconst (-1), 1) := by decide +kernel
theorem dX0_valueHeldIn_18 : decode cX0_valueHeldIn 18 = .ok (.ireturn, 1) := by decide +kernel
set_option maxRecDepth 20000 in
theorem ggX0_isFree_X0_isRegister : GoodIn wsX0_isFree wsX0_isRegister := goodIn_r _ [6, 7, 8, 9, 10, 11, 12, 13, 14, 15, 16, 17, 18] (by decide +kernel) (by decide +kernel)
set_option maxRecDepth 20000 in
theorem gX0_isFree_X0_isRegister : GoodIn wsX0_isFree (wsV RX0 170 RX0 yX0_isRegister wsX0_isRegister) := goodIn_app (goodIn_of _ (by decide +kernel)) ggX0_isFree_X0_isRegister
theorem dX0_isFree_0 : decode cX0_isFree 0 = .ok (.aload_n 0, 1) := by decide +kernel
theorem dX0_isFree_1 : decode cX0_isFree 1 = .ok (.iload_n 1, 1) := by decide +kernel
theorem dX0_isFree_2 : decode cX0_isFree 2 = .ok (.invokevirtual 170, 3) := by decide +kernel
theorem dX0_isFree_5 : decode cX0_isFree 5 = .ok (.ifCond .eq 17, 3) := by decide +kernel
theorem dX0_isFree_8 : decode cX0_isFree 8 = .ok (.aload_n 0, 1) := by decide +kernel
theorem dX0_isFree_9 : decode cX0_isFree 9 = .ok (.getfield 27, 3) := by decide +kernel
theorem dX0_isFree_12 : decode cX0_isFree 12 = .ok (.iload_n 1, 1) := by decide +kernel
theorem dX0_isFree_13 : decode cX0_isFree 13 = .ok (.iaload, 1) := by decide +kernel
theorem dX0_isFree_14 : decode cX0_isFree 14 = .ok (.iconst (-1), 1) := by decide +kernel
theorem dX0_isFree_15 : decode cX0_isFree 15 = .ok (.if_icmp .ne 7, 3) := by decide +kernel
theorem dX0_isFree_18 : decode cX0_isFree 18 = .ok (.iconst 1, 1) := by decide +kernel
theorem dX0_isFree_19 : decode cX0_isFree 19 = .ok (.goto 4, 3) := by decide +kernel
theorem dX0_isFree_22 : decode cX0_isFree 22 = .ok (.iconst 0, 1) := by decide +kernel
theorem dX0_isFree_23 : decode cX0_isFree 23 = .ok (.ireturn, 1) := by decide +kernel
theorem dX0_isRegister_0 : decode cX0_isRegister 0 = .ok (.iload_n 1, 1) := by decide +kernel
theorem dX0_isRegister_1 : decode cX0_isRegister 1 = .ok (.ifCond .lt 15, 3) := by decide +kernel
theorem dX0_isRegister_4 : decode cX0_isRegister 4 = .ok (.iload_n 1, 1) := by decide +kernel
theorem dX0_isRegister_5 : decode cX0_isRegister 5 = .ok (.aload_n 0, 1) := by decide +kernel
theorem dX0_isRegister_6 : decode cX0_isRegister 6 = .ok (.getfield 47, 3) := by decide +kernel
theorem dX0_isRegister_9 : decode cX0_isRegister 9 = .ok (.if_icmp .ge 7, 3) := by decide +kernel
theorem dX0_isRegister_12 : decode cX0_isRegister 12 = .ok (.iconst 1, 1) := by decide +kernel
theorem dX0_isRegister_13 : decode cX0_isRegister 13 = .ok (.goto 4, 3) := by decide +kernel
theorem dX0_isRegister_16 : decode cX0_isRegister 16 = .ok (.iconst 0, 1) := by decide +kernel
theorem dX0_isRegister_17 : decode cX0_isRegister 17 = .ok (.ireturn, 1) := by decide +kernel
theorem dX0_isRow_0 : decode cX0_isRow 0 = .ok (.iload_n 0, 1) := by decide +kernel
theorem dX0_isRow_1 : decode cX0_isRow 1 = .ok (.ifCond .lt 13, 3) := by decide +kernel
theorem dX0_isRow_4 : decode cX0_isRow 4 = .ok (.iload_n 0, 1) := by decide +kernel
theorem dX0_isRow_5 : decode cX0_isRow 5 = .ok (.bipush 60, 2) := by decide +kernel
theorem dX0_isRow_7 : decode cX0_isRow 7 = .ok (.if_icmp .ge 7, 3) := by decide +kernel
theorem dX0_isRow_10 : decode cX0_isRow 10 = .ok (.iconst 1, 1) := by decide +kernel
theorem dX0_isRow_11 : decode cX0_isRow 11 = .ok (.goto 4, 3) := by decide +kernel
theorem dX0_isRow_14 : decode cX0_isRow 14 = .ok (.iconst 0, 1) := by decide +kernel
theorem dX0_isRow_15 : decode cX0_isRow 15 = .ok (.ireturn, 1) := by decide +kernel
theorem dX1_init_0 : decode cX1_init 0 = .ok (.aload_n 0, 1) := by decide +kernel
theorem dX1_init_1 : decode cX1_init 1 = .ok (.invokespecial 3, 3) := by decide +kernel
theorem dX1_init_4 : decode cX1_init 4 = .ok (.aload_n 0, 1) := by decide +kernel
theorem dX1_init_5 : decode cX1_init 5 = .ok (.bipush 60, 2) := by decide +kernel
theorem dX1_init_7 : decode cX1_init 7 = .ok (.newarray .int, 2) := by decide +kernel
theorem dX1_init_9 : decode cX1_init 9 = .ok (.putfield 9, 3) := by decide +kernel
theorem dX1_init_12 : decode cX1_init 12 = .ok (.aload_n 0, 1) := by decide +kernel
theorem dX1_init_13 : decode cX1_init 13 = .ok (.bipush 60, 2) := by decide +kernel
theorem dX1_init_15 : decode cX1_init 15 = .ok (.newarray .int, 2) := by decide +kernel
theorem dX1_init_17 : decode cX1_init 17 = .ok (.putfield 15, 3) := by decide +kernel
theorem dX1_init_20 : decode cX1_init 20 = .ok (.aload_n 0, 1) := by decide +kernel
theorem dX1_init_21 : decode cX1_init 21 = .ok (.bipush 60, 2) := by decide +kernel
theorem dX1_init_23 : decode cX1_init 23 = .ok (.newarray .int, 2) := by decide +kernel
theorem dX1_init_25 : decode cX1_init 25 = .ok (.putfield 18, 3) := by decide +kernel
theorem dX1_init_28 : decode cX1_init 28 = .ok (.aload_n 0, 1) := by decide +kernel
theorem dX1_init_29 : decode cX1_init 29 = .ok (.bipush 60, 2) := by decide +kernel
theorem dX1_init_31 : decode cX1_init 31 = .ok (.newarray .int, 2) := by decide +kernel
theorem dX1_init_33 : decode cX1_init 33 = .ok (.putfield 21, 3) := by decide +kernel
theorem dX1_init_36 : decode cX1_init 36 = .ok (.aload_n 0, 1) := by decide +kernel
theorem dX1_init_37 : decode cX1_init 37 = .ok (.bipush 60, 2) := by decide +kernel
theorem dX1_init_39 : decode cX1_init 39 = .ok (.newarray .boolean, 2) := by decide +kernel
theorem dX1_init_41 : decode cX1_init 41 = .ok (.putfield 24, 3) := by decide +kernel
theorem dX1_init_44 : decode cX1_init 44 = .ok (.aload_n 0, 1) := by decide +kernel
theorem dX1_init_45 : decode cX1_init 45 = .ok (.iconst 0, 1) := by decide +kernel
theorem dX1_init_46 : decode cX1_init 46 = .ok (.putfield 28, 3) := by decide +kernel
theorem dX1_init_49 : decode cX1_init 49 = .ok (.return_, 1) := by decide +kernel
theorem dX1_length_0 : decode cX1_length 0 = .ok (.aload_n 0, 1) := by decide +kernel
theorem dX1_length_1 : decode cX1_length 1 = .ok (.getfield 28, 3) := by decide +kernel
theorem dX1_length_4 : decode cX1_length 4 = .ok (.ireturn, 1) := by decide +kernel
theorem dX1_isFull_0 : decode cX1_isFull 0 = .ok (.aload_n 0, 1) := by decide +kernel
theorem dX1_isFull_1 : decode cX1_isFull 1 = .ok (.getfield 28, 3) := by decide +kernel
theorem dX1_isFull_4 : decode cX1_isFull 4 = .ok (.bipush 60, 2) := by decide +kernel
theorem dX1_isFull_6 : decode cX1_isFull 6 = .ok (.if_icmp .lt 7, 3) := by decide +kernel
theorem dX1_isFull_9 : decode cX1_isFull 9 = .ok (.iconst 1, 1) := by decide +kernel
theorem dX1_isFull_10 : decode cX1_isFull 10 = .ok (.goto 4, 3) := by decide +kernel
theorem dX1_isFull_13 : decode cX1_isFull 13 = .ok (.iconst 0, 1) := by decide +kernel
theorem dX1_isFull_14 : decode cX1_isFull 14 = .ok (.ireturn, 1) := by decide +kernel
theorem dX1_has_0 : decode cX1_has 0 = .ok (.iload_n 1, 1) := by decide +kernel
theorem dX1_has_1 : decode cX1_has 1 = .ok (.ifCond .lt 15, 3) := by decide +kernel
theorem dX1_has_4 : decode cX1_has 4 = .ok (.iload_n 1, 1) := by decide +kernel
theorem dX1_has_5 : decode cX1_has 5 = .ok (.aload_n 0, 1) := by decide +kernel
theorem dX1_has_6 : decode cX1_has 6 = .ok (.getfield 28, 3) := by decide +kernel
theorem dX1_has_9 : decode cX1_has 9 = .ok (.if_icmp .ge 7, 3) := by decide +kernel
theorem dX1_has_12 : decode cX1_has 12 = .ok (.iconst 1, 1) := by decide +kernel
theorem dX1_has_13 : decode cX1_has 13 = .ok (.goto 4, 3) := by decide +kernel
theorem dX1_has_16 : decode cX1_has 16 = .ok (.iconst 0, 1) := by decide +kernel
theorem dX1_has_17 : decode cX1_has 17 = .ok (.ireturn, 1) := by decide +kernel
set_option maxRecDepth 20000 in
theorem ggX1_hasValue_X1_has : GoodIn wsX1_hasValue wsX1_has := goodIn_r _ [6, 7, 8, 9, 10, 11, 12, 13] (by decide +kernel) (by decide +kernel)
set_option maxRecDepth 20000 in
theorem gX1_hasValue_X1_has : GoodIn wsX1_hasValue (wsV RX1 32 RX1 yX1_has wsX1_has) := goodIn_app (goodIn_of _ (by decide +kernel)) ggX1_hasValue_X1_has
theorem dX1_hasValue_0 : decode cX1_hasValue 0 = .ok (.aload_n 0, 1) := by decide +kernel
theorem dX1_hasValue_1 : decode cX1_hasValue 1 = .ok (.iload_n 1, 1) := by decide +kernel
theorem dX1_hasValue_2 : decode cX1_hasValue 2 = .ok (.invokevirtual 32, 3) := by decide +kernel
theorem dX1_hasValue_5 : decode cX1_hasValue 5 = .ok (.ifCond .eq 18, 3) := by decide +kernel
theorem dX1_hasValue_8 : decode cX1_hasValue 8 = .ok (.aload_n 0, 1) := by decide +kernel
theorem dX1_hasValue_9 : decode cX1_hasValue 9 = .ok (.getfield 9, 3) := by decide +kernel
theorem dX1_hasValue_12 : decode cX1_hasValue 12 = .ok (.iload_n 1, 1) := by decide +kernel
theorem dX1_hasValue_13 : decode cX1_hasValue 13 = .ok (.iaload, 1) := by decide +kernel
theorem dX1_hasValue_14 : decode cX1_hasValue 14 = .ok (.bipush 6, 2) := by decide +kernel
theorem dX1_hasValue_16 : decode cX1_hasValue 16 = .ok (.if_icmp .eq 7, 3) := by decide +kernel
theorem dX1_hasValue_19 : decode cX1_hasValue 19 = .ok (.iconst 1, 1) := by decide +kernel
theorem dX1_hasValue_20 : decode cX1_hasValue 20 = .ok (.goto 4, 3) := by decide +kernel
theorem dX1_hasValue_23 : decode cX1_hasValue 23 = .ok (.iconst 0, 1) := by decide +kernel
theorem dX1_hasValue_24 : decode cX1_hasValue 24 = .ok (.ireturn, 1) := by decide +kernel
theorem dX1_isConst_0 : decode cX1_isConst 0 = .ok (.iload_n 1, 1) := by decide +kernel
theorem dX1_isConst_1 : decode cX1_isConst 1 = .ok (.ifCond .lt 24, 3) := by decide +kernel
theorem dX1_isConst_4 : decode cX1_isConst 4 = .ok (.iload_n 1, 1) := by decide +kernel
theorem dX1_isConst_5 : decode cX1_isConst 5 = .ok (.aload_n 0, 1) := by decide +kernel
theorem dX1_isConst_6 : decode cX1_isConst 6 = .ok (.getfield 28, 3) := by decide +kernel
theorem dX1_isConst_9 : decode cX1_isConst 9 = .ok (.if_icmp .ge 16, 3) := by decide +kernel
theorem dX1_isConst_12 : decode cX1_isConst 12 = .ok (.aload_n 0, 1) := by decide +kernel
theorem dX1_isConst_13 : decode cX1_isConst 13 = .ok (.getfield 9, 3) := by decide +kernel
theorem dX1_isConst_16 : decode cX1_isConst 16 = .ok (.iload_n 1, 1) := by decide +kernel
theorem dX1_isConst_17 : decode cX1_isConst 17 = .ok (.iaload, 1) := by decide +kernel
theorem dX1_isConst_18 : decode cX1_isConst 18 = .ok (.ifCond .ne 7, 3) := by decide +kernel
theorem dX1_isConst_21 : decode cX1_isConst 21 = .ok (.iconst 1, 1) := by decide +kernel
theorem dX1_isConst_22 : decode cX1_isConst 22 = .ok (.goto 4, 3) := by decide +kernel
theorem dX1_isConst_25 : decode cX1_isConst 25 = .ok (.iconst 0, 1) := by decide +kernel
theorem dX1_isConst_26 : decode cX1_isConst 26 = .ok (.ireturn, 1) := by decide +kernel
set_option maxRecDepth 20000 in
theorem ggX1_kindOf_X1_has : GoodIn wsX1_kindOf wsX1_has := goodIn_r _ [6, 7, 8, 9, 10, 11, 12, 13] (by decide +kernel) (by decide +kernel)
set_option maxRecDepth 20000 in
theorem gX1_kindOf_X1_has : GoodIn wsX1_kindOf (wsV RX1 32 RX1 yX1_has wsX1_has) := goodIn_app (goodIn_of _ (by decide +kernel)) ggX1_kindOf_X1_has
theorem dX1_kindOf_0 : decode cX1_kindOf 0 = .ok (.aload_n 0, 1) := by decide +kernel
theorem dX1_kindOf_1 : decode cX1_kindOf 1 = .ok (.iload_n 1, 1) := by decide +kernel
theorem dX1_kindOf_2 : decode cX1_kindOf 2 = .ok (.invokevirtual 32, 3) := by decide +kernel
theorem dX1_kindOf_5 : decode cX1_kindOf 5 = .ok (.ifCond .eq 12, 3) := by decide +kernel
theorem dX1_kindOf_8 : decode cX1_kindOf 8 = .ok (.aload_n 0, 1) := by decide +kernel
theorem dX1_kindOf_9 : decode cX1_kindOf 9 = .ok (.getfield 9, 3) := by decide +kernel
theorem dX1_kindOf_12 : decode cX1_kindOf 12 = .ok (.iload_n 1, 1) := by decide +kernel
theorem dX1_kindOf_13 : decode cX1_kindOf 13 = .ok (.iaload, 1) := by decide +kernel
theorem dX1_kindOf_14 : decode cX1_kindOf 14 = .ok (.goto 4, 3) := by decide +kernel
theorem dX1_kindOf_17 : decode cX1_kindOf 17 = .ok (.iconst (-1), 1) := by decide +kernel
theorem dX1_kindOf_18 : decode cX1_kindOf 18 = .ok (.ireturn, 1) := by decide +kernel
set_option maxRecDepth 20000 in
theorem ggX1_firstOf_X1_has : GoodIn wsX1_firstOf wsX1_has := goodIn_r _ [6, 7, 8, 9, 10, 11, 12, 13] (by decide +kernel) (by decide +kernel)
set_option maxRecDepth 20000 in
theorem gX1_firstOf_X1_has : GoodIn wsX1_firstOf (wsV RX1 32 RX1 yX1_has wsX1_has) := goodIn_app (goodIn_of _ (by decide +kernel)) ggX1_firstOf_X1_has
theorem dX1_firstOf_0 : decode cX1_firstOf 0 = .ok (.aload_n 0, 1) := by decide +kernel
theorem dX1_firstOf_1 : decode cX1_firstOf 1 = .ok (.iload_n 1, 1) := by decide +kernel
theorem dX1_firstOf_2 : decode cX1_firstOf 2 = .ok (.invokevirtual 32, 3) := by decide +kernel
theorem dX1_firstOf_5 : decode cX1_firstOf 5 = .ok (.ifCond .eq 12, 3) := by decide +kernel
theorem dX1_firstOf_8 : decode cX1_firstOf 8 = .ok (.aload_n 0, 1) := by decide +kernel
theorem dX1_firstOf_9 : decode cX1_firstOf 9 = .ok (.getfield 15, 3) := by decide +kernel
theorem dX1_firstOf_12 : decode cX1_firstOf 12 = .ok (.iload_n 1, 1) := by decide +kernel
theorem dX1_firstOf_13 : decode cX1_firstOf 13 = .ok (.iaload, 1) := by decide +kernel
theorem dX1_firstOf_14 : decode cX1_firstOf 14 = .ok (.goto 4, 3) := by decide +kernel
theorem dX1_firstOf_17 : decode cX1_firstOf 17 = .ok (.iconst (-1), 1) := by decide +kernel
theorem dX1_firstOf_18 : decode cX1_firstOf 18 = .ok (.ireturn, 1) := by decide +kernel
set_option maxRecDepth 20000 in
theorem ggX1_secondOf_X1_has : GoodIn wsX1_secondOf wsX1_has := goodIn_r _ [6, 7, 8, 9, 10, 11, 12, 13] (by decide +kernel) (by decide +kernel)
set_option maxRecDepth 20000 in
theorem gX1_secondOf_X1_has : GoodIn wsX1_secondOf (wsV RX1 32 RX1 yX1_has wsX1_has) := goodIn_app (goodIn_of _ (by decide +kernel)) ggX1_secondOf_X1_has
theorem dX1_secondOf_0 : decode cX1_secondOf 0 = .ok (.aload_n 0, 1) := by decide +kernel
theorem dX1_secondOf_1 : decode cX1_secondOf 1 = .ok (.iload_n 1, 1) := by decide +kernel
theorem dX1_secondOf_2 : decode cX1_secondOf 2 = .ok (.invokevirtual 32, 3) := by decide +kernel
theorem dX1_secondOf_5 : decode cX1_secondOf 5 = .ok (.ifCond .eq 12, 3) := by decide +kernel
theorem dX1_secondOf_8 : decode cX1_secondOf 8 = .ok (.aload_n 0, 1) := by decide +kernel
theorem dX1_secondOf_9 : decode cX1_secondOf 9 = .ok (.getfield 18, 3) := by decide +kernel
theorem dX1_secondOf_12 : decode cX1_secondOf 12 = .ok (.iload_n 1, 1) := by decide +kernel
theorem dX1_secondOf_13 : decode cX1_secondOf 13 = .ok (.iaload, 1) := by decide +kernel
theorem dX1_secondOf_14 : decode cX1_secondOf 14 = .ok (.goto 4, 3) := by decide +kernel
theorem dX1_secondOf_17 : decode cX1_secondOf 17 = .ok (.iconst (-1), 1) := by decide +kernel
theorem dX1_secondOf_18 : decode cX1_secondOf 18 = .ok (.ireturn, 1) := by decide +kernel
set_option maxRecDepth 20000 in
theorem ggX1_intOf_X1_has : GoodIn wsX1_intOf wsX1_has := goodIn_r _ [6, 7, 8, 9, 10, 11, 12, 13] (by decide +kernel) (by decide +kernel)
set_option maxRecDepth 20000 in
theorem gX1_intOf_X1_has : GoodIn wsX1_intOf (wsV RX1 32 RX1 yX1_has wsX1_has) := goodIn_app (goodIn_of _ (by decide +kernel)) ggX1_intOf_X1_has
theorem dX1_intOf_0 : decode cX1_intOf 0 = .ok (.aload_n 0, 1) := by decide +kernel
theorem dX1_intOf_1 : decode cX1_intOf 1 = .ok (.iload_n 1, 1) := by decide +kernel
theorem dX1_intOf_2 : decode cX1_intOf 2 = .ok (.invokevirtual 32, 3) := by decide +kernel
theorem dX1_intOf_5 : decode cX1_intOf 5 = .ok (.ifCond .eq 12, 3) := by decide +kernel
theorem dX1_intOf_8 : decode cX1_intOf 8 = .ok (.aload_n 0, 1) := by decide +kernel
theorem dX1_intOf_9 : decode cX1_intOf 9 = .ok (.getfield 21, 3) := by decide +kernel
theorem dX1_intOf_12 : decode cX1_intOf 12 = .ok (.iload_n 1, 1) := by decide +kernel
theorem dX1_intOf_13 : decode cX1_intOf 13 = .ok (.iaload, 1) := by decide +kernel
theorem dX1_intOf_14 : decode cX1_intOf 14 = .ok (.goto 4, 3) := by decide +kernel
theorem dX1_intOf_17 : decode cX1_intOf 17 = .ok (.iconst 0, 1) := by decide +kernel
theorem dX1_intOf_18 : decode cX1_intOf 18 = .ok (.ireturn, 1) := by decide +kernel
set_option maxRecDepth 20000 in
theorem ggX1_isCounting_X1_has : GoodIn wsX1_isCounting wsX1_has := goodIn_r _ [6, 7, 8, 9, 10, 11, 12, 13] (by decide +kernel) (by decide +kernel)
set_option maxRecDepth 20000 in
theorem gX1_isCounting_X1_has : GoodIn wsX1_isCounting (wsV RX1 32 RX1 yX1_has wsX1_has) := goodIn_app (goodIn_of _ (by decide +kernel)) ggX1_isCounting_X1_has
theorem dX1_isCounting_0 : decode cX1_isCounting 0 = .ok (.aload_n 0, 1) := by decide +kernel
theorem dX1_isCounting_1 : decode cX1_isCounting 1 = .ok (.iload_n 1, 1) := by decide +kernel
theorem dX1_isCounting_2 : decode cX1_isCounting 2 = .ok (.invokevirtual 32, 3) := by decide +kernel
theorem dX1_isCounting_5 : decode cX1_isCounting 5 = .ok (.ifCond .eq 16, 3) := by decide +kernel
theorem dX1_isCounting_8 : decode cX1_isCounting 8 = .ok (.aload_n 0, 1) := by decide +kernel
theorem dX1_isCounting_9 : decode cX1_isCounting 9 = .ok (.getfield 24, 3) := by decide +kernel
theorem dX1_isCounting_12 : decode cX1_isCounting 12 = .ok (.iload_n 1, 1) := by decide +kernel
theorem dX1_isCounting_13 : decode cX1_isCounting 13 = .ok (.baload, 1) := by decide +kernel
theorem dX1_isCounting_14 : decode cX1_isCounting 14 = .ok (.ifCond .eq 7, 3) := by decide +kernel
theorem dX1_isCounting_17 : decode cX1_isCounting 17 = .ok (.iconst 1, 1) := by decide +kernel
theorem dX1_isCounting_18 : decode cX1_isCounting 18 = .ok (.goto 4, 3) := by decide +kernel
theorem dX1_isCounting_21 : decode cX1_isCounting 21 = .ok (.iconst 0, 1) := by decide +kernel
theorem dX1_isCounting_22 : decode cX1_isCounting 22 = .ok (.ireturn, 1) := by decide +kernel
set_option maxRecDepth 20000 in
theorem ggX1_append_X1_isFull : GoodIn wsX1_append wsX1_isFull := goodIn_r _ [10, 1, 24, 25, 26, 27, 28, 29] (by decide +kernel) (by decide +kernel)
set_option maxRecDepth 20000 in
theorem gX1_append_X1_isFull : GoodIn wsX1_append (wsV RX1 36 RX1 yX1_isFull wsX1_isFull) := goodIn_app (goodIn_of _ (by decide +kernel)) ggX1_append_X1_isFull
set_option maxRecDepth 20000 in
theorem ggX1_append_X1_findCounting : GoodIn wsX1_append wsX1_findCounting := goodIn_r _ [14, 1, 15, 2, 3, 4, 16, 17, 18, 9, 19, 20, 21, 22, 23, 24, 25, 26, 27, 28, 29] (by decide +kernel) (by decide +kernel)
set_option maxRecDepth 20000 in
theorem gX1_append_X1_findCounting : GoodIn wsX1_append (wsV RX1 40 RX1 yX1_findCounting wsX1_findCounting) := goodIn_app (goodIn_of _ (by decide +kernel)) ggX1_append_X1_findCounting
theorem dX1_append_0 : decode cX1_append 0 = .ok (.aload_n 0, 1) := by decide +kernel
theorem dX1_append_1 : decode cX1_append 1 = .ok (.invokevirtual 36, 3) := by decide +kernel
theorem dX1_append_4 : decode cX1_append 4 = .ok (.ifCond .eq 5, 3) := by decide +kernel
theorem dX1_append_7 : decode cX1_append 7 = .ok (.iconst (-1), 1) := by decide +kernel
theorem dX1_append_8 : decode cX1_append 8 = .ok (.ireturn, 1) := by decide +kernel
theorem dX1_append_9 : decode cX1_append 9 = .ok (.aload_n 0, 1) := by decide +kernel
theorem dX1_append_10 : decode cX1_append 10 = .ok (.getfield 28, 3) := by decide +kernel
theorem dX1_append_13 : decode cX1_append 13 = .ok (.istore 5, 2) := by decide +kernel
theorem dX1_append_15 : decode cX1_append 15 = .ok (.aload_n 0, 1) := by decide +kernel
theorem dX1_append_16 : decode cX1_append 16 = .ok (.getfield 9, 3) := by decide +kernel
theorem dX1_append_19 : decode cX1_append 19 = .ok (.iload 5, 2) := by decide +kernel
theorem dX1_append_21 : decode cX1_append 21 = .ok (.iload_n 1, 1) := by decide +kernel
theorem dX1_append_22 : decode cX1_append 22 = .ok (.iastore, 1) := by decide +kernel
theorem dX1_append_23 : decode cX1_append 23 = .ok (.aload_n 0, 1) := by decide +kernel
theorem dX1_append_24 : decode cX1_append 24 = .ok (.getfield 15, 3) := by decide +kernel
theorem dX1_append_27 : decode cX1_append 27 = .ok (.iload 5, 2) := by decide +kernel
theorem dX1_append_29 : decode cX1_append 29 = .ok (.iload_n 2, 1) := by decide +kernel
theorem dX1_append_30 : decode cX1_append 30 = .ok (.iastore, 1) := by decide +kernel
theorem dX1_append_31 : decode cX1_append 31 = .ok (.aload_n 0, 1) := by decide +kernel
theorem dX1_append_32 : decode cX1_append 32 = .ok (.getfield 18, 3) := by decide +kernel
theorem dX1_append_35 : decode cX1_append 35 = .ok (.iload 5, 2) := by decide +kernel
theorem dX1_append_37 : decode cX1_append 37 = .ok (.iload_n 3, 1) := by decide +kernel
theorem dX1_append_38 : decode cX1_append 38 = .ok (.iastore, 1) := by decide +kernel
theorem dX1_append_39 : decode cX1_append 39 = .ok (.aload_n 0, 1) := by decide +kernel
theorem dX1_append_40 : decode cX1_append 40 = .ok (.getfield 21, 3) := by decide +kernel
theorem dX1_append_43 : decode cX1_append 43 = .ok (.iload 5, 2) := by decide +kernel
theorem dX1_append_45 : decode cX1_append 45 = .ok (.iload 4, 2) := by decide +kernel
theorem dX1_append_47 : decode cX1_append 47 = .ok (.iastore, 1) := by decide +kernel
theorem dX1_append_48 : decode cX1_append 48 = .ok (.aload_n 0, 1) := by decide +kernel
theorem dX1_append_49 : decode cX1_append 49 = .ok (.dup, 1) := by decide +kernel
theorem dX1_append_50 : decode cX1_append 50 = .ok (.getfield 28, 3) := by decide +kernel
theorem dX1_append_53 : decode cX1_append 53 = .ok (.iconst 1, 1) := by decide +kernel
theorem dX1_append_54 : decode cX1_append 54 = .ok (.iadd, 1) := by decide +kernel
theorem dX1_append_55 : decode cX1_append 55 = .ok (.putfield 28, 3) := by decide +kernel
theorem dX1_append_58 : decode cX1_append 58 = .ok (.aload_n 0, 1) := by decide +kernel
theorem dX1_append_59 : decode cX1_append 59 = .ok (.invokevirtual 40, 3) := by decide +kernel
theorem dX1_append_62 : decode cX1_append 62 = .ok (.iload 5, 2) := by decide +kernel
theorem dX1_append_64 : decode cX1_append 64 = .ok (.ireturn, 1) := by decide +kernel
set_option maxRecDepth 20000 in
theorem ggX1_findCounting_X1_markCounting : GoodIn wsX1_findCounting wsX1_markCounting := goodIn_r _ [10, 2, 11, 12, 13, 9, 14, 1, 15, 16, 17, 18, 19, 20] (by decide +kernel) (by decide +kernel)
set_option maxRecDepth 20000 in
theorem gX1_findCounting_X1_markCounting : GoodIn wsX1_findCounting (wsV RX1 43 RX1 yX1_markCounting wsX1_markCounting) := goodIn_app (goodIn_of _ (by decide +kernel)) ggX1_findCounting_X1_markCounting
theorem dX1_findCounting_0 : decode cX1_findCounting 0 = .ok (.iconst 0, 1) := by decide +kernel
theorem dX1_findCounting_1 : decode cX1_findCounting 1 = .ok (.istore_n 1, 1) := by decide +kernel
theorem dX1_findCounting_2 : decode cX1_findCounting 2 = .ok (.iload_n 1, 1) := by decide +kernel
theorem dX1_findCounting_3 : decode cX1_findCounting 3 = .ok (.aload_n 0, 1) := by decide +kernel
theorem dX1_findCounting_4 : decode cX1_findCounting 4 = .ok (.getfield 28, 3) := by decide +kernel
theorem dX1_findCounting_7 : decode cX1_findCounting 7 = .ok (.if_icmp .ge 31, 3) := by decide +kernel
theorem dX1_findCounting_10 : decode cX1_findCounting 10 = .ok (.aload_n 0, 1) := by decide +kernel
theorem dX1_findCounting_11 : decode cX1_findCounting 11 = .ok (.getfield 24, 3) := by decide +kernel
theorem dX1_findCounting_14 : decode cX1_findCounting 14 = .ok (.iload_n 1, 1) := by decide +kernel
theorem dX1_findCounting_15 : decode cX1_findCounting 15 = .ok (.aload_n 0, 1) := by decide +kernel
theorem dX1_findCounting_16 : decode cX1_findCounting 16 = .ok (.getfield 9, 3) := by decide +kernel
theorem dX1_findCounting_19 : decode cX1_findCounting 19 = .ok (.iload_n 1, 1) := by decide +kernel
theorem dX1_findCounting_20 : decode cX1_findCounting 20 = .ok (.iaload, 1) := by decide +kernel
theorem dX1_findCounting_21 : decode cX1_findCounting 21 = .ok (.bipush 6, 2) := by decide +kernel
theorem dX1_findCounting_23 : decode cX1_findCounting 23 = .ok (.if_icmp .ne 7, 3) := by decide +kernel
theorem dX1_findCounting_26 : decode cX1_findCounting 26 = .ok (.iconst 1, 1) := by decide +kernel
theorem dX1_findCounting_27 : decode cX1_findCounting 27 = .ok (.goto 4, 3) := by decide +kernel
theorem dX1_findCounting_30 : decode cX1_findCounting 30 = .ok (.iconst 0, 1) := by decide +kernel
theorem dX1_findCounting_31 : decode cX1_findCounting 31 = .ok (.bastore, 1) := by decide +kernel
theorem dX1_findCounting_32 : decode cX1_findCounting 32 = .ok (.iinc 1 1, 3) := by decide +kernel
theorem dX1_findCounting_35 : decode cX1_findCounting 35 = .ok (.goto (-33), 3) := by decide +kernel
theorem dX1_findCounting_38 : decode cX1_findCounting 38 = .ok (.aload_n 0, 1) := by decide +kernel
theorem dX1_findCounting_39 : decode cX1_findCounting 39 = .ok (.getfield 28, 3) := by decide +kernel
theorem dX1_findCounting_42 : decode cX1_findCounting 42 = .ok (.iconst 1, 1) := by decide +kernel
theorem dX1_findCounting_43 : decode cX1_findCounting 43 = .ok (.isub, 1) := by decide +kernel
theorem dX1_findCounting_44 : decode cX1_findCounting 44 = .ok (.istore_n 1, 1) := by decide +kernel
theorem dX1_findCounting_45 : decode cX1_findCounting 45 = .ok (.iload_n 1, 1) := by decide +kernel
theorem dX1_findCounting_46 : decode cX1_findCounting 46 = .ok (.ifCond .lt 38, 3) := by decide +kernel
theorem dX1_findCounting_49 : decode cX1_findCounting 49 = .ok (.aload_n 0, 1) := by decide +kernel
theorem dX1_findCounting_50 : decode cX1_findCounting 50 = .ok (.getfield 24, 3) := by decide +kernel
theorem dX1_findCounting_53 : decode cX1_findCounting 53 = .ok (.iload_n 1, 1) := by decide +kernel
theorem dX1_findCounting_54 : decode cX1_findCounting 54 = .ok (.baload, 1) := by decide +kernel
theorem dX1_findCounting_55 : decode cX1_findCounting 55 = .ok (.ifCond .eq 23, 3) := by decide +kernel
theorem dX1_findCounting_58 : decode cX1_findCounting 58 = .ok (.aload_n 0, 1) := by decide +kernel
theorem dX1_findCounting_59 : decode cX1_findCounting 59 = .ok (.aload_n 0, 1) := by decide +kernel
theorem dX1_findCounting_60 : decode cX1_findCounting 60 = .ok (.getfield 15, 3) := by decide +kernel
theorem dX1_findCounting_63 : decode cX1_findCounting 63 = .ok (.iload_n 1, 1) := by decide +kernel
theorem dX1_findCounting_64 : decode cX1_findCounting 64 = .ok (.iaload, 1) := by decide +kernel
theorem dX1_findCounting_65 : decode cX1_findCounting 65 = .ok (.invokevirtual 43, 3) := by decide +kernel
theorem dX1_findCounting_68 : decode cX1_findCounting 68 = .ok (.aload_n 0, 1) := by decide +kernel
theorem dX1_findCounting_69 : decode cX1_findCounting 69 = .ok (.aload_n 0, 1) := by decide +kernel
theorem dX1_findCounting_70 : decode cX1_findCounting 70 = .ok (.getfield 18, 3) := by decide +kernel
theorem dX1_findCounting_73 : decode cX1_findCounting 73 = .ok (.iload_n 1, 1) := by decide +kernel
theorem dX1_findCounting_74 : decode cX1_findCounting 74 = .ok (.iaload, 1) := by decide +kernel
theorem dX1_findCounting_75 : decode cX1_findCounting 75 = .ok (.invokevirtual 43, 3) := by decide +kernel
theorem dX1_findCounting_78 : decode cX1_findCounting 78 = .ok (.iinc 1 (-1), 3) := by decide +kernel
theorem dX1_findCounting_81 : decode cX1_findCounting 81 = .ok (.goto (-36), 3) := by decide +kernel
theorem dX1_findCounting_84 : decode cX1_findCounting 84 = .ok (.return_, 1) := by decide +kernel
set_option maxRecDepth 20000 in
theorem ggX1_markCounting_X1_has : GoodIn wsX1_markCounting wsX1_has := goodIn_r _ [6, 7, 8, 9, 10, 11, 12, 13] (by decide +kernel) (by decide +kernel)
set_option maxRecDepth 20000 in
theorem gX1_markCounting_X1_has : GoodIn wsX1_markCounting (wsV RX1 32 RX1 yX1_has wsX1_has) := goodIn_app (goodIn_of _ (by decide +kernel)) ggX1_markCounting_X1_has
theorem dX1_markCounting_0 : decode cX1_markCounting 0 = .ok (.aload_n 0, 1) := by decide +kernel
theorem dX1_markCounting_1 : decode cX1_markCounting 1 = .ok (.iload_n 1, 1) := by decide +kernel
theorem dX1_markCounting_2 : decode cX1_markCounting 2 = .ok (.invokevirtual 32, 3) := by decide +kernel
theorem dX1_markCounting_5 : decode cX1_markCounting 5 = .ok (.ifCond .eq 10, 3) := by decide +kernel
theorem dX1_markCounting_8 : decode cX1_markCounting 8 = .ok (.aload_n 0, 1) := by decide +kernel
theorem dX1_markCounting_9 : decode cX1_markCounting 9 = .ok (.getfield 24, 3) := by decide +kernel
theorem dX1_markCounting_12 : decode cX1_markCounting 12 = .ok (.iload_n 1, 1) := by decide +kernel
theorem dX1_markCounting_13 : decode cX1_markCounting 13 = .ok (.iconst 1, 1) := by decide +kernel
theorem dX1_markCounting_14 : decode cX1_markCounting 14 = .ok (.bastore, 1) := by decide +kernel
theorem dX1_markCounting_15 : decode cX1_markCounting 15 = .ok (.return_, 1) := by decide +kernel
set_option maxRecDepth 20000 in
theorem ggX1_firstUse_X1_has : GoodIn wsX1_firstUse wsX1_has := goodIn_r _ [13, 5, 14, 15, 16, 17, 18, 19] (by decide +kernel) (by decide +kernel)
set_option maxRecDepth 20000 in
theorem gX1_firstUse_X1_has : GoodIn wsX1_firstUse (wsV RX1 32 RX1 yX1_has wsX1_has) := goodIn_app (goodIn_of _ (by decide +kernel)) ggX1_firstUse_X1_has
theorem dX1_firstUse_0 : decode cX1_firstUse 0 = .ok (.aload_n 0, 1) := by decide +kernel
theorem dX1_firstUse_1 : decode cX1_firstUse 1 = .ok (.iload_n 1, 1) := by decide +kernel
theorem dX1_firstUse_2 : decode cX1_firstUse 2 = .ok (.invokevirtual 32, 3) := by decide +kernel
theorem dX1_firstUse_5 : decode cX1_firstUse 5 = .ok (.ifCond .ne 5, 3) := by decide +kernel
theorem dX1_firstUse_8 : decode cX1_firstUse 8 = .ok (.iconst (-1), 1) := by decide +kernel
theorem dX1_firstUse_9 : decode cX1_firstUse 9 = .ok (.ireturn, 1) := by decide +kernel
theorem dX1_firstUse_10 : decode cX1_firstUse 10 = .ok (.iload_n 2, 1) := by decide +kernel
theorem dX1_firstUse_11 : decode cX1_firstUse 11 = .ok (.iconst 0, 1) := by decide +kernel
theorem dX1_firstUse_12 : decode cX1_firstUse 12 = .ok (.invokestatic 47, 3) := by decide +kernel
theorem dX1_firstUse_15 : decode cX1_firstUse 15 = .ok (.istore_n 3, 1) := by decide +kernel
theorem dX1_firstUse_16 : decode cX1_firstUse 16 = .ok (.iload_n 3, 1) := by decide +kernel
theorem dX1_firstUse_17 : decode cX1_firstUse 17 = .ok (.aload_n 0, 1) := by decide +kernel
theorem dX1_firstUse_18 : decode cX1_firstUse 18 = .ok (.getfield 28, 3) := by decide +kernel
theorem dX1_firstUse_21 : decode cX1_firstUse 21 = .ok (.if_icmp .ge 40, 3) := by decide +kernel
theorem dX1_firstUse_24 : decode cX1_firstUse 24 = .ok (.aload_n 0, 1) := by decide +kernel
theorem dX1_firstUse_25 : decode cX1_firstUse 25 = .ok (.getfield 24, 3) := by decide +kernel
theorem dX1_firstUse_28 : decode cX1_firstUse 28 = .ok (.iload_n 3, 1) := by decide +kernel
theorem dX1_firstUse_29 : decode cX1_firstUse 29 = .ok (.baload, 1) := by decide +kernel
theorem dX1_firstUse_30 : decode cX1_firstUse 30 = .ok (.ifCond .eq 25, 3) := by decide +kernel
theorem dX1_firstUse_33 : decode cX1_firstUse 33 = .ok (.aload_n 0, 1) := by decide +kernel
theorem dX1_firstUse_34 : decode cX1_firstUse 34 = .ok (.getfield 15, 3) := by decide +kernel
theorem dX1_firstUse_37 : decode cX1_firstUse 37 = .ok (.iload_n 3, 1) := by decide +kernel
theorem dX1_firstUse_38 : decode cX1_firstUse 38 = .ok (.iaload, 1) := by decide +kernel
theorem dX1_firstUse_39 : decode cX1_firstUse 39 = .ok (.iload_n 1, 1) := by decide +kernel
theorem dX1_firstUse_40 : decode cX1_firstUse 40 = .ok (.if_icmp .eq 13, 3) := by decide +kernel
theorem dX1_firstUse_43 : decode cX1_firstUse 43 = .ok (.aload_n 0, 1) := by decide +kernel
theorem dX1_firstUse_44 : decode cX1_firstUse 44 = .ok (.getfield 18, 3) := by decide +kernel
theorem dX1_firstUse_47 : decode cX1_firstUse 47 = .ok (.iload_n 3, 1) := by decide +kernel
theorem dX1_firstUse_48 : decode cX1_firstUse 48 = .ok (.iaload, 1) := by decide +kernel
theorem dX1_firstUse_49 : decode cX1_firstUse 49 = .ok (.iload_n 1, 1) := by decide +kernel
theorem dX1_firstUse_50 : decode cX1_firstUse 50 = .ok (.if_icmp .ne 5, 3) := by decide +kernel
theorem dX1_firstUse_53 : decode cX1_firstUse 53 = .ok (.iload_n 3, 1) := by decide +kernel
theorem dX1_firstUse_54 : decode cX1_firstUse 54 = .ok (.ireturn, 1) := by decide +kernel
theorem dX1_firstUse_55 : decode cX1_firstUse 55 = .ok (.iinc 3 1, 3) := by decide +kernel
theorem dX1_firstUse_58 : decode cX1_firstUse 58 = .ok (.goto (-42), 3) := by decide +kernel
theorem dX1_firstUse_61 : decode cX1_firstUse 61 = .ok (.iconst (-1), 1) := by decide +kernel
theorem dX1_firstUse_62 : decode cX1_firstUse 62 = .ok (.ireturn, 1) := by decide +kernel
theorem dX2_init_0 : decode cX2_init 0 = .ok (.aload_n 0, 1) := by decide +kernel
theorem dX2_init_1 : decode cX2_init 1 = .ok (.invokespecial 3, 3) := by decide +kernel
theorem dX2_init_4 : decode cX2_init 4 = .ok (.aload_n 0, 1) := by decide +kernel
theorem dX2_init_5 : decode cX2_init 5 = .ok (.bipush 8, 2) := by decide +kernel
theorem dX2_init_7 : decode cX2_init 7 = .ok (.newarray .int, 2) := by decide +kernel
theorem dX2_init_9 : decode cX2_init 9 = .ok (.putfield 9, 3) := by decide +kernel
theorem dX2_init_12 : decode cX2_init 12 = .ok (.aload_n 0, 1) := by decide +kernel
theorem dX2_init_13 : decode cX2_init 13 = .ok (.bipush 60, 2) := by decide +kernel
theorem dX2_init_15 : decode cX2_init 15 = .ok (.newarray .int, 2) := by decide +kernel
theorem dX2_init_17 : decode cX2_init 17 = .ok (.putfield 15, 3) := by decide +kernel
theorem dX2_init_20 : decode cX2_init 20 = .ok (.aload_n 0, 1) := by decide +kernel
theorem dX2_init_21 : decode cX2_init 21 = .ok (.bipush 60, 2) := by decide +kernel
theorem dX2_init_23 : decode cX2_init 23 = .ok (.newarray .int, 2) := by decide +kernel
theorem dX2_init_25 : decode cX2_init 25 = .ok (.putfield 18, 3) := by decide +kernel
theorem dX2_init_28 : decode cX2_init 28 = .ok (.aload_n 0, 1) := by decide +kernel
theorem dX2_init_29 : decode cX2_init 29 = .ok (.iconst 0, 1) := by decide +kernel
theorem dX2_init_30 : decode cX2_init 30 = .ok (.putfield 21, 3) := by decide +kernel
theorem dX2_init_33 : decode cX2_init 33 = .ok (.return_, 1) := by decide +kernel
theorem dX2_outputCount_0 : decode cX2_outputCount 0 = .ok (.aload_n 0, 1) := by decide +kernel
theorem dX2_outputCount_1 : decode cX2_outputCount 1 = .ok (.getfield 21, 3) := by decide +kernel
theorem dX2_outputCount_4 : decode cX2_outputCount 4 = .ok (.ireturn, 1) := by decide +kernel
theorem dX2_outputAt_0 : decode cX2_outputAt 0 = .ok (.iload_n 1, 1) := by decide +kernel
theorem dX2_outputAt_1 : decode cX2_outputAt 1 = .ok (.ifCond .lt 20, 3) := by decide +kernel
theorem dX2_outputAt_4 : decode cX2_outputAt 4 = .ok (.iload_n 1, 1) := by decide +kernel
theorem dX2_outputAt_5 : decode cX2_outputAt 5 = .ok (.aload_n 0, 1) := by decide +kernel
theorem dX2_outputAt_6 : decode cX2_outputAt 6 = .ok (.getfield 21, 3) := by decide +kernel
theorem dX2_outputAt_9 : decode cX2_outputAt 9 = .ok (.if_icmp .ge 12, 3) := by decide +kernel
theorem dX2_outputAt_12 : decode cX2_outputAt 12 = .ok (.aload_n 0, 1) := by decide +kernel
theorem dX2_outputAt_13 : decode cX2_outputAt 13 = .ok (.getfield 18, 3) := by decide +kernel
theorem dX2_outputAt_16 : decode cX2_outputAt 16 = .ok (.iload_n 1, 1) := by decide +kernel
theorem dX2_outputAt_17 : decode cX2_outputAt 17 = .ok (.iaload, 1) := by decide +kernel
theorem dX2_outputAt_18 : decode cX2_outputAt 18 = .ok (.goto 4, 3) := by decide +kernel
theorem dX2_outputAt_21 : decode cX2_outputAt 21 = .ok (.iconst 0, 1) := by decide +kernel
theorem dX2_outputAt_22 : decode cX2_outputAt 22 = .ok (.ireturn, 1) := by decide +kernel
set_option maxRecDepth 20000 in
theorem ggX2_execute_X3_length : GoodIn wsX2_execute wsX3_length := goodIn_r _ [8, 9, 52, 53, 54] (by decide +kernel) (by decide +kernel)
set_option maxRecDepth 20000 in
theorem gX2_execute_X3_length : GoodIn wsX2_execute (wsV RX2 25 RX3 yX3_length wsX3_length) := goodIn_app (goodIn_of _ (by decide +kernel)) ggX2_execute_X3_length
set_option maxRecDepth 20000 in
theorem ggX2_execute_X3_at : GoodIn wsX2_execute wsX3_at := goodIn_r _ [13, 14, 15, 16, 17, 7, 18, 9, 52, 53, 54] (by decide +kernel) (by decide +kernel)
set_option maxRecDepth 20000 in
theorem gX2_execute_X3_at : GoodIn wsX2_execute (wsV RX2 31 RX3 yX3_at wsX3_at) := goodIn_app (goodIn_of _ (by decide +kernel)) ggX2_execute_X3_at
set_option maxRecDepth 20000 in
theorem ggX2_execute_X2_perform : GoodIn wsX2_execute wsX2_perform := goodIn_r _ [23, 24, 25, 26, 22, 27, 1, 28, 29, 30, 31, 32, 33, 34, 35, 3, 36, 37, 38, 39, 40, 2, 41, 42, 43, 44, 45, 46, 47, 48, 49, 50, 51] (by decide +kernel) (by decide +kernel)
set_option maxRecDepth 20000 in
theorem gX2_execute_X2_perform : GoodIn wsX2_execute (wsV RX2 35 RX2 yX2_perform wsX2_perform) := goodIn_app (goodIn_of _ (by decide +kernel)) ggX2_execute_X2_perform
theorem dX2_execute_0 : decode cX2_execute 0 = .ok (.iconst 0, 1) := by decide +kernel
theorem dX2_execute_1 : decode cX2_execute 1 = .ok (.istore_n 2, 1) := by decide +kernel
theorem dX2_execute_2 : decode cX2_execute 2 = .ok (.iload_n 2, 1) := by decide +kernel
theorem dX2_execute_3 : decode cX2_execute 3 = .ok (.bipush 8, 2) := by decide +kernel
theorem dX2_execute_5 : decode cX2_execute 5 = .ok (.if_icmp .ge 16, 3) := by decide +kernel
theorem dX2_execute_8 : decode cX2_execute 8 = .ok (.aload_n 0, 1) := by decide +kernel
theorem dX2_execute_9 : decode cX2_execute 9 = .ok (.getfield 9, 3) := by decide +kernel
theorem dX2_execute_12 : decode cX2_execute 12 = .ok (.iload_n 2, 1) := by decide +kernel
theorem dX2_execute_13 : decode cX2_execute 13 = .ok (.iconst 0, 1) := by decide +kernel
theorem dX2_execute_14 : decode cX2_execute 14 = .ok (.iastore, 1) := by decide +kernel
theorem dX2_execute_15 : decode cX2_execute 15 = .ok (.iinc 2 1, 3) := by decide +kernel
theorem dX2_execute_18 : decode cX2_execute 18 = .ok (.goto (-16), 3) := by decide +kernel
theorem dX2_execute_21 : decode cX2_execute 21 = .ok (.iconst 0, 1) := by decide +kernel
theorem dX2_execute_22 : decode cX2_execute 22 = .ok (.istore_n 2, 1) := by decide +kernel
theorem dX2_execute_23 : decode cX2_execute 23 = .ok (.iload_n 2, 1) := by decide +kernel
theorem dX2_execute_24 : decode cX2_execute 24 = .ok (.bipush 60, 2) := by decide +kernel
theorem dX2_execute_26 : decode cX2_execute 26 = .ok (.if_icmp .ge 16, 3) := by decide +kernel
theorem dX2_execute_29 : decode cX2_execute 29 = .ok (.aload_n 0, 1) := by decide +kernel
theorem dX2_execute_30 : decode cX2_execute 30 = .ok (.getfield 15, 3) := by decide +kernel
theorem dX2_execute_33 : decode cX2_execute 33 = .ok (.iload_n 2, 1) := by decide +kernel
theorem dX2_execute_34 : decode cX2_execute 34 = .ok (.iconst 0, 1) := by decide +kernel
theorem dX2_execute_35 : decode cX2_execute 35 = .ok (.iastore, 1) := by decide +kernel
theorem dX2_execute_36 : decode cX2_execute 36 = .ok (.iinc 2 1, 3) := by decide +kernel
theorem dX2_execute_39 : decode cX2_execute 39 = .ok (.goto (-16), 3) := by decide +kernel
theorem dX2_execute_42 : decode cX2_execute 42 = .ok (.aload_n 0, 1) := by decide +kernel
theorem dX2_execute_43 : decode cX2_execute 43 = .ok (.iconst 0, 1) := by decide +kernel
theorem dX2_execute_44 : decode cX2_execute 44 = .ok (.putfield 21, 3) := by decide +kernel
theorem dX2_execute_47 : decode cX2_execute 47 = .ok (.iconst 0, 1) := by decide +kernel
theorem dX2_execute_48 : decode cX2_execute 48 = .ok (.istore_n 2, 1) := by decide +kernel
theorem dX2_execute_49 : decode cX2_execute 49 = .ok (.iload_n 2, 1) := by decide +kernel
theorem dX2_execute_50 : decode cX2_execute 50 = .ok (.aload_n 1, 1) := by decide +kernel
theorem dX2_execute_51 : decode cX2_execute 51 = .ok (.invokevirtual 25, 3) := by decide +kernel
theorem dX2_execute_54 : decode cX2_execute 54 = .ok (.if_icmp .ge 37, 3) := by decide +kernel
theorem dX2_execute_57 : decode cX2_execute 57 = .ok (.aload_n 0, 1) := by decide +kernel
theorem dX2_execute_58 : decode cX2_execute 58 = .ok (.aload_n 1, 1) := by decide +kernel
theorem dX2_execute_59 : decode cX2_execute 59 = .ok (.iload_n 2, 1) := by decide +kernel
theorem dX2_execute_60 : decode cX2_execute 60 = .ok (.iconst 0, 1) := by decide +kernel
theorem dX2_execute_61 : decode cX2_execute 61 = .ok (.invokevirtual 31, 3) := by decide +kernel
theorem dX2_execute_64 : decode cX2_execute 64 = .ok (.aload_n 1, 1) := by decide +kernel
theorem dX2_execute_65 : decode cX2_execute 65 = .ok (.iload_n 2, 1) := by decide +kernel
theorem dX2_execute_66 : decode cX2_execute 66 = .ok (.iconst 1, 1) := by decide +kernel
theorem dX2_execute_67 : decode cX2_execute 67 = .ok (.invokevirtual 31, 3) := by decide +kernel
theorem dX2_execute_70 : decode cX2_execute 70 = .ok (.aload_n 1, 1) := by decide +kernel
theorem dX2_execute_71 : decode cX2_execute 71 = .ok (.iload_n 2, 1) := by decide +kernel
theorem dX2_execute_72 : decode cX2_execute 72 = .ok (.iconst 2, 1) := by decide +kernel
theorem dX2_execute_73 : decode cX2_execute 73 = .ok (.invokevirtual 31, 3) := by decide +kernel
theorem dX2_execute_76 : decode cX2_execute 76 = .ok (.aload_n 1, 1) := by decide +kernel
theorem dX2_execute_77 : decode cX2_execute 77 = .ok (.iload_n 2, 1) := by decide +kernel
theorem dX2_execute_78 : decode cX2_execute 78 = .ok (.iconst 3, 1) := by decide +kernel
theorem dX2_execute_79 : decode cX2_execute 79 = .ok (.invokevirtual 31, 3) := by decide +kernel
theorem dX2_execute_82 : decode cX2_execute 82 = .ok (.invokevirtual 35, 3) := by decide +kernel
theorem dX2_execute_85 : decode cX2_execute 85 = .ok (.iinc 2 1, 3) := by decide +kernel
theorem dX2_execute_88 : decode cX2_execute 88 = .ok (.goto (-39), 3) := by decide +kernel
theorem dX2_execute_91 : decode cX2_execute 91 = .ok (.return_, 1) := by decide +kernel
set_option maxRecDepth 20000 in
theorem ggX2_perform_X2_setRegister : GoodIn wsX2_perform wsX2_setRegister := goodIn_r _ [5, 6, 29, 30, 31, 32] (by decide +kernel) (by decide +kernel)
set_option maxRecDepth 20000 in
theorem gX2_perform_X2_setRegister : GoodIn wsX2_perform (wsV RX2 39 RX2 yX2_setRegister wsX2_setRegister) := goodIn_app (goodIn_of _ (by decide +kernel)) ggX2_perform_X2_setRegister
set_option maxRecDepth 20000 in
theorem ggX2_perform_X2_inRegister : GoodIn wsX2_perform wsX2_inRegister := goodIn_r _ [10, 6, 29, 30, 31, 32] (by decide +kernel) (by decide +kernel)
set_option maxRecDepth 20000 in
theorem gX2_perform_X2_inRegister : GoodIn wsX2_perform (wsV RX2 43 RX2 yX2_inRegister wsX2_inRegister) := goodIn_app (goodIn_of _ (by decide +kernel)) ggX2_perform_X2_inRegister
set_option maxRecDepth 20000 in
theorem ggX2_perform_X2_write : GoodIn wsX2_perform wsX2_write := goodIn_r _ [14, 15, 16, 29, 30, 31, 32] (by decide +kernel) (by decide +kernel)
set_option maxRecDepth 20000 in
theorem gX2_perform_X2_write : GoodIn wsX2_perform (wsV RX2 47 RX2 yX2_write wsX2_write) := goodIn_app (goodIn_of _ (by decide +kernel)) ggX2_perform_X2_write
set_option maxRecDepth 20000 in
theorem ggX2_perform_X2_inSlot : GoodIn wsX2_perform wsX2_inSlot := goodIn_r _ [20, 21, 29, 30, 31, 32] (by decide +kernel) (by decide +kernel)
set_option maxRecDepth 20000 in
theorem gX2_perform_X2_inSlot : GoodIn wsX2_perform (wsV RX2 51 RX2 yX2_inSlot wsX2_inSlot) := goodIn_app (goodIn_of _ (by decide +kernel)) ggX2_perform_X2_inSlot
set_option maxRecDepth 20000 in
theorem ggX2_perform_X2_setSlot : GoodIn wsX2_perform wsX2_setSlot := goodIn_r _ [25, 21, 29, 30, 31, 32] (by decide +kernel) (by decide +kernel)
set_option maxRecDepth 20000 in
theorem gX2_perform_X2_setSlot : GoodIn wsX2_perform (wsV RX2 54 RX2 yX2_setSlot wsX2_setSlot) := goodIn_app (goodIn_of _ (by decide +kernel)) ggX2_perform_X2_setSlot
set_option maxRecDepth 20000 in
theorem ggX2_perform_X2_compute : GoodIn wsX2_perform wsX2_compute := goodIn_r _ [28] (by decide +kernel) (by decide +kernel)
set_option maxRecDepth 20000 in
theorem gX2_perform_X2_compute : GoodIn wsX2_perform (va_wsS RX2 57 yX2_compute wsX2_compute) := goodIn_app (goodIn_of _ (by decide +kernel)) ggX2_perform_X2_compute
theorem dX2_perform_0 : decode cX2_perform 0 = .ok (.iload_n 1, 1) := by decide +kernel
theorem dX2_perform_1 : decode cX2_perform 1 = .ok (.tableswitch 111 0 8 #[51, 111, 111, 111, 111, 60, 73, 85, 98], 51) := by decide +kernel
theorem dX2_perform_52 : decode cX2_perform 52 = .ok (.aload_n 0, 1) := by decide +kernel
theorem dX2_perform_53 : decode cX2_perform 53 = .ok (.iload_n 2, 1) := by decide +kernel
theorem dX2_perform_54 : decode cX2_perform 54 = .ok (.iload_n 3, 1) := by decide +kernel
theorem dX2_perform_55 : decode cX2_perform 55 = .ok (.invokevirtual 39, 3) := by decide +kernel
theorem dX2_perform_58 : decode cX2_perform 58 = .ok (.goto 74, 3) := by decide +kernel
theorem dX2_perform_61 : decode cX2_perform 61 = .ok (.aload_n 0, 1) := by decide +kernel
theorem dX2_perform_62 : decode cX2_perform 62 = .ok (.iload_n 2, 1) := by decide +kernel
theorem dX2_perform_63 : decode cX2_perform 63 = .ok (.aload_n 0, 1) := by decide +kernel
theorem dX2_perform_64 : decode cX2_perform 64 = .ok (.iload_n 3, 1) := by decide +kernel
theorem dX2_perform_65 : decode cX2_perform 65 = .ok (.invokevirtual 43, 3) := by decide +kernel
theorem dX2_perform_68 : decode cX2_perform 68 = .ok (.invokevirtual 39, 3) := by decide +kernel
theorem dX2_perform_71 : decode cX2_perform 71 = .ok (.goto 61, 3) := by decide +kernel
theorem dX2_perform_74 : decode cX2_perform 74 = .ok (.aload_n 0, 1) := by decide +kernel
theorem dX2_perform_75 : decode cX2_perform 75 = .ok (.aload_n 0, 1) := by decide +kernel
theorem dX2_perform_76 : decode cX2_perform 76 = .ok (.iload_n 2, 1) := by decide +kernel
theorem dX2_perform_77 : decode cX2_perform 77 = .ok (.invokevirtual 43, 3) := by decide +kernel
theorem dX2_perform_80 : decode cX2_perform 80 = .ok (.invokevirtual 47, 3) := by decide +kernel
theorem dX2_perform_83 : decode cX2_perform 83 = .ok (.goto 49, 3) := by decide +kernel
theorem dX2_perform_86 : decode cX2_perform 86 = .ok (.aload_n 0, 1) := by decide +kernel
theorem dX2_perform_87 : decode cX2_perform 87 = .ok (.iload_n 2, 1) := by decide +kernel
theorem dX2_perform_88 : decode cX2_perform 88 = .ok (.aload_n 0, 1) := by decide +kernel
theorem dX2_perform_89 : decode cX2_perform 89 = .ok (.iload_n 3, 1) := by decide +kernel
theorem dX2_perform_90 : decode cX2_perform 90 = .ok (.invokevirtual 51, 3) := by decide +kernel
theorem dX2_perform_93 : decode cX2_perform 93 = .ok (.invokevirtual 39, 3) := by decide +kernel
theorem dX2_perform_96 : decode cX2_perform 96 = .ok (.goto 36, 3) := by decide +kernel
theorem dX2_perform_99 : decode cX2_perform 99 = .ok (.aload_n 0, 1) := by decide +kernel
theorem dX2_perform_100 : decode cX2_perform 100 = .ok (.iload_n 3, 1) := by decide +kernel
theorem dX2_perform_101 : decode cX2_perform 101 = .ok (.aload_n 0, 1) := by decide +kernel
theorem dX2_perform_102 : decode cX2_perform 102 = .ok (.iload_n 2, 1) := by decide +kernel
theorem dX2_perform_103 : decode cX2_perform 103 = .ok (.invokevirtual 43, 3) := by decide +kernel
theorem dX2_perform_106 : decode cX2_perform 106 = .ok (.invokevirtual 54, 3) := by decide +kernel
theorem dX2_perform_109 : decode cX2_perform 109 = .ok (.goto 23, 3) := by decide +kernel
theorem dX2_perform_112 : decode cX2_perform 112 = .ok (.aload_n 0, 1) := by decide +kernel
theorem dX2_perform_113 : decode cX2_perform 113 = .ok (.iload_n 2, 1) := by decide +kernel
theorem dX2_perform_114 : decode cX2_perform 114 = .ok (.iload_n 1, 1) := by decide +kernel
theorem dX2_perform_115 : decode cX2_perform 115 = .ok (.aload_n 0, 1) := by decide +kernel
theorem dX2_perform_116 : decode cX2_perform 116 = .ok (.iload_n 3, 1) := by decide +kernel
theorem dX2_perform_117 : decode cX2_perform 117 = .ok (.invokevirtual 43, 3) := by decide +kernel
theorem dX2_perform_120 : decode cX2_perform 120 = .ok (.aload_n 0, 1) := by decide +kernel
theorem dX2_perform_121 : decode cX2_perform 121 = .ok (.iload 4, 2) := by decide +kernel
theorem dX2_perform_123 : decode cX2_perform 123 = .ok (.invokevirtual 43, 3) := by decide +kernel
theorem dX2_perform_126 : decode cX2_perform 126 = .ok (.invokestatic 57, 3) := by decide +kernel
theorem dX2_perform_129 : decode cX2_perform 129 = .ok (.invokevirtual 39, 3) := by decide +kernel
theorem dX2_perform_132 : decode cX2_perform 132 = .ok (.return_, 1) := by decide +kernel
theorem dX2_compute_0 : decode cX2_compute 0 = .ok (.iload_n 0, 1) := by decide +kernel
theorem dX2_compute_1 : decode cX2_compute 1 = .ok (.tableswitch 39 1 3 #[27, 31, 35], 27) := by decide +kernel
theorem dX2_compute_28 : decode cX2_compute 28 = .ok (.iload_n 1, 1) := by decide +kernel
theorem dX2_compute_29 : decode cX2_compute 29 = .ok (.iload_n 2, 1) := by decide +kernel
theorem dX2_compute_30 : decode cX2_compute 30 = .ok (.iadd, 1) := by decide +kernel
theorem dX2_compute_31 : decode cX2_compute 31 = .ok (.ireturn, 1) := by decide +kernel
theorem dX2_compute_32 : decode cX2_compute 32 = .ok (.iload_n 1, 1) := by decide +kernel
theorem dX2_compute_33 : decode cX2_compute 33 = .ok (.iload_n 2, 1) := by decide +kernel
theorem dX2_compute_34 : decode cX2_compute 34 = .ok (.isub, 1) := by decide +kernel
theorem dX2_compute_35 : decode cX2_compute 35 = .ok (.ireturn, 1) := by decide +kernel
theorem dX2_compute_36 : decode cX2_compute 36 = .ok (.iload_n 1, 1) := by decide +kernel
theorem dX2_compute_37 : decode cX2_compute 37 = .ok (.iload_n 2, 1) := by decide +kernel
theorem dX2_compute_38 : decode cX2_compute 38 = .ok (.imul, 1) := by decide +kernel
theorem dX2_compute_39 : decode cX2_compute 39 = .ok (.ireturn, 1) := by decide +kernel
theorem dX2_compute_40 : decode cX2_compute 40 = .ok (.iload_n 1, 1) := by decide +kernel
theorem dX2_compute_41 : decode cX2_compute 41 = .ok (.iload_n 2, 1) := by decide +kernel
theorem dX2_compute_42 : decode cX2_compute 42 = .ok (.ixor, 1) := by decide +kernel
theorem dX2_compute_43 : decode cX2_compute 43 = .ok (.ireturn, 1) := by decide +kernel
theorem dX2_inRegister_0 : decode cX2_inRegister 0 = .ok (.iload_n 1, 1) := by decide +kernel
theorem dX2_inRegister_1 : decode cX2_inRegister 1 = .ok (.ifCond .lt 18, 3) := by decide +kernel
theorem dX2_inRegister_4 : decode cX2_inRegister 4 = .ok (.iload_n 1, 1) := by decide +kernel
theorem dX2_inRegister_5 : decode cX2_inRegister 5 = .ok (.bipush 8, 2) := by decide +kernel
theorem dX2_inRegister_7 : decode cX2_inRegister 7 = .ok (.if_icmp .ge 12, 3) := by decide +kernel
theorem dX2_inRegister_10 : decode cX2_inRegister 10 = .ok (.aload_n 0, 1) := by decide +kernel
theorem dX2_inRegister_11 : decode cX2_inRegister 11 = .ok (.getfield 9, 3) := by decide +kernel
theorem dX2_inRegister_14 : decode cX2_inRegister 14 = .ok (.iload_n 1, 1) := by decide +kernel
theorem dX2_inRegister_15 : decode cX2_inRegister 15 = .ok (.iaload, 1) := by decide +kernel
theorem dX2_inRegister_16 : decode cX2_inRegister 16 = .ok (.goto 4, 3) := by decide +kernel
theorem dX2_inRegister_19 : decode cX2_inRegister 19 = .ok (.iconst 0, 1) := by decide +kernel
theorem dX2_inRegister_20 : decode cX2_inRegister 20 = .ok (.ireturn, 1) := by decide +kernel
theorem dX2_setRegister_0 : decode cX2_setRegister 0 = .ok (.iload_n 1, 1) := by decide +kernel
theorem dX2_setRegister_1 : decode cX2_setRegister 1 = .ok (.ifCond .lt 16, 3) := by decide +kernel
theorem dX2_setRegister_4 : decode cX2_setRegister 4 = .ok (.iload_n 1, 1) := by decide +kernel
theorem dX2_setRegister_5 : decode cX2_setRegister 5 = .ok (.bipush 8, 2) := by decide +kernel
theorem dX2_setRegister_7 : decode cX2_setRegister 7 = .ok (.if_icmp .ge 10, 3) := by decide +kernel
theorem dX2_setRegister_10 : decode cX2_setRegister 10 = .ok (.aload_n 0, 1) := by decide +kernel
theorem dX2_setRegister_11 : decode cX2_setRegister 11 = .ok (.getfield 9, 3) := by decide +kernel
theorem dX2_setRegister_14 : decode cX2_setRegister 14 = .ok (.iload_n 1, 1) := by decide +kernel
theorem dX2_setRegister_15 : decode cX2_setRegister 15 = .ok (.iload_n 2, 1) := by decide +kernel
theorem dX2_setRegister_16 : decode cX2_setRegister 16 = .ok (.iastore, 1) := by decide +kernel
theorem dX2_setRegister_17 : decode cX2_setRegister 17 = .ok (.return_, 1) := by decide +kernel
theorem dX2_inSlot_0 : decode cX2_inSlot 0 = .ok (.iload_n 1, 1) := by decide +kernel
theorem dX2_inSlot_1 : decode cX2_inSlot 1 = .ok (.ifCond .lt 18, 3) := by decide +kernel
theorem dX2_inSlot_4 : decode cX2_inSlot 4 = .ok (.iload_n 1, 1) := by decide +kernel
theorem dX2_inSlot_5 : decode cX2_inSlot 5 = .ok (.bipush 60, 2) := by decide +kernel
theorem dX2_inSlot_7 : decode cX2_inSlot 7 = .ok (.if_icmp .ge 12, 3) := by decide +kernel
theorem dX2_inSlot_10 : decode cX2_inSlot 10 = .ok (.aload_n 0, 1) := by decide +kernel
theorem dX2_inSlot_11 : decode cX2_inSlot 11 = .ok (.getfield 15, 3) := by decide +kernel
theorem dX2_inSlot_14 : decode cX2_inSlot 14 = .ok (.iload_n 1, 1) := by decide +kernel
theorem dX2_inSlot_15 : decode cX2_inSlot 15 = .ok (.iaload, 1) := by decide +kernel
theorem dX2_inSlot_16 : decode cX2_inSlot 16 = .ok (.goto 4, 3) := by decide +kernel
theorem dX2_inSlot_19 : decode cX2_inSlot 19 = .ok (.iconst 0, 1) := by decide +kernel
theorem dX2_inSlot_20 : decode cX2_inSlot 20 = .ok (.ireturn, 1) := by decide +kernel
theorem dX2_setSlot_0 : decode cX2_setSlot 0 = .ok (.iload_n 1, 1) := by decide +kernel
theorem dX2_setSlot_1 : decode cX2_setSlot 1 = .ok (.ifCond .lt 16, 3) := by decide +kernel
theorem dX2_setSlot_4 : decode cX2_setSlot 4 = .ok (.iload_n 1, 1) := by decide +kernel
theorem dX2_setSlot_5 : decode cX2_setSlot 5 = .ok (.bipush 60, 2) := by decide +kernel
theorem dX2_setSlot_7 : decode cX2_setSlot 7 = .ok (.if_icmp .ge 10, 3) := by decide +kernel
theorem dX2_setSlot_10 : decode cX2_setSlot 10 = .ok (.aload_n 0, 1) := by decide +kernel
theorem dX2_setSlot_11 : decode cX2_setSlot 11 = .ok (.getfield 15, 3) := by decide +kernel
theorem dX2_setSlot_14 : decode cX2_setSlot 14 = .ok (.iload_n 1, 1) := by decide +kernel
theorem dX2_setSlot_15 : decode cX2_setSlot 15 = .ok (.iload_n 2, 1) := by decide +kernel
theorem dX2_setSlot_16 : decode cX2_setSlot 16 = .ok (.iastore, 1) := by decide +kernel
theorem dX2_setSlot_17 : decode cX2_setSlot 17 = .ok (.return_, 1) := by decide +kernel
theorem dX2_write_0 : decode cX2_write 0 = .ok (.aload_n 0, 1) := by decide +kernel
theorem dX2_write_1 : decode cX2_write 1 = .ok (.getfield 21, 3) := by decide +kernel
theorem dX2_write_4 : decode cX2_write 4 = .ok (.ifCond .lt 32, 3) := by decide +kernel
theorem dX2_write_7 : decode cX2_write 7 = .ok (.aload_n 0, 1) := by decide +kernel
theorem dX2_write_8 : decode cX2_write 8 = .ok (.getfield 21, 3) := by decide +kernel
theorem dX2_write_11 : decode cX2_write 11 = .ok (.bipush 60, 2) := by decide +kernel
theorem dX2_write_13 : decode cX2_write 13 = .ok (.if_icmp .ge 23, 3) := by decide +kernel
theorem dX2_write_16 : decode cX2_write 16 = .ok (.aload_n 0, 1) := by decide +kernel
theorem dX2_write_17 : decode cX2_write 17 = .ok (.getfield 18, 3) := by decide +kernel
theorem dX2_write_20 : decode cX2_write 20 = .ok (.aload_n 0, 1) := by decide +kernel
theorem dX2_write_21 : decode cX2_write 21 = .ok (.getfield 21, 3) := by decide +kernel
theorem dX2_write_24 : decode cX2_write 24 = .ok (.iload_n 1, 1) := by decide +kernel
theorem dX2_write_25 : decode cX2_write 25 = .ok (.iastore, 1) := by decide +kernel
theorem dX2_write_26 : decode cX2_write 26 = .ok (.aload_n 0, 1) := by decide +kernel
theorem dX2_write_27 : decode cX2_write 27 = .ok (.dup, 1) := by decide +kernel
theorem dX2_write_28 : decode cX2_write 28 = .ok (.getfield 21, 3) := by decide +kernel
theorem dX2_write_31 : decode cX2_write 31 = .ok (.iconst 1, 1) := by decide +kernel
theorem dX2_write_32 : decode cX2_write 32 = .ok (.iadd, 1) := by decide +kernel
theorem dX2_write_33 : decode cX2_write 33 = .ok (.putfield 21, 3) := by decide +kernel
theorem dX2_write_36 : decode cX2_write 36 = .ok (.return_, 1) := by decide +kernel
theorem dX3_init_0 : decode cX3_init 0 = .ok (.aload_n 0, 1) := by decide +kernel
theorem dX3_init_1 : decode cX3_init 1 = .ok (.invokespecial 3, 3) := by decide +kernel
theorem dX3_init_4 : decode cX3_init 4 = .ok (.aload_n 0, 1) := by decide +kernel
theorem dX3_init_5 : decode cX3_init 5 = .ok (.iload_n 1, 1) := by decide +kernel
theorem dX3_init_6 : decode cX3_init 6 = .ok (.iconst 0, 1) := by decide +kernel
theorem dX3_init_7 : decode cX3_init 7 = .ok (.invokestatic 9, 3) := by decide +kernel
theorem dX3_init_10 : decode cX3_init 10 = .ok (.putfield 15, 3) := by decide +kernel
theorem dX3_init_13 : decode cX3_init 13 = .ok (.aload_n 0, 1) := by decide +kernel
theorem dX3_init_14 : decode cX3_init 14 = .ok (.iconst 4, 1) := by decide +kernel
theorem dX3_init_15 : decode cX3_init 15 = .ok (.aload_n 0, 1) := by decide +kernel
theorem dX3_init_16 : decode cX3_init 16 = .ok (.getfield 15, 3) := by decide +kernel
theorem dX3_init_19 : decode cX3_init 19 = .ok (.imul, 1) := by decide +kernel
theorem dX3_init_20 : decode cX3_init 20 = .ok (.newarray .int, 2) := by decide +kernel
theorem dX3_init_22 : decode cX3_init 22 = .ok (.putfield 21, 3) := by decide +kernel
theorem dX3_init_25 : decode cX3_init 25 = .ok (.aload_n 0, 1) := by decide +kernel
theorem dX3_init_26 : decode cX3_init 26 = .ok (.iconst 0, 1) := by decide +kernel
theorem dX3_init_27 : decode cX3_init 27 = .ok (.putfield 25, 3) := by decide +kernel
theorem dX3_init_30 : decode cX3_init 30 = .ok (.return_, 1) := by decide +kernel
theorem dX3_clear_0 : decode cX3_clear 0 = .ok (.aload_n 0, 1) := by decide +kernel
theorem dX3_clear_1 : decode cX3_clear 1 = .ok (.iconst 0, 1) := by decide +kernel
theorem dX3_clear_2 : decode cX3_clear 2 = .ok (.putfield 25, 3) := by decide +kernel
theorem dX3_clear_5 : decode cX3_clear 5 = .ok (.return_, 1) := by decide +kernel
theorem dX3_length_0 : decode cX3_length 0 = .ok (.aload_n 0, 1) := by decide +kernel
theorem dX3_length_1 : decode cX3_length 1 = .ok (.getfield 25, 3) := by decide +kernel
theorem dX3_length_4 : decode cX3_length 4 = .ok (.ireturn, 1) := by decide +kernel
theorem dX3_has_0 : decode cX3_has 0 = .ok (.iload_n 1, 1) := by decide +kernel
theorem dX3_has_1 : decode cX3_has 1 = .ok (.ifCond .lt 24, 3) := by decide +kernel
theorem dX3_has_4 : decode cX3_has 4 = .ok (.iload_n 1, 1) := by decide +kernel
theorem dX3_has_5 : decode cX3_has 5 = .ok (.aload_n 0, 1) := by decide +kernel
theorem dX3_has_6 : decode cX3_has 6 = .ok (.getfield 25, 3) := by decide +kernel
theorem dX3_has_9 : decode cX3_has 9 = .ok (.if_icmp .ge 16, 3) := by decide +kernel
theorem dX3_has_12 : decode cX3_has 12 = .ok (.iload_n 2, 1) := by decide +kernel
theorem dX3_has_13 : decode cX3_has 13 = .ok (.ifCond .lt 12, 3) := by decide +kernel
theorem dX3_has_16 : decode cX3_has 16 = .ok (.iload_n 2, 1) := by decide +kernel
theorem dX3_has_17 : decode cX3_has 17 = .ok (.iconst 4, 1) := by decide +kernel
theorem dX3_has_18 : decode cX3_has 18 = .ok (.if_icmp .ge 7, 3) := by decide +kernel
theorem dX3_has_21 : decode cX3_has 21 = .ok (.iconst 1, 1) := by decide +kernel
theorem dX3_has_22 : decode cX3_has 22 = .ok (.goto 4, 3) := by decide +kernel
theorem dX3_has_25 : decode cX3_has 25 = .ok (.iconst 0, 1) := by decide +kernel
theorem dX3_has_26 : decode cX3_has 26 = .ok (.ireturn, 1) := by decide +kernel
set_option maxRecDepth 20000 in
theorem ggX3_at_X3_has : GoodIn wsX3_at wsX3_has := goodIn_r _ [6, 7, 8, 9, 10] (by decide +kernel) (by decide +kernel)
set_option maxRecDepth 20000 in
theorem gX3_at_X3_has : GoodIn wsX3_at (wsV RX3 28 RX3 yX3_has wsX3_has) := goodIn_app (goodIn_of _ (by decide +kernel)) ggX3_at_X3_has
theorem dX3_at_0 : decode cX3_at 0 = .ok (.aload_n 0, 1) := by decide +kernel
theorem dX3_at_1 : decode cX3_at 1 = .ok (.iload_n 1, 1) := by decide +kernel
theorem dX3_at_2 : decode cX3_at 2 = .ok (.iload_n 2, 1) := by decide +kernel
theorem dX3_at_3 : decode cX3_at 3 = .ok (.invokevirtual 28, 3) := by decide +kernel
theorem dX3_at_6 : decode cX3_at 6 = .ok (.ifCond .eq 16, 3) := by decide +kernel
theorem dX3_at_9 : decode cX3_at 9 = .ok (.aload_n 0, 1) := by decide +kernel
theorem dX3_at_10 : decode cX3_at 10 = .ok (.getfield 21, 3) := by decide +kernel
theorem dX3_at_13 : decode cX3_at 13 = .ok (.iconst 4, 1) := by decide +kernel
theorem dX3_at_14 : decode cX3_at 14 = .ok (.iload_n 1, 1) := by decide +kernel
theorem dX3_at_15 : decode cX3_at 15 = .ok (.imul, 1) := by decide +kernel
theorem dX3_at_16 : decode cX3_at 16 = .ok (.iload_n 2, 1) := by decide +kernel
theorem dX3_at_17 : decode cX3_at 17 = .ok (.iadd, 1) := by decide +kernel
theorem dX3_at_18 : decode cX3_at 18 = .ok (.iaload, 1) := by decide +kernel
theorem dX3_at_19 : decode cX3_at 19 = .ok (.goto 4, 3) := by decide +kernel
theorem dX3_at_22 : decode cX3_at 22 = .ok (.iconst (-1), 1) := by decide +kernel
theorem dX3_at_23 : decode cX3_at 23 = .ok (.ireturn, 1) := by decide +kernel
set_option maxRecDepth 20000 in
theorem ggX3_put_X3_has : GoodIn wsX3_put wsX3_has := goodIn_r _ [6, 7, 8, 9, 10] (by decide +kernel) (by decide +kernel)
set_option maxRecDepth 20000 in
theorem gX3_put_X3_has : GoodIn wsX3_put (wsV RX3 28 RX3 yX3_has wsX3_has) := goodIn_app (goodIn_of _ (by decide +kernel)) ggX3_put_X3_has
theorem dX3_put_0 : decode cX3_put 0 = .ok (.aload_n 0, 1) := by decide +kernel
theorem dX3_put_1 : decode cX3_put 1 = .ok (.iload_n 1, 1) := by decide +kernel
theorem dX3_put_2 : decode cX3_put 2 = .ok (.iload_n 2, 1) := by decide +kernel
theorem dX3_put_3 : decode cX3_put 3 = .ok (.invokevirtual 28, 3) := by decide +kernel
theorem dX3_put_6 : decode cX3_put 6 = .ok (.ifCond .eq 14, 3) := by decide +kernel
theorem dX3_put_9 : decode cX3_put 9 = .ok (.aload_n 0, 1) := by decide +kernel
theorem dX3_put_10 : decode cX3_put 10 = .ok (.getfield 21, 3) := by decide +kernel
theorem dX3_put_13 : decode cX3_put 13 = .ok (.iconst 4, 1) := by decide +kernel
theorem dX3_put_14 : decode cX3_put 14 = .ok (.iload_n 1, 1) := by decide +kernel
theorem dX3_put_15 : decode cX3_put 15 = .ok (.imul, 1) := by decide +kernel
theorem dX3_put_16 : decode cX3_put 16 = .ok (.iload_n 2, 1) := by decide +kernel
theorem dX3_put_17 : decode cX3_put 17 = .ok (.iadd, 1) := by decide +kernel
theorem dX3_put_18 : decode cX3_put 18 = .ok (.iload_n 3, 1) := by decide +kernel
theorem dX3_put_19 : decode cX3_put 19 = .ok (.iastore, 1) := by decide +kernel
theorem dX3_put_20 : decode cX3_put 20 = .ok (.return_, 1) := by decide +kernel
theorem dX3_append_0 : decode cX3_append 0 = .ok (.aload_n 0, 1) := by decide +kernel
theorem dX3_append_1 : decode cX3_append 1 = .ok (.getfield 25, 3) := by decide +kernel
theorem dX3_append_4 : decode cX3_append 4 = .ok (.ifCond .lt 14, 3) := by decide +kernel
theorem dX3_append_7 : decode cX3_append 7 = .ok (.aload_n 0, 1) := by decide +kernel
theorem dX3_append_8 : decode cX3_append 8 = .ok (.getfield 25, 3) := by decide +kernel
theorem dX3_append_11 : decode cX3_append 11 = .ok (.aload_n 0, 1) := by decide +kernel
theorem dX3_append_12 : decode cX3_append 12 = .ok (.getfield 15, 3) := by decide +kernel
theorem dX3_append_15 : decode cX3_append 15 = .ok (.if_icmp .lt 5, 3) := by decide +kernel
theorem dX3_append_18 : decode cX3_append 18 = .ok (.iconst (-1), 1) := by decide +kernel
theorem dX3_append_19 : decode cX3_append 19 = .ok (.ireturn, 1) := by decide +kernel
theorem dX3_append_20 : decode cX3_append 20 = .ok (.aload_n 0, 1) := by decide +kernel
theorem dX3_append_21 : decode cX3_append 21 = .ok (.getfield 25, 3) := by decide +kernel
theorem dX3_append_24 : decode cX3_append 24 = .ok (.istore 5, 2) := by decide +kernel
theorem dX3_append_26 : decode cX3_append 26 = .ok (.iconst 4, 1) := by decide +kernel
theorem dX3_append_27 : decode cX3_append 27 = .ok (.iload 5, 2) := by decide +kernel
theorem dX3_append_29 : decode cX3_append 29 = .ok (.imul, 1) := by decide +kernel
theorem dX3_append_30 : decode cX3_append 30 = .ok (.istore 6, 2) := by decide +kernel
theorem dX3_append_32 : decode cX3_append 32 = .ok (.aload_n 0, 1) := by decide +kernel
theorem dX3_append_33 : decode cX3_append 33 = .ok (.getfield 21, 3) := by decide +kernel
theorem dX3_append_36 : decode cX3_append 36 = .ok (.iload 6, 2) := by decide +kernel
theorem dX3_append_38 : decode cX3_append 38 = .ok (.iload_n 1, 1) := by decide +kernel
theorem dX3_append_39 : decode cX3_append 39 = .ok (.iastore, 1) := by decide +kernel
theorem dX3_append_40 : decode cX3_append 40 = .ok (.aload_n 0, 1) := by decide +kernel
theorem dX3_append_41 : decode cX3_append 41 = .ok (.getfield 21, 3) := by decide +kernel
theorem dX3_append_44 : decode cX3_append 44 = .ok (.iload 6, 2) := by decide +kernel
theorem dX3_append_46 : decode cX3_append 46 = .ok (.iconst 1, 1) := by decide +kernel
theorem dX3_append_47 : decode cX3_append 47 = .ok (.iadd, 1) := by decide +kernel
theorem dX3_append_48 : decode cX3_append 48 = .ok (.iload_n 2, 1) := by decide +kernel
theorem dX3_append_49 : decode cX3_append 49 = .ok (.iastore, 1) := by decide +kernel
theorem dX3_append_50 : decode cX3_append 50 = .ok (.aload_n 0, 1) := by decide +kernel
theorem dX3_append_51 : decode cX3_append 51 = .ok (.getfield 21, 3) := by decide +kernel
theorem dX3_append_54 : decode cX3_append 54 = .ok (.iload 6, 2) := by decide +kernel
theorem dX3_append_56 : decode cX3_append 56 = .ok (.iconst 2, 1) := by decide +kernel
theorem dX3_append_57 : decode cX3_append 57 = .ok (.iadd, 1) := by decide +kernel
theorem dX3_append_58 : decode cX3_append 58 = .ok (.iload_n 3, 1) := by decide +kernel
theorem dX3_append_59 : decode cX3_append 59 = .ok (.iastore, 1) := by decide +kernel
theorem dX3_append_60 : decode cX3_append 60 = .ok (.aload_n 0, 1) := by decide +kernel
theorem dX3_append_61 : decode cX3_append 61 = .ok (.getfield 21, 3) := by decide +kernel
theorem dX3_append_64 : decode cX3_append 64 = .ok (.iload 6, 2) := by decide +kernel
theorem dX3_append_66 : decode cX3_append 66 = .ok (.iconst 3, 1) := by decide +kernel
theorem dX3_append_67 : decode cX3_append 67 = .ok (.iadd, 1) := by decide +kernel
theorem dX3_append_68 : decode cX3_append 68 = .ok (.iload 4, 2) := by decide +kernel
theorem dX3_append_70 : decode cX3_append 70 = .ok (.iastore, 1) := by decide +kernel
theorem dX3_append_71 : decode cX3_append 71 = .ok (.aload_n 0, 1) := by decide +kernel
theorem dX3_append_72 : decode cX3_append 72 = .ok (.dup, 1) := by decide +kernel
theorem dX3_append_73 : decode cX3_append 73 = .ok (.getfield 25, 3) := by decide +kernel
theorem dX3_append_76 : decode cX3_append 76 = .ok (.iconst 1, 1) := by decide +kernel
theorem dX3_append_77 : decode cX3_append 77 = .ok (.iadd, 1) := by decide +kernel
theorem dX3_append_78 : decode cX3_append 78 = .ok (.putfield 25, 3) := by decide +kernel
theorem dX3_append_81 : decode cX3_append 81 = .ok (.iload 5, 2) := by decide +kernel
theorem dX3_append_83 : decode cX3_append 83 = .ok (.ireturn, 1) := by decide +kernel
set_option maxRecDepth 20000 in
theorem ggX3_countOfFirst_X3_at : GoodIn wsX3_countOfFirst wsX3_at := goodIn_r _ [6, 7, 8, 9, 10, 5, 11, 1, 12, 13, 14] (by decide +kernel) (by decide +kernel)
set_option maxRecDepth 20000 in
theorem gX3_countOfFirst_X3_at : GoodIn wsX3_countOfFirst (wsV RX3 32 RX3 yX3_at wsX3_at) := goodIn_app (goodIn_of _ (by decide +kernel)) ggX3_countOfFirst_X3_at
theorem dX3_countOfFirst_0 : decode cX3_countOfFirst 0 = .ok (.iconst 0, 1) := by decide +kernel
theorem dX3_countOfFirst_1 : decode cX3_countOfFirst 1 = .ok (.istore_n 2, 1) := by decide +kernel
theorem dX3_countOfFirst_2 : decode cX3_countOfFirst 2 = .ok (.iconst 0, 1) := by decide +kernel
theorem dX3_countOfFirst_3 : decode cX3_countOfFirst 3 = .ok (.istore_n 3, 1) := by decide +kernel
theorem dX3_countOfFirst_4 : decode cX3_countOfFirst 4 = .ok (.iload_n 3, 1) := by decide +kernel
theorem dX3_countOfFirst_5 : decode cX3_countOfFirst 5 = .ok (.aload_n 0, 1) := by decide +kernel
theorem dX3_countOfFirst_6 : decode cX3_countOfFirst 6 = .ok (.getfield 25, 3) := by decide +kernel
theorem dX3_countOfFirst_9 : decode cX3_countOfFirst 9 = .ok (.if_icmp .ge 22, 3) := by decide +kernel
theorem dX3_countOfFirst_12 : decode cX3_countOfFirst 12 = .ok (.aload_n 0, 1) := by decide +kernel
theorem dX3_countOfFirst_13 : decode cX3_countOfFirst 13 = .ok (.iload_n 3, 1) := by decide +kernel
theorem dX3_countOfFirst_14 : decode cX3_countOfFirst 14 = .ok (.iconst 0, 1) := by decide +kernel
theorem dX3_countOfFirst_15 : decode cX3_countOfFirst 15 = .ok (.invokevirtual 32, 3) := by decide +kernel
theorem dX3_countOfFirst_18 : decode cX3_countOfFirst 18 = .ok (.iload_n 1, 1) := by decide +kernel
theorem dX3_countOfFirst_19 : decode cX3_countOfFirst 19 = .ok (.if_icmp .ne 6, 3) := by decide +kernel
theorem dX3_countOfFirst_22 : decode cX3_countOfFirst 22 = .ok (.iinc 2 1, 3) := by decide +kernel
theorem dX3_countOfFirst_25 : decode cX3_countOfFirst 25 = .ok (.iinc 3 1, 3) := by decide +kernel
theorem dX3_countOfFirst_28 : decode cX3_countOfFirst 28 = .ok (.goto (-24), 3) := by decide +kernel
theorem dX3_countOfFirst_31 : decode cX3_countOfFirst 31 = .ok (.iload_n 2, 1) := by decide +kernel
theorem dX3_countOfFirst_32 : decode cX3_countOfFirst 32 = .ok (.ireturn, 1) := by decide +kernel
