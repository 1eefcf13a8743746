theorem dL_below_0 : decode cL_below 0 = .ok (.iload_n 0, 1) := by decide +kernel
theorem dL_below_1 : decode cL_below 1 = .ok (.ldc 7, 2) := by decide +kernel
theorem dL_below_3 : decode cL_below 3 = .ok (.iand, 1) := by decide +kernel
theorem dL_below_4 : decode cL_below 4 = .ok (.iload_n 1, 1) := by decide +kernel
theorem dL_below_5 : decode cL_below 5 = .ok (.irem, 1) := by decide +kernel
theorem dL_below_6 : decode cL_below 6 = .ok (.ireturn, 1) := by decide +kernel
theorem dL_cell_0 : decode cL_cell 0 = .ok (.iload_n 1, 1) := by decide +kernel
theorem dL_cell_1 : decode cL_cell 1 = .ok (.aload_n 0, 1) := by decide +kernel
theorem dL_cell_2 : decode cL_cell 2 = .ok (.arraylength, 1) := by decide +kernel
theorem dL_cell_3 : decode cL_cell 3 = .ok (.if_icmp .ge 9, 3) := by decide +kernel
theorem dL_cell_6 : decode cL_cell 6 = .ok (.aload_n 0, 1) := by decide +kernel
theorem dL_cell_7 : decode cL_cell 7 = .ok (.iload_n 1, 1) := by decide +kernel
theorem dL_cell_8 : decode cL_cell 8 = .ok (.iaload, 1) := by decide +kernel
theorem dL_cell_9 : decode cL_cell 9 = .ok (.goto 9, 3) := by decide +kernel
theorem dL_cell_12 : decode cL_cell 12 = .ok (.ldc 8, 2) := by decide +kernel
theorem dL_cell_14 : decode cL_cell 14 = .ok (.iload_n 1, 1) := by decide +kernel
theorem dL_cell_15 : decode cL_cell 15 = .ok (.iconst 3, 1) := by decide +kernel
theorem dL_cell_16 : decode cL_cell 16 = .ok (.iadd, 1) := by decide +kernel
theorem dL_cell_17 : decode cL_cell 17 = .ok (.imul, 1) := by decide +kernel
theorem dL_cell_18 : decode cL_cell 18 = .ok (.ireturn, 1) := by decide +kernel
set_option maxRecDepth 20000 in
theorem ggL_build_L_cell : GoodIn wsL_build wsL_cell := goodIn_r _ [5, 6] (by decide +kernel) (by decide +kernel)
set_option maxRecDepth 20000 in
theorem gL_build_L_cell : GoodIn wsL_build (va_wsS RL 9 yL_cell wsL_cell) := goodIn_app (goodIn_of _ (by decide +kernel)) ggL_build_L_cell
set_option maxRecDepth 20000 in
theorem ggL_build_L_below : GoodIn wsL_build wsL_below := goodIn_r _ [9, 10] (by decide +kernel) (by decide +kernel)
set_option maxRecDepth 20000 in
theorem gL_build_L_below : GoodIn wsL_build (va_wsS RL 15 yL_below wsL_below) := goodIn_app (goodIn_of _ (by decide +kernel)) ggL_build_L_below
set_option maxRecDepth 20000 in
theorem ggL_build_L_valueBefore : GoodIn wsL_build wsL_valueBefore := goodIn_r _ [13, 14, 15, 16, 17] (by decide +kernel) (by decide +kernel)
set_option maxRecDepth 20000 in
theorem gL_build_L_valueBefore : GoodIn wsL_build (va_wsS RL 20 yL_valueBefore wsL_valueBefore) := goodIn_app (goodIn_of _ (by decide +kernel)) ggL_build_L_valueBefore
set_option maxRecDepth 20000 in
theorem ggL_build_X4_constant : GoodIn wsL_build wsX4_constant := goodIn_ca (goodIn_r _ [22, 23, 24, 25, 21, 26, 27, 28, 29, 30, 31, 32, 33, 34, 35, 36, 37, 38, 39, 40, 41, 42, 43, 44, 45, 46, 47, 48, 49, 50, 51, 52, 53, 54, 55, 56, 57, 58, 59, 60, 61, 62, 107, 108, 109, 110, 111, 112, 113, 114, 115, 116, 117, 118] (by decide +kernel) (by decide +kernel)) (goodIn_sub (fun _ h => List.mem_cons_of_mem _ (List.mem_append_left _ (List.mem_append_left _ (List.mem_append_right _ h)))) (by decide +kernel))
set_option maxRecDepth 20000 in
theorem gL_build_X4_constant : GoodIn wsL_build (wsV RL 24 RX4 yX4_constant wsX4_constant) := goodIn_app (goodIn_of _ (by decide +kernel)) ggL_build_X4_constant
set_option maxRecDepth 20000 in
theorem ggL_build_X4_operate : GoodIn wsL_build wsX4_operate := goodIn_ca (goodIn_ca (goodIn_ca (goodIn_r _ [66, 67, 68, 69, 21, 70, 71, 72, 29, 73, 74, 75, 33, 76, 45, 59, 60, 61, 62, 35, 77, 78, 79, 80, 81, 23, 24, 25, 26, 27, 28, 30, 31, 32, 34, 36, 37, 38, 39, 40, 41, 42, 43, 44, 46, 47, 48, 49, 50, 51, 52, 53, 54, 55, 56, 57, 58, 107, 108, 109, 110, 111, 112, 113, 114, 115, 116, 117, 118] (by decide +kernel) (by decide +kernel)) (goodIn_sub (fun _ h => List.mem_cons_of_mem _ (List.mem_append_left _ (List.mem_append_right _ h))) (by decide +kernel))) (goodIn_sub (fun _ h => List.mem_cons_of_mem _ (List.mem_append_right _ h)) (by decide +kernel))) (goodIn_sub (fun _ h => List.mem_cons_of_mem _ (List.mem_append_left _ (List.mem_append_left _ (List.mem_append_right _ h)))) (by decide +kernel))
set_option maxRecDepth 20000 in
theorem gL_build_X4_operate : GoodIn wsL_build (wsV RL 30 RX4 yX4_operate wsX4_operate) := goodIn_app (goodIn_of _ (by decide +kernel)) ggL_build_X4_operate
set_option maxRecDepth 20000 in
theorem ggL_build_X4_pass : GoodIn wsL_build wsX4_pass := goodIn_ca (goodIn_ca (goodIn_ca (goodIn_r _ [85, 67, 68, 69, 21, 70, 71, 72, 29, 73, 74, 75, 33, 76, 45, 59, 60, 61, 62, 35, 77, 78, 79, 80, 81, 23, 24, 25, 26, 27, 28, 30, 31, 32, 34, 36, 37, 38, 39, 40, 41, 42, 43, 44, 46, 47, 48, 49, 50, 51, 52, 53, 54, 55, 56, 57, 58, 107, 108, 109, 110, 111, 112, 113, 114, 115, 116, 117, 118] (by decide +kernel) (by decide +kernel)) (goodIn_sub (fun _ h => List.mem_cons_of_mem _ (List.mem_append_left _ (List.mem_append_right _ h))) (by decide +kernel))) (goodIn_sub (fun _ h => List.mem_cons_of_mem _ (List.mem_append_right _ h)) (by decide +kernel))) (goodIn_sub (fun _ h => List.mem_cons_of_mem _ (List.mem_append_left _ (List.mem_append_left _ (List.mem_append_right _ h)))) (by decide +kernel))
set_option maxRecDepth 20000 in
theorem gL_build_X4_pass : GoodIn wsL_build (wsV RL 34 RX4 yX4_pass wsX4_pass) := goodIn_app (goodIn_of _ (by decide +kernel)) ggL_build_X4_pass
set_option maxRecDepth 20000 in
theorem ggL_build_X4_kind : GoodIn wsL_build wsX4_kind := goodIn_ca (goodIn_r _ [89, 29, 90, 91, 92, 21, 93, 71, 72, 94, 60, 61, 33, 62, 35, 95, 96, 97, 98, 45, 59, 107, 108, 109, 110, 111, 112, 113, 114, 115, 116, 117, 118] (by decide +kernel) (by decide +kernel)) (goodIn_sub (fun _ h => List.mem_cons_of_mem _ (List.mem_append_left _ (List.mem_append_right _ h))) (by decide +kernel))
set_option maxRecDepth 20000 in
theorem gL_build_X4_kind : GoodIn wsL_build (wsV RL 37 RX4 yX4_kind wsX4_kind) := goodIn_app (goodIn_of _ (by decide +kernel)) ggL_build_X4_kind
set_option maxRecDepth 20000 in
theorem ggL_build_X4_size : GoodIn wsL_build wsX4_size := goodIn_r _ [102, 29, 103, 104, 105, 33, 106, 35, 107, 108, 109, 110, 111, 112, 113, 114, 115, 116, 117, 118] (by decide +kernel) (by decide +kernel)
set_option maxRecDepth 20000 in
theorem gL_build_X4_size : GoodIn wsL_build (wsV RL 40 RX4 yX4_size wsX4_size) := goodIn_app (goodIn_of _ (by decide +kernel)) ggL_build_X4_size
theorem dL_build_0 : decode cL_build 0 = .ok (.iconst 3, 1) := by decide +kernel
theorem dL_build_1 : decode cL_build 1 = .ok (.aload_n 1, 1) := by decide +kernel
theorem dL_build_2 : decode cL_build 2 = .ok (.iload_n 2, 1) := by decide +kernel
theorem dL_build_3 : decode cL_build 3 = .ok (.invokestatic 9, 3) := by decide +kernel
theorem dL_build_6 : decode cL_build 6 = .ok (.bipush 30, 2) := by decide +kernel
theorem dL_build_8 : decode cL_build 8 = .ok (.invokestatic 15, 3) := by decide +kernel
theorem dL_build_11 : decode cL_build 11 = .ok (.iadd, 1) := by decide +kernel
theorem dL_build_12 : decode cL_build 12 = .ok (.istore 6, 2) := by decide +kernel
theorem dL_build_14 : decode cL_build 14 = .ok (.iconst 0, 1) := by decide +kernel
theorem dL_build_15 : decode cL_build 15 = .ok (.istore 7, 2) := by decide +kernel
theorem dL_build_17 : decode cL_build 17 = .ok (.iload 7, 2) := by decide +kernel
theorem dL_build_19 : decode cL_build 19 = .ok (.iload 6, 2) := by decide +kernel
theorem dL_build_21 : decode cL_build 21 = .ok (.if_icmp .ge 241, 3) := by decide +kernel
theorem dL_build_24 : decode cL_build 24 = .ok (.aload_n 1, 1) := by decide +kernel
theorem dL_build_25 : decode cL_build 25 = .ok (.iload_n 2, 1) := by decide +kernel
theorem dL_build_26 : decode cL_build 26 = .ok (.iconst 1, 1) := by decide +kernel
theorem dL_build_27 : decode cL_build 27 = .ok (.iadd, 1) := by decide +kernel
theorem dL_build_28 : decode cL_build 28 = .ok (.iload 7, 2) := by decide +kernel
theorem dL_build_30 : decode cL_build 30 = .ok (.bipush 20, 2) := by decide +kernel
theorem dL_build_32 : decode cL_build 32 = .ok (.irem, 1) := by decide +kernel
theorem dL_build_33 : decode cL_build 33 = .ok (.iadd, 1) := by decide +kernel
theorem dL_build_34 : decode cL_build 34 = .ok (.invokestatic 9, 3) := by decide +kernel
theorem dL_build_37 : decode cL_build 37 = .ok (.iload 7, 2) := by decide +kernel
theorem dL_build_39 : decode cL_build 39 = .ok (.bipush 20, 2) := by decide +kernel
theorem dL_build_41 : decode cL_build 41 = .ok (.idiv, 1) := by decide +kernel
theorem dL_build_42 : decode cL_build 42 = .ok (.ldc 19, 2) := by decide +kernel
theorem dL_build_44 : decode cL_build 44 = .ok (.imul, 1) := by decide +kernel
theorem dL_build_45 : decode cL_build 45 = .ok (.iadd, 1) := by decide +kernel
theorem dL_build_46 : decode cL_build 46 = .ok (.istore 8, 2) := by decide +kernel
theorem dL_build_48 : decode cL_build 48 = .ok (.aload_n 3, 1) := by decide +kernel
theorem dL_build_49 : decode cL_build 49 = .ok (.iload 7, 2) := by decide +kernel
theorem dL_build_51 : decode cL_build 51 = .ok (.iload 7, 2) := by decide +kernel
theorem dL_build_53 : decode cL_build 53 = .ok (.ifCond .ne 7, 3) := by decide +kernel
theorem dL_build_56 : decode cL_build 56 = .ok (.iconst 0, 1) := by decide +kernel
theorem dL_build_57 : decode cL_build 57 = .ok (.goto 10, 3) := by decide +kernel
theorem dL_build_60 : decode cL_build 60 = .ok (.iload 8, 2) := by decide +kernel
theorem dL_build_62 : decode cL_build 62 = .ok (.bipush 10, 2) := by decide +kernel
theorem dL_build_64 : decode cL_build 64 = .ok (.invokestatic 15, 3) := by decide +kernel
theorem dL_build_67 : decode cL_build 67 = .ok (.iastore, 1) := by decide +kernel
theorem dL_build_68 : decode cL_build 68 = .ok (.aload_n 3, 1) := by decide +kernel
theorem dL_build_69 : decode cL_build 69 = .ok (.iload 7, 2) := by decide +kernel
theorem dL_build_71 : decode cL_build 71 = .ok (.iaload, 1) := by decide +kernel
theorem dL_build_72 : decode cL_build 72 = .ok (.bipush 6, 2) := by decide +kernel
theorem dL_build_74 : decode cL_build 74 = .ok (.if_icmp .le 17, 3) := by decide +kernel
theorem dL_build_77 : decode cL_build 77 = .ok (.aload_n 3, 1) := by decide +kernel
theorem dL_build_78 : decode cL_build 78 = .ok (.iload 7, 2) := by decide +kernel
theorem dL_build_80 : decode cL_build 80 = .ok (.iconst 1, 1) := by decide +kernel
theorem dL_build_81 : decode cL_build 81 = .ok (.iload 8, 2) := by decide +kernel
theorem dL_build_83 : decode cL_build 83 = .ok (.iconst 4, 1) := by decide +kernel
theorem dL_build_84 : decode cL_build 84 = .ok (.ishr, 1) := by decide +kernel
theorem dL_build_85 : decode cL_build 85 = .ok (.iconst 4, 1) := by decide +kernel
theorem dL_build_86 : decode cL_build 86 = .ok (.invokestatic 15, 3) := by decide +kernel
theorem dL_build_89 : decode cL_build 89 = .ok (.iadd, 1) := by decide +kernel
theorem dL_build_90 : decode cL_build 90 = .ok (.iastore, 1) := by decide +kernel
theorem dL_build_91 : decode cL_build 91 = .ok (.aload 4, 2) := by decide +kernel
theorem dL_build_93 : decode cL_build 93 = .ok (.iload 7, 2) := by decide +kernel
theorem dL_build_95 : decode cL_build 95 = .ok (.aload_n 3, 1) := by decide +kernel
theorem dL_build_96 : decode cL_build 96 = .ok (.iload 7, 2) := by decide +kernel
theorem dL_build_98 : decode cL_build 98 = .ok (.iaload, 1) := by decide +kernel
theorem dL_build_99 : decode cL_build 99 = .ok (.ifCond .ne 14, 3) := by decide +kernel
theorem dL_build_102 : decode cL_build 102 = .ok (.iload 8, 2) := by decide +kernel
theorem dL_build_104 : decode cL_build 104 = .ok (.iconst 5, 1) := by decide +kernel
theorem dL_build_105 : decode cL_build 105 = .ok (.ishr, 1) := by decide +kernel
theorem dL_build_106 : decode cL_build 106 = .ok (.sipush 5000, 3) := by decide +kernel
theorem dL_build_109 : decode cL_build 109 = .ok (.isub, 1) := by decide +kernel
theorem dL_build_110 : decode cL_build 110 = .ok (.goto 19, 3) := by decide +kernel
theorem dL_build_113 : decode cL_build 113 = .ok (.aload_n 3, 1) := by decide +kernel
theorem dL_build_114 : decode cL_build 114 = .ok (.iload 7, 2) := by decide +kernel
theorem dL_build_116 : decode cL_build 116 = .ok (.iload 8, 2) := by decide +kernel
theorem dL_build_118 : decode cL_build 118 = .ok (.bipush 7, 2) := by decide +kernel
theorem dL_build_120 : decode cL_build 120 = .ok (.ishr, 1) := by decide +kernel
theorem dL_build_121 : decode cL_build 121 = .ok (.iload 7, 2) := by decide +kernel
theorem dL_build_123 : decode cL_build 123 = .ok (.invokestatic 15, 3) := by decide +kernel
theorem dL_build_126 : decode cL_build 126 = .ok (.invokestatic 20, 3) := by decide +kernel
theorem dL_build_129 : decode cL_build 129 = .ok (.iastore, 1) := by decide +kernel
theorem dL_build_130 : decode cL_build 130 = .ok (.aload 5, 2) := by decide +kernel
theorem dL_build_132 : decode cL_build 132 = .ok (.iload 7, 2) := by decide +kernel
theorem dL_build_134 : decode cL_build 134 = .ok (.aload_n 3, 1) := by decide +kernel
theorem dL_build_135 : decode cL_build 135 = .ok (.iload 7, 2) := by decide +kernel
theorem dL_build_137 : decode cL_build 137 = .ok (.iaload, 1) := by decide +kernel
theorem dL_build_138 : decode cL_build 138 = .ok (.iconst 1, 1) := by decide +kernel
theorem dL_build_139 : decode cL_build 139 = .ok (.if_icmp .lt 30, 3) := by decide +kernel
theorem dL_build_142 : decode cL_build 142 = .ok (.aload_n 3, 1) := by decide +kernel
theorem dL_build_143 : decode cL_build 143 = .ok (.iload 7, 2) := by decide +kernel
theorem dL_build_145 : decode cL_build 145 = .ok (.iaload, 1) := by decide +kernel
theorem dL_build_146 : decode cL_build 146 = .ok (.iconst 4, 1) := by decide +kernel
theorem dL_build_147 : decode cL_build 147 = .ok (.if_icmp .gt 22, 3) := by decide +kernel
theorem dL_build_150 : decode cL_build 150 = .ok (.aload_n 3, 1) := by decide +kernel
theorem dL_build_151 : decode cL_build 151 = .ok (.iload 7, 2) := by decide +kernel
theorem dL_build_153 : decode cL_build 153 = .ok (.iload 8, 2) := by decide +kernel
theorem dL_build_155 : decode cL_build 155 = .ok (.bipush 13, 2) := by decide +kernel
theorem dL_build_157 : decode cL_build 157 = .ok (.ishr, 1) := by decide +kernel
theorem dL_build_158 : decode cL_build 158 = .ok (.iload 7, 2) := by decide +kernel
theorem dL_build_160 : decode cL_build 160 = .ok (.invokestatic 15, 3) := by decide +kernel
theorem dL_build_163 : decode cL_build 163 = .ok (.invokestatic 20, 3) := by decide +kernel
theorem dL_build_166 : decode cL_build 166 = .ok (.goto 4, 3) := by decide +kernel
theorem dL_build_169 : decode cL_build 169 = .ok (.iconst (-1), 1) := by decide +kernel
theorem dL_build_170 : decode cL_build 170 = .ok (.iastore, 1) := by decide +kernel
theorem dL_build_171 : decode cL_build 171 = .ok (.aload_n 3, 1) := by decide +kernel
theorem dL_build_172 : decode cL_build 172 = .ok (.iload 7, 2) := by decide +kernel
theorem dL_build_174 : decode cL_build 174 = .ok (.iaload, 1) := by decide +kernel
theorem dL_build_175 : decode cL_build 175 = .ok (.ifCond .ne 15, 3) := by decide +kernel
theorem dL_build_178 : decode cL_build 178 = .ok (.aload_n 0, 1) := by decide +kernel
theorem dL_build_179 : decode cL_build 179 = .ok (.aload 4, 2) := by decide +kernel
theorem dL_build_181 : decode cL_build 181 = .ok (.iload 7, 2) := by decide +kernel
theorem dL_build_183 : decode cL_build 183 = .ok (.iaload, 1) := by decide +kernel
theorem dL_build_184 : decode cL_build 184 = .ok (.invokevirtual 24, 3) := by decide +kernel
theorem dL_build_187 : decode cL_build 187 = .ok (.goto 45, 3) := by decide +kernel
theorem dL_build_190 : decode cL_build 190 = .ok (.aload_n 3, 1) := by decide +kernel
theorem dL_build_191 : decode cL_build 191 = .ok (.iload 7, 2) := by decide +kernel
theorem dL_build_193 : decode cL_build 193 = .ok (.iaload, 1) := by decide +kernel
theorem dL_build_194 : decode cL_build 194 = .ok (.iconst 4, 1) := by decide +kernel
theorem dL_build_195 : decode cL_build 195 = .ok (.if_icmp .gt 24, 3) := by decide +kernel
theorem dL_build_198 : decode cL_build 198 = .ok (.aload_n 0, 1) := by decide +kernel
theorem dL_build_199 : decode cL_build 199 = .ok (.aload_n 3, 1) := by decide +kernel
theorem dL_build_200 : decode cL_build 200 = .ok (.iload 7, 2) := by decide +kernel
theorem dL_build_202 : decode cL_build 202 = .ok (.iaload, 1) := by decide +kernel
theorem dL_build_203 : decode cL_build 203 = .ok (.aload 4, 2) := by decide +kernel
theorem dL_build_205 : decode cL_build 205 = .ok (.iload 7, 2) := by decide +kernel
theorem dL_build_207 : decode cL_build 207 = .ok (.iaload, 1) := by decide +kernel
theorem dL_build_208 : decode cL_build 208 = .ok (.aload 5, 2) := by decide +kernel
theorem dL_build_210 : decode cL_build 210 = .ok (.iload 7, 2) := by decide +kernel
theorem dL_build_212 : decode cL_build 212 = .ok (.iaload, 1) := by decide +kernel
theorem dL_build_213 : decode cL_build 213 = .ok (.invokevirtual 30, 3) := by decide +kernel
theorem dL_build_216 : decode cL_build 216 = .ok (.goto 16, 3) := by decide +kernel
theorem dL_build_219 : decode cL_build 219 = .ok (.aload_n 0, 1) := by decide +kernel
theorem dL_build_220 : decode cL_build 220 = .ok (.aload_n 3, 1) := by decide +kernel
theorem dL_build_221 : decode cL_build 221 = .ok (.iload 7, 2) := by decide +kernel
theorem dL_build_223 : decode cL_build 223 = .ok (.iaload, 1) := by decide +kernel
theorem dL_build_224 : decode cL_build 224 = .ok (.aload 4, 2) := by decide +kernel
theorem dL_build_226 : decode cL_build 226 = .ok (.iload 7, 2) := by decide +kernel
theorem dL_build_228 : decode cL_build 228 = .ok (.iaload, 1) := by decide +kernel
theorem dL_build_229 : decode cL_build 229 = .ok (.invokevirtual 34, 3) := by decide +kernel
theorem dL_build_232 : decode cL_build 232 = .ok (.istore 9, 2) := by decide +kernel
theorem dL_build_234 : decode cL_build 234 = .ok (.iload 9, 2) := by decide +kernel
theorem dL_build_236 : decode cL_build 236 = .ok (.iload 7, 2) := by decide +kernel
theorem dL_build_238 : decode cL_build 238 = .ok (.if_icmp .ne 16, 3) := by decide +kernel
theorem dL_build_241 : decode cL_build 241 = .ok (.aload_n 0, 1) := by decide +kernel
theorem dL_build_242 : decode cL_build 242 = .ok (.iload 7, 2) := by decide +kernel
theorem dL_build_244 : decode cL_build 244 = .ok (.invokevirtual 37, 3) := by decide +kernel
theorem dL_build_247 : decode cL_build 247 = .ok (.aload_n 3, 1) := by decide +kernel
theorem dL_build_248 : decode cL_build 248 = .ok (.iload 7, 2) := by decide +kernel
theorem dL_build_250 : decode cL_build 250 = .ok (.iaload, 1) := by decide +kernel
theorem dL_build_251 : decode cL_build 251 = .ok (.if_icmp .eq 5, 3) := by decide +kernel
theorem dL_build_254 : decode cL_build 254 = .ok (.iconst (-1), 1) := by decide +kernel
theorem dL_build_255 : decode cL_build 255 = .ok (.ireturn, 1) := by decide +kernel
theorem dL_build_256 : decode cL_build 256 = .ok (.iinc 7 1, 3) := by decide +kernel
theorem dL_build_259 : decode cL_build 259 = .ok (.goto (-242), 3) := by decide +kernel
theorem dL_build_262 : decode cL_build 262 = .ok (.aload_n 0, 1) := by decide +kernel
theorem dL_build_263 : decode cL_build 263 = .ok (.invokevirtual 40, 3) := by decide +kernel
theorem dL_build_266 : decode cL_build 266 = .ok (.iload 6, 2) := by decide +kernel
theorem dL_build_268 : decode cL_build 268 = .ok (.if_icmp .ne 8, 3) := by decide +kernel
theorem dL_build_271 : decode cL_build 271 = .ok (.iload 6, 2) := by decide +kernel
theorem dL_build_273 : decode cL_build 273 = .ok (.goto 4, 3) := by decide +kernel
theorem dL_build_276 : decode cL_build 276 = .ok (.iconst (-1), 1) := by decide +kernel
theorem dL_build_277 : decode cL_build 277 = .ok (.ireturn, 1) := by decide +kernel
theorem dL_valueBefore_0 : decode cL_valueBefore 0 = .ok (.iload_n 2, 1) := by decide +kernel
theorem dL_valueBefore_1 : decode cL_valueBefore 1 = .ok (.iload_n 1, 1) := by decide +kernel
theorem dL_valueBefore_2 : decode cL_valueBefore 2 = .ok (.iconst 1, 1) := by decide +kernel
theorem dL_valueBefore_3 : decode cL_valueBefore 3 = .ok (.isub, 1) := by decide +kernel
theorem dL_valueBefore_4 : decode cL_valueBefore 4 = .ok (.invokestatic 44, 3) := by decide +kernel
theorem dL_valueBefore_7 : decode cL_valueBefore 7 = .ok (.istore_n 3, 1) := by decide +kernel
theorem dL_valueBefore_8 : decode cL_valueBefore 8 = .ok (.aload_n 0, 1) := by decide +kernel
theorem dL_valueBefore_9 : decode cL_valueBefore 9 = .ok (.iload_n 3, 1) := by decide +kernel
theorem dL_valueBefore_10 : decode cL_valueBefore 10 = .ok (.iaload, 1) := by decide +kernel
theorem dL_valueBefore_11 : decode cL_valueBefore 11 = .ok (.bipush 6, 2) := by decide +kernel
theorem dL_valueBefore_13 : decode cL_valueBefore 13 = .ok (.if_icmp .ne 9, 3) := by decide +kernel
theorem dL_valueBefore_16 : decode cL_valueBefore 16 = .ok (.iinc 3 (-1), 3) := by decide +kernel
theorem dL_valueBefore_19 : decode cL_valueBefore 19 = .ok (.goto (-11), 3) := by decide +kernel
theorem dL_valueBefore_22 : decode cL_valueBefore 22 = .ok (.iload_n 3, 1) := by decide +kernel
theorem dL_valueBefore_23 : decode cL_valueBefore 23 = .ok (.ireturn, 1) := by decide +kernel
theorem dL_uses_0 : decode cL_uses 0 = .ok (.aload_n 0, 1) := by decide +kernel
theorem dL_uses_1 : decode cL_uses 1 = .ok (.iload_n 3, 1) := by decide +kernel
theorem dL_uses_2 : decode cL_uses 2 = .ok (.iaload, 1) := by decide +kernel
theorem dL_uses_3 : decode cL_uses 3 = .ok (.ifCond .eq 23, 3) := by decide +kernel
theorem dL_uses_6 : decode cL_uses 6 = .ok (.aload_n 1, 1) := by decide +kernel
theorem dL_uses_7 : decode cL_uses 7 = .ok (.iload_n 3, 1) := by decide +kernel
theorem dL_uses_8 : decode cL_uses 8 = .ok (.iaload, 1) := by decide +kernel
theorem dL_uses_9 : decode cL_uses 9 = .ok (.iload 4, 2) := by decide +kernel
theorem dL_uses_11 : decode cL_uses 11 = .ok (.if_icmp .eq 11, 3) := by decide +kernel
theorem dL_uses_14 : decode cL_uses 14 = .ok (.aload_n 2, 1) := by decide +kernel
theorem dL_uses_15 : decode cL_uses 15 = .ok (.iload_n 3, 1) := by decide +kernel
theorem dL_uses_16 : decode cL_uses 16 = .ok (.iaload, 1) := by decide +kernel
theorem dL_uses_17 : decode cL_uses 17 = .ok (.iload 4, 2) := by decide +kernel
theorem dL_uses_19 : decode cL_uses 19 = .ok (.if_icmp .ne 7, 3) := by decide +kernel
theorem dL_uses_22 : decode cL_uses 22 = .ok (.iconst 1, 1) := by decide +kernel
theorem dL_uses_23 : decode cL_uses 23 = .ok (.goto 4, 3) := by decide +kernel
theorem dL_uses_26 : decode cL_uses 26 = .ok (.iconst 0, 1) := by decide +kernel
theorem dL_uses_27 : decode cL_uses 27 = .ok (.ireturn, 1) := by decide +kernel
set_option maxRecDepth 20000 in
theorem ggL_count_L_uses : GoodIn wsL_count wsL_uses := goodIn_r _ [4] (by decide +kernel) (by decide +kernel)
set_option maxRecDepth 20000 in
theorem gL_count_L_uses : GoodIn wsL_count (va_wsS RL 49 yL_uses wsL_uses) := goodIn_app (goodIn_of _ (by decide +kernel)) ggL_count_L_uses
theorem dL_count_0 : decode cL_count 0 = .ok (.iload_n 0, 1) := by decide +kernel
theorem dL_count_1 : decode cL_count 1 = .ok (.iconst 1, 1) := by decide +kernel
theorem dL_count_2 : decode cL_count 2 = .ok (.isub, 1) := by decide +kernel
theorem dL_count_3 : decode cL_count 3 = .ok (.istore 5, 2) := by decide +kernel
theorem dL_count_5 : decode cL_count 5 = .ok (.iload 5, 2) := by decide +kernel
theorem dL_count_7 : decode cL_count 7 = .ok (.ifCond .lt 85, 3) := by decide +kernel
theorem dL_count_10 : decode cL_count 10 = .ok (.aload 4, 2) := by decide +kernel
theorem dL_count_12 : decode cL_count 12 = .ok (.iload 5, 2) := by decide +kernel
theorem dL_count_14 : decode cL_count 14 = .ok (.aload_n 1, 1) := by decide +kernel
theorem dL_count_15 : decode cL_count 15 = .ok (.iload 5, 2) := by decide +kernel
theorem dL_count_17 : decode cL_count 17 = .ok (.iaload, 1) := by decide +kernel
theorem dL_count_18 : decode cL_count 18 = .ok (.bipush 6, 2) := by decide +kernel
theorem dL_count_20 : decode cL_count 20 = .ok (.if_icmp .ne 7, 3) := by decide +kernel
theorem dL_count_23 : decode cL_count 23 = .ok (.iconst 1, 1) := by decide +kernel
theorem dL_count_24 : decode cL_count 24 = .ok (.goto 4, 3) := by decide +kernel
theorem dL_count_27 : decode cL_count 27 = .ok (.iconst 0, 1) := by decide +kernel
theorem dL_count_28 : decode cL_count 28 = .ok (.bastore, 1) := by decide +kernel
theorem dL_count_29 : decode cL_count 29 = .ok (.iload 5, 2) := by decide +kernel
theorem dL_count_31 : decode cL_count 31 = .ok (.iconst 1, 1) := by decide +kernel
theorem dL_count_32 : decode cL_count 32 = .ok (.iadd, 1) := by decide +kernel
theorem dL_count_33 : decode cL_count 33 = .ok (.istore 6, 2) := by decide +kernel
theorem dL_count_35 : decode cL_count 35 = .ok (.iload 6, 2) := by decide +kernel
theorem dL_count_37 : decode cL_count 37 = .ok (.iload_n 0, 1) := by decide +kernel
theorem dL_count_38 : decode cL_count 38 = .ok (.if_icmp .ge 48, 3) := by decide +kernel
theorem dL_count_41 : decode cL_count 41 = .ok (.aload 4, 2) := by decide +kernel
theorem dL_count_43 : decode cL_count 43 = .ok (.iload 5, 2) := by decide +kernel
theorem dL_count_45 : decode cL_count 45 = .ok (.aload 4, 2) := by decide +kernel
theorem dL_count_47 : decode cL_count 47 = .ok (.iload 5, 2) := by decide +kernel
theorem dL_count_49 : decode cL_count 49 = .ok (.baload, 1) := by decide +kernel
theorem dL_count_50 : decode cL_count 50 = .ok (.ifCond .ne 24, 3) := by decide +kernel
theorem dL_count_53 : decode cL_count 53 = .ok (.aload 4, 2) := by decide +kernel
theorem dL_count_55 : decode cL_count 55 = .ok (.iload 6, 2) := by decide +kernel
theorem dL_count_57 : decode cL_count 57 = .ok (.baload, 1) := by decide +kernel
theorem dL_count_58 : decode cL_count 58 = .ok (.ifCond .eq 20, 3) := by decide +kernel
theorem dL_count_61 : decode cL_count 61 = .ok (.aload_n 1, 1) := by decide +kernel
theorem dL_count_62 : decode cL_count 62 = .ok (.aload_n 2, 1) := by decide +kernel
theorem dL_count_63 : decode cL_count 63 = .ok (.aload_n 3, 1) := by decide +kernel
theorem dL_count_64 : decode cL_count 64 = .ok (.iload 6, 2) := by decide +kernel
theorem dL_count_66 : decode cL_count 66 = .ok (.iload 5, 2) := by decide +kernel
theorem dL_count_68 : decode cL_count 68 = .ok (.invokestatic 49, 3) := by decide +kernel
theorem dL_count_71 : decode cL_count 71 = .ok (.ifCond .eq 7, 3) := by decide +kernel
theorem dL_count_74 : decode cL_count 74 = .ok (.iconst 1, 1) := by decide +kernel
theorem dL_count_75 : decode cL_count 75 = .ok (.goto 4, 3) := by decide +kernel
theorem dL_count_78 : decode cL_count 78 = .ok (.iconst 0, 1) := by decide +kernel
theorem dL_count_79 : decode cL_count 79 = .ok (.bastore, 1) := by decide +kernel
theorem dL_count_80 : decode cL_count 80 = .ok (.iinc 6 1, 3) := by decide +kernel
theorem dL_count_83 : decode cL_count 83 = .ok (.goto (-48), 3) := by decide +kernel
theorem dL_count_86 : decode cL_count 86 = .ok (.iinc 5 (-1), 3) := by decide +kernel
theorem dL_count_89 : decode cL_count 89 = .ok (.goto (-84), 3) := by decide +kernel
theorem dL_count_92 : decode cL_count 92 = .ok (.return_, 1) := by decide +kernel
set_option maxRecDepth 20000 in
theorem ggL_law_X4_init : GoodIn wsL_law wsX4_init := goodIn_r _ [7, 8, 9, 10, 11, 12, 13, 14, 15, 16, 17, 18, 19, 20, 21, 22, 23, 24, 25, 26, 27, 28, 29, 3, 30, 31, 32, 33, 4, 34, 35, 36, 37, 38, 39, 40, 41, 42, 43, 44, 45, 46, 47, 48, 49, 50, 51, 52, 53, 54, 55, 56, 57, 58, 59, 60, 61, 62, 63, 64, 65, 66, 67, 68, 69, 70, 71, 72, 426, 427, 428, 429, 430, 431, 420, 421, 422, 423, 424, 425, 432, 433, 434, 435, 436, 437, 438, 439, 440, 441, 442, 443, 444, 445, 446, 447, 448, 449] (by decide +kernel) (by decide +kernel)
set_option maxRecDepth 20000 in
theorem gL_law_X4_init : GoodIn wsL_law (wsX4_init) := ggL_law_X4_init
set_option maxRecDepth 20000 in
theorem ggL_law_L_build : GoodIn wsL_law wsL_build := goodIn_ca (goodIn_ca (goodIn_ca (goodIn_r _ [76, 77, 78, 79, 75, 80, 81, 82, 83, 84, 85, 86, 87, 88, 89, 90, 60, 91, 92, 93, 94, 2, 95, 96, 97, 98, 99, 100, 101, 14, 102, 103, 104, 13, 105, 35, 106, 107, 108, 109, 25, 110, 111, 112, 113, 30, 31, 32, 33, 114, 115, 116, 117, 118, 34, 119, 120, 121, 122, 123, 124, 125, 126, 127, 128, 129, 130, 131, 132, 133, 134, 135, 136, 137, 138, 139, 140, 141, 142, 143, 144, 145, 146, 147, 148, 149, 150, 151, 152, 153, 154, 155, 156, 157, 158, 159, 160, 161, 162, 163, 164, 165, 166, 167, 168, 169, 170, 420, 421, 422, 423, 424, 425, 426, 427, 428, 429, 430, 431] (by decide +kernel) (by decide +kernel)) (goodIn_sub (fun _ h => List.mem_append_left _ (List.mem_append_left _ (List.mem_append_right _ h))) (by decide +kernel))) (goodIn_sub (fun _ h => List.mem_append_left _ (List.mem_append_right _ h)) (by decide +kernel))) (goodIn_sub (fun _ h => List.mem_append_right _ h) (by decide +kernel))
set_option maxRecDepth 20000 in
theorem gL_law_L_build : GoodIn wsL_law (va_wsS RL 54 yL_build wsL_build) := goodIn_app (goodIn_of _ (by decide +kernel)) ggL_law_L_build
set_option maxRecDepth 20000 in
theorem ggL_law_L_count : GoodIn wsL_law wsL_count := goodIn_r _ [173, 174, 175, 75, 176] (by decide +kernel) (by decide +kernel)
set_option maxRecDepth 20000 in
theorem gL_law_L_count : GoodIn wsL_law (va_wsS RL 58 yL_count wsL_count) := goodIn_app (goodIn_of _ (by decide +kernel)) ggL_law_L_count
set_option maxRecDepth 20000 in
theorem ggL_law_X4_setRegisters : GoodIn wsL_law wsX4_setRegisters := goodIn_ca (goodIn_r _ [180, 144, 145, 24, 25, 420, 421, 422, 423, 424, 425] (by decide +kernel) (by decide +kernel)) (goodIn_sub (fun _ h => List.mem_append_right _ h) (by decide +kernel))
set_option maxRecDepth 20000 in
theorem gL_law_X4_setRegisters : GoodIn wsL_law (wsV RL 62 RX4 yX4_setRegisters wsX4_setRegisters) := goodIn_app (goodIn_of _ (by decide +kernel)) ggL_law_X4_setRegisters
set_option maxRecDepth 20000 in
theorem ggL_law_X4_allocate : GoodIn wsL_law wsX4_allocate := goodIn_r _ [184, 18, 24, 25, 185, 186, 187, 17, 188, 40, 189, 190, 191, 192, 44, 45, 193, 90, 60, 91, 194, 59, 61, 52, 53, 46, 47, 48, 49, 50, 51, 195, 196, 197, 43, 198, 64, 199, 200, 201, 13, 202, 203, 35, 34, 31, 32, 123, 124, 125, 126, 204, 168, 169, 170, 205, 206, 207, 208, 209, 210, 211, 212, 30, 213, 214, 215, 216, 217, 218, 219, 220, 221, 222, 223, 224, 225, 226, 227, 228, 229, 230, 231, 232, 233, 234, 235, 236, 237, 238, 239, 240, 241, 242, 243, 244, 245, 246, 247, 248, 249, 250, 251, 252, 253, 254, 255, 256, 257, 258, 259, 260, 261, 262, 263, 264, 265, 266, 267, 62, 63, 268, 269, 270, 271, 272, 273, 274, 275, 276, 277, 278, 279, 280, 281, 282, 283, 284, 285, 286, 287, 288, 289, 290, 291, 33, 292, 293, 294, 295, 296, 297, 298, 299, 300, 301, 302, 303, 304, 305, 306, 307, 308, 138, 139, 140, 309, 310, 311, 312, 313, 160, 161, 162, 314, 315, 316, 317, 318, 319, 320, 321, 322, 323, 324, 325, 420, 421, 422, 423, 424, 425, 432, 433, 434, 435, 436, 437, 438, 439, 440, 441, 442, 447, 448, 449, 426, 427, 428, 429, 430, 431] (by decide +kernel) (by decide +kernel)
set_option maxRecDepth 20000 in
theorem gL_law_X4_allocate : GoodIn wsL_law (wsV RL 65 RX4 yX4_allocate wsX4_allocate) := goodIn_app (goodIn_of _ (by decide +kernel)) ggL_law_X4_allocate
set_option maxRecDepth 20000 in
theorem ggL_law_X4_step : GoodIn wsL_law wsX4_step := goodIn_ca (goodIn_ca (goodIn_r _ [329, 18, 330, 331, 332, 2, 333, 100, 101, 25, 318, 319, 320, 17, 321, 44, 334, 335, 336, 135, 136, 337, 273, 274, 43, 275, 64, 338, 339, 340, 341, 63, 272, 420, 421, 422, 423, 424, 425, 432, 433, 434, 435, 436, 437, 438, 439, 440, 441, 442, 447, 448, 449] (by decide +kernel) (by decide +kernel)) (goodIn_sub (fun _ h => List.mem_append_left _ (List.mem_append_left _ (List.mem_append_right _ h))) (by decide +kernel))) (goodIn_sub (fun _ h => List.mem_append_left _ (List.mem_append_right _ h)) (by decide +kernel))
set_option maxRecDepth 20000 in
theorem gL_law_X4_step : GoodIn wsL_law (wsV RL 68 RX4 yX4_step wsX4_step) := goodIn_app (goodIn_of _ (by decide +kernel)) ggL_law_X4_step
set_option maxRecDepth 20000 in
theorem ggL_law_X4_pieceCount : GoodIn wsL_law wsX4_pieceCount := goodIn_ca (goodIn_r _ [345, 18, 330, 331, 332, 2, 333, 100, 101, 25, 346, 347, 348, 17, 349, 45, 322, 323, 324, 43, 325, 64, 420, 421, 422, 423, 424, 425, 432, 433, 434, 435, 436, 437, 438, 439, 440, 441, 442, 447, 448, 449] (by decide +kernel) (by decide +kernel)) (goodIn_sub (fun _ h => List.mem_append_left _ (List.mem_append_left _ (List.mem_append_right _ h))) (by decide +kernel))
set_option maxRecDepth 20000 in
theorem gL_law_X4_pieceCount : GoodIn wsL_law (wsV RL 71 RX4 yX4_pieceCount wsX4_pieceCount) := goodIn_app (goodIn_of _ (by decide +kernel)) ggL_law_X4_pieceCount
set_option maxRecDepth 20000 in
theorem ggL_law_X4_piece : GoodIn wsL_law wsX4_piece := goodIn_ca (goodIn_ca (goodIn_r _ [353, 18, 330, 331, 332, 2, 333, 100, 101, 25, 346, 347, 348, 17, 349, 45, 334, 335, 336, 135, 136, 337, 273, 274, 43, 275, 64, 338, 339, 340, 341, 63, 272, 420, 421, 422, 423, 424, 425, 432, 433, 434, 435, 436, 437, 438, 439, 440, 441, 442, 447, 448, 449] (by decide +kernel) (by decide +kernel)) (goodIn_sub (fun _ h => List.mem_append_left _ (List.mem_append_left _ (List.mem_append_right _ h))) (by decide +kernel))) (goodIn_sub (fun _ h => List.mem_append_left _ (List.mem_append_right _ h)) (by decide +kernel))
set_option maxRecDepth 20000 in
theorem gL_law_X4_piece : GoodIn wsL_law (wsV RL 74 RX4 yX4_piece wsX4_piece) := goodIn_app (goodIn_of _ (by decide +kernel)) ggL_law_X4_piece
set_option maxRecDepth 20000 in
theorem ggL_law_L_uses : GoodIn wsL_law wsL_uses := goodIn_r _ [176] (by decide +kernel) (by decide +kernel)
set_option maxRecDepth 20000 in
theorem gL_law_L_uses : GoodIn wsL_law (va_wsS RL 49 yL_uses wsL_uses) := goodIn_app (goodIn_of _ (by decide +kernel)) ggL_law_L_uses
set_option maxRecDepth 20000 in
theorem ggL_law_X4_stepCount : GoodIn wsL_law wsX4_stepCount := goodIn_ca (goodIn_ca (goodIn_r _ [357, 135, 136, 18, 330, 331, 332, 2, 333, 100, 101, 25, 318, 319, 320, 17, 321, 44, 358, 359, 360, 43, 361, 64, 362, 339, 340, 341, 63, 272, 273, 274, 275, 420, 421, 422, 423, 424, 425, 432, 433, 434, 435, 436, 437, 438, 439, 440, 441, 442, 447, 448, 449] (by decide +kernel) (by decide +kernel)) (goodIn_sub (fun _ h => List.mem_append_left _ (List.mem_append_right _ h)) (by decide +kernel))) (goodIn_sub (fun _ h => List.mem_append_left _ (List.mem_append_left _ (List.mem_append_right _ h))) (by decide +kernel))
set_option maxRecDepth 20000 in
theorem gL_law_X4_stepCount : GoodIn wsL_law (wsV RL 77 RX4 yX4_stepCount wsX4_stepCount) := goodIn_app (goodIn_of _ (by decide +kernel)) ggL_law_X4_stepCount
set_option maxRecDepth 20000 in
theorem ggL_law_X4_slots : GoodIn wsL_law wsX4_slots := goodIn_ca (goodIn_r _ [366, 18, 330, 331, 332, 2, 333, 100, 101, 25, 367, 368, 369, 17, 370, 53, 420, 421, 422, 423, 424, 425, 432, 433, 434, 435, 436, 437, 438, 439, 440, 441, 442] (by decide +kernel) (by decide +kernel)) (goodIn_sub (fun _ h => List.mem_append_left _ (List.mem_append_left _ (List.mem_append_right _ h))) (by decide +kernel))
set_option maxRecDepth 20000 in
theorem gL_law_X4_slots : GoodIn wsL_law (wsV RL 80 RX4 yX4_slots wsX4_slots) := goodIn_app (goodIn_of _ (by decide +kernel)) ggL_law_X4_slots
set_option maxRecDepth 20000 in
theorem ggL_law_X4_run : GoodIn wsL_law wsX4_run := goodIn_ca (goodIn_r _ [374, 23, 18, 330, 331, 332, 2, 333, 100, 101, 25, 318, 319, 320, 17, 321, 44, 375, 376, 377, 22, 378, 69, 70, 72, 379, 323, 324, 43, 325, 64, 380, 339, 340, 341, 63, 272, 273, 274, 275, 381, 382, 383, 384, 385, 386, 387, 388, 389, 390, 391, 392, 393, 394, 395, 396, 71, 397, 398, 399, 400, 401, 402, 403, 404, 405, 406, 407, 408, 409, 410, 411, 420, 421, 422, 423, 424, 425, 432, 433, 434, 435, 436, 437, 438, 439, 440, 441, 442, 443, 444, 445, 446, 447, 448, 449] (by decide +kernel) (by decide +kernel)) (goodIn_sub (fun _ h => List.mem_append_left _ (List.mem_append_left _ (List.mem_append_right _ h))) (by decide +kernel))
set_option maxRecDepth 20000 in
theorem gL_law_X4_run : GoodIn wsL_law (wsV RL 83 RX4 yX4_run wsX4_run) := goodIn_app (goodIn_of _ (by decide +kernel)) ggL_law_X4_run
set_option maxRecDepth 20000 in
theorem ggL_law_X4_output : GoodIn wsL_law wsX4_output := goodIn_ca (goodIn_r _ [415, 135, 136, 23, 408, 409, 410, 22, 411, 72, 416, 417, 418, 419, 71, 420, 421, 422, 423, 424, 425, 443, 444, 445, 446] (by decide +kernel) (by decide +kernel)) (goodIn_sub (fun _ h => List.mem_append_left _ (List.mem_append_right _ h)) (by decide +kernel))
set_option maxRecDepth 20000 in
theorem gL_law_X4_output : GoodIn wsL_law (wsV RL 86 RX4 yX4_output wsX4_output) := goodIn_app (goodIn_of _ (by decide +kernel)) ggL_law_X4_output
set_option maxRecDepth 20000 in
theorem ggL_law_X4_size : GoodIn wsL_law wsX4_size := goodIn_r _ [166, 14, 167, 168, 169, 13, 170, 35, 420, 421, 422, 423, 424, 425, 426, 427, 428, 429, 430, 431] (by decide +kernel) (by decide +kernel)
set_option maxRecDepth 20000 in
theorem gL_law_X4_size : GoodIn wsL_law (wsV RL 40 RX4 yX4_size wsX4_size) := goodIn_app (goodIn_of _ (by decide +kernel)) ggL_law_X4_size
theorem dL_law_0 : decode cL_law 0 = .ok (.new 25, 3) := by decide +kernel
theorem dL_law_3 : decode cL_law 3 = .ok (.dup, 1) := by decide +kernel
theorem dL_law_4 : decode cL_law 4 = .ok (.invokespecial 53, 3) := by decide +kernel
theorem dL_law_7 : decode cL_law 7 = .ok (.astore_n 1, 1) := by decide +kernel
theorem dL_law_8 : decode cL_law 8 = .ok (.bipush 40, 2) := by decide +kernel
theorem dL_law_10 : decode cL_law 10 = .ok (.newarray .int, 2) := by decide +kernel
theorem dL_law_12 : decode cL_law 12 = .ok (.astore_n 2, 1) := by decide +kernel
theorem dL_law_13 : decode cL_law 13 = .ok (.bipush 40, 2) := by decide +kernel
theorem dL_law_15 : decode cL_law 15 = .ok (.newarray .int, 2) := by decide +kernel
theorem dL_law_17 : decode cL_law 17 = .ok (.astore_n 3, 1) := by decide +kernel
theorem dL_law_18 : decode cL_law 18 = .ok (.bipush 40, 2) := by decide +kernel
theorem dL_law_20 : decode cL_law 20 = .ok (.newarray .int, 2) := by decide +kernel
theorem dL_law_22 : decode cL_law 22 = .ok (.astore 4, 2) := by decide +kernel
theorem dL_law_24 : decode cL_law 24 = .ok (.aload_n 1, 1) := by decide +kernel
theorem dL_law_25 : decode cL_law 25 = .ok (.aload_n 0, 1) := by decide +kernel
theorem dL_law_26 : decode cL_law 26 = .ok (.iconst 1, 1) := by decide +kernel
theorem dL_law_27 : decode cL_law 27 = .ok (.aload_n 2, 1) := by decide +kernel
theorem dL_law_28 : decode cL_law 28 = .ok (.aload_n 3, 1) := by decide +kernel
theorem dL_law_29 : decode cL_law 29 = .ok (.aload 4, 2) := by decide +kernel
theorem dL_law_31 : decode cL_law 31 = .ok (.invokestatic 54, 3) := by decide +kernel
theorem dL_law_34 : decode cL_law 34 = .ok (.istore 5, 2) := by decide +kernel
theorem dL_law_36 : decode cL_law 36 = .ok (.iload 5, 2) := by decide +kernel
theorem dL_law_38 : decode cL_law 38 = .ok (.ifCond .ge 5, 3) := by decide +kernel
theorem dL_law_41 : decode cL_law 41 = .ok (.iconst 0, 1) := by decide +kernel
theorem dL_law_42 : decode cL_law 42 = .ok (.ireturn, 1) := by decide +kernel
theorem dL_law_43 : decode cL_law 43 = .ok (.bipush 40, 2) := by decide +kernel
theorem dL_law_45 : decode cL_law 45 = .ok (.newarray .boolean, 2) := by decide +kernel
theorem dL_law_47 : decode cL_law 47 = .ok (.astore 6, 2) := by decide +kernel
theorem dL_law_49 : decode cL_law 49 = .ok (.iload 5, 2) := by decide +kernel
theorem dL_law_51 : decode cL_law 51 = .ok (.aload_n 2, 1) := by decide +kernel
theorem dL_law_52 : decode cL_law 52 = .ok (.aload_n 3, 1) := by decide +kernel
theorem dL_law_53 : decode cL_law 53 = .ok (.aload 4, 2) := by decide +kernel
theorem dL_law_55 : decode cL_law 55 = .ok (.aload 6, 2) := by decide +kernel
theorem dL_law_57 : decode cL_law 57 = .ok (.invokestatic 58, 3) := by decide +kernel
theorem dL_law_60 : decode cL_law 60 = .ok (.bipush 40, 2) := by decide +kernel
theorem dL_law_62 : decode cL_law 62 = .ok (.newarray .int, 2) := by decide +kernel
theorem dL_law_64 : decode cL_law 64 = .ok (.astore 7, 2) := by decide +kernel
theorem dL_law_66 : decode cL_law 66 = .ok (.iconst 2, 1) := by decide +kernel
theorem dL_law_67 : decode cL_law 67 = .ok (.istore 8, 2) := by decide +kernel
theorem dL_law_69 : decode cL_law 69 = .ok (.iload 8, 2) := by decide +kernel
theorem dL_law_71 : decode cL_law 71 = .ok (.bipush 8, 2) := by decide +kernel
theorem dL_law_73 : decode cL_law 73 = .ok (.if_icmp .gt 492, 3) := by decide +kernel
theorem dL_law_76 : decode cL_law 76 = .ok (.aload_n 1, 1) := by decide +kernel
theorem dL_law_77 : decode cL_law 77 = .ok (.iload 8, 2) := by decide +kernel
theorem dL_law_79 : decode cL_law 79 = .ok (.invokevirtual 62, 3) := by decide +kernel
theorem dL_law_82 : decode cL_law 82 = .ok (.pop, 1) := by decide +kernel
theorem dL_law_83 : decode cL_law 83 = .ok (.aload_n 1, 1) := by decide +kernel
theorem dL_law_84 : decode cL_law 84 = .ok (.invokevirtual 65, 3) := by decide +kernel
theorem dL_law_87 : decode cL_law 87 = .ok (.istore 9, 2) := by decide +kernel
theorem dL_law_89 : decode cL_law 89 = .ok (.iconst 0, 1) := by decide +kernel
theorem dL_law_90 : decode cL_law 90 = .ok (.istore 10, 2) := by decide +kernel
theorem dL_law_92 : decode cL_law 92 = .ok (.iconst 0, 1) := by decide +kernel
theorem dL_law_93 : decode cL_law 93 = .ok (.istore 11, 2) := by decide +kernel
theorem dL_law_95 : decode cL_law 95 = .ok (.iload 11, 2) := by decide +kernel
theorem dL_law_97 : decode cL_law 97 = .ok (.iload 5, 2) := by decide +kernel
theorem dL_law_99 : decode cL_law 99 = .ok (.if_icmp .ge 88, 3) := by decide +kernel
theorem dL_law_102 : decode cL_law 102 = .ok (.aload 6, 2) := by decide +kernel
theorem dL_law_104 : decode cL_law 104 = .ok (.iload 11, 2) := by decide +kernel
theorem dL_law_106 : decode cL_law 106 = .ok (.baload, 1) := by decide +kernel
theorem dL_law_107 : decode cL_law 107 = .ok (.ifCond .eq 74, 3) := by decide +kernel
theorem dL_law_110 : decode cL_law 110 = .ok (.aload_n 2, 1) := by decide +kernel
theorem dL_law_111 : decode cL_law 111 = .ok (.iload 11, 2) := by decide +kernel
theorem dL_law_113 : decode cL_law 113 = .ok (.iaload, 1) := by decide +kernel
theorem dL_law_114 : decode cL_law 114 = .ok (.ifCond .ne 6, 3) := by decide +kernel
theorem dL_law_117 : decode cL_law 117 = .ok (.goto 64, 3) := by decide +kernel
theorem dL_law_120 : decode cL_law 120 = .ok (.iload 10, 2) := by decide +kernel
theorem dL_law_122 : decode cL_law 122 = .ok (.iload 9, 2) := by decide +kernel
theorem dL_law_124 : decode cL_law 124 = .ok (.if_icmp .ge 31, 3) := by decide +kernel
theorem dL_law_127 : decode cL_law 127 = .ok (.aload_n 1, 1) := by decide +kernel
theorem dL_law_128 : decode cL_law 128 = .ok (.iload 10, 2) := by decide +kernel
theorem dL_law_130 : decode cL_law 130 = .ok (.iconst 0, 1) := by decide +kernel
theorem dL_law_131 : decode cL_law 131 = .ok (.invokevirtual 68, 3) := by decide +kernel
theorem dL_law_134 : decode cL_law 134 = .ok (.ifCond .eq 15, 3) := by decide +kernel
theorem dL_law_137 : decode cL_law 137 = .ok (.aload_n 1, 1) := by decide +kernel
theorem dL_law_138 : decode cL_law 138 = .ok (.iload 10, 2) := by decide +kernel
theorem dL_law_140 : decode cL_law 140 = .ok (.iconst 0, 1) := by decide +kernel
theorem dL_law_141 : decode cL_law 141 = .ok (.invokevirtual 68, 3) := by decide +kernel
theorem dL_law_144 : decode cL_law 144 = .ok (.bipush 6, 2) := by decide +kernel
theorem dL_law_146 : decode cL_law 146 = .ok (.if_icmp .le 9, 3) := by decide +kernel
theorem dL_law_149 : decode cL_law 149 = .ok (.iinc 10 1, 3) := by decide +kernel
theorem dL_law_152 : decode cL_law 152 = .ok (.goto (-32), 3) := by decide +kernel
theorem dL_law_155 : decode cL_law 155 = .ok (.iload 10, 2) := by decide +kernel
theorem dL_law_157 : decode cL_law 157 = .ok (.iload 9, 2) := by decide +kernel
theorem dL_law_159 : decode cL_law 159 = .ok (.if_icmp .eq 17, 3) := by decide +kernel
theorem dL_law_162 : decode cL_law 162 = .ok (.aload_n 1, 1) := by decide +kernel
theorem dL_law_163 : decode cL_law 163 = .ok (.iload 10, 2) := by decide +kernel
theorem dL_law_165 : decode cL_law 165 = .ok (.iconst 0, 1) := by decide +kernel
theorem dL_law_166 : decode cL_law 166 = .ok (.invokevirtual 68, 3) := by decide +kernel
theorem dL_law_169 : decode cL_law 169 = .ok (.aload_n 2, 1) := by decide +kernel
theorem dL_law_170 : decode cL_law 170 = .ok (.iload 11, 2) := by decide +kernel
theorem dL_law_172 : decode cL_law 172 = .ok (.iaload, 1) := by decide +kernel
theorem dL_law_173 : decode cL_law 173 = .ok (.if_icmp .eq 5, 3) := by decide +kernel
theorem dL_law_176 : decode cL_law 176 = .ok (.iconst 0, 1) := by decide +kernel
theorem dL_law_177 : decode cL_law 177 = .ok (.ireturn, 1) := by decide +kernel
theorem dL_law_178 : decode cL_law 178 = .ok (.iinc 10 1, 3) := by decide +kernel
theorem dL_law_181 : decode cL_law 181 = .ok (.iinc 11 1, 3) := by decide +kernel
theorem dL_law_184 : decode cL_law 184 = .ok (.goto (-89), 3) := by decide +kernel
theorem dL_law_187 : decode cL_law 187 = .ok (.iload 10, 2) := by decide +kernel
theorem dL_law_189 : decode cL_law 189 = .ok (.iload 9, 2) := by decide +kernel
theorem dL_law_191 : decode cL_law 191 = .ok (.if_icmp .ge 33, 3) := by decide +kernel
theorem dL_law_194 : decode cL_law 194 = .ok (.aload_n 1, 1) := by decide +kernel
theorem dL_law_195 : decode cL_law 195 = .ok (.iload 10, 2) := by decide +kernel
theorem dL_law_197 : decode cL_law 197 = .ok (.iconst 0, 1) := by decide +kernel
theorem dL_law_198 : decode cL_law 198 = .ok (.invokevirtual 68, 3) := by decide +kernel
theorem dL_law_201 : decode cL_law 201 = .ok (.ifCond .le 17, 3) := by decide +kernel
theorem dL_law_204 : decode cL_law 204 = .ok (.aload_n 1, 1) := by decide +kernel
theorem dL_law_205 : decode cL_law 205 = .ok (.iload 10, 2) := by decide +kernel
theorem dL_law_207 : decode cL_law 207 = .ok (.iconst 0, 1) := by decide +kernel
theorem dL_law_208 : decode cL_law 208 = .ok (.invokevirtual 68, 3) := by decide +kernel
theorem dL_law_211 : decode cL_law 211 = .ok (.bipush 7, 2) := by decide +kernel
theorem dL_law_213 : decode cL_law 213 = .ok (.if_icmp .ge 5, 3) := by decide +kernel
theorem dL_law_216 : decode cL_law 216 = .ok (.iconst 0, 1) := by decide +kernel
theorem dL_law_217 : decode cL_law 217 = .ok (.ireturn, 1) := by decide +kernel
theorem dL_law_218 : decode cL_law 218 = .ok (.iinc 10 1, 3) := by decide +kernel
theorem dL_law_221 : decode cL_law 221 = .ok (.goto (-34), 3) := by decide +kernel
theorem dL_law_224 : decode cL_law 224 = .ok (.bipush 40, 2) := by decide +kernel
theorem dL_law_226 : decode cL_law 226 = .ok (.newarray .int, 2) := by decide +kernel
theorem dL_law_228 : decode cL_law 228 = .ok (.astore 11, 2) := by decide +kernel
theorem dL_law_230 : decode cL_law 230 = .ok (.bipush 40, 2) := by decide +kernel
theorem dL_law_232 : decode cL_law 232 = .ok (.newarray .int, 2) := by decide +kernel
theorem dL_law_234 : decode cL_law 234 = .ok (.astore 12, 2) := by decide +kernel
theorem dL_law_236 : decode cL_law 236 = .ok (.iconst 0, 1) := by decide +kernel
theorem dL_law_237 : decode cL_law 237 = .ok (.istore 13, 2) := by decide +kernel
theorem dL_law_239 : decode cL_law 239 = .ok (.iload 13, 2) := by decide +kernel
theorem dL_law_241 : decode cL_law 241 = .ok (.aload_n 1, 1) := by decide +kernel
theorem dL_law_242 : decode cL_law 242 = .ok (.invokevirtual 71, 3) := by decide +kernel
theorem dL_law_245 : decode cL_law 245 = .ok (.if_icmp .ge 116, 3) := by decide +kernel
theorem dL_law_248 : decode cL_law 248 = .ok (.aload_n 1, 1) := by decide +kernel
theorem dL_law_249 : decode cL_law 249 = .ok (.iload 13, 2) := by decide +kernel
theorem dL_law_251 : decode cL_law 251 = .ok (.iconst 0, 1) := by decide +kernel
theorem dL_law_252 : decode cL_law 252 = .ok (.invokevirtual 74, 3) := by decide +kernel
theorem dL_law_255 : decode cL_law 255 = .ok (.istore 14, 2) := by decide +kernel
theorem dL_law_257 : decode cL_law 257 = .ok (.aload_n 1, 1) := by decide +kernel
theorem dL_law_258 : decode cL_law 258 = .ok (.iload 13, 2) := by decide +kernel
theorem dL_law_260 : decode cL_law 260 = .ok (.iconst 2, 1) := by decide +kernel
theorem dL_law_261 : decode cL_law 261 = .ok (.invokevirtual 74, 3) := by decide +kernel
theorem dL_law_264 : decode cL_law 264 = .ok (.istore 15, 2) := by decide +kernel
theorem dL_law_266 : decode cL_law 266 = .ok (.aload 12, 2) := by decide +kernel
theorem dL_law_268 : decode cL_law 268 = .ok (.iload 14, 2) := by decide +kernel
theorem dL_law_270 : decode cL_law 270 = .ok (.dup2, 1) := by decide +kernel
theorem dL_law_271 : decode cL_law 271 = .ok (.iaload, 1) := by decide +kernel
theorem dL_law_272 : decode cL_law 272 = .ok (.aload_n 1, 1) := by decide +kernel
theorem dL_law_273 : decode cL_law 273 = .ok (.iload 15, 2) := by decide +kernel
theorem dL_law_275 : decode cL_law 275 = .ok (.iconst 0, 1) := by decide +kernel
theorem dL_law_276 : decode cL_law 276 = .ok (.invokevirtual 68, 3) := by decide +kernel
theorem dL_law_279 : decode cL_law 279 = .ok (.bipush 7, 2) := by decide +kernel
theorem dL_law_281 : decode cL_law 281 = .ok (.if_icmp .ne 7, 3) := by decide +kernel
theorem dL_law_284 : decode cL_law 284 = .ok (.iconst 1, 1) := by decide +kernel
theorem dL_law_285 : decode cL_law 285 = .ok (.goto 4, 3) := by decide +kernel
theorem dL_law_288 : decode cL_law 288 = .ok (.iconst 0, 1) := by decide +kernel
theorem dL_law_289 : decode cL_law 289 = .ok (.iadd, 1) := by decide +kernel
theorem dL_law_290 : decode cL_law 290 = .ok (.iastore, 1) := by decide +kernel
theorem dL_law_291 : decode cL_law 291 = .ok (.iload 15, 2) := by decide +kernel
theorem dL_law_293 : decode cL_law 293 = .ok (.istore 16, 2) := by decide +kernel
theorem dL_law_295 : decode cL_law 295 = .ok (.iload 16, 2) := by decide +kernel
theorem dL_law_297 : decode cL_law 297 = .ok (.aload_n 1, 1) := by decide +kernel
theorem dL_law_298 : decode cL_law 298 = .ok (.iload 13, 2) := by decide +kernel
theorem dL_law_300 : decode cL_law 300 = .ok (.iconst 3, 1) := by decide +kernel
theorem dL_law_301 : decode cL_law 301 = .ok (.invokevirtual 74, 3) := by decide +kernel
theorem dL_law_304 : decode cL_law 304 = .ok (.if_icmp .gt 51, 3) := by decide +kernel
theorem dL_law_307 : decode cL_law 307 = .ok (.aload 11, 2) := by decide +kernel
theorem dL_law_309 : decode cL_law 309 = .ok (.iload 14, 2) := by decide +kernel
theorem dL_law_311 : decode cL_law 311 = .ok (.dup2, 1) := by decide +kernel
theorem dL_law_312 : decode cL_law 312 = .ok (.iaload, 1) := by decide +kernel
theorem dL_law_313 : decode cL_law 313 = .ok (.aload_n 1, 1) := by decide +kernel
theorem dL_law_314 : decode cL_law 314 = .ok (.iload 16, 2) := by decide +kernel
theorem dL_law_316 : decode cL_law 316 = .ok (.iconst 0, 1) := by decide +kernel
theorem dL_law_317 : decode cL_law 317 = .ok (.invokevirtual 68, 3) := by decide +kernel
theorem dL_law_320 : decode cL_law 320 = .ok (.bipush 8, 2) := by decide +kernel
theorem dL_law_322 : decode cL_law 322 = .ok (.if_icmp .ne 24, 3) := by decide +kernel
theorem dL_law_325 : decode cL_law 325 = .ok (.aload_n 1, 1) := by decide +kernel
theorem dL_law_326 : decode cL_law 326 = .ok (.iload 16, 2) := by decide +kernel
theorem dL_law_328 : decode cL_law 328 = .ok (.iconst 1, 1) := by decide +kernel
theorem dL_law_329 : decode cL_law 329 = .ok (.invokevirtual 68, 3) := by decide +kernel
theorem dL_law_332 : decode cL_law 332 = .ok (.aload_n 1, 1) := by decide +kernel
theorem dL_law_333 : decode cL_law 333 = .ok (.iload 13, 2) := by decide +kernel
theorem dL_law_335 : decode cL_law 335 = .ok (.iconst 1, 1) := by decide +kernel
theorem dL_law_336 : decode cL_law 336 = .ok (.invokevirtual 74, 3) := by decide +kernel
theorem dL_law_339 : decode cL_law 339 = .ok (.if_icmp .ne 7, 3) := by decide +kernel
theorem dL_law_342 : decode cL_law 342 = .ok (.iconst 1, 1) := by decide +kernel
theorem dL_law_343 : decode cL_law 343 = .ok (.goto 4, 3) := by decide +kernel
theorem dL_law_346 : decode cL_law 346 = .ok (.iconst 0, 1) := by decide +kernel
theorem dL_law_347 : decode cL_law 347 = .ok (.iadd, 1) := by decide +kernel
theorem dL_law_348 : decode cL_law 348 = .ok (.iastore, 1) := by decide +kernel
theorem dL_law_349 : decode cL_law 349 = .ok (.iinc 16 1, 3) := by decide +kernel
theorem dL_law_352 : decode cL_law 352 = .ok (.goto (-57), 3) := by decide +kernel
theorem dL_law_355 : decode cL_law 355 = .ok (.iinc 13 1, 3) := by decide +kernel
theorem dL_law_358 : decode cL_law 358 = .ok (.goto (-119), 3) := by decide +kernel
theorem dL_law_361 : decode cL_law 361 = .ok (.iconst 0, 1) := by decide +kernel
theorem dL_law_362 : decode cL_law 362 = .ok (.istore 13, 2) := by decide +kernel
theorem dL_law_364 : decode cL_law 364 = .ok (.iconst 0, 1) := by decide +kernel
theorem dL_law_365 : decode cL_law 365 = .ok (.istore 14, 2) := by decide +kernel
theorem dL_law_367 : decode cL_law 367 = .ok (.iload 14, 2) := by decide +kernel
theorem dL_law_369 : decode cL_law 369 = .ok (.iload 5, 2) := by decide +kernel
theorem dL_law_371 : decode cL_law 371 = .ok (.if_icmp .ge 111, 3) := by decide +kernel
theorem dL_law_374 : decode cL_law 374 = .ok (.iconst 0, 1) := by decide +kernel
theorem dL_law_375 : decode cL_law 375 = .ok (.istore 15, 2) := by decide +kernel
theorem dL_law_377 : decode cL_law 377 = .ok (.iload 14, 2) := by decide +kernel
theorem dL_law_379 : decode cL_law 379 = .ok (.iconst 1, 1) := by decide +kernel
theorem dL_law_380 : decode cL_law 380 = .ok (.iadd, 1) := by decide +kernel
theorem dL_law_381 : decode cL_law 381 = .ok (.istore 16, 2) := by decide +kernel
theorem dL_law_383 : decode cL_law 383 = .ok (.iload 16, 2) := by decide +kernel
theorem dL_law_385 : decode cL_law 385 = .ok (.iload 5, 2) := by decide +kernel
theorem dL_law_387 : decode cL_law 387 = .ok (.if_icmp .ge 41, 3) := by decide +kernel
theorem dL_law_390 : decode cL_law 390 = .ok (.iload 15, 2) := by decide +kernel
theorem dL_law_392 : decode cL_law 392 = .ok (.aload 6, 2) := by decide +kernel
theorem dL_law_394 : decode cL_law 394 = .ok (.iload 16, 2) := by decide +kernel
theorem dL_law_396 : decode cL_law 396 = .ok (.baload, 1) := by decide +kernel
theorem dL_law_397 : decode cL_law 397 = .ok (.ifCond .eq 21, 3) := by decide +kernel
theorem dL_law_400 : decode cL_law 400 = .ok (.aload_n 2, 1) := by decide +kernel
theorem dL_law_401 : decode cL_law 401 = .ok (.aload_n 3, 1) := by decide +kernel
theorem dL_law_402 : decode cL_law 402 = .ok (.aload 4, 2) := by decide +kernel
theorem dL_law_404 : decode cL_law 404 = .ok (.iload 16, 2) := by decide +kernel
theorem dL_law_406 : decode cL_law 406 = .ok (.iload 14, 2) := by decide +kernel
theorem dL_law_408 : decode cL_law 408 = .ok (.invokestatic 49, 3) := by decide +kernel
theorem dL_law_411 : decode cL_law 411 = .ok (.ifCond .eq 7, 3) := by decide +kernel
theorem dL_law_414 : decode cL_law 414 = .ok (.iconst 1, 1) := by decide +kernel
theorem dL_law_415 : decode cL_law 415 = .ok (.goto 4, 3) := by decide +kernel
theorem dL_law_418 : decode cL_law 418 = .ok (.iconst 0, 1) := by decide +kernel
theorem dL_law_419 : decode cL_law 419 = .ok (.iadd, 1) := by decide +kernel
theorem dL_law_420 : decode cL_law 420 = .ok (.istore 15, 2) := by decide +kernel
theorem dL_law_422 : decode cL_law 422 = .ok (.iinc 16 1, 3) := by decide +kernel
theorem dL_law_425 : decode cL_law 425 = .ok (.goto (-42), 3) := by decide +kernel
theorem dL_law_428 : decode cL_law 428 = .ok (.aload 11, 2) := by decide +kernel
theorem dL_law_430 : decode cL_law 430 = .ok (.iload 14, 2) := by decide +kernel
theorem dL_law_432 : decode cL_law 432 = .ok (.iaload, 1) := by decide +kernel
theorem dL_law_433 : decode cL_law 433 = .ok (.iconst 1, 1) := by decide +kernel
theorem dL_law_434 : decode cL_law 434 = .ok (.if_icmp .gt 30, 3) := by decide +kernel
theorem dL_law_437 : decode cL_law 437 = .ok (.aload 12, 2) := by decide +kernel
theorem dL_law_439 : decode cL_law 439 = .ok (.iload 14, 2) := by decide +kernel
theorem dL_law_441 : decode cL_law 441 = .ok (.iaload, 1) := by decide +kernel
theorem dL_law_442 : decode cL_law 442 = .ok (.iload 15, 2) := by decide +kernel
theorem dL_law_444 : decode cL_law 444 = .ok (.if_icmp .gt 20, 3) := by decide +kernel
theorem dL_law_447 : decode cL_law 447 = .ok (.aload 12, 2) := by decide +kernel
theorem dL_law_449 : decode cL_law 449 = .ok (.iload 14, 2) := by decide +kernel
theorem dL_law_451 : decode cL_law 451 = .ok (.iaload, 1) := by decide +kernel
theorem dL_law_452 : decode cL_law 452 = .ok (.ifCond .le 14, 3) := by decide +kernel
theorem dL_law_455 : decode cL_law 455 = .ok (.aload 11, 2) := by decide +kernel
theorem dL_law_457 : decode cL_law 457 = .ok (.iload 14, 2) := by decide +kernel
theorem dL_law_459 : decode cL_law 459 = .ok (.iaload, 1) := by decide +kernel
theorem dL_law_460 : decode cL_law 460 = .ok (.iconst 1, 1) := by decide +kernel
theorem dL_law_461 : decode cL_law 461 = .ok (.if_icmp .eq 5, 3) := by decide +kernel
theorem dL_law_464 : decode cL_law 464 = .ok (.iconst 0, 1) := by decide +kernel
theorem dL_law_465 : decode cL_law 465 = .ok (.ireturn, 1) := by decide +kernel
theorem dL_law_466 : decode cL_law 466 = .ok (.iload 13, 2) := by decide +kernel
theorem dL_law_468 : decode cL_law 468 = .ok (.aload 11, 2) := by decide +kernel
theorem dL_law_470 : decode cL_law 470 = .ok (.iload 14, 2) := by decide +kernel
theorem dL_law_472 : decode cL_law 472 = .ok (.iaload, 1) := by decide +kernel
theorem dL_law_473 : decode cL_law 473 = .ok (.iadd, 1) := by decide +kernel
theorem dL_law_474 : decode cL_law 474 = .ok (.istore 13, 2) := by decide +kernel
theorem dL_law_476 : decode cL_law 476 = .ok (.iinc 14 1, 3) := by decide +kernel
theorem dL_law_479 : decode cL_law 479 = .ok (.goto (-112), 3) := by decide +kernel
theorem dL_law_482 : decode cL_law 482 = .ok (.aload_n 1, 1) := by decide +kernel
theorem dL_law_483 : decode cL_law 483 = .ok (.bipush 8, 2) := by decide +kernel
theorem dL_law_485 : decode cL_law 485 = .ok (.invokevirtual 77, 3) := by decide +kernel
theorem dL_law_488 : decode cL_law 488 = .ok (.iload 13, 2) := by decide +kernel
theorem dL_law_490 : decode cL_law 490 = .ok (.if_icmp .ne 12, 3) := by decide +kernel
theorem dL_law_493 : decode cL_law 493 = .ok (.aload_n 1, 1) := by decide +kernel
theorem dL_law_494 : decode cL_law 494 = .ok (.invokevirtual 80, 3) := by decide +kernel
theorem dL_law_497 : decode cL_law 497 = .ok (.iload 13, 2) := by decide +kernel
theorem dL_law_499 : decode cL_law 499 = .ok (.if_icmp .le 5, 3) := by decide +kernel
theorem dL_law_502 : decode cL_law 502 = .ok (.iconst 0, 1) := by decide +kernel
theorem dL_law_503 : decode cL_law 503 = .ok (.ireturn, 1) := by decide +kernel
theorem dL_law_504 : decode cL_law 504 = .ok (.aload_n 1, 1) := by decide +kernel
theorem dL_law_505 : decode cL_law 505 = .ok (.invokevirtual 83, 3) := by decide +kernel
theorem dL_law_508 : decode cL_law 508 = .ok (.istore 14, 2) := by decide +kernel
theorem dL_law_510 : decode cL_law 510 = .ok (.iconst 0, 1) := by decide +kernel
theorem dL_law_511 : decode cL_law 511 = .ok (.istore 15, 2) := by decide +kernel
theorem dL_law_513 : decode cL_law 513 = .ok (.iload 15, 2) := by decide +kernel
theorem dL_law_515 : decode cL_law 515 = .ok (.iload 14, 2) := by decide +kernel
theorem dL_law_517 : decode cL_law 517 = .ok (.if_icmp .ge 42, 3) := by decide +kernel
theorem dL_law_520 : decode cL_law 520 = .ok (.iload 8, 2) := by decide +kernel
theorem dL_law_522 : decode cL_law 522 = .ok (.iconst 2, 1) := by decide +kernel
theorem dL_law_523 : decode cL_law 523 = .ok (.if_icmp .le 19, 3) := by decide +kernel
theorem dL_law_526 : decode cL_law 526 = .ok (.aload_n 1, 1) := by decide +kernel
theorem dL_law_527 : decode cL_law 527 = .ok (.iload 15, 2) := by decide +kernel
theorem dL_law_529 : decode cL_law 529 = .ok (.invokevirtual 86, 3) := by decide +kernel
theorem dL_law_532 : decode cL_law 532 = .ok (.aload 7, 2) := by decide +kernel
theorem dL_law_534 : decode cL_law 534 = .ok (.iload 15, 2) := by decide +kernel
theorem dL_law_536 : decode cL_law 536 = .ok (.iaload, 1) := by decide +kernel
theorem dL_law_537 : decode cL_law 537 = .ok (.if_icmp .eq 5, 3) := by decide +kernel
theorem dL_law_540 : decode cL_law 540 = .ok (.iconst 0, 1) := by decide +kernel
theorem dL_law_541 : decode cL_law 541 = .ok (.ireturn, 1) := by decide +kernel
theorem dL_law_542 : decode cL_law 542 = .ok (.aload 7, 2) := by decide +kernel
theorem dL_law_544 : decode cL_law 544 = .ok (.iload 15, 2) := by decide +kernel
theorem dL_law_546 : decode cL_law 546 = .ok (.aload_n 1, 1) := by decide +kernel
theorem dL_law_547 : decode cL_law 547 = .ok (.iload 15, 2) := by decide +kernel
theorem dL_law_549 : decode cL_law 549 = .ok (.invokevirtual 86, 3) := by decide +kernel
theorem dL_law_552 : decode cL_law 552 = .ok (.iastore, 1) := by decide +kernel
theorem dL_law_553 : decode cL_law 553 = .ok (.iinc 15 1, 3) := by decide +kernel
theorem dL_law_556 : decode cL_law 556 = .ok (.goto (-43), 3) := by decide +kernel
theorem dL_law_559 : decode cL_law 559 = .ok (.iinc 8 1, 3) := by decide +kernel
theorem dL_law_562 : decode cL_law 562 = .ok (.goto (-493), 3) := by decide +kernel
theorem dL_law_565 : decode cL_law 565 = .ok (.aload_n 1, 1) := by decide +kernel
theorem dL_law_566 : decode cL_law 566 = .ok (.invokevirtual 40, 3) := by decide +kernel
theorem dL_law_569 : decode cL_law 569 = .ok (.iload 5, 2) := by decide +kernel
theorem dL_law_571 : decode cL_law 571 = .ok (.if_icmp .ne 7, 3) := by decide +kernel
theorem dL_law_574 : decode cL_law 574 = .ok (.iconst 1, 1) := by decide +kernel
theorem dL_law_575 : decode cL_law 575 = .ok (.goto 4, 3) := by decide +kernel
theorem dL_law_578 : decode cL_law 578 = .ok (.iconst 0, 1) := by decide +kernel
theorem dL_law_579 : decode cL_law 579 = .ok (.ireturn, 1) := by decide +kernel
abbrev vwCl : List vw_C := [(RX0, TX0, 11), (RX1, TX1, 6), (RX2, TX2, 4), (RX3, TX3, 3), (RX4, TX4, 6)]
