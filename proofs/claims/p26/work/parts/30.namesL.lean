theorem dL_cell_0 : decode cL_cell 0 = .ok (.iload_n 1, 1) := by decide +kernel
theorem dL_cell_1 : decode cL_cell 1 = .ok (.aload_n 0, 1) := by decide +kernel
theorem dL_cell_2 : decode cL_cell 2 = .ok (.arraylength, 1) := by decide +kernel
theorem dL_cell_3 : decode cL_cell 3 = .ok (.if_icmp .ge 9, 3) := by decide +kernel
theorem dL_cell_6 : decode cL_cell 6 = .ok (.aload_n 0, 1) := by decide +kernel
theorem dL_cell_7 : decode cL_cell 7 = .ok (.iload_n 1, 1) := by decide +kernel
theorem dL_cell_8 : decode cL_cell 8 = .ok (.iaload, 1) := by decide +kernel
theorem dL_cell_9 : decode cL_cell 9 = .ok (.goto 15, 3) := by decide +kernel
theorem dL_cell_12 : decode cL_cell 12 = .ok (.sipush 7919, 3) := by decide +kernel
theorem dL_cell_15 : decode cL_cell 15 = .ok (.iload_n 1, 1) := by decide +kernel
theorem dL_cell_16 : decode cL_cell 16 = .ok (.iconst 3, 1) := by decide +kernel
theorem dL_cell_17 : decode cL_cell 17 = .ok (.iadd, 1) := by decide +kernel
theorem dL_cell_18 : decode cL_cell 18 = .ok (.imul, 1) := by decide +kernel
theorem dL_cell_19 : decode cL_cell 19 = .ok (.iload_n 1, 1) := by decide +kernel
theorem dL_cell_20 : decode cL_cell 20 = .ok (.bipush 11, 2) := by decide +kernel
theorem dL_cell_22 : decode cL_cell 22 = .ok (.iadd, 1) := by decide +kernel
theorem dL_cell_23 : decode cL_cell 23 = .ok (.imul, 1) := by decide +kernel
theorem dL_cell_24 : decode cL_cell 24 = .ok (.ireturn, 1) := by decide +kernel
theorem dL_low_0 : decode cL_low 0 = .ok (.iload_n 0, 1) := by decide +kernel
theorem dL_low_1 : decode cL_low 1 = .ok (.ldc 7, 2) := by decide +kernel
theorem dL_low_3 : decode cL_low 3 = .ok (.iand, 1) := by decide +kernel
theorem dL_low_4 : decode cL_low 4 = .ok (.iload_n 1, 1) := by decide +kernel
theorem dL_low_5 : decode cL_low 5 = .ok (.irem, 1) := by decide +kernel
theorem dL_low_6 : decode cL_low 6 = .ok (.ireturn, 1) := by decide +kernel
set_option maxRecDepth 20000 in
theorem ggL_isCall_X4_outcome : GoodIn wsL_isCall wsX4_outcome := goodIn_ca (goodIn_r _ [5, 6, 7, 8, 9, 4, 10, 11, 12, 13, 14, 15, 16, 17, 18, 51, 52, 53, 54, 55, 56, 57, 58, 59, 60, 61, 62, 63, 64, 65, 66, 67, 68, 69, 70] (by decide +kernel) (by decide +kernel)) (goodIn_sub (fun _ h => List.mem_cons_of_mem _ (List.mem_append_left _ (List.mem_append_right _ h))) (by decide +kernel))
set_option maxRecDepth 20000 in
theorem gL_isCall_X4_outcome : GoodIn wsL_isCall (wsV RL 8 RX4 yX4_outcome wsX4_outcome) := goodIn_app (goodIn_of _ (by decide +kernel)) ggL_isCall_X4_outcome
set_option maxRecDepth 20000 in
theorem ggL_isCall_X4_received : GoodIn wsL_isCall wsX4_received := goodIn_ca (goodIn_r _ [22, 6, 7, 8, 9, 4, 10, 11, 12, 13, 14, 15, 16, 17, 18, 51, 52, 53, 54, 55, 56, 57, 58, 59, 60, 61, 62, 63, 64, 65, 66, 67, 68, 69, 70] (by decide +kernel) (by decide +kernel)) (goodIn_sub (fun _ h => List.mem_cons_of_mem _ (List.mem_append_left _ (List.mem_append_right _ h))) (by decide +kernel))
set_option maxRecDepth 20000 in
theorem gL_isCall_X4_received : GoodIn wsL_isCall (wsV RL 14 RX4 yX4_received wsX4_received) := goodIn_app (goodIn_of _ (by decide +kernel)) ggL_isCall_X4_received
set_option maxRecDepth 20000 in
theorem ggL_isCall_X4_now : GoodIn wsL_isCall wsX4_now := goodIn_r _ [26, 27, 51, 52, 53, 54, 55, 56] (by decide +kernel) (by decide +kernel)
set_option maxRecDepth 20000 in
theorem gL_isCall_X4_now : GoodIn wsL_isCall (wsV RL 17 RX4 yX4_now wsX4_now) := goodIn_app (goodIn_of _ (by decide +kernel)) ggL_isCall_X4_now
set_option maxRecDepth 20000 in
theorem ggL_isCall_X4_deadline : GoodIn wsL_isCall wsX4_deadline := goodIn_ca (goodIn_r _ [31, 13, 7, 8, 9, 4, 10, 11, 12, 14, 15, 16, 17, 18, 51, 52, 53, 54, 55, 56, 67, 68, 69, 70] (by decide +kernel) (by decide +kernel)) (goodIn_sub (fun _ h => List.mem_cons_of_mem _ (List.mem_append_left _ (List.mem_append_right _ h))) (by decide +kernel))
set_option maxRecDepth 20000 in
theorem gL_isCall_X4_deadline : GoodIn wsL_isCall (wsV RL 21 RX4 yX4_deadline wsX4_deadline) := goodIn_app (goodIn_of _ (by decide +kernel)) ggL_isCall_X4_deadline
set_option maxRecDepth 20000 in
theorem ggL_isCall_X4_task : GoodIn wsL_isCall wsX4_task := goodIn_ca (goodIn_r _ [35, 36, 7, 8, 9, 4, 10, 11, 12, 13, 14, 15, 16, 17, 18, 51, 52, 53, 54, 55, 56, 71, 72, 73, 74, 75, 76, 77, 78, 67, 68, 69, 70] (by decide +kernel) (by decide +kernel)) (goodIn_sub (fun _ h => List.mem_cons_of_mem _ (List.mem_append_left _ (List.mem_append_right _ h))) (by decide +kernel))
set_option maxRecDepth 20000 in
theorem gL_isCall_X4_task : GoodIn wsL_isCall (wsV RL 24 RX4 yX4_task wsX4_task) := goodIn_app (goodIn_of _ (by decide +kernel)) ggL_isCall_X4_task
set_option maxRecDepth 20000 in
theorem ggL_isCall_X4_sum : GoodIn wsL_isCall wsX4_sum := goodIn_ca (goodIn_r _ [40, 6, 7, 8, 9, 4, 10, 11, 12, 13, 14, 15, 16, 17, 18, 51, 52, 53, 54, 55, 56, 57, 58, 59, 60, 61, 62, 63, 64, 65, 66, 67, 68, 69, 70] (by decide +kernel) (by decide +kernel)) (goodIn_sub (fun _ h => List.mem_cons_of_mem _ (List.mem_append_left _ (List.mem_append_right _ h))) (by decide +kernel))
set_option maxRecDepth 20000 in
theorem gL_isCall_X4_sum : GoodIn wsL_isCall (wsV RL 27 RX4 yX4_sum wsX4_sum) := goodIn_app (goodIn_of _ (by decide +kernel)) ggL_isCall_X4_sum
set_option maxRecDepth 20000 in
theorem ggL_isCall_X4_value : GoodIn wsL_isCall wsX4_value := goodIn_ca (goodIn_ca (goodIn_r _ [44, 45, 46, 6, 7, 8, 9, 4, 10, 11, 12, 13, 14, 15, 16, 17, 18, 51, 52, 53, 54, 55, 56, 57, 58, 59, 60, 61, 62, 63, 64, 65, 66, 67, 68, 69, 70] (by decide +kernel) (by decide +kernel)) (goodIn_sub (fun _ h => List.mem_cons_of_mem _ (List.mem_append_right _ h)) (by decide +kernel))) (goodIn_sub (fun _ h => List.mem_cons_of_mem _ (List.mem_append_left _ (List.mem_append_right _ h))) (by decide +kernel))
set_option maxRecDepth 20000 in
theorem gL_isCall_X4_value : GoodIn wsL_isCall (wsV RL 30 RX4 yX4_value wsX4_value) := goodIn_app (goodIn_of _ (by decide +kernel)) ggL_isCall_X4_value
set_option maxRecDepth 20000 in
theorem ggL_isCall_X4_attempts : GoodIn wsL_isCall wsX4_attempts := goodIn_ca (goodIn_r _ [50, 6, 7, 8, 9, 4, 10, 11, 12, 13, 14, 15, 16, 17, 18, 51, 52, 53, 54, 55, 56, 57, 58, 59, 60, 61, 62, 63, 64, 65, 66, 67, 68, 69, 70] (by decide +kernel) (by decide +kernel)) (goodIn_sub (fun _ h => List.mem_cons_of_mem _ (List.mem_append_left _ (List.mem_append_right _ h))) (by decide +kernel))
set_option maxRecDepth 20000 in
theorem gL_isCall_X4_attempts : GoodIn wsL_isCall (wsV RL 33 RX4 yX4_attempts wsX4_attempts) := goodIn_app (goodIn_of _ (by decide +kernel)) ggL_isCall_X4_attempts
theorem dL_isCall_0 : decode cL_isCall 0 = .ok (.aload_n 0, 1) := by decide +kernel
theorem dL_isCall_1 : decode cL_isCall 1 = .ok (.iload 5, 2) := by decide +kernel
theorem dL_isCall_3 : decode cL_isCall 3 = .ok (.invokevirtual 8, 3) := by decide +kernel
theorem dL_isCall_6 : decode cL_isCall 6 = .ok (.istore 6, 2) := by decide +kernel
theorem dL_isCall_8 : decode cL_isCall 8 = .ok (.aload_n 2, 1) := by decide +kernel
theorem dL_isCall_9 : decode cL_isCall 9 = .ok (.iload 5, 2) := by decide +kernel
theorem dL_isCall_11 : decode cL_isCall 11 = .ok (.iaload, 1) := by decide +kernel
theorem dL_isCall_12 : decode cL_isCall 12 = .ok (.ifCond .le 10, 3) := by decide +kernel
theorem dL_isCall_15 : decode cL_isCall 15 = .ok (.aload_n 2, 1) := by decide +kernel
theorem dL_isCall_16 : decode cL_isCall 16 = .ok (.iload 5, 2) := by decide +kernel
theorem dL_isCall_18 : decode cL_isCall 18 = .ok (.iaload, 1) := by decide +kernel
theorem dL_isCall_19 : decode cL_isCall 19 = .ok (.goto 4, 3) := by decide +kernel
theorem dL_isCall_22 : decode cL_isCall 22 = .ok (.iconst 0, 1) := by decide +kernel
theorem dL_isCall_23 : decode cL_isCall 23 = .ok (.istore 7, 2) := by decide +kernel
theorem dL_isCall_25 : decode cL_isCall 25 = .ok (.aload_n 0, 1) := by decide +kernel
theorem dL_isCall_26 : decode cL_isCall 26 = .ok (.iload 5, 2) := by decide +kernel
theorem dL_isCall_28 : decode cL_isCall 28 = .ok (.invokevirtual 14, 3) := by decide +kernel
theorem dL_isCall_31 : decode cL_isCall 31 = .ok (.istore 8, 2) := by decide +kernel
theorem dL_isCall_33 : decode cL_isCall 33 = .ok (.aload 4, 2) := by decide +kernel
theorem dL_isCall_35 : decode cL_isCall 35 = .ok (.iload 5, 2) := by decide +kernel
theorem dL_isCall_37 : decode cL_isCall 37 = .ok (.iaload, 1) := by decide +kernel
theorem dL_isCall_38 : decode cL_isCall 38 = .ok (.iconst (-1), 1) := by decide +kernel
theorem dL_isCall_39 : decode cL_isCall 39 = .ok (.if_icmp .eq 13, 3) := by decide +kernel
theorem dL_isCall_42 : decode cL_isCall 42 = .ok (.aload 4, 2) := by decide +kernel
theorem dL_isCall_44 : decode cL_isCall 44 = .ok (.iload 5, 2) := by decide +kernel
theorem dL_isCall_46 : decode cL_isCall 46 = .ok (.iaload, 1) := by decide +kernel
theorem dL_isCall_47 : decode cL_isCall 47 = .ok (.iload 6, 2) := by decide +kernel
theorem dL_isCall_49 : decode cL_isCall 49 = .ok (.if_icmp .ne 7, 3) := by decide +kernel
theorem dL_isCall_52 : decode cL_isCall 52 = .ok (.iconst 1, 1) := by decide +kernel
theorem dL_isCall_53 : decode cL_isCall 53 = .ok (.goto 4, 3) := by decide +kernel
theorem dL_isCall_56 : decode cL_isCall 56 = .ok (.iconst 0, 1) := by decide +kernel
theorem dL_isCall_57 : decode cL_isCall 57 = .ok (.istore 9, 2) := by decide +kernel
theorem dL_isCall_59 : decode cL_isCall 59 = .ok (.iload 6, 2) := by decide +kernel
theorem dL_isCall_61 : decode cL_isCall 61 = .ok (.iconst (-1), 1) := by decide +kernel
theorem dL_isCall_62 : decode cL_isCall 62 = .ok (.if_icmp .ne 39, 3) := by decide +kernel
theorem dL_isCall_65 : decode cL_isCall 65 = .ok (.aload_n 0, 1) := by decide +kernel
theorem dL_isCall_66 : decode cL_isCall 66 = .ok (.invokevirtual 17, 3) := by decide +kernel
theorem dL_isCall_69 : decode cL_isCall 69 = .ok (.aload_n 0, 1) := by decide +kernel
theorem dL_isCall_70 : decode cL_isCall 70 = .ok (.iload 5, 2) := by decide +kernel
theorem dL_isCall_72 : decode cL_isCall 72 = .ok (.invokevirtual 21, 3) := by decide +kernel
theorem dL_isCall_75 : decode cL_isCall 75 = .ok (.if_icmp .ge 26, 3) := by decide +kernel
theorem dL_isCall_78 : decode cL_isCall 78 = .ok (.aload_n 3, 1) := by decide +kernel
theorem dL_isCall_79 : decode cL_isCall 79 = .ok (.iload 5, 2) := by decide +kernel
theorem dL_isCall_81 : decode cL_isCall 81 = .ok (.iaload, 1) := by decide +kernel
theorem dL_isCall_82 : decode cL_isCall 82 = .ok (.ifCond .lt 15, 3) := by decide +kernel
theorem dL_isCall_85 : decode cL_isCall 85 = .ok (.aload_n 0, 1) := by decide +kernel
theorem dL_isCall_86 : decode cL_isCall 86 = .ok (.aload_n 3, 1) := by decide +kernel
theorem dL_isCall_87 : decode cL_isCall 87 = .ok (.iload 5, 2) := by decide +kernel
theorem dL_isCall_89 : decode cL_isCall 89 = .ok (.iaload, 1) := by decide +kernel
theorem dL_isCall_90 : decode cL_isCall 90 = .ok (.invokevirtual 8, 3) := by decide +kernel
theorem dL_isCall_93 : decode cL_isCall 93 = .ok (.iconst (-1), 1) := by decide +kernel
theorem dL_isCall_94 : decode cL_isCall 94 = .ok (.if_icmp .ne 7, 3) := by decide +kernel
theorem dL_isCall_97 : decode cL_isCall 97 = .ok (.iconst 1, 1) := by decide +kernel
theorem dL_isCall_98 : decode cL_isCall 98 = .ok (.goto 4, 3) := by decide +kernel
theorem dL_isCall_101 : decode cL_isCall 101 = .ok (.iconst 0, 1) := by decide +kernel
theorem dL_isCall_102 : decode cL_isCall 102 = .ok (.istore 10, 2) := by decide +kernel
theorem dL_isCall_104 : decode cL_isCall 104 = .ok (.aload_n 3, 1) := by decide +kernel
theorem dL_isCall_105 : decode cL_isCall 105 = .ok (.iload 5, 2) := by decide +kernel
theorem dL_isCall_107 : decode cL_isCall 107 = .ok (.iaload, 1) := by decide +kernel
theorem dL_isCall_108 : decode cL_isCall 108 = .ok (.ifCond .lt 20, 3) := by decide +kernel
theorem dL_isCall_111 : decode cL_isCall 111 = .ok (.aload_n 0, 1) := by decide +kernel
theorem dL_isCall_112 : decode cL_isCall 112 = .ok (.iload 5, 2) := by decide +kernel
theorem dL_isCall_114 : decode cL_isCall 114 = .ok (.invokevirtual 21, 3) := by decide +kernel
theorem dL_isCall_117 : decode cL_isCall 117 = .ok (.aload_n 0, 1) := by decide +kernel
theorem dL_isCall_118 : decode cL_isCall 118 = .ok (.aload_n 3, 1) := by decide +kernel
theorem dL_isCall_119 : decode cL_isCall 119 = .ok (.iload 5, 2) := by decide +kernel
theorem dL_isCall_121 : decode cL_isCall 121 = .ok (.iaload, 1) := by decide +kernel
theorem dL_isCall_122 : decode cL_isCall 122 = .ok (.invokevirtual 21, 3) := by decide +kernel
theorem dL_isCall_125 : decode cL_isCall 125 = .ok (.if_icmp .gt 7, 3) := by decide +kernel
theorem dL_isCall_128 : decode cL_isCall 128 = .ok (.iconst 1, 1) := by decide +kernel
theorem dL_isCall_129 : decode cL_isCall 129 = .ok (.goto 4, 3) := by decide +kernel
theorem dL_isCall_132 : decode cL_isCall 132 = .ok (.iconst 0, 1) := by decide +kernel
theorem dL_isCall_133 : decode cL_isCall 133 = .ok (.istore 11, 2) := by decide +kernel
theorem dL_isCall_135 : decode cL_isCall 135 = .ok (.aload_n 0, 1) := by decide +kernel
theorem dL_isCall_136 : decode cL_isCall 136 = .ok (.iload 5, 2) := by decide +kernel
theorem dL_isCall_138 : decode cL_isCall 138 = .ok (.invokevirtual 24, 3) := by decide +kernel
theorem dL_isCall_141 : decode cL_isCall 141 = .ok (.iconst 1, 1) := by decide +kernel
theorem dL_isCall_142 : decode cL_isCall 142 = .ok (.if_icmp .ne 16, 3) := by decide +kernel
theorem dL_isCall_145 : decode cL_isCall 145 = .ok (.aload_n 0, 1) := by decide +kernel
theorem dL_isCall_146 : decode cL_isCall 146 = .ok (.invokevirtual 17, 3) := by decide +kernel
theorem dL_isCall_149 : decode cL_isCall 149 = .ok (.aload_n 0, 1) := by decide +kernel
theorem dL_isCall_150 : decode cL_isCall 150 = .ok (.iload 5, 2) := by decide +kernel
theorem dL_isCall_152 : decode cL_isCall 152 = .ok (.invokevirtual 21, 3) := by decide +kernel
theorem dL_isCall_155 : decode cL_isCall 155 = .ok (.if_icmp .ge 7, 3) := by decide +kernel
theorem dL_isCall_158 : decode cL_isCall 158 = .ok (.iconst 1, 1) := by decide +kernel
theorem dL_isCall_159 : decode cL_isCall 159 = .ok (.goto 4, 3) := by decide +kernel
theorem dL_isCall_162 : decode cL_isCall 162 = .ok (.iconst 0, 1) := by decide +kernel
theorem dL_isCall_163 : decode cL_isCall 163 = .ok (.istore 12, 2) := by decide +kernel
theorem dL_isCall_165 : decode cL_isCall 165 = .ok (.aload_n 1, 1) := by decide +kernel
theorem dL_isCall_166 : decode cL_isCall 166 = .ok (.iload 5, 2) := by decide +kernel
theorem dL_isCall_168 : decode cL_isCall 168 = .ok (.iaload, 1) := by decide +kernel
theorem dL_isCall_169 : decode cL_isCall 169 = .ok (.iconst 3, 1) := by decide +kernel
theorem dL_isCall_170 : decode cL_isCall 170 = .ok (.if_icmp .ne 42, 3) := by decide +kernel
theorem dL_isCall_173 : decode cL_isCall 173 = .ok (.iload 8, 2) := by decide +kernel
theorem dL_isCall_175 : decode cL_isCall 175 = .ok (.iload 7, 2) := by decide +kernel
theorem dL_isCall_177 : decode cL_isCall 177 = .ok (.if_icmp .gt 31, 3) := by decide +kernel
theorem dL_isCall_180 : decode cL_isCall 180 = .ok (.aload_n 0, 1) := by decide +kernel
theorem dL_isCall_181 : decode cL_isCall 181 = .ok (.iload 5, 2) := by decide +kernel
theorem dL_isCall_183 : decode cL_isCall 183 = .ok (.invokevirtual 27, 3) := by decide +kernel
theorem dL_isCall_186 : decode cL_isCall 186 = .ok (.iload 8, 2) := by decide +kernel
theorem dL_isCall_188 : decode cL_isCall 188 = .ok (.iload 7, 2) := by decide +kernel
theorem dL_isCall_190 : decode cL_isCall 190 = .ok (.imul, 1) := by decide +kernel
theorem dL_isCall_191 : decode cL_isCall 191 = .ok (.iload 8, 2) := by decide +kernel
theorem dL_isCall_193 : decode cL_isCall 193 = .ok (.iload 8, 2) := by decide +kernel
theorem dL_isCall_195 : decode cL_isCall 195 = .ok (.iconst 1, 1) := by decide +kernel
theorem dL_isCall_196 : decode cL_isCall 196 = .ok (.isub, 1) := by decide +kernel
theorem dL_isCall_197 : decode cL_isCall 197 = .ok (.imul, 1) := by decide +kernel
theorem dL_isCall_198 : decode cL_isCall 198 = .ok (.iconst 2, 1) := by decide +kernel
theorem dL_isCall_199 : decode cL_isCall 199 = .ok (.idiv, 1) := by decide +kernel
theorem dL_isCall_200 : decode cL_isCall 200 = .ok (.isub, 1) := by decide +kernel
theorem dL_isCall_201 : decode cL_isCall 201 = .ok (.if_icmp .ne 7, 3) := by decide +kernel
theorem dL_isCall_204 : decode cL_isCall 204 = .ok (.iconst 1, 1) := by decide +kernel
theorem dL_isCall_205 : decode cL_isCall 205 = .ok (.goto 26, 3) := by decide +kernel
theorem dL_isCall_208 : decode cL_isCall 208 = .ok (.iconst 0, 1) := by decide +kernel
theorem dL_isCall_209 : decode cL_isCall 209 = .ok (.goto 22, 3) := by decide +kernel
theorem dL_isCall_212 : decode cL_isCall 212 = .ok (.iload 8, 2) := by decide +kernel
theorem dL_isCall_214 : decode cL_isCall 214 = .ok (.ifCond .ne 16, 3) := by decide +kernel
theorem dL_isCall_217 : decode cL_isCall 217 = .ok (.aload_n 0, 1) := by decide +kernel
theorem dL_isCall_218 : decode cL_isCall 218 = .ok (.iload 5, 2) := by decide +kernel
theorem dL_isCall_220 : decode cL_isCall 220 = .ok (.invokevirtual 27, 3) := by decide +kernel
theorem dL_isCall_223 : decode cL_isCall 223 = .ok (.ifCond .ne 7, 3) := by decide +kernel
theorem dL_isCall_226 : decode cL_isCall 226 = .ok (.iconst 1, 1) := by decide +kernel
theorem dL_isCall_227 : decode cL_isCall 227 = .ok (.goto 4, 3) := by decide +kernel
theorem dL_isCall_230 : decode cL_isCall 230 = .ok (.iconst 0, 1) := by decide +kernel
theorem dL_isCall_231 : decode cL_isCall 231 = .ok (.istore 13, 2) := by decide +kernel
theorem dL_isCall_233 : decode cL_isCall 233 = .ok (.iload 6, 2) := by decide +kernel
theorem dL_isCall_235 : decode cL_isCall 235 = .ok (.ifCond .ne 75, 3) := by decide +kernel
theorem dL_isCall_238 : decode cL_isCall 238 = .ok (.aload_n 0, 1) := by decide +kernel
theorem dL_isCall_239 : decode cL_isCall 239 = .ok (.iload 5, 2) := by decide +kernel
theorem dL_isCall_241 : decode cL_isCall 241 = .ok (.invokevirtual 24, 3) := by decide +kernel
theorem dL_isCall_244 : decode cL_isCall 244 = .ok (.iconst 2, 1) := by decide +kernel
theorem dL_isCall_245 : decode cL_isCall 245 = .ok (.if_icmp .ne 69, 3) := by decide +kernel
theorem dL_isCall_248 : decode cL_isCall 248 = .ok (.aload_n 1, 1) := by decide +kernel
theorem dL_isCall_249 : decode cL_isCall 249 = .ok (.iload 5, 2) := by decide +kernel
theorem dL_isCall_251 : decode cL_isCall 251 = .ok (.iaload, 1) := by decide +kernel
theorem dL_isCall_252 : decode cL_isCall 252 = .ok (.ifCond .ne 24, 3) := by decide +kernel
theorem dL_isCall_255 : decode cL_isCall 255 = .ok (.aload_n 0, 1) := by decide +kernel
theorem dL_isCall_256 : decode cL_isCall 256 = .ok (.iload 5, 2) := by decide +kernel
theorem dL_isCall_258 : decode cL_isCall 258 = .ok (.invokevirtual 30, 3) := by decide +kernel
theorem dL_isCall_261 : decode cL_isCall 261 = .ok (.aload_n 2, 1) := by decide +kernel
theorem dL_isCall_262 : decode cL_isCall 262 = .ok (.iload 5, 2) := by decide +kernel
theorem dL_isCall_264 : decode cL_isCall 264 = .ok (.iaload, 1) := by decide +kernel
theorem dL_isCall_265 : decode cL_isCall 265 = .ok (.aload_n 2, 1) := by decide +kernel
theorem dL_isCall_266 : decode cL_isCall 266 = .ok (.iload 5, 2) := by decide +kernel
theorem dL_isCall_268 : decode cL_isCall 268 = .ok (.iaload, 1) := by decide +kernel
theorem dL_isCall_269 : decode cL_isCall 269 = .ok (.imul, 1) := by decide +kernel
theorem dL_isCall_270 : decode cL_isCall 270 = .ok (.if_icmp .ne 44, 3) := by decide +kernel
theorem dL_isCall_273 : decode cL_isCall 273 = .ok (.goto 37, 3) := by decide +kernel
theorem dL_isCall_276 : decode cL_isCall 276 = .ok (.aload_n 1, 1) := by decide +kernel
theorem dL_isCall_277 : decode cL_isCall 277 = .ok (.iload 5, 2) := by decide +kernel
theorem dL_isCall_279 : decode cL_isCall 279 = .ok (.iaload, 1) := by decide +kernel
theorem dL_isCall_280 : decode cL_isCall 280 = .ok (.iconst 1, 1) := by decide +kernel
theorem dL_isCall_281 : decode cL_isCall 281 = .ok (.if_icmp .eq 29, 3) := by decide +kernel
theorem dL_isCall_284 : decode cL_isCall 284 = .ok (.aload_n 1, 1) := by decide +kernel
theorem dL_isCall_285 : decode cL_isCall 285 = .ok (.iload 5, 2) := by decide +kernel
theorem dL_isCall_287 : decode cL_isCall 287 = .ok (.iaload, 1) := by decide +kernel
theorem dL_isCall_288 : decode cL_isCall 288 = .ok (.iconst 3, 1) := by decide +kernel
theorem dL_isCall_289 : decode cL_isCall 289 = .ok (.if_icmp .ne 25, 3) := by decide +kernel
theorem dL_isCall_292 : decode cL_isCall 292 = .ok (.aload_n 0, 1) := by decide +kernel
theorem dL_isCall_293 : decode cL_isCall 293 = .ok (.iload 5, 2) := by decide +kernel
theorem dL_isCall_295 : decode cL_isCall 295 = .ok (.invokevirtual 30, 3) := by decide +kernel
theorem dL_isCall_298 : decode cL_isCall 298 = .ok (.iload 7, 2) := by decide +kernel
theorem dL_isCall_300 : decode cL_isCall 300 = .ok (.if_icmp .ne 14, 3) := by decide +kernel
theorem dL_isCall_303 : decode cL_isCall 303 = .ok (.iload 8, 2) := by decide +kernel
theorem dL_isCall_305 : decode cL_isCall 305 = .ok (.iload 7, 2) := by decide +kernel
theorem dL_isCall_307 : decode cL_isCall 307 = .ok (.if_icmp .ne 7, 3) := by decide +kernel
theorem dL_isCall_310 : decode cL_isCall 310 = .ok (.iconst 1, 1) := by decide +kernel
theorem dL_isCall_311 : decode cL_isCall 311 = .ok (.goto 4, 3) := by decide +kernel
theorem dL_isCall_314 : decode cL_isCall 314 = .ok (.iconst 0, 1) := by decide +kernel
theorem dL_isCall_315 : decode cL_isCall 315 = .ok (.istore 14, 2) := by decide +kernel
theorem dL_isCall_317 : decode cL_isCall 317 = .ok (.iload 6, 2) := by decide +kernel
theorem dL_isCall_319 : decode cL_isCall 319 = .ok (.iconst 3, 1) := by decide +kernel
theorem dL_isCall_320 : decode cL_isCall 320 = .ok (.if_icmp .ne 11, 3) := by decide +kernel
theorem dL_isCall_323 : decode cL_isCall 323 = .ok (.aload_n 1, 1) := by decide +kernel
theorem dL_isCall_324 : decode cL_isCall 324 = .ok (.iload 5, 2) := by decide +kernel
theorem dL_isCall_326 : decode cL_isCall 326 = .ok (.iaload, 1) := by decide +kernel
theorem dL_isCall_327 : decode cL_isCall 327 = .ok (.iconst 2, 1) := by decide +kernel
theorem dL_isCall_328 : decode cL_isCall 328 = .ok (.if_icmp .ne 7, 3) := by decide +kernel
theorem dL_isCall_331 : decode cL_isCall 331 = .ok (.iconst 1, 1) := by decide +kernel
theorem dL_isCall_332 : decode cL_isCall 332 = .ok (.goto 4, 3) := by decide +kernel
theorem dL_isCall_335 : decode cL_isCall 335 = .ok (.iconst 0, 1) := by decide +kernel
theorem dL_isCall_336 : decode cL_isCall 336 = .ok (.istore 15, 2) := by decide +kernel
theorem dL_isCall_338 : decode cL_isCall 338 = .ok (.iload 6, 2) := by decide +kernel
theorem dL_isCall_340 : decode cL_isCall 340 = .ok (.iconst 4, 1) := by decide +kernel
theorem dL_isCall_341 : decode cL_isCall 341 = .ok (.if_icmp .ne 11, 3) := by decide +kernel
theorem dL_isCall_344 : decode cL_isCall 344 = .ok (.aload_n 1, 1) := by decide +kernel
theorem dL_isCall_345 : decode cL_isCall 345 = .ok (.iload 5, 2) := by decide +kernel
theorem dL_isCall_347 : decode cL_isCall 347 = .ok (.iaload, 1) := by decide +kernel
theorem dL_isCall_348 : decode cL_isCall 348 = .ok (.iconst 3, 1) := by decide +kernel
theorem dL_isCall_349 : decode cL_isCall 349 = .ok (.if_icmp .ne 7, 3) := by decide +kernel
theorem dL_isCall_352 : decode cL_isCall 352 = .ok (.iconst 1, 1) := by decide +kernel
theorem dL_isCall_353 : decode cL_isCall 353 = .ok (.goto 4, 3) := by decide +kernel
theorem dL_isCall_356 : decode cL_isCall 356 = .ok (.iconst 0, 1) := by decide +kernel
theorem dL_isCall_357 : decode cL_isCall 357 = .ok (.istore 16, 2) := by decide +kernel
theorem dL_isCall_359 : decode cL_isCall 359 = .ok (.iload 9, 2) := by decide +kernel
theorem dL_isCall_361 : decode cL_isCall 361 = .ok (.ifCond .eq 67, 3) := by decide +kernel
theorem dL_isCall_364 : decode cL_isCall 364 = .ok (.iload 6, 2) := by decide +kernel
theorem dL_isCall_366 : decode cL_isCall 366 = .ok (.ifCond .ge 8, 3) := by decide +kernel
theorem dL_isCall_369 : decode cL_isCall 369 = .ok (.iload 10, 2) := by decide +kernel
theorem dL_isCall_371 : decode cL_isCall 371 = .ok (.ifCond .eq 57, 3) := by decide +kernel
theorem dL_isCall_374 : decode cL_isCall 374 = .ok (.iload 11, 2) := by decide +kernel
theorem dL_isCall_376 : decode cL_isCall 376 = .ok (.ifCond .eq 52, 3) := by decide +kernel
theorem dL_isCall_379 : decode cL_isCall 379 = .ok (.iload 12, 2) := by decide +kernel
theorem dL_isCall_381 : decode cL_isCall 381 = .ok (.ifCond .eq 47, 3) := by decide +kernel
theorem dL_isCall_384 : decode cL_isCall 384 = .ok (.iload 13, 2) := by decide +kernel
theorem dL_isCall_386 : decode cL_isCall 386 = .ok (.ifCond .eq 42, 3) := by decide +kernel
theorem dL_isCall_389 : decode cL_isCall 389 = .ok (.iload 14, 2) := by decide +kernel
theorem dL_isCall_391 : decode cL_isCall 391 = .ok (.ifCond .eq 37, 3) := by decide +kernel
theorem dL_isCall_394 : decode cL_isCall 394 = .ok (.iload 15, 2) := by decide +kernel
theorem dL_isCall_396 : decode cL_isCall 396 = .ok (.ifCond .eq 32, 3) := by decide +kernel
theorem dL_isCall_399 : decode cL_isCall 399 = .ok (.iload 16, 2) := by decide +kernel
theorem dL_isCall_401 : decode cL_isCall 401 = .ok (.ifCond .eq 27, 3) := by decide +kernel
theorem dL_isCall_404 : decode cL_isCall 404 = .ok (.aload_n 0, 1) := by decide +kernel
theorem dL_isCall_405 : decode cL_isCall 405 = .ok (.iload 5, 2) := by decide +kernel
theorem dL_isCall_407 : decode cL_isCall 407 = .ok (.invokevirtual 33, 3) := by decide +kernel
theorem dL_isCall_410 : decode cL_isCall 410 = .ok (.iconst 1, 1) := by decide +kernel
theorem dL_isCall_411 : decode cL_isCall 411 = .ok (.if_icmp .lt 17, 3) := by decide +kernel
theorem dL_isCall_414 : decode cL_isCall 414 = .ok (.aload_n 0, 1) := by decide +kernel
theorem dL_isCall_415 : decode cL_isCall 415 = .ok (.iload 5, 2) := by decide +kernel
theorem dL_isCall_417 : decode cL_isCall 417 = .ok (.invokevirtual 33, 3) := by decide +kernel
theorem dL_isCall_420 : decode cL_isCall 420 = .ok (.iconst 4, 1) := by decide +kernel
theorem dL_isCall_421 : decode cL_isCall 421 = .ok (.if_icmp .gt 7, 3) := by decide +kernel
theorem dL_isCall_424 : decode cL_isCall 424 = .ok (.iconst 1, 1) := by decide +kernel
theorem dL_isCall_425 : decode cL_isCall 425 = .ok (.goto 4, 3) := by decide +kernel
theorem dL_isCall_428 : decode cL_isCall 428 = .ok (.iconst 0, 1) := by decide +kernel
theorem dL_isCall_429 : decode cL_isCall 429 = .ok (.ireturn, 1) := by decide +kernel
set_option maxRecDepth 20000 in
theorem ggL_isTotal_X4_calls : GoodIn wsL_isTotal wsX4_calls := goodIn_r _ [5, 6, 60, 61, 62, 63, 64, 65, 66, 67, 68, 69] (by decide +kernel) (by decide +kernel)
set_option maxRecDepth 20000 in
theorem gL_isTotal_X4_calls : GoodIn wsL_isTotal (wsV RL 36 RX4 yX4_calls wsX4_calls) := goodIn_app (goodIn_of _ (by decide +kernel)) ggL_isTotal_X4_calls
set_option maxRecDepth 20000 in
theorem ggL_isTotal_X4_task : GoodIn wsL_isTotal wsX4_task := goodIn_ca (goodIn_r _ [10, 11, 12, 13, 14, 4, 15, 16, 17, 6, 18, 19, 20, 21, 22, 60, 61, 62, 63, 64, 65, 70, 71, 72, 73, 74, 75, 76, 77, 66, 67, 68, 69] (by decide +kernel) (by decide +kernel)) (goodIn_sub (fun _ h => List.mem_cons_of_mem _ (List.mem_append_left _ (List.mem_append_left _ (List.mem_append_right _ h)))) (by decide +kernel))
set_option maxRecDepth 20000 in
theorem gL_isTotal_X4_task : GoodIn wsL_isTotal (wsV RL 24 RX4 yX4_task wsX4_task) := goodIn_app (goodIn_of _ (by decide +kernel)) ggL_isTotal_X4_task
set_option maxRecDepth 20000 in
theorem ggL_isTotal_X4_attempts : GoodIn wsL_isTotal wsX4_attempts := goodIn_ca (goodIn_r _ [26, 27, 12, 13, 14, 4, 15, 16, 17, 6, 18, 19, 20, 21, 22, 60, 61, 62, 63, 64, 65, 78, 79, 80, 81, 82, 83, 84, 85, 86, 87, 66, 67, 68, 69] (by decide +kernel) (by decide +kernel)) (goodIn_sub (fun _ h => List.mem_cons_of_mem _ (List.mem_append_left _ (List.mem_append_left _ (List.mem_append_right _ h)))) (by decide +kernel))
set_option maxRecDepth 20000 in
theorem gL_isTotal_X4_attempts : GoodIn wsL_isTotal (wsV RL 33 RX4 yX4_attempts wsX4_attempts) := goodIn_app (goodIn_of _ (by decide +kernel)) ggL_isTotal_X4_attempts
set_option maxRecDepth 20000 in
theorem ggL_isTotal_X4_outcome : GoodIn wsL_isTotal wsX4_outcome := goodIn_ca (goodIn_r _ [31, 27, 12, 13, 14, 4, 15, 16, 17, 6, 18, 19, 20, 21, 22, 60, 61, 62, 63, 64, 65, 78, 79, 80, 81, 82, 83, 84, 85, 86, 87, 66, 67, 68, 69] (by decide +kernel) (by decide +kernel)) (goodIn_sub (fun _ h => List.mem_cons_of_mem _ (List.mem_append_left _ (List.mem_append_left _ (List.mem_append_right _ h)))) (by decide +kernel))
set_option maxRecDepth 20000 in
theorem gL_isTotal_X4_outcome : GoodIn wsL_isTotal (wsV RL 8 RX4 yX4_outcome wsX4_outcome) := goodIn_app (goodIn_of _ (by decide +kernel)) ggL_isTotal_X4_outcome
set_option maxRecDepth 20000 in
theorem ggL_isTotal_X4_tokens : GoodIn wsL_isTotal wsX4_tokens := goodIn_r _ [35, 27, 60, 61, 62, 63, 64, 65, 78, 79, 80, 81, 82, 83, 84, 85, 86, 87] (by decide +kernel) (by decide +kernel)
set_option maxRecDepth 20000 in
theorem gL_isTotal_X4_tokens : GoodIn wsL_isTotal (wsV RL 39 RX4 yX4_tokens wsX4_tokens) := goodIn_app (goodIn_of _ (by decide +kernel)) ggL_isTotal_X4_tokens
set_option maxRecDepth 20000 in
theorem ggL_isTotal_X4_total : GoodIn wsL_isTotal wsX4_total := goodIn_r _ [39, 11, 60, 61, 62, 63, 64, 65, 70, 71, 72, 73, 74, 75, 76, 77] (by decide +kernel) (by decide +kernel)
set_option maxRecDepth 20000 in
theorem gL_isTotal_X4_total : GoodIn wsL_isTotal (wsV RL 42 RX4 yX4_total wsX4_total) := goodIn_app (goodIn_of _ (by decide +kernel)) ggL_isTotal_X4_total
set_option maxRecDepth 20000 in
theorem ggL_isTotal_X4_local : GoodIn wsL_isTotal wsX4_local := goodIn_ca (goodIn_ca (goodIn_r _ [43, 44, 45, 11, 46, 47, 4, 48, 49, 50, 51, 52, 53, 54, 55, 56, 57, 58, 59, 60, 61, 62, 63, 64, 65, 70, 71, 72, 73, 74, 75, 76, 77] (by decide +kernel) (by decide +kernel)) (goodIn_sub (fun _ h => List.mem_cons_of_mem _ (List.mem_append_left _ (List.mem_append_right _ h))) (by decide +kernel))) (goodIn_sub (fun _ h => List.mem_cons_of_mem _ (List.mem_append_right _ h)) (by decide +kernel))
set_option maxRecDepth 20000 in
theorem gL_isTotal_X4_local : GoodIn wsL_isTotal (wsV RL 45 RX4 yX4_local wsX4_local) := goodIn_app (goodIn_of _ (by decide +kernel)) ggL_isTotal_X4_local
theorem dL_isTotal_0 : decode cL_isTotal 0 = .ok (.iconst 0, 1) := by decide +kernel
theorem dL_isTotal_1 : decode cL_isTotal 1 = .ok (.istore_n 3, 1) := by decide +kernel
theorem dL_isTotal_2 : decode cL_isTotal 2 = .ok (.iconst 0, 1) := by decide +kernel
theorem dL_isTotal_3 : decode cL_isTotal 3 = .ok (.istore 4, 2) := by decide +kernel
theorem dL_isTotal_5 : decode cL_isTotal 5 = .ok (.iconst 0, 1) := by decide +kernel
theorem dL_isTotal_6 : decode cL_isTotal 6 = .ok (.istore 5, 2) := by decide +kernel
theorem dL_isTotal_8 : decode cL_isTotal 8 = .ok (.iconst 0, 1) := by decide +kernel
theorem dL_isTotal_9 : decode cL_isTotal 9 = .ok (.istore 6, 2) := by decide +kernel
theorem dL_isTotal_11 : decode cL_isTotal 11 = .ok (.iload 6, 2) := by decide +kernel
theorem dL_isTotal_13 : decode cL_isTotal 13 = .ok (.aload_n 0, 1) := by decide +kernel
theorem dL_isTotal_14 : decode cL_isTotal 14 = .ok (.invokevirtual 36, 3) := by decide +kernel
theorem dL_isTotal_17 : decode cL_isTotal 17 = .ok (.if_icmp .ge 70, 3) := by decide +kernel
theorem dL_isTotal_20 : decode cL_isTotal 20 = .ok (.iload_n 3, 1) := by decide +kernel
theorem dL_isTotal_21 : decode cL_isTotal 21 = .ok (.aload_n 1, 1) := by decide +kernel
theorem dL_isTotal_22 : decode cL_isTotal 22 = .ok (.iload 6, 2) := by decide +kernel
theorem dL_isTotal_24 : decode cL_isTotal 24 = .ok (.iaload, 1) := by decide +kernel
theorem dL_isTotal_25 : decode cL_isTotal 25 = .ok (.iconst 1, 1) := by decide +kernel
theorem dL_isTotal_26 : decode cL_isTotal 26 = .ok (.if_icmp .ne 20, 3) := by decide +kernel
theorem dL_isTotal_29 : decode cL_isTotal 29 = .ok (.aload_n 0, 1) := by decide +kernel
theorem dL_isTotal_30 : decode cL_isTotal 30 = .ok (.iload 6, 2) := by decide +kernel
theorem dL_isTotal_32 : decode cL_isTotal 32 = .ok (.invokevirtual 24, 3) := by decide +kernel
theorem dL_isTotal_35 : decode cL_isTotal 35 = .ok (.iconst 2, 1) := by decide +kernel
theorem dL_isTotal_36 : decode cL_isTotal 36 = .ok (.if_icmp .ne 10, 3) := by decide +kernel
theorem dL_isTotal_39 : decode cL_isTotal 39 = .ok (.aload_n 2, 1) := by decide +kernel
theorem dL_isTotal_40 : decode cL_isTotal 40 = .ok (.iload 6, 2) := by decide +kernel
theorem dL_isTotal_42 : decode cL_isTotal 42 = .ok (.iaload, 1) := by decide +kernel
theorem dL_isTotal_43 : decode cL_isTotal 43 = .ok (.goto 4, 3) := by decide +kernel
theorem dL_isTotal_46 : decode cL_isTotal 46 = .ok (.iconst 0, 1) := by decide +kernel
theorem dL_isTotal_47 : decode cL_isTotal 47 = .ok (.iadd, 1) := by decide +kernel
theorem dL_isTotal_48 : decode cL_isTotal 48 = .ok (.istore_n 3, 1) := by decide +kernel
theorem dL_isTotal_49 : decode cL_isTotal 49 = .ok (.iload 4, 2) := by decide +kernel
theorem dL_isTotal_51 : decode cL_isTotal 51 = .ok (.aload_n 0, 1) := by decide +kernel
theorem dL_isTotal_52 : decode cL_isTotal 52 = .ok (.iload 6, 2) := by decide +kernel
theorem dL_isTotal_54 : decode cL_isTotal 54 = .ok (.invokevirtual 33, 3) := by decide +kernel
theorem dL_isTotal_57 : decode cL_isTotal 57 = .ok (.iconst 1, 1) := by decide +kernel
theorem dL_isTotal_58 : decode cL_isTotal 58 = .ok (.isub, 1) := by decide +kernel
theorem dL_isTotal_59 : decode cL_isTotal 59 = .ok (.iadd, 1) := by decide +kernel
theorem dL_isTotal_60 : decode cL_isTotal 60 = .ok (.istore 4, 2) := by decide +kernel
theorem dL_isTotal_62 : decode cL_isTotal 62 = .ok (.iload 5, 2) := by decide +kernel
theorem dL_isTotal_64 : decode cL_isTotal 64 = .ok (.aload_n 0, 1) := by decide +kernel
theorem dL_isTotal_65 : decode cL_isTotal 65 = .ok (.iload 6, 2) := by decide +kernel
theorem dL_isTotal_67 : decode cL_isTotal 67 = .ok (.invokevirtual 8, 3) := by decide +kernel
theorem dL_isTotal_70 : decode cL_isTotal 70 = .ok (.ifCond .ne 7, 3) := by decide +kernel
theorem dL_isTotal_73 : decode cL_isTotal 73 = .ok (.iconst 1, 1) := by decide +kernel
theorem dL_isTotal_74 : decode cL_isTotal 74 = .ok (.goto 4, 3) := by decide +kernel
theorem dL_isTotal_77 : decode cL_isTotal 77 = .ok (.iconst 0, 1) := by decide +kernel
theorem dL_isTotal_78 : decode cL_isTotal 78 = .ok (.iadd, 1) := by decide +kernel
theorem dL_isTotal_79 : decode cL_isTotal 79 = .ok (.istore 5, 2) := by decide +kernel
theorem dL_isTotal_81 : decode cL_isTotal 81 = .ok (.iinc 6 1, 3) := by decide +kernel
theorem dL_isTotal_84 : decode cL_isTotal 84 = .ok (.goto (-73), 3) := by decide +kernel
theorem dL_isTotal_87 : decode cL_isTotal 87 = .ok (.aload_n 0, 1) := by decide +kernel
theorem dL_isTotal_88 : decode cL_isTotal 88 = .ok (.invokevirtual 39, 3) := by decide +kernel
theorem dL_isTotal_91 : decode cL_isTotal 91 = .ok (.istore 6, 2) := by decide +kernel
theorem dL_isTotal_93 : decode cL_isTotal 93 = .ok (.iload 6, 2) := by decide +kernel
theorem dL_isTotal_95 : decode cL_isTotal 95 = .ok (.ifCond .lt 43, 3) := by decide +kernel
theorem dL_isTotal_98 : decode cL_isTotal 98 = .ok (.iload 6, 2) := by decide +kernel
theorem dL_isTotal_100 : decode cL_isTotal 100 = .ok (.bipush 100, 2) := by decide +kernel
theorem dL_isTotal_102 : decode cL_isTotal 102 = .ok (.if_icmp .gt 36, 3) := by decide +kernel
theorem dL_isTotal_105 : decode cL_isTotal 105 = .ok (.iload 6, 2) := by decide +kernel
theorem dL_isTotal_107 : decode cL_isTotal 107 = .ok (.bipush 100, 2) := by decide +kernel
theorem dL_isTotal_109 : decode cL_isTotal 109 = .ok (.bipush 10, 2) := by decide +kernel
theorem dL_isTotal_111 : decode cL_isTotal 111 = .ok (.iload 4, 2) := by decide +kernel
theorem dL_isTotal_113 : decode cL_isTotal 113 = .ok (.imul, 1) := by decide +kernel
theorem dL_isTotal_114 : decode cL_isTotal 114 = .ok (.isub, 1) := by decide +kernel
theorem dL_isTotal_115 : decode cL_isTotal 115 = .ok (.if_icmp .lt 23, 3) := by decide +kernel
theorem dL_isTotal_118 : decode cL_isTotal 118 = .ok (.iload 6, 2) := by decide +kernel
theorem dL_isTotal_120 : decode cL_isTotal 120 = .ok (.bipush 100, 2) := by decide +kernel
theorem dL_isTotal_122 : decode cL_isTotal 122 = .ok (.bipush 10, 2) := by decide +kernel
theorem dL_isTotal_124 : decode cL_isTotal 124 = .ok (.iload 4, 2) := by decide +kernel
theorem dL_isTotal_126 : decode cL_isTotal 126 = .ok (.imul, 1) := by decide +kernel
theorem dL_isTotal_127 : decode cL_isTotal 127 = .ok (.isub, 1) := by decide +kernel
theorem dL_isTotal_128 : decode cL_isTotal 128 = .ok (.iload 5, 2) := by decide +kernel
theorem dL_isTotal_130 : decode cL_isTotal 130 = .ok (.iadd, 1) := by decide +kernel
theorem dL_isTotal_131 : decode cL_isTotal 131 = .ok (.if_icmp .gt 7, 3) := by decide +kernel
theorem dL_isTotal_134 : decode cL_isTotal 134 = .ok (.iconst 1, 1) := by decide +kernel
theorem dL_isTotal_135 : decode cL_isTotal 135 = .ok (.goto 4, 3) := by decide +kernel
theorem dL_isTotal_138 : decode cL_isTotal 138 = .ok (.iconst 0, 1) := by decide +kernel
theorem dL_isTotal_139 : decode cL_isTotal 139 = .ok (.istore 7, 2) := by decide +kernel
theorem dL_isTotal_141 : decode cL_isTotal 141 = .ok (.aload_n 0, 1) := by decide +kernel
theorem dL_isTotal_142 : decode cL_isTotal 142 = .ok (.invokevirtual 42, 3) := by decide +kernel
theorem dL_isTotal_145 : decode cL_isTotal 145 = .ok (.iload_n 3, 1) := by decide +kernel
theorem dL_isTotal_146 : decode cL_isTotal 146 = .ok (.if_icmp .ne 24, 3) := by decide +kernel
theorem dL_isTotal_149 : decode cL_isTotal 149 = .ok (.aload_n 0, 1) := by decide +kernel
theorem dL_isTotal_150 : decode cL_isTotal 150 = .ok (.iconst 1, 1) := by decide +kernel
theorem dL_isTotal_151 : decode cL_isTotal 151 = .ok (.iconst 5, 1) := by decide +kernel
theorem dL_isTotal_152 : decode cL_isTotal 152 = .ok (.invokevirtual 45, 3) := by decide +kernel
theorem dL_isTotal_155 : decode cL_isTotal 155 = .ok (.iload_n 3, 1) := by decide +kernel
theorem dL_isTotal_156 : decode cL_isTotal 156 = .ok (.iconst 5, 1) := by decide +kernel
theorem dL_isTotal_157 : decode cL_isTotal 157 = .ok (.iadd, 1) := by decide +kernel
theorem dL_isTotal_158 : decode cL_isTotal 158 = .ok (.if_icmp .ne 12, 3) := by decide +kernel
theorem dL_isTotal_161 : decode cL_isTotal 161 = .ok (.iload 7, 2) := by decide +kernel
theorem dL_isTotal_163 : decode cL_isTotal 163 = .ok (.ifCond .eq 7, 3) := by decide +kernel
theorem dL_isTotal_166 : decode cL_isTotal 166 = .ok (.iconst 1, 1) := by decide +kernel
theorem dL_isTotal_167 : decode cL_isTotal 167 = .ok (.goto 4, 3) := by decide +kernel
theorem dL_isTotal_170 : decode cL_isTotal 170 = .ok (.iconst 0, 1) := by decide +kernel
theorem dL_isTotal_171 : decode cL_isTotal 171 = .ok (.ireturn, 1) := by decide +kernel
set_option maxRecDepth 20000 in
theorem ggL_law_X4_init : GoodIn wsL_law wsX4_init := goodIn_r _ [6, 7, 8, 9, 10, 11, 12, 13, 14, 15, 16, 17, 18, 19, 20, 21, 22, 23, 24, 25, 26, 27, 28, 29, 3, 30, 31, 32, 33, 34, 35, 36, 37, 38, 39, 40, 41, 42, 43, 44, 45, 46, 47, 48, 49, 50, 51, 52, 53, 54, 55, 56, 57, 58, 59, 60, 61, 62, 317, 318, 319, 320, 311, 312, 313, 314, 315, 316, 321, 322, 323, 324, 325, 326, 327, 328, 329, 330, 331, 332, 333, 334, 335, 336, 337, 338, 339, 340, 341, 342, 343, 344] (by decide +kernel) (by decide +kernel)
set_option maxRecDepth 20000 in
theorem gL_law_X4_init : GoodIn wsL_law (wsX4_init) := ggL_law_X4_init
set_option maxRecDepth 20000 in
theorem ggL_law_L_cell : GoodIn wsL_law wsL_cell := goodIn_r _ [66] (by decide +kernel) (by decide +kernel)
set_option maxRecDepth 20000 in
theorem gL_law_L_cell : GoodIn wsL_law (va_wsS RL 50 yL_cell wsL_cell) := goodIn_app (goodIn_of _ (by decide +kernel)) ggL_law_L_cell
set_option maxRecDepth 20000 in
theorem ggL_law_L_low : GoodIn wsL_law wsL_low := goodIn_r _ [69, 70] (by decide +kernel) (by decide +kernel)
set_option maxRecDepth 20000 in
theorem gL_law_L_low : GoodIn wsL_law (va_wsS RL 56 yL_low wsL_low) := goodIn_app (goodIn_of _ (by decide +kernel)) ggL_law_L_low
set_option maxRecDepth 20000 in
theorem ggL_law_X4_calls : GoodIn wsL_law wsX4_calls := goodIn_r _ [74, 13, 311, 312, 313, 314, 315, 316, 317, 318, 319, 320] (by decide +kernel) (by decide +kernel)
set_option maxRecDepth 20000 in
theorem gL_law_X4_calls : GoodIn wsL_law (wsV RL 36 RX4 yX4_calls wsX4_calls) := goodIn_app (goodIn_of _ (by decide +kernel)) ggL_law_X4_calls
set_option maxRecDepth 20000 in
theorem ggL_law_X4_outcome : GoodIn wsL_law wsX4_outcome := goodIn_ca (goodIn_r _ [78, 22, 79, 80, 81, 2, 82, 83, 84, 13, 85, 12, 86, 87, 88, 311, 312, 313, 314, 315, 316, 327, 328, 329, 330, 331, 332, 333, 334, 335, 336, 317, 318, 319, 320] (by decide +kernel) (by decide +kernel)) (goodIn_sub (fun _ h => List.mem_append_left _ (List.mem_append_left _ (List.mem_append_right _ h))) (by decide +kernel))
set_option maxRecDepth 20000 in
theorem gL_law_X4_outcome : GoodIn wsL_law (wsV RL 8 RX4 yX4_outcome wsX4_outcome) := goodIn_app (goodIn_of _ (by decide +kernel)) ggL_law_X4_outcome
set_option maxRecDepth 20000 in
theorem ggL_law_X4_open : GoodIn wsL_law wsX4_open := goodIn_ca (goodIn_ca (goodIn_ca (goodIn_r _ [92, 93, 94, 95, 96, 13, 97, 98, 99, 100, 101, 22, 79, 80, 81, 2, 82, 83, 84, 85, 12, 86, 87, 88, 102, 103, 104, 105, 106, 107, 108, 109, 110, 111, 112, 113, 114, 30, 31, 32, 115, 21, 116, 117, 43, 44, 118, 119, 120, 121, 46, 47, 52, 122, 16, 123, 124, 125, 36, 37, 38, 39, 126, 127, 128, 129, 130, 131, 132, 133, 134, 311, 312, 313, 314, 315, 316, 317, 318, 319, 320, 327, 328, 329, 330, 331, 332, 333, 334, 335, 336, 321, 322, 323, 324, 325, 326] (by decide +kernel) (by decide +kernel)) (goodIn_sub (fun _ h => List.mem_append_left _ (List.mem_append_right _ h)) (by decide +kernel))) (goodIn_sub (fun _ h => List.mem_append_right _ h) (by decide +kernel))) (goodIn_sub (fun _ h => List.mem_append_left _ (List.mem_append_left _ (List.mem_append_right _ h))) (by decide +kernel))
set_option maxRecDepth 20000 in
theorem gL_law_X4_open : GoodIn wsL_law (wsV RL 59 RX4 yX4_open wsX4_open) := goodIn_app (goodIn_of _ (by decide +kernel)) ggL_law_X4_open
set_option maxRecDepth 20000 in
theorem ggL_law_X4_frames : GoodIn wsL_law wsX4_frames := goodIn_ca (goodIn_r _ [138, 139, 140, 2, 141, 93, 94, 142, 143, 144, 145, 17, 18, 321, 322, 323, 324, 325, 326, 311, 312, 313, 314, 315, 316] (by decide +kernel) (by decide +kernel)) (goodIn_sub (fun _ h => List.mem_append_left _ (List.mem_append_right _ h)) (by decide +kernel))
set_option maxRecDepth 20000 in
theorem gL_law_X4_frames : GoodIn wsL_law (wsV RL 63 RX4 yX4_frames wsX4_frames) := goodIn_app (goodIn_of _ (by decide +kernel)) ggL_law_X4_frames
set_option maxRecDepth 20000 in
theorem ggL_law_X4_lose : GoodIn wsL_law wsX4_lose := goodIn_ca (goodIn_ca (goodIn_r _ [149, 139, 140, 2, 141, 93, 94, 142, 143, 144, 145, 17, 18, 150, 151, 152, 95, 96, 153, 16, 154, 155, 125, 127, 128, 129, 130, 131, 132, 133, 134, 156, 157, 158, 126, 321, 322, 323, 324, 325, 326, 311, 312, 313, 314, 315, 316] (by decide +kernel) (by decide +kernel)) (goodIn_sub (fun _ h => List.mem_append_left _ (List.mem_append_right _ h)) (by decide +kernel))) (goodIn_sub (fun _ h => List.mem_append_right _ h) (by decide +kernel))
set_option maxRecDepth 20000 in
theorem gL_law_X4_lose : GoodIn wsL_law (wsV RL 66 RX4 yX4_lose wsX4_lose) := goodIn_app (goodIn_of _ (by decide +kernel)) ggL_law_X4_lose
set_option maxRecDepth 20000 in
theorem ggL_law_X4_deliver : GoodIn wsL_law wsX4_deliver := goodIn_ca (goodIn_ca (goodIn_r _ [162, 13, 26, 97, 22, 139, 140, 2, 141, 93, 94, 142, 143, 144, 145, 17, 18, 150, 151, 152, 95, 96, 153, 16, 154, 155, 125, 127, 128, 129, 130, 131, 132, 133, 134, 156, 157, 158, 126, 85, 12, 86, 87, 88, 163, 25, 164, 165, 56, 57, 166, 167, 168, 169, 61, 170, 171, 172, 173, 62, 59, 60, 122, 123, 124, 36, 37, 38, 39, 174, 175, 176, 32, 177, 178, 179, 180, 181, 21, 182, 183, 44, 184, 185, 186, 187, 51, 48, 45, 50, 188, 99, 100, 101, 189, 190, 191, 192, 193, 194, 195, 196, 52, 197, 198, 199, 200, 43, 201, 202, 203, 204, 49, 205, 206, 207, 208, 321, 322, 323, 324, 325, 326, 311, 312, 313, 314, 315, 316, 317, 318, 319, 320, 337, 338, 339, 340, 341, 342, 343, 344, 327, 328, 329, 330, 331, 332, 333, 334, 335, 336] (by decide +kernel) (by decide +kernel)) (goodIn_sub (fun _ h => List.mem_append_left _ (List.mem_append_right _ h)) (by decide +kernel))) (goodIn_sub (fun _ h => List.mem_append_right _ h) (by decide +kernel))
set_option maxRecDepth 20000 in
theorem gL_law_X4_deliver : GoodIn wsL_law (wsV RL 69 RX4 yX4_deliver wsX4_deliver) := goodIn_app (goodIn_of _ (by decide +kernel)) ggL_law_X4_deliver
set_option maxRecDepth 20000 in
theorem ggL_law_X4_pass : GoodIn wsL_law wsX4_pass := goodIn_ca (goodIn_r _ [212, 93, 94, 97, 22, 26, 213, 21, 214, 215, 51, 44, 174, 12, 175, 176, 32, 189, 190, 191, 192, 193, 194, 195, 196, 52, 197, 198, 199, 200, 43, 85, 86, 87, 88, 122, 16, 123, 124, 125, 36, 37, 38, 39, 126, 127, 128, 129, 130, 131, 132, 133, 134, 216, 25, 217, 218, 61, 56, 219, 220, 221, 50, 222, 223, 224, 225, 48, 46, 47, 118, 119, 120, 121, 311, 312, 313, 314, 315, 316, 327, 328, 329, 330, 331, 332, 333, 334, 335, 336, 317, 318, 319, 320, 321, 322, 323, 324, 325, 326, 337, 338, 339, 340, 341, 342, 343, 344] (by decide +kernel) (by decide +kernel)) (goodIn_sub (fun _ h => List.mem_append_left _ (List.mem_append_right _ h)) (by decide +kernel))
set_option maxRecDepth 20000 in
theorem gL_law_X4_pass : GoodIn wsL_law (wsV RL 72 RX4 yX4_pass wsX4_pass) := goodIn_app (goodIn_of _ (by decide +kernel)) ggL_law_X4_pass
set_option maxRecDepth 20000 in
theorem ggL_law_X4_cancel : GoodIn wsL_law wsX4_cancel := goodIn_ca (goodIn_ca (goodIn_r _ [229, 22, 79, 80, 81, 2, 82, 83, 84, 13, 85, 12, 86, 87, 88, 105, 106, 107, 108, 95, 96, 206, 21, 207, 208, 44, 52, 122, 16, 123, 124, 125, 36, 37, 38, 39, 126, 127, 128, 129, 130, 131, 132, 133, 134, 193, 194, 195, 196, 51, 197, 198, 199, 200, 43, 311, 312, 313, 314, 315, 316, 317, 318, 319, 320, 327, 328, 329, 330, 331, 332, 333, 334, 335, 336, 321, 322, 323, 324, 325, 326] (by decide +kernel) (by decide +kernel)) (goodIn_sub (fun _ h => List.mem_append_left _ (List.mem_append_left _ (List.mem_append_right _ h))) (by decide +kernel))) (goodIn_sub (fun _ h => List.mem_append_right _ h) (by decide +kernel))
set_option maxRecDepth 20000 in
theorem gL_law_X4_cancel : GoodIn wsL_law (wsV RL 75 RX4 yX4_cancel wsX4_cancel) := goodIn_app (goodIn_of _ (by decide +kernel)) ggL_law_X4_cancel
set_option maxRecDepth 20000 in
theorem ggL_law_X4_grant : GoodIn wsL_law wsX4_grant := goodIn_ca (goodIn_ca (goodIn_ca (goodIn_r _ [233, 93, 94, 95, 96, 13, 17, 79, 80, 81, 2, 82, 83, 84, 85, 12, 86, 87, 88, 105, 106, 107, 108, 22, 122, 16, 123, 124, 125, 36, 37, 38, 39, 126, 127, 128, 129, 130, 131, 132, 133, 134, 311, 312, 313, 314, 315, 316, 317, 318, 319, 320, 327, 328, 329, 330, 331, 332, 333, 334, 335, 336, 321, 322, 323, 324, 325, 326] (by decide +kernel) (by decide +kernel)) (goodIn_sub (fun _ h => List.mem_append_left _ (List.mem_append_right _ h)) (by decide +kernel))) (goodIn_sub (fun _ h => List.mem_append_right _ h) (by decide +kernel))) (goodIn_sub (fun _ h => List.mem_append_left _ (List.mem_append_left _ (List.mem_append_right _ h))) (by decide +kernel))
set_option maxRecDepth 20000 in
theorem gL_law_X4_grant : GoodIn wsL_law (wsV RL 78 RX4 yX4_grant wsX4_grant) := goodIn_app (goodIn_of _ (by decide +kernel)) ggL_law_X4_grant
set_option maxRecDepth 20000 in
theorem ggL_law_X4_credits : GoodIn wsL_law wsX4_credits := goodIn_ca (goodIn_r _ [237, 26, 79, 80, 81, 2, 82, 83, 84, 13, 85, 12, 86, 87, 88, 311, 312, 313, 314, 315, 316, 337, 338, 339, 340, 341, 342, 343, 344, 317, 318, 319, 320] (by decide +kernel) (by decide +kernel)) (goodIn_sub (fun _ h => List.mem_append_left _ (List.mem_append_left _ (List.mem_append_right _ h))) (by decide +kernel))
set_option maxRecDepth 20000 in
theorem gL_law_X4_credits : GoodIn wsL_law (wsV RL 82 RX4 yX4_credits wsX4_credits) := goodIn_app (goodIn_of _ (by decide +kernel)) ggL_law_X4_credits
set_option maxRecDepth 20000 in
theorem ggL_law_X4_task : GoodIn wsL_law wsX4_task := goodIn_ca (goodIn_r _ [241, 26, 79, 80, 81, 2, 82, 83, 84, 13, 85, 12, 86, 87, 88, 311, 312, 313, 314, 315, 316, 337, 338, 339, 340, 341, 342, 343, 344, 317, 318, 319, 320] (by decide +kernel) (by decide +kernel)) (goodIn_sub (fun _ h => List.mem_append_left _ (List.mem_append_left _ (List.mem_append_right _ h))) (by decide +kernel))
set_option maxRecDepth 20000 in
theorem gL_law_X4_task : GoodIn wsL_law (wsV RL 24 RX4 yX4_task wsX4_task) := goodIn_app (goodIn_of _ (by decide +kernel)) ggL_law_X4_task
set_option maxRecDepth 20000 in
theorem ggL_law_X4_work : GoodIn wsL_law wsX4_work := goodIn_ca (goodIn_ca (goodIn_r _ [245, 95, 96, 26, 79, 80, 81, 2, 82, 83, 84, 13, 85, 12, 86, 87, 88, 246, 25, 247, 248, 61, 58, 249, 250, 251, 252, 253, 254, 255, 256, 62, 57, 122, 16, 123, 124, 125, 36, 37, 38, 39, 126, 127, 128, 129, 130, 131, 132, 133, 134, 257, 258, 259, 260, 261, 59, 60, 56, 262, 263, 264, 265, 266, 267, 100, 268, 170, 171, 172, 173, 311, 312, 313, 314, 315, 316, 337, 338, 339, 340, 341, 342, 343, 344, 317, 318, 319, 320, 321, 322, 323, 324, 325, 326] (by decide +kernel) (by decide +kernel)) (goodIn_sub (fun _ h => List.mem_append_right _ h) (by decide +kernel))) (goodIn_sub (fun _ h => List.mem_append_left _ (List.mem_append_left _ (List.mem_append_right _ h))) (by decide +kernel))
set_option maxRecDepth 20000 in
theorem gL_law_X4_work : GoodIn wsL_law (wsV RL 85 RX4 yX4_work wsX4_work) := goodIn_app (goodIn_of _ (by decide +kernel)) ggL_law_X4_work
set_option maxRecDepth 20000 in
theorem ggL_law_L_isCall : GoodIn wsL_law wsL_isCall := goodIn_ca (goodIn_ca (goodIn_r _ [271, 75, 76, 77, 2, 78, 22, 79, 80, 81, 82, 83, 84, 13, 85, 12, 86, 87, 88, 272, 273, 274, 275, 276, 277, 278, 279, 97, 280, 281, 282, 283, 238, 239, 240, 241, 26, 284, 285, 286, 287, 288, 289, 290, 291, 95, 96, 292, 293, 294, 295, 311, 312, 313, 314, 315, 316, 327, 328, 329, 330, 331, 332, 333, 334, 335, 336, 317, 318, 319, 320, 337, 338, 339, 340, 341, 342, 343, 344] (by decide +kernel) (by decide +kernel)) (goodIn_sub (fun _ h => List.mem_append_left _ (List.mem_append_left _ (List.mem_append_right _ h))) (by decide +kernel))) (goodIn_sub (fun _ h => List.mem_append_right _ h) (by decide +kernel))
set_option maxRecDepth 20000 in
theorem gL_law_L_isCall : GoodIn wsL_law (va_wsS RL 88 yL_isCall wsL_isCall) := goodIn_app (goodIn_of _ (by decide +kernel)) ggL_law_L_isCall
set_option maxRecDepth 20000 in
theorem ggL_law_L_isTotal : GoodIn wsL_law wsL_isTotal := goodIn_ca (goodIn_ca (goodIn_ca (goodIn_r _ [298, 71, 72, 73, 2, 74, 13, 238, 239, 240, 241, 26, 79, 80, 81, 82, 83, 84, 85, 12, 86, 87, 88, 292, 293, 294, 295, 22, 75, 76, 77, 78, 299, 300, 301, 302, 303, 304, 305, 306, 307, 308, 309, 310, 95, 96, 102, 103, 104, 93, 94, 263, 25, 264, 265, 261, 266, 267, 100, 268, 311, 312, 313, 314, 315, 316, 317, 318, 319, 320, 337, 338, 339, 340, 341, 342, 343, 344, 327, 328, 329, 330, 331, 332, 333, 334, 335, 336] (by decide +kernel) (by decide +kernel)) (goodIn_sub (fun _ h => List.mem_append_left _ (List.mem_append_left _ (List.mem_append_right _ h))) (by decide +kernel))) (goodIn_sub (fun _ h => List.mem_append_right _ h) (by decide +kernel))) (goodIn_sub (fun _ h => List.mem_append_left _ (List.mem_append_right _ h)) (by decide +kernel))
set_option maxRecDepth 20000 in
theorem gL_law_L_isTotal : GoodIn wsL_law (va_wsS RL 92 yL_isTotal wsL_isTotal) := goodIn_app (goodIn_of _ (by decide +kernel)) ggL_law_L_isTotal
