set_option maxRecDepth 20000 in
theorem gL_moved_L_isSoft : GoodIn wsL_moved (va_wsS RL 254 yL_isSoft wsL_isSoft) := goodIn_app (goodIn_of _ (by decide +kernel)) ggL_moved_L_isSoft
set_option maxRecDepth 20000 in
theorem ggL_moved_L_isEclipsed : GoodIn wsL_moved wsL_isEclipsed := goodIn_ca (goodIn_ca (goodIn_ca (goodIn_r _ [141, 62, 142, 143, 144, 4, 145, 6, 67, 68, 69, 70, 71, 72, 73, 74, 75, 10, 76, 77, 8, 9, 11, 12, 13, 14, 15, 16, 17, 18, 78, 79, 80, 81, 82, 83, 84, 85, 86, 87, 88, 89, 146, 147, 148, 149, 150, 151, 152, 153, 24, 25, 26, 154, 155, 156, 163, 164, 165, 166, 167, 168, 169, 170, 171, 172, 173, 174] (by decide +kernel) (by decide +kernel)) (goodIn_sub (fun _ h => List.mem_cons_of_mem _ (List.mem_append_left _ (List.mem_append_right _ h))) (by decide +kernel))) (goodIn_sub (fun _ h => List.mem_cons_of_mem _ (List.mem_append_left _ (List.mem_append_left _ (List.mem_append_left _ (List.mem_append_left _ (List.mem_append_right _ h)))))) (by decide +kernel))) (goodIn_sub (fun _ h => List.mem_cons_of_mem _ (List.mem_append_left _ (List.mem_append_left _ (List.mem_append_right _ h)))) (by decide +kernel))
set_option maxRecDepth 20000 in
theorem gL_moved_L_isEclipsed : GoodIn wsL_moved (va_wsS RL 256 yL_isEclipsed wsL_isEclipsed) := goodIn_app (goodIn_of _ (by decide +kernel)) ggL_moved_L_isEclipsed
set_option maxRecDepth 20000 in
theorem ggL_moved_X5_eclipsedShare : GoodIn wsL_moved wsX5_eclipsedShare := goodIn_ca (goodIn_ca (goodIn_ca (goodIn_r _ [160, 161, 162, 6, 7, 8, 9, 10, 11, 12, 13, 14, 15, 16, 17, 18, 78, 79, 80, 81, 82, 83, 84, 85, 86, 87, 88, 89, 146, 147, 148, 149, 150, 151, 152, 153, 24, 25, 26, 154, 155, 156, 163, 164, 165, 166, 167, 168, 169, 170, 171, 172, 173, 174] (by decide +kernel) (by decide +kernel)) (goodIn_sub (fun _ h => List.mem_cons_of_mem _ (List.mem_append_right _ h)) (by decide +kernel))) (goodIn_sub (fun _ h => List.mem_cons_of_mem _ (List.mem_append_left _ (List.mem_append_left _ (List.mem_append_left _ (List.mem_append_left _ (List.mem_append_right _ h)))))) (by decide +kernel))) (goodIn_sub (fun _ h => List.mem_cons_of_mem _ (List.mem_append_left _ (List.mem_append_left _ (List.mem_append_right _ h)))) (by decide +kernel))
set_option maxRecDepth 20000 in
theorem gL_moved_X5_eclipsedShare : GoodIn wsL_moved (wsV RL 258 RX5 yX5_eclipsedShare wsX5_eclipsedShare) := goodIn_app (goodIn_of _ (by decide +kernel)) ggL_moved_X5_eclipsedShare
theorem dL_moved_0 : decode cL_moved 0 = .ok (.aload_n 0, 1) := by decide +kernel
theorem dL_moved_1 : decode cL_moved 1 = .ok (.invokevirtual 213, 3) := by decide +kernel
theorem dL_moved_4 : decode cL_moved 4 = .ok (.istore_n 2, 1) := by decide +kernel
theorem dL_moved_5 : decode cL_moved 5 = .ok (.iconst 0, 1) := by decide +kernel
theorem dL_moved_6 : decode cL_moved 6 = .ok (.istore_n 3, 1) := by decide +kernel
theorem dL_moved_7 : decode cL_moved 7 = .ok (.iconst 0, 1) := by decide +kernel
theorem dL_moved_8 : decode cL_moved 8 = .ok (.istore 4, 2) := by decide +kernel
theorem dL_moved_10 : decode cL_moved 10 = .ok (.iload 4, 2) := by decide +kernel
theorem dL_moved_12 : decode cL_moved 12 = .ok (.iload_n 2, 1) := by decide +kernel
theorem dL_moved_13 : decode cL_moved 13 = .ok (.if_icmp .ge 169, 3) := by decide +kernel
theorem dL_moved_16 : decode cL_moved 16 = .ok (.aload_n 0, 1) := by decide +kernel
theorem dL_moved_17 : decode cL_moved 17 = .ok (.aload_n 1, 1) := by decide +kernel
theorem dL_moved_18 : decode cL_moved 18 = .ok (.iload 4, 2) := by decide +kernel
theorem dL_moved_20 : decode cL_moved 20 = .ok (.aaload, 1) := by decide +kernel
theorem dL_moved_21 : decode cL_moved 21 = .ok (.iconst 0, 1) := by decide +kernel
theorem dL_moved_22 : decode cL_moved 22 = .ok (.invokestatic 216, 3) := by decide +kernel
theorem dL_moved_25 : decode cL_moved 25 = .ok (.istore 5, 2) := by decide +kernel
theorem dL_moved_27 : decode cL_moved 27 = .ok (.iload_n 3, 1) := by decide +kernel
theorem dL_moved_28 : decode cL_moved 28 = .ok (.iload 5, 2) := by decide +kernel
theorem dL_moved_30 : decode cL_moved 30 = .ok (.ifCond .eq 7, 3) := by decide +kernel
theorem dL_moved_33 : decode cL_moved 33 = .ok (.iconst 1, 1) := by decide +kernel
theorem dL_moved_34 : decode cL_moved 34 = .ok (.goto 4, 3) := by decide +kernel
theorem dL_moved_37 : decode cL_moved 37 = .ok (.iconst 0, 1) := by decide +kernel
theorem dL_moved_38 : decode cL_moved 38 = .ok (.iadd, 1) := by decide +kernel
theorem dL_moved_39 : decode cL_moved 39 = .ok (.istore_n 3, 1) := by decide +kernel
theorem dL_moved_40 : decode cL_moved 40 = .ok (.aload_n 0, 1) := by decide +kernel
theorem dL_moved_41 : decode cL_moved 41 = .ok (.iload 4, 2) := by decide +kernel
theorem dL_moved_43 : decode cL_moved 43 = .ok (.invokestatic 246, 3) := by decide +kernel
theorem dL_moved_46 : decode cL_moved 46 = .ok (.aload_n 0, 1) := by decide +kernel
theorem dL_moved_47 : decode cL_moved 47 = .ok (.aload_n 1, 1) := by decide +kernel
theorem dL_moved_48 : decode cL_moved 48 = .ok (.iload 4, 2) := by decide +kernel
theorem dL_moved_50 : decode cL_moved 50 = .ok (.aaload, 1) := by decide +kernel
theorem dL_moved_51 : decode cL_moved 51 = .ok (.iconst 0, 1) := by decide +kernel
theorem dL_moved_52 : decode cL_moved 52 = .ok (.invokestatic 206, 3) := by decide +kernel
theorem dL_moved_55 : decode cL_moved 55 = .ok (.if_icmp .ne 111, 3) := by decide +kernel
theorem dL_moved_58 : decode cL_moved 58 = .ok (.aload_n 0, 1) := by decide +kernel
theorem dL_moved_59 : decode cL_moved 59 = .ok (.iload 4, 2) := by decide +kernel
theorem dL_moved_61 : decode cL_moved 61 = .ok (.invokestatic 248, 3) := by decide +kernel
theorem dL_moved_64 : decode cL_moved 64 = .ok (.aload_n 0, 1) := by decide +kernel
theorem dL_moved_65 : decode cL_moved 65 = .ok (.aload_n 1, 1) := by decide +kernel
theorem dL_moved_66 : decode cL_moved 66 = .ok (.iload 4, 2) := by decide +kernel
theorem dL_moved_68 : decode cL_moved 68 = .ok (.aaload, 1) := by decide +kernel
theorem dL_moved_69 : decode cL_moved 69 = .ok (.iconst 0, 1) := by decide +kernel
theorem dL_moved_70 : decode cL_moved 70 = .ok (.invokestatic 220, 3) := by decide +kernel
theorem dL_moved_73 : decode cL_moved 73 = .ok (.if_icmp .ne 93, 3) := by decide +kernel
theorem dL_moved_76 : decode cL_moved 76 = .ok (.aload_n 0, 1) := by decide +kernel
theorem dL_moved_77 : decode cL_moved 77 = .ok (.iload 4, 2) := by decide +kernel
theorem dL_moved_79 : decode cL_moved 79 = .ok (.invokestatic 250, 3) := by decide +kernel
theorem dL_moved_82 : decode cL_moved 82 = .ok (.aload_n 0, 1) := by decide +kernel
theorem dL_moved_83 : decode cL_moved 83 = .ok (.invokevirtual 180, 3) := by decide +kernel
theorem dL_moved_86 : decode cL_moved 86 = .ok (.aload_n 1, 1) := by decide +kernel
theorem dL_moved_87 : decode cL_moved 87 = .ok (.iload 4, 2) := by decide +kernel
theorem dL_moved_89 : decode cL_moved 89 = .ok (.aaload, 1) := by decide +kernel
theorem dL_moved_90 : decode cL_moved 90 = .ok (.iconst 4, 1) := by decide +kernel
theorem dL_moved_91 : decode cL_moved 91 = .ok (.iaload, 1) := by decide +kernel
theorem dL_moved_92 : decode cL_moved 92 = .ok (.isub, 1) := by decide +kernel
theorem dL_moved_93 : decode cL_moved 93 = .ok (.if_icmp .ne 73, 3) := by decide +kernel
theorem dL_moved_96 : decode cL_moved 96 = .ok (.aload_n 0, 1) := by decide +kernel
theorem dL_moved_97 : decode cL_moved 97 = .ok (.iload 4, 2) := by decide +kernel
theorem dL_moved_99 : decode cL_moved 99 = .ok (.invokestatic 252, 3) := by decide +kernel
theorem dL_moved_102 : decode cL_moved 102 = .ok (.aload_n 1, 1) := by decide +kernel
theorem dL_moved_103 : decode cL_moved 103 = .ok (.iload 4, 2) := by decide +kernel
theorem dL_moved_105 : decode cL_moved 105 = .ok (.aaload, 1) := by decide +kernel
theorem dL_moved_106 : decode cL_moved 106 = .ok (.iconst 0, 1) := by decide +kernel
theorem dL_moved_107 : decode cL_moved 107 = .ok (.iaload, 1) := by decide +kernel
theorem dL_moved_108 : decode cL_moved 108 = .ok (.ifCond .ne 7, 3) := by decide +kernel
theorem dL_moved_111 : decode cL_moved 111 = .ok (.iconst 1, 1) := by decide +kernel
theorem dL_moved_112 : decode cL_moved 112 = .ok (.goto 4, 3) := by decide +kernel
theorem dL_moved_115 : decode cL_moved 115 = .ok (.iconst 0, 1) := by decide +kernel
theorem dL_moved_116 : decode cL_moved 116 = .ok (.if_icmp .ne 50, 3) := by decide +kernel
theorem dL_moved_119 : decode cL_moved 119 = .ok (.aload_n 0, 1) := by decide +kernel
theorem dL_moved_120 : decode cL_moved 120 = .ok (.iload 4, 2) := by decide +kernel
theorem dL_moved_122 : decode cL_moved 122 = .ok (.invokestatic 254, 3) := by decide +kernel
theorem dL_moved_125 : decode cL_moved 125 = .ok (.aload_n 1, 1) := by decide +kernel
theorem dL_moved_126 : decode cL_moved 126 = .ok (.iload 4, 2) := by decide +kernel
theorem dL_moved_128 : decode cL_moved 128 = .ok (.aaload, 1) := by decide +kernel
theorem dL_moved_129 : decode cL_moved 129 = .ok (.iconst 0, 1) := by decide +kernel
theorem dL_moved_130 : decode cL_moved 130 = .ok (.iaload, 1) := by decide +kernel
theorem dL_moved_131 : decode cL_moved 131 = .ok (.iconst 1, 1) := by decide +kernel
theorem dL_moved_132 : decode cL_moved 132 = .ok (.if_icmp .ne 7, 3) := by decide +kernel
theorem dL_moved_135 : decode cL_moved 135 = .ok (.iconst 1, 1) := by decide +kernel
theorem dL_moved_136 : decode cL_moved 136 = .ok (.goto 4, 3) := by decide +kernel
theorem dL_moved_139 : decode cL_moved 139 = .ok (.iconst 0, 1) := by decide +kernel
theorem dL_moved_140 : decode cL_moved 140 = .ok (.if_icmp .ne 26, 3) := by decide +kernel
theorem dL_moved_143 : decode cL_moved 143 = .ok (.aload_n 0, 1) := by decide +kernel
theorem dL_moved_144 : decode cL_moved 144 = .ok (.iload 4, 2) := by decide +kernel
theorem dL_moved_146 : decode cL_moved 146 = .ok (.invokestatic 256, 3) := by decide +kernel
theorem dL_moved_149 : decode cL_moved 149 = .ok (.iload 5, 2) := by decide +kernel
theorem dL_moved_151 : decode cL_moved 151 = .ok (.ifCond .eq 7, 3) := by decide +kernel
theorem dL_moved_154 : decode cL_moved 154 = .ok (.iconst 1, 1) := by decide +kernel
theorem dL_moved_155 : decode cL_moved 155 = .ok (.goto 4, 3) := by decide +kernel
theorem dL_moved_158 : decode cL_moved 158 = .ok (.iconst 0, 1) := by decide +kernel
theorem dL_moved_159 : decode cL_moved 159 = .ok (.if_icmp .ne 7, 3) := by decide +kernel
theorem dL_moved_162 : decode cL_moved 162 = .ok (.iconst 1, 1) := by decide +kernel
theorem dL_moved_163 : decode cL_moved 163 = .ok (.goto 4, 3) := by decide +kernel
theorem dL_moved_166 : decode cL_moved 166 = .ok (.iconst 0, 1) := by decide +kernel
theorem dL_moved_167 : decode cL_moved 167 = .ok (.istore 6, 2) := by decide +kernel
theorem dL_moved_169 : decode cL_moved 169 = .ok (.iload 6, 2) := by decide +kernel
theorem dL_moved_171 : decode cL_moved 171 = .ok (.ifCond .ne 5, 3) := by decide +kernel
theorem dL_moved_174 : decode cL_moved 174 = .ok (.iconst 0, 1) := by decide +kernel
theorem dL_moved_175 : decode cL_moved 175 = .ok (.ireturn, 1) := by decide +kernel
theorem dL_moved_176 : decode cL_moved 176 = .ok (.iinc 4 1, 3) := by decide +kernel
theorem dL_moved_179 : decode cL_moved 179 = .ok (.goto (-169), 3) := by decide +kernel
theorem dL_moved_182 : decode cL_moved 182 = .ok (.aload_n 0, 1) := by decide +kernel
theorem dL_moved_183 : decode cL_moved 183 = .ok (.invokevirtual 258, 3) := by decide +kernel
theorem dL_moved_186 : decode cL_moved 186 = .ok (.iload_n 3, 1) := by decide +kernel
theorem dL_moved_187 : decode cL_moved 187 = .ok (.i2f, 1) := by decide +kernel
theorem dL_moved_188 : decode cL_moved 188 = .ok (.iload_n 2, 1) := by decide +kernel
theorem dL_moved_189 : decode cL_moved 189 = .ok (.i2f, 1) := by decide +kernel
theorem dL_moved_190 : decode cL_moved 190 = .ok (.fdiv, 1) := by decide +kernel
theorem dL_moved_191 : decode cL_moved 191 = .ok (.fcmp .l, 1) := by decide +kernel
theorem dL_moved_192 : decode cL_moved 192 = .ok (.ifCond .ne 67, 3) := by decide +kernel
theorem dL_moved_195 : decode cL_moved 195 = .ok (.aload_n 0, 1) := by decide +kernel
theorem dL_moved_196 : decode cL_moved 196 = .ok (.iload_n 2, 1) := by decide +kernel
theorem dL_moved_197 : decode cL_moved 197 = .ok (.invokestatic 246, 3) := by decide +kernel
theorem dL_moved_200 : decode cL_moved 200 = .ok (.bipush (-11), 2) := by decide +kernel
theorem dL_moved_202 : decode cL_moved 202 = .ok (.if_icmp .ne 57, 3) := by decide +kernel
theorem dL_moved_205 : decode cL_moved 205 = .ok (.aload_n 0, 1) := by decide +kernel
theorem dL_moved_206 : decode cL_moved 206 = .ok (.iconst (-1), 1) := by decide +kernel
theorem dL_moved_207 : decode cL_moved 207 = .ok (.invokestatic 248, 3) := by decide +kernel
theorem dL_moved_210 : decode cL_moved 210 = .ok (.bipush (-11), 2) := by decide +kernel
theorem dL_moved_212 : decode cL_moved 212 = .ok (.if_icmp .ne 47, 3) := by decide +kernel
theorem dL_moved_215 : decode cL_moved 215 = .ok (.aload_n 0, 1) := by decide +kernel
theorem dL_moved_216 : decode cL_moved 216 = .ok (.iload_n 2, 1) := by decide +kernel
theorem dL_moved_217 : decode cL_moved 217 = .ok (.invokestatic 250, 3) := by decide +kernel
theorem dL_moved_220 : decode cL_moved 220 = .ok (.bipush (-11), 2) := by decide +kernel
theorem dL_moved_222 : decode cL_moved 222 = .ok (.if_icmp .ne 37, 3) := by decide +kernel
theorem dL_moved_225 : decode cL_moved 225 = .ok (.aload_n 0, 1) := by decide +kernel
theorem dL_moved_226 : decode cL_moved 226 = .ok (.iload_n 2, 1) := by decide +kernel
theorem dL_moved_227 : decode cL_moved 227 = .ok (.invokestatic 252, 3) := by decide +kernel
theorem dL_moved_230 : decode cL_moved 230 = .ok (.bipush (-11), 2) := by decide +kernel
theorem dL_moved_232 : decode cL_moved 232 = .ok (.if_icmp .ne 27, 3) := by decide +kernel
theorem dL_moved_235 : decode cL_moved 235 = .ok (.aload_n 0, 1) := by decide +kernel
theorem dL_moved_236 : decode cL_moved 236 = .ok (.iload_n 2, 1) := by decide +kernel
theorem dL_moved_237 : decode cL_moved 237 = .ok (.invokestatic 254, 3) := by decide +kernel
theorem dL_moved_240 : decode cL_moved 240 = .ok (.bipush (-11), 2) := by decide +kernel
theorem dL_moved_242 : decode cL_moved 242 = .ok (.if_icmp .ne 17, 3) := by decide +kernel
theorem dL_moved_245 : decode cL_moved 245 = .ok (.aload_n 0, 1) := by decide +kernel
theorem dL_moved_246 : decode cL_moved 246 = .ok (.iload_n 2, 1) := by decide +kernel
theorem dL_moved_247 : decode cL_moved 247 = .ok (.invokestatic 256, 3) := by decide +kernel
theorem dL_moved_250 : decode cL_moved 250 = .ok (.bipush (-11), 2) := by decide +kernel
theorem dL_moved_252 : decode cL_moved 252 = .ok (.if_icmp .ne 7, 3) := by decide +kernel
theorem dL_moved_255 : decode cL_moved 255 = .ok (.iconst 1, 1) := by decide +kernel
theorem dL_moved_256 : decode cL_moved 256 = .ok (.goto 4, 3) := by decide +kernel
theorem dL_moved_259 : decode cL_moved 259 = .ok (.iconst 0, 1) := by decide +kernel
theorem dL_moved_260 : decode cL_moved 260 = .ok (.ireturn, 1) := by decide +kernel
set_option maxRecDepth 20000 in
theorem ggL_tides_L_tide : GoodIn wsL_tides wsL_tide := goodIn_ca (goodIn_ca (goodIn_ca (goodIn_ca (goodIn_r _ [12, 13, 14, 3, 15, 16, 17, 18, 19, 20, 21, 22, 23, 24, 25, 26, 27, 28, 29, 30, 31, 32, 33, 34, 35, 11, 36, 37, 38, 39, 40, 41, 42, 43, 44, 45, 46, 47, 48, 49, 50, 51, 52, 53, 54, 55, 56, 57, 58, 59, 60, 61, 62, 63, 64, 65, 66, 67, 68, 69, 70, 71, 1, 2, 4, 72, 73, 74, 75, 76, 77, 78, 79, 80, 81, 82, 83, 84, 85, 86, 87, 88, 264, 265, 266, 267, 268, 269, 270, 271, 272, 273, 274, 275] (by decide +kernel) (by decide +kernel)) (goodIn_sub (fun _ h => List.mem_cons_of_mem _ (List.mem_append_left _ (List.mem_append_left _ (List.mem_append_left _ (List.mem_append_left _ (List.mem_append_right _ h)))))) (by decide +kernel))) (goodIn_sub (fun _ h => List.mem_cons_of_mem _ (List.mem_append_left _ (List.mem_append_left _ (List.mem_append_left _ (List.mem_append_right _ h))))) (by decide +kernel))) (goodIn_sub (fun _ h => List.mem_cons_of_mem _ (List.mem_append_left _ (List.mem_append_left _ (List.mem_append_right _ h)))) (by decide +kernel))) (goodIn_sub (fun _ h => List.mem_cons_of_mem _ (List.mem_append_left _ (List.mem_append_right _ h))) (by decide +kernel))
set_option maxRecDepth 20000 in
theorem gL_tides_L_tide : GoodIn wsL_tides (va_wsS RL 262 yL_tide wsL_tide) := goodIn_app (goodIn_of _ (by decide +kernel)) ggL_tides_L_tide
set_option maxRecDepth 20000 in
theorem ggL_tides_X5_baseLevel : GoodIn wsL_tides wsX5_baseLevel := goodIn_ca (goodIn_r _ [92, 21, 41, 42, 29, 30, 31, 32, 33, 264, 265, 266, 267, 268, 269, 270, 271, 272, 273, 274, 275] (by decide +kernel) (by decide +kernel)) (goodIn_sub (fun _ h => List.mem_cons_of_mem _ (List.mem_append_left _ (List.mem_append_left _ (List.mem_append_left _ (List.mem_append_left _ (List.mem_append_right _ h)))))) (by decide +kernel))
set_option maxRecDepth 20000 in
theorem gL_tides_X5_baseLevel : GoodIn wsL_tides (wsV RL 266 RX5 yX5_baseLevel wsX5_baseLevel) := goodIn_app (goodIn_of _ (by decide +kernel)) ggL_tides_X5_baseLevel
set_option maxRecDepth 20000 in
theorem ggL_tides_L_tideIn : GoodIn wsL_tides wsL_tideIn := goodIn_ca (goodIn_ca (goodIn_ca (goodIn_ca (goodIn_r _ [95, 96, 97, 98, 99, 19, 100, 21, 76, 77, 78, 79, 80, 81, 82, 25, 83, 101, 102, 103, 104, 105, 106, 107, 108, 109, 110, 23, 24, 26, 27, 28, 29, 30, 31, 32, 33, 111, 112, 113, 114, 115, 2, 3, 4, 116, 117, 118, 119, 120, 121, 122, 123, 124, 125, 126, 127, 128, 129, 130, 131, 132, 133, 134, 135, 136, 137, 138, 139, 140, 141, 142, 143, 144, 145, 146, 147, 14, 15, 148, 6, 7, 149, 150, 151, 152, 153, 85, 86, 87, 88, 264, 265, 266, 267, 268, 269, 270, 271, 272, 273, 274, 275] (by decide +kernel) (by decide +kernel)) (goodIn_sub (fun _ h => List.mem_cons_of_mem _ (List.mem_append_left _ (List.mem_append_right _ h))) (by decide +kernel))) (goodIn_sub (fun _ h => List.mem_cons_of_mem _ (List.mem_append_right _ h)) (by decide +kernel))) (goodIn_sub (fun _ h => List.mem_cons_of_mem _ (List.mem_append_left _ (List.mem_append_left _ (List.mem_append_left _ (List.mem_append_left _ (List.mem_append_right _ h)))))) (by decide +kernel))) (goodIn_sub (fun _ h => List.mem_cons_of_mem _ (List.mem_append_left _ (List.mem_append_left _ (List.mem_append_left _ (List.mem_append_right _ h))))) (by decide +kernel))
set_option maxRecDepth 20000 in
theorem gL_tides_L_tideIn : GoodIn wsL_tides (va_wsS RL 272 yL_tideIn wsL_tideIn) := goodIn_app (goodIn_of _ (by decide +kernel)) ggL_tides_L_tideIn
set_option maxRecDepth 20000 in
theorem ggL_tides_L_tideBySteps : GoodIn wsL_tides wsL_tideBySteps := goodIn_ca (goodIn_ca (goodIn_ca (goodIn_ca (goodIn_r _ [156, 96, 157, 158, 159, 19, 160, 161, 21, 76, 77, 78, 79, 80, 81, 82, 25, 83, 101, 102, 103, 104, 105, 162, 163, 164, 165, 166, 167, 168, 169, 170, 23, 24, 26, 27, 28, 29, 30, 31, 32, 33, 171, 117, 118, 119, 172, 173, 174, 175, 176, 129, 130, 131, 116, 132, 133, 134, 135, 177, 112, 113, 114, 115, 2, 3, 4, 120, 121, 122, 123, 124, 125, 126, 127, 178, 179, 180, 181, 182, 183, 184, 185, 186, 187, 188, 189, 190, 191, 192, 137, 138, 139, 140, 141, 142, 143, 144, 145, 146, 147, 14, 15, 148, 6, 7, 193, 150, 151, 152, 153, 85, 86, 87, 88, 264, 265, 266, 267, 268, 269, 270, 271, 272, 273, 276, 277, 278, 274, 275] (by decide +kernel) (by decide +kernel)) (goodIn_sub (fun _ h => List.mem_cons_of_mem _ (List.mem_append_left _ (List.mem_append_right _ h))) (by decide +kernel))) (goodIn_sub (fun _ h => List.mem_cons_of_mem _ (List.mem_append_right _ h)) (by decide +kernel))) (goodIn_sub (fun _ h => List.mem_cons_of_mem _ (List.mem_append_left _ (List.mem_append_left _ (List.mem_append_left _ (List.mem_append_left _ (List.mem_append_right _ h)))))) (by decide +kernel))) (goodIn_sub (fun _ h => List.mem_cons_of_mem _ (List.mem_append_left _ (List.mem_append_left _ (List.mem_append_left _ (List.mem_append_right _ h))))) (by decide +kernel))
set_option maxRecDepth 20000 in
theorem gL_tides_L_tideBySteps : GoodIn wsL_tides (va_wsS RL 274 yL_tideBySteps wsL_tideBySteps) := goodIn_app (goodIn_of _ (by decide +kernel)) ggL_tides_L_tideBySteps
set_option maxRecDepth 20000 in
theorem ggL_tides_L_tideAt : GoodIn wsL_tides wsL_tideAt := goodIn_ca (goodIn_ca (goodIn_ca (goodIn_r _ [196, 96, 197, 198, 199, 19, 200, 21, 76, 77, 78, 79, 80, 81, 82, 25, 83, 106, 107, 108, 109, 110, 23, 24, 26, 27, 28, 29, 30, 31, 32, 33, 111, 112, 113, 114, 115, 2, 3, 4, 116, 117, 118, 119, 120, 121, 122, 123, 124, 125, 126, 127, 128, 129, 130, 131, 132, 133, 134, 135, 136, 137, 138, 139, 140, 141, 142, 143, 144, 145, 146, 147, 14, 15, 148, 6, 7, 149, 150, 151, 152, 153, 85, 86, 87, 88, 264, 265, 266, 267, 268, 269, 270, 271, 272, 273, 274, 275] (by decide +kernel) (by decide +kernel)) (goodIn_sub (fun _ h => List.mem_cons_of_mem _ (List.mem_append_left _ (List.mem_append_right _ h))) (by decide +kernel))) (goodIn_sub (fun _ h => List.mem_cons_of_mem _ (List.mem_append_left _ (List.mem_append_left _ (List.mem_append_left _ (List.mem_append_left _ (List.mem_append_right _ h)))))) (by decide +kernel))) (goodIn_sub (fun _ h => List.mem_cons_of_mem _ (List.mem_append_left _ (List.mem_append_left _ (List.mem_append_left _ (List.mem_append_right _ h))))) (by decide +kernel))
set_option maxRecDepth 20000 in
theorem gL_tides_L_tideAt : GoodIn wsL_tides (va_wsS RL 276 yL_tideAt wsL_tideAt) := goodIn_app (goodIn_of _ (by decide +kernel)) ggL_tides_L_tideAt
set_option maxRecDepth 20000 in
theorem ggL_tides_L_levelAt : GoodIn wsL_tides wsL_levelAt := goodIn_ca (goodIn_ca (goodIn_ca (goodIn_r _ [203, 96, 204, 205, 206, 19, 207, 21, 76, 77, 78, 79, 80, 81, 82, 25, 83, 208, 209, 210, 211, 27, 115, 2, 3, 4, 28, 29, 30, 31, 32, 33, 212, 107, 108, 109, 110, 23, 24, 26, 111, 112, 113, 114, 116, 117, 118, 119, 120, 121, 122, 123, 124, 125, 126, 127, 128, 129, 130, 131, 132, 133, 134, 135, 136, 137, 138, 139, 140, 141, 142, 143, 144, 145, 146, 147, 14, 15, 148, 6, 7, 149, 150, 151, 152, 153, 85, 86, 87, 88, 264, 265, 266, 267, 268, 269, 270, 271, 272, 273, 274, 275] (by decide +kernel) (by decide +kernel)) (goodIn_sub (fun _ h => List.mem_cons_of_mem _ (List.mem_append_left _ (List.mem_append_right _ h))) (by decide +kernel))) (goodIn_sub (fun _ h => List.mem_cons_of_mem _ (List.mem_append_left _ (List.mem_append_left _ (List.mem_append_left _ (List.mem_append_left _ (List.mem_append_right _ h)))))) (by decide +kernel))) (goodIn_sub (fun _ h => List.mem_cons_of_mem _ (List.mem_append_left _ (List.mem_append_left _ (List.mem_append_left _ (List.mem_append_right _ h))))) (by decide +kernel))
set_option maxRecDepth 20000 in
theorem gL_tides_L_levelAt : GoodIn wsL_tides (va_wsS RL 278 yL_levelAt wsL_levelAt) := goodIn_app (goodIn_of _ (by decide +kernel)) ggL_tides_L_levelAt
set_option maxRecDepth 20000 in
theorem ggL_tides_L_highTideIn : GoodIn wsL_tides wsL_highTideIn := goodIn_ca (goodIn_ca (goodIn_ca (goodIn_r _ [215, 96, 216, 217, 218, 19, 219, 21, 76, 77, 78, 79, 80, 81, 82, 25, 83, 220, 221, 165, 222, 223, 107, 108, 109, 110, 23, 24, 26, 27, 28, 29, 30, 31, 32, 33, 111, 112, 113, 114, 115, 2, 3, 4, 116, 117, 118, 119, 120, 121, 122, 123, 124, 125, 126, 127, 128, 129, 130, 131, 132, 133, 134, 135, 136, 137, 138, 139, 140, 141, 142, 143, 144, 145, 146, 147, 14, 15, 148, 6, 7, 149, 150, 151, 152, 153, 85, 86, 87, 88, 264, 265, 266, 267, 268, 269, 270, 271, 272, 273, 274, 275] (by decide +kernel) (by decide +kernel)) (goodIn_sub (fun _ h => List.mem_cons_of_mem _ (List.mem_append_left _ (List.mem_append_right _ h))) (by decide +kernel))) (goodIn_sub (fun _ h => List.mem_cons_of_mem _ (List.mem_append_left _ (List.mem_append_left _ (List.mem_append_left _ (List.mem_append_left _ (List.mem_append_right _ h)))))) (by decide +kernel))) (goodIn_sub (fun _ h => List.mem_cons_of_mem _ (List.mem_append_left _ (List.mem_append_left _ (List.mem_append_left _ (List.mem_append_right _ h))))) (by decide +kernel))
set_option maxRecDepth 20000 in
theorem gL_tides_L_highTideIn : GoodIn wsL_tides (va_wsS RL 280 yL_highTideIn wsL_highTideIn) := goodIn_app (goodIn_of _ (by decide +kernel)) ggL_tides_L_highTideIn
set_option maxRecDepth 20000 in
theorem ggL_tides_L_lowTideIn : GoodIn wsL_tides wsL_lowTideIn := goodIn_ca (goodIn_ca (goodIn_ca (goodIn_r _ [226, 96, 227, 228, 229, 19, 230, 21, 76, 77, 78, 79, 80, 81, 82, 25, 83, 231, 232, 165, 233, 223, 107, 108, 109, 110, 23, 24, 26, 27, 28, 29, 30, 31, 32, 33, 111, 112, 113, 114, 115, 2, 3, 4, 116, 117, 118, 119, 120, 121, 122, 123, 124, 125, 126, 127, 128, 129, 130, 131, 132, 133, 134, 135, 136, 137, 138, 139, 140, 141, 142, 143, 144, 145, 146, 147, 14, 15, 148, 6, 7, 149, 150, 151, 152, 153, 85, 86, 87, 88, 264, 265, 266, 267, 268, 269, 270, 271, 272, 273, 274, 275] (by decide +kernel) (by decide +kernel)) (goodIn_sub (fun _ h => List.mem_cons_of_mem _ (List.mem_append_left _ (List.mem_append_right _ h))) (by decide +kernel))) (goodIn_sub (fun _ h => List.mem_cons_of_mem _ (List.mem_append_left _ (List.mem_append_left _ (List.mem_append_left _ (List.mem_append_left _ (List.mem_append_right _ h)))))) (by decide +kernel))) (goodIn_sub (fun _ h => List.mem_cons_of_mem _ (List.mem_append_left _ (List.mem_append_left _ (List.mem_append_left _ (List.mem_append_right _ h))))) (by decide +kernel))
set_option maxRecDepth 20000 in
theorem gL_tides_L_lowTideIn : GoodIn wsL_tides (va_wsS RL 282 yL_lowTideIn wsL_lowTideIn) := goodIn_app (goodIn_of _ (by decide +kernel)) ggL_tides_L_lowTideIn
set_option maxRecDepth 20000 in
theorem ggL_tides_X5_highestShore : GoodIn wsL_tides wsX5_highestShore := goodIn_ca (goodIn_ca (goodIn_r _ [237, 21, 208, 209, 210, 25, 211, 27, 115, 2, 3, 4, 28, 29, 30, 31, 32, 33, 212, 107, 108, 109, 110, 23, 24, 26, 111, 112, 113, 114, 116, 117, 118, 119, 120, 121, 122, 123, 124, 125, 126, 127, 128, 129, 130, 131, 132, 133, 134, 135, 136, 137, 138, 139, 140, 141, 142, 143, 144, 145, 146, 147, 14, 15, 148, 6, 7, 149, 150, 151, 152, 153, 85, 86, 87, 88, 82, 83, 264, 265, 266, 267, 268, 269, 270, 271, 272, 273, 274, 275] (by decide +kernel) (by decide +kernel)) (goodIn_sub (fun _ h => List.mem_cons_of_mem _ (List.mem_append_left _ (List.mem_append_left _ (List.mem_append_left _ (List.mem_append_left _ (List.mem_append_right _ h)))))) (by decide +kernel))) (goodIn_sub (fun _ h => List.mem_cons_of_mem _ (List.mem_append_left _ (List.mem_append_left _ (List.mem_append_left _ (List.mem_append_right _ h))))) (by decide +kernel))
set_option maxRecDepth 20000 in
theorem gL_tides_X5_highestShore : GoodIn wsL_tides (wsV RL 284 RX5 yX5_highestShore wsX5_highestShore) := goodIn_app (goodIn_of _ (by decide +kernel)) ggL_tides_X5_highestShore
set_option maxRecDepth 20000 in
theorem ggL_tides_X5_meanLevel : GoodIn wsL_tides wsX5_meanLevel := goodIn_ca (goodIn_ca (goodIn_r _ [241, 21, 242, 208, 209, 210, 25, 211, 27, 115, 2, 3, 4, 28, 29, 30, 31, 32, 33, 212, 107, 108, 109, 110, 23, 24, 26, 111, 112, 113, 114, 116, 117, 118, 119, 120, 121, 122, 123, 124, 125, 126, 127, 128, 129, 130, 131, 132, 133, 134, 135, 136, 137, 138, 139, 140, 141, 142, 143, 144, 145, 146, 147, 14, 15, 148, 6, 7, 149, 150, 151, 152, 153, 85, 86, 87, 88, 82, 83, 264, 265, 266, 267, 268, 269, 270, 271, 272, 273, 274, 275] (by decide +kernel) (by decide +kernel)) (goodIn_sub (fun _ h => List.mem_cons_of_mem _ (List.mem_append_left _ (List.mem_append_left _ (List.mem_append_left _ (List.mem_append_left _ (List.mem_append_right _ h)))))) (by decide +kernel))) (goodIn_sub (fun _ h => List.mem_cons_of_mem _ (List.mem_append_left _ (List.mem_append_left _ (List.mem_append_left _ (List.mem_append_right _ h))))) (by decide +kernel))
set_option maxRecDepth 20000 in
theorem gL_tides_X5_meanLevel : GoodIn wsL_tides (wsV RL 287 RX5 yX5_meanLevel wsX5_meanLevel) := goodIn_app (goodIn_of _ (by decide +kernel)) ggL_tides_X5_meanLevel
set_option maxRecDepth 20000 in
theorem ggL_tides_X5_isBalanced : GoodIn wsL_tides wsX5_isBalanced := goodIn_ca (goodIn_ca (goodIn_r _ [246, 21, 161, 247, 248, 249, 25, 250, 27, 28, 29, 30, 31, 32, 33, 251, 252, 253, 254, 255, 256, 257, 258, 259, 260, 261, 165, 262, 223, 107, 108, 109, 110, 23, 24, 26, 111, 112, 113, 114, 115, 2, 3, 4, 116, 117, 118, 119, 120, 121, 122, 123, 124, 125, 126, 127, 128, 129, 130, 131, 132, 133, 134, 135, 136, 137, 138, 139, 140, 141, 142, 143, 144, 145, 146, 147, 14, 15, 148, 6, 7, 149, 150, 151, 152, 153, 85, 86, 87, 88, 82, 83, 263, 163, 164, 166, 167, 168, 169, 170, 171, 172, 173, 174, 175, 176, 177, 178, 179, 180, 181, 182, 183, 184, 185, 186, 187, 188, 189, 190, 191, 192, 193, 264, 265, 266, 267, 268, 269, 270, 271, 272, 273, 274, 275, 276, 277, 278] (by decide +kernel) (by decide +kernel)) (goodIn_sub (fun _ h => List.mem_cons_of_mem _ (List.mem_append_left _ (List.mem_append_left _ (List.mem_append_left _ (List.mem_append_left _ (List.mem_append_right _ h)))))) (by decide +kernel))) (goodIn_sub (fun _ h => List.mem_cons_of_mem _ (List.mem_append_left _ (List.mem_append_left _ (List.mem_append_left _ (List.mem_append_right _ h))))) (by decide +kernel))
set_option maxRecDepth 20000 in
theorem gL_tides_X5_isBalanced : GoodIn wsL_tides (wsV RL 293 RX5 yX5_isBalanced wsX5_isBalanced) := goodIn_app (goodIn_of _ (by decide +kernel)) ggL_tides_X5_isBalanced
theorem dL_tides_0 : decode cL_tides 0 = .ok (.iconst 0, 1) := by decide +kernel
theorem dL_tides_1 : decode cL_tides 1 = .ok (.istore_n 2, 1) := by decide +kernel
theorem dL_tides_2 : decode cL_tides 2 = .ok (.iconst 0, 1) := by decide +kernel
theorem dL_tides_3 : decode cL_tides 3 = .ok (.istore_n 3, 1) := by decide +kernel
theorem dL_tides_4 : decode cL_tides 4 = .ok (.iconst 0, 1) := by decide +kernel
theorem dL_tides_5 : decode cL_tides 5 = .ok (.istore 4, 2) := by decide +kernel
theorem dL_tides_7 : decode cL_tides 7 = .ok (.iload 4, 2) := by decide +kernel
theorem dL_tides_9 : decode cL_tides 9 = .ok (.bipush 12, 2) := by decide +kernel
theorem dL_tides_11 : decode cL_tides 11 = .ok (.if_icmp .ge 273, 3) := by decide +kernel
theorem dL_tides_14 : decode cL_tides 14 = .ok (.aload_n 0, 1) := by decide +kernel
theorem dL_tides_15 : decode cL_tides 15 = .ok (.aload_n 1, 1) := by decide +kernel
theorem dL_tides_16 : decode cL_tides 16 = .ok (.iload 4, 2) := by decide +kernel
theorem dL_tides_18 : decode cL_tides 18 = .ok (.iconst 0, 1) := by decide +kernel
theorem dL_tides_19 : decode cL_tides 19 = .ok (.invokestatic 262, 3) := by decide +kernel
theorem dL_tides_22 : decode cL_tides 22 = .ok (.istore 5, 2) := by decide +kernel
theorem dL_tides_24 : decode cL_tides 24 = .ok (.iconst 0, 1) := by decide +kernel
theorem dL_tides_25 : decode cL_tides 25 = .ok (.aload_n 0, 1) := by decide +kernel
theorem dL_tides_26 : decode cL_tides 26 = .ok (.invokevirtual 266, 3) := by decide +kernel
theorem dL_tides_29 : decode cL_tides 29 = .ok (.iload 5, 2) := by decide +kernel
theorem dL_tides_31 : decode cL_tides 31 = .ok (.iadd, 1) := by decide +kernel
theorem dL_tides_32 : decode cL_tides 32 = .ok (.invokestatic 199, 3) := by decide +kernel
theorem dL_tides_35 : decode cL_tides 35 = .ok (.istore 6, 2) := by decide +kernel
theorem dL_tides_37 : decode cL_tides 37 = .ok (.iconst 0, 1) := by decide +kernel
theorem dL_tides_38 : decode cL_tides 38 = .ok (.istore 7, 2) := by decide +kernel
theorem dL_tides_40 : decode cL_tides 40 = .ok (.iconst 0, 1) := by decide +kernel
theorem dL_tides_41 : decode cL_tides 41 = .ok (.istore 8, 2) := by decide +kernel
theorem dL_tides_43 : decode cL_tides 43 = .ok (.iload 5, 2) := by decide +kernel
theorem dL_tides_45 : decode cL_tides 45 = .ok (.istore 9, 2) := by decide +kernel
theorem dL_tides_47 : decode cL_tides 47 = .ok (.iload 5, 2) := by decide +kernel
theorem dL_tides_49 : decode cL_tides 49 = .ok (.istore 10, 2) := by decide +kernel
theorem dL_tides_51 : decode cL_tides 51 = .ok (.iconst 0, 1) := by decide +kernel
theorem dL_tides_52 : decode cL_tides 52 = .ok (.istore 11, 2) := by decide +kernel
theorem dL_tides_54 : decode cL_tides 54 = .ok (.iload 11, 2) := by decide +kernel
theorem dL_tides_56 : decode cL_tides 56 = .ok (.sipush 144, 3) := by decide +kernel
theorem dL_tides_59 : decode cL_tides 59 = .ok (.if_icmp .gt 111, 3) := by decide +kernel
theorem dL_tides_62 : decode cL_tides 62 = .ok (.aload_n 0, 1) := by decide +kernel
theorem dL_tides_63 : decode cL_tides 63 = .ok (.aload_n 1, 1) := by decide +kernel
theorem dL_tides_64 : decode cL_tides 64 = .ok (.iload 4, 2) := by decide +kernel
theorem dL_tides_66 : decode cL_tides 66 = .ok (.iload 11, 2) := by decide +kernel
theorem dL_tides_68 : decode cL_tides 68 = .ok (.invokestatic 262, 3) := by decide +kernel
theorem dL_tides_71 : decode cL_tides 71 = .ok (.istore 12, 2) := by decide +kernel
theorem dL_tides_73 : decode cL_tides 73 = .ok (.iload 12, 2) := by decide +kernel
theorem dL_tides_75 : decode cL_tides 75 = .ok (.iload 9, 2) := by decide +kernel
theorem dL_tides_77 : decode cL_tides 77 = .ok (.if_icmp .le 8, 3) := by decide +kernel
theorem dL_tides_80 : decode cL_tides 80 = .ok (.iload 11, 2) := by decide +kernel
theorem dL_tides_82 : decode cL_tides 82 = .ok (.goto 5, 3) := by decide +kernel
theorem dL_tides_85 : decode cL_tides 85 = .ok (.iload 7, 2) := by decide +kernel
theorem dL_tides_87 : decode cL_tides 87 = .ok (.istore 7, 2) := by decide +kernel
theorem dL_tides_89 : decode cL_tides 89 = .ok (.iload 9, 2) := by decide +kernel
theorem dL_tides_91 : decode cL_tides 91 = .ok (.iload 12, 2) := by decide +kernel
theorem dL_tides_93 : decode cL_tides 93 = .ok (.invokestatic 199, 3) := by decide +kernel
theorem dL_tides_96 : decode cL_tides 96 = .ok (.istore 9, 2) := by decide +kernel
theorem dL_tides_98 : decode cL_tides 98 = .ok (.iload 12, 2) := by decide +kernel
theorem dL_tides_100 : decode cL_tides 100 = .ok (.iload 10, 2) := by decide +kernel
theorem dL_tides_102 : decode cL_tides 102 = .ok (.if_icmp .ge 8, 3) := by decide +kernel
theorem dL_tides_105 : decode cL_tides 105 = .ok (.iload 11, 2) := by decide +kernel
theorem dL_tides_107 : decode cL_tides 107 = .ok (.goto 5, 3) := by decide +kernel
theorem dL_tides_110 : decode cL_tides 110 = .ok (.iload 8, 2) := by decide +kernel
theorem dL_tides_112 : decode cL_tides 112 = .ok (.istore 8, 2) := by decide +kernel
theorem dL_tides_114 : decode cL_tides 114 = .ok (.iload 10, 2) := by decide +kernel
theorem dL_tides_116 : decode cL_tides 116 = .ok (.iload 12, 2) := by decide +kernel
theorem dL_tides_118 : decode cL_tides 118 = .ok (.invokestatic 269, 3) := by decide +kernel
theorem dL_tides_121 : decode cL_tides 121 = .ok (.istore 10, 2) := by decide +kernel
theorem dL_tides_123 : decode cL_tides 123 = .ok (.iload 11, 2) := by decide +kernel
theorem dL_tides_125 : decode cL_tides 125 = .ok (.bipush 7, 2) := by decide +kernel
theorem dL_tides_127 : decode cL_tides 127 = .ok (.irem, 1) := by decide +kernel
theorem dL_tides_128 : decode cL_tides 128 = .ok (.iload 4, 2) := by decide +kernel
theorem dL_tides_130 : decode cL_tides 130 = .ok (.bipush 7, 2) := by decide +kernel
theorem dL_tides_132 : decode cL_tides 132 = .ok (.irem, 1) := by decide +kernel
theorem dL_tides_133 : decode cL_tides 133 = .ok (.if_icmp .ne 31, 3) := by decide +kernel
theorem dL_tides_136 : decode cL_tides 136 = .ok (.aload_n 0, 1) := by decide +kernel
theorem dL_tides_137 : decode cL_tides 137 = .ok (.iload 4, 2) := by decide +kernel
theorem dL_tides_139 : decode cL_tides 139 = .ok (.iload 11, 2) := by decide +kernel
theorem dL_tides_141 : decode cL_tides 141 = .ok (.invokestatic 272, 3) := by decide +kernel
theorem dL_tides_144 : decode cL_tides 144 = .ok (.iload 12, 2) := by decide +kernel
theorem dL_tides_146 : decode cL_tides 146 = .ok (.if_icmp .ne 16, 3) := by decide +kernel
theorem dL_tides_149 : decode cL_tides 149 = .ok (.aload_n 0, 1) := by decide +kernel
theorem dL_tides_150 : decode cL_tides 150 = .ok (.iload 4, 2) := by decide +kernel
theorem dL_tides_152 : decode cL_tides 152 = .ok (.iload 11, 2) := by decide +kernel
theorem dL_tides_154 : decode cL_tides 154 = .ok (.invokestatic 274, 3) := by decide +kernel
theorem dL_tides_157 : decode cL_tides 157 = .ok (.iload 12, 2) := by decide +kernel
theorem dL_tides_159 : decode cL_tides 159 = .ok (.if_icmp .eq 5, 3) := by decide +kernel
theorem dL_tides_162 : decode cL_tides 162 = .ok (.iconst 0, 1) := by decide +kernel
theorem dL_tides_163 : decode cL_tides 163 = .ok (.ireturn, 1) := by decide +kernel
theorem dL_tides_164 : decode cL_tides 164 = .ok (.iinc 11 1, 3) := by decide +kernel
theorem dL_tides_167 : decode cL_tides 167 = .ok (.goto (-113), 3) := by decide +kernel
theorem dL_tides_170 : decode cL_tides 170 = .ok (.aload_n 0, 1) := by decide +kernel
theorem dL_tides_171 : decode cL_tides 171 = .ok (.iload 4, 2) := by decide +kernel
theorem dL_tides_173 : decode cL_tides 173 = .ok (.invokestatic 276, 3) := by decide +kernel
theorem dL_tides_176 : decode cL_tides 176 = .ok (.iload 5, 2) := by decide +kernel
theorem dL_tides_178 : decode cL_tides 178 = .ok (.if_icmp .ne 68, 3) := by decide +kernel
theorem dL_tides_181 : decode cL_tides 181 = .ok (.aload_n 0, 1) := by decide +kernel
theorem dL_tides_182 : decode cL_tides 182 = .ok (.iload 4, 2) := by decide +kernel
theorem dL_tides_184 : decode cL_tides 184 = .ok (.invokestatic 278, 3) := by decide +kernel
theorem dL_tides_187 : decode cL_tides 187 = .ok (.iload 6, 2) := by decide +kernel
theorem dL_tides_189 : decode cL_tides 189 = .ok (.if_icmp .ne 57, 3) := by decide +kernel
theorem dL_tides_192 : decode cL_tides 192 = .ok (.aload_n 0, 1) := by decide +kernel
theorem dL_tides_193 : decode cL_tides 193 = .ok (.iload 4, 2) := by decide +kernel
theorem dL_tides_195 : decode cL_tides 195 = .ok (.invokestatic 280, 3) := by decide +kernel
theorem dL_tides_198 : decode cL_tides 198 = .ok (.iload 7, 2) := by decide +kernel
theorem dL_tides_200 : decode cL_tides 200 = .ok (.if_icmp .ne 46, 3) := by decide +kernel
theorem dL_tides_203 : decode cL_tides 203 = .ok (.aload_n 0, 1) := by decide +kernel
theorem dL_tides_204 : decode cL_tides 204 = .ok (.iload 4, 2) := by decide +kernel
theorem dL_tides_206 : decode cL_tides 206 = .ok (.invokestatic 282, 3) := by decide +kernel
theorem dL_tides_209 : decode cL_tides 209 = .ok (.iload 8, 2) := by decide +kernel
theorem dL_tides_211 : decode cL_tides 211 = .ok (.if_icmp .ne 35, 3) := by decide +kernel
theorem dL_tides_214 : decode cL_tides 214 = .ok (.aload_n 0, 1) := by decide +kernel
theorem dL_tides_215 : decode cL_tides 215 = .ok (.iload 4, 2) := by decide +kernel
theorem dL_tides_217 : decode cL_tides 217 = .ok (.sipush 145, 3) := by decide +kernel
theorem dL_tides_220 : decode cL_tides 220 = .ok (.invokestatic 272, 3) := by decide +kernel
theorem dL_tides_223 : decode cL_tides 223 = .ok (.sipush (-1012), 3) := by decide +kernel
theorem dL_tides_226 : decode cL_tides 226 = .ok (.if_icmp .ne 20, 3) := by decide +kernel
theorem dL_tides_229 : decode cL_tides 229 = .ok (.aload_n 0, 1) := by decide +kernel
theorem dL_tides_230 : decode cL_tides 230 = .ok (.iload 4, 2) := by decide +kernel
theorem dL_tides_232 : decode cL_tides 232 = .ok (.iconst (-1), 1) := by decide +kernel
theorem dL_tides_233 : decode cL_tides 233 = .ok (.invokestatic 274, 3) := by decide +kernel
theorem dL_tides_236 : decode cL_tides 236 = .ok (.sipush (-1012), 3) := by decide +kernel
theorem dL_tides_239 : decode cL_tides 239 = .ok (.if_icmp .ne 7, 3) := by decide +kernel
theorem dL_tides_242 : decode cL_tides 242 = .ok (.iconst 1, 1) := by decide +kernel
theorem dL_tides_243 : decode cL_tides 243 = .ok (.goto 4, 3) := by decide +kernel
theorem dL_tides_246 : decode cL_tides 246 = .ok (.iconst 0, 1) := by decide +kernel
theorem dL_tides_247 : decode cL_tides 247 = .ok (.istore 11, 2) := by decide +kernel
theorem dL_tides_249 : decode cL_tides 249 = .ok (.iload 11, 2) := by decide +kernel
theorem dL_tides_251 : decode cL_tides 251 = .ok (.ifCond .ne 5, 3) := by decide +kernel
theorem dL_tides_254 : decode cL_tides 254 = .ok (.iconst 0, 1) := by decide +kernel
theorem dL_tides_255 : decode cL_tides 255 = .ok (.ireturn, 1) := by decide +kernel
theorem dL_tides_256 : decode cL_tides 256 = .ok (.iload 6, 2) := by decide +kernel
theorem dL_tides_258 : decode cL_tides 258 = .ok (.aload_n 0, 1) := by decide +kernel
theorem dL_tides_259 : decode cL_tides 259 = .ok (.iload_n 2, 1) := by decide +kernel
theorem dL_tides_260 : decode cL_tides 260 = .ok (.invokestatic 278, 3) := by decide +kernel
theorem dL_tides_263 : decode cL_tides 263 = .ok (.if_icmp .le 8, 3) := by decide +kernel
theorem dL_tides_266 : decode cL_tides 266 = .ok (.iload 4, 2) := by decide +kernel
theorem dL_tides_268 : decode cL_tides 268 = .ok (.goto 4, 3) := by decide +kernel
theorem dL_tides_271 : decode cL_tides 271 = .ok (.iload_n 2, 1) := by decide +kernel
theorem dL_tides_272 : decode cL_tides 272 = .ok (.istore_n 2, 1) := by decide +kernel
theorem dL_tides_273 : decode cL_tides 273 = .ok (.iload_n 3, 1) := by decide +kernel
theorem dL_tides_274 : decode cL_tides 274 = .ok (.iload 6, 2) := by decide +kernel
theorem dL_tides_276 : decode cL_tides 276 = .ok (.iadd, 1) := by decide +kernel
theorem dL_tides_277 : decode cL_tides 277 = .ok (.istore_n 3, 1) := by decide +kernel
theorem dL_tides_278 : decode cL_tides 278 = .ok (.iinc 4 1, 3) := by decide +kernel
theorem dL_tides_281 : decode cL_tides 281 = .ok (.goto (-274), 3) := by decide +kernel
theorem dL_tides_284 : decode cL_tides 284 = .ok (.aload_n 0, 1) := by decide +kernel
theorem dL_tides_285 : decode cL_tides 285 = .ok (.invokevirtual 284, 3) := by decide +kernel
theorem dL_tides_288 : decode cL_tides 288 = .ok (.iload_n 2, 1) := by decide +kernel
theorem dL_tides_289 : decode cL_tides 289 = .ok (.if_icmp .ne 100, 3) := by decide +kernel
theorem dL_tides_292 : decode cL_tides 292 = .ok (.aload_n 0, 1) := by decide +kernel
theorem dL_tides_293 : decode cL_tides 293 = .ok (.invokevirtual 287, 3) := by decide +kernel
theorem dL_tides_296 : decode cL_tides 296 = .ok (.iload_n 3, 1) := by decide +kernel
theorem dL_tides_297 : decode cL_tides 297 = .ok (.i2d, 1) := by decide +kernel
theorem dL_tides_298 : decode cL_tides 298 = .ok (.ldc2_w 291, 3) := by decide +kernel
theorem dL_tides_301 : decode cL_tides 301 = .ok (.ddiv, 1) := by decide +kernel
theorem dL_tides_302 : decode cL_tides 302 = .ok (.dcmp .l, 1) := by decide +kernel
theorem dL_tides_303 : decode cL_tides 303 = .ok (.ifCond .ne 86, 3) := by decide +kernel
theorem dL_tides_306 : decode cL_tides 306 = .ok (.aload_n 0, 1) := by decide +kernel
theorem dL_tides_307 : decode cL_tides 307 = .ok (.bipush 12, 2) := by decide +kernel
theorem dL_tides_309 : decode cL_tides 309 = .ok (.invokestatic 276, 3) := by decide +kernel
theorem dL_tides_312 : decode cL_tides 312 = .ok (.sipush (-1011), 3) := by decide +kernel
theorem dL_tides_315 : decode cL_tides 315 = .ok (.if_icmp .ne 74, 3) := by decide +kernel
theorem dL_tides_318 : decode cL_tides 318 = .ok (.aload_n 0, 1) := by decide +kernel
theorem dL_tides_319 : decode cL_tides 319 = .ok (.iconst (-1), 1) := by decide +kernel
theorem dL_tides_320 : decode cL_tides 320 = .ok (.invokestatic 278, 3) := by decide +kernel
theorem dL_tides_323 : decode cL_tides 323 = .ok (.sipush (-1011), 3) := by decide +kernel
theorem dL_tides_326 : decode cL_tides 326 = .ok (.if_icmp .ne 63, 3) := by decide +kernel
theorem dL_tides_329 : decode cL_tides 329 = .ok (.aload_n 0, 1) := by decide +kernel
theorem dL_tides_330 : decode cL_tides 330 = .ok (.bipush 12, 2) := by decide +kernel
theorem dL_tides_332 : decode cL_tides 332 = .ok (.sipush 999, 3) := by decide +kernel
theorem dL_tides_335 : decode cL_tides 335 = .ok (.invokestatic 272, 3) := by decide +kernel
theorem dL_tides_338 : decode cL_tides 338 = .ok (.sipush (-1011), 3) := by decide +kernel
theorem dL_tides_341 : decode cL_tides 341 = .ok (.if_icmp .ne 48, 3) := by decide +kernel
theorem dL_tides_344 : decode cL_tides 344 = .ok (.aload_n 0, 1) := by decide +kernel
theorem dL_tides_345 : decode cL_tides 345 = .ok (.iconst (-1), 1) := by decide +kernel
theorem dL_tides_346 : decode cL_tides 346 = .ok (.iconst 0, 1) := by decide +kernel
theorem dL_tides_347 : decode cL_tides 347 = .ok (.invokestatic 274, 3) := by decide +kernel
theorem dL_tides_350 : decode cL_tides 350 = .ok (.sipush (-1011), 3) := by decide +kernel
theorem dL_tides_353 : decode cL_tides 353 = .ok (.if_icmp .ne 36, 3) := by decide +kernel
theorem dL_tides_356 : decode cL_tides 356 = .ok (.aload_n 0, 1) := by decide +kernel
theorem dL_tides_357 : decode cL_tides 357 = .ok (.bipush 12, 2) := by decide +kernel
theorem dL_tides_359 : decode cL_tides 359 = .ok (.invokestatic 280, 3) := by decide +kernel
theorem dL_tides_362 : decode cL_tides 362 = .ok (.bipush (-11), 2) := by decide +kernel
theorem dL_tides_364 : decode cL_tides 364 = .ok (.if_icmp .ne 25, 3) := by decide +kernel
theorem dL_tides_367 : decode cL_tides 367 = .ok (.aload_n 0, 1) := by decide +kernel
theorem dL_tides_368 : decode cL_tides 368 = .ok (.bipush 12, 2) := by decide +kernel
theorem dL_tides_370 : decode cL_tides 370 = .ok (.invokestatic 282, 3) := by decide +kernel
theorem dL_tides_373 : decode cL_tides 373 = .ok (.bipush (-11), 2) := by decide +kernel
theorem dL_tides_375 : decode cL_tides 375 = .ok (.if_icmp .ne 14, 3) := by decide +kernel
theorem dL_tides_378 : decode cL_tides 378 = .ok (.aload_n 0, 1) := by decide +kernel
theorem dL_tides_379 : decode cL_tides 379 = .ok (.invokevirtual 293, 3) := by decide +kernel
theorem dL_tides_382 : decode cL_tides 382 = .ok (.ifCond .eq 7, 3) := by decide +kernel
theorem dL_tides_385 : decode cL_tides 385 = .ok (.iconst 1, 1) := by decide +kernel
theorem dL_tides_386 : decode cL_tides 386 = .ok (.goto 4, 3) := by decide +kernel
theorem dL_tides_389 : decode cL_tides 389 = .ok (.iconst 0, 1) := by decide +kernel
theorem dL_tides_390 : decode cL_tides 390 = .ok (.ireturn, 1) := by decide +kernel
set_option maxRecDepth 20000 in
theorem ggL_met_X5_moonCount : GoodIn wsL_met wsX5_moonCount := goodIn_ca (goodIn_r _ [5, 6, 7, 8, 9, 10, 11, 12, 13, 14, 15, 16, 17, 18, 126, 127, 128, 129, 130, 131, 132, 133, 134, 135, 136, 137] (by decide +kernel) (by decide +kernel)) (goodIn_sub (fun _ h => List.mem_cons_of_mem _ (List.mem_append_left _ (List.mem_append_left _ (List.mem_append_left _ (List.mem_append_right _ h))))) (by decide +kernel))
set_option maxRecDepth 20000 in
theorem gL_met_X5_moonCount : GoodIn wsL_met (wsV RL 213 RX5 yX5_moonCount wsX5_moonCount) := goodIn_app (goodIn_of _ (by decide +kernel)) ggL_met_X5_moonCount
set_option maxRecDepth 20000 in
theorem ggL_met_L_plugPosition : GoodIn wsL_met wsL_plugPosition := goodIn_ca (goodIn_ca (goodIn_r _ [22, 23, 24, 25, 26, 4, 27, 6, 28, 29, 30, 31, 32, 33, 34, 35, 36, 10, 37, 38, 39, 40, 41, 12, 13, 14, 15, 16, 17, 18, 42, 126, 127, 128, 129, 130, 131, 132, 133, 134, 135, 136, 137] (by decide +kernel) (by decide +kernel)) (goodIn_sub (fun _ h => List.mem_cons_of_mem _ (List.mem_append_left _ (List.mem_append_left _ (List.mem_append_right _ h)))) (by decide +kernel))) (goodIn_sub (fun _ h => List.mem_cons_of_mem _ (List.mem_append_left _ (List.mem_append_left _ (List.mem_append_left _ (List.mem_append_right _ h))))) (by decide +kernel))
set_option maxRecDepth 20000 in
theorem gL_met_L_plugPosition : GoodIn wsL_met (va_wsS RL 204 yL_plugPosition wsL_plugPosition) := goodIn_app (goodIn_of _ (by decide +kernel)) ggL_met_L_plugPosition
set_option maxRecDepth 20000 in
theorem ggL_met_L_isDark : GoodIn wsL_met wsL_isDark := goodIn_ca (goodIn_ca (goodIn_ca (goodIn_r _ [45, 46, 47, 48, 49, 19, 20, 21, 22, 23, 24, 25, 26, 4, 27, 6, 28, 29, 30, 31, 32, 33, 34, 35, 36, 10, 37, 38, 39, 40, 41, 12, 13, 14, 15, 16, 17, 18, 42, 50, 51, 52, 53, 54, 55, 56, 57, 58, 126, 127, 128, 129, 130, 131, 132, 133, 134, 135, 136, 137] (by decide +kernel) (by decide +kernel)) (goodIn_sub (fun _ h => List.mem_cons_of_mem _ (List.mem_append_left _ (List.mem_append_left _ (List.mem_append_right _ h)))) (by decide +kernel))) (goodIn_sub (fun _ h => List.mem_cons_of_mem _ (List.mem_append_left _ (List.mem_append_left _ (List.mem_append_left _ (List.mem_append_right _ h))))) (by decide +kernel))) (goodIn_sub (fun _ h => List.mem_cons_of_mem _ (List.mem_append_left _ (List.mem_append_right _ h))) (by decide +kernel))
set_option maxRecDepth 20000 in
theorem gL_met_L_isDark : GoodIn wsL_met (va_wsS RL 216 yL_isDark wsL_isDark) := goodIn_app (goodIn_of _ (by decide +kernel)) ggL_met_L_isDark
set_option maxRecDepth 20000 in
theorem ggL_met_L_eclipseIn : GoodIn wsL_met wsL_eclipseIn := goodIn_ca (goodIn_ca (goodIn_ca (goodIn_ca (goodIn_r _ [61, 62, 63, 64, 65, 4, 66, 6, 67, 68, 69, 70, 71, 72, 73, 74, 75, 10, 76, 77, 8, 9, 11, 12, 13, 14, 15, 16, 17, 18, 28, 29, 30, 31, 32, 33, 34, 35, 36, 37, 38, 39, 40, 41, 78, 79, 80, 81, 82, 83, 84, 85, 86, 87, 88, 89, 90, 91, 92, 93, 94, 95, 96, 97, 98, 99, 126, 127, 128, 129, 130, 131, 132, 133, 134, 135, 136, 137] (by decide +kernel) (by decide +kernel)) (goodIn_sub (fun _ h => List.mem_cons_of_mem _ (List.mem_append_right _ h)) (by decide +kernel))) (goodIn_sub (fun _ h => List.mem_cons_of_mem _ (List.mem_append_left _ (List.mem_append_left _ (List.mem_append_left _ (List.mem_append_right _ h))))) (by decide +kernel))) (goodIn_sub (fun _ h => List.mem_cons_of_mem _ (List.mem_append_left _ (List.mem_append_left _ (List.mem_append_right _ h)))) (by decide +kernel))) (goodIn_sub (fun _ h => List.mem_cons_of_mem _ (List.mem_append_left _ (List.mem_append_right _ h))) (by decide +kernel))
set_option maxRecDepth 20000 in
theorem gL_met_L_eclipseIn : GoodIn wsL_met (va_wsS RL 297 yL_eclipseIn wsL_eclipseIn) := goodIn_app (goodIn_of _ (by decide +kernel)) ggL_met_L_eclipseIn
set_option maxRecDepth 20000 in
theorem ggL_met_L_placeIn : GoodIn wsL_met wsL_placeIn := goodIn_ca (goodIn_ca (goodIn_r _ [52, 53, 54, 55, 4, 56, 6, 57, 58, 14, 15, 16, 17, 18, 126, 127, 128, 129, 130, 131, 132, 133, 134, 135, 136, 137] (by decide +kernel) (by decide +kernel)) (goodIn_sub (fun _ h => List.mem_cons_of_mem _ (List.mem_append_left _ (List.mem_append_left _ (List.mem_append_left _ (List.mem_append_right _ h))))) (by decide +kernel))) (goodIn_sub (fun _ h => List.mem_cons_of_mem _ (List.mem_append_left _ (List.mem_append_right _ h))) (by decide +kernel))
set_option maxRecDepth 20000 in
theorem gL_met_L_placeIn : GoodIn wsL_met (va_wsS RL 206 yL_placeIn wsL_placeIn) := goodIn_app (goodIn_of _ (by decide +kernel)) ggL_met_L_placeIn
set_option maxRecDepth 20000 in
theorem ggL_met_L_conjunctionIn : GoodIn wsL_met wsL_conjunctionIn := goodIn_ca (goodIn_ca (goodIn_ca (goodIn_ca (goodIn_r _ [102, 62, 103, 104, 105, 4, 106, 6, 67, 68, 69, 70, 71, 72, 73, 74, 75, 10, 76, 77, 8, 9, 11, 12, 13, 14, 15, 16, 17, 18, 107, 108, 80, 109, 83, 84, 85, 86, 87, 88, 89, 90, 91, 92, 93, 94, 110, 111, 112, 32, 33, 126, 127, 128, 129, 130, 131, 132, 133, 134, 135, 136, 137] (by decide +kernel) (by decide +kernel)) (goodIn_sub (fun _ h => List.mem_cons_of_mem _ (List.mem_append_right _ h)) (by decide +kernel))) (goodIn_sub (fun _ h => List.mem_cons_of_mem _ (List.mem_append_left _ (List.mem_append_left _ (List.mem_append_left _ (List.mem_append_right _ h))))) (by decide +kernel))) (goodIn_sub (fun _ h => List.mem_cons_of_mem _ (List.mem_append_left _ (List.mem_append_right _ h))) (by decide +kernel))) (goodIn_sub (fun _ h => List.mem_cons_of_mem _ (List.mem_append_left _ (List.mem_append_left _ (List.mem_append_right _ h)))) (by decide +kernel))
set_option maxRecDepth 20000 in
theorem gL_met_L_conjunctionIn : GoodIn wsL_met (va_wsS RL 299 yL_conjunctionIn wsL_conjunctionIn) := goodIn_app (goodIn_of _ (by decide +kernel)) ggL_met_L_conjunctionIn
set_option maxRecDepth 20000 in
theorem ggL_met_L_conjunctionByMoves : GoodIn wsL_met wsL_conjunctionByMoves := goodIn_ca (goodIn_ca (goodIn_ca (goodIn_ca (goodIn_r _ [115, 62, 116, 117, 118, 4, 119, 6, 67, 68, 69, 70, 71, 72, 73, 74, 75, 10, 76, 77, 8, 9, 11, 12, 13, 14, 15, 16, 17, 18, 120, 121, 80, 122, 123, 124, 48, 125, 83, 84, 85, 86, 87, 88, 89, 90, 91, 92, 93, 94, 95, 96, 97, 98, 99, 110, 111, 112, 32, 33, 126, 127, 128, 129, 130, 131, 132, 133, 134, 135, 136, 137] (by decide +kernel) (by decide +kernel)) (goodIn_sub (fun _ h => List.mem_cons_of_mem _ (List.mem_append_right _ h)) (by decide +kernel))) (goodIn_sub (fun _ h => List.mem_cons_of_mem _ (List.mem_append_left _ (List.mem_append_left _ (List.mem_append_left _ (List.mem_append_right _ h))))) (by decide +kernel))) (goodIn_sub (fun _ h => List.mem_cons_of_mem _ (List.mem_append_left _ (List.mem_append_right _ h))) (by decide +kernel))) (goodIn_sub (fun _ h => List.mem_cons_of_mem _ (List.mem_append_left _ (List.mem_append_left _ (List.mem_append_right _ h)))) (by decide +kernel))
set_option maxRecDepth 20000 in
theorem gL_met_L_conjunctionByMoves : GoodIn wsL_met (va_wsS RL 301 yL_conjunctionByMoves wsL_conjunctionByMoves) := goodIn_app (goodIn_of _ (by decide +kernel)) ggL_met_L_conjunctionByMoves
theorem dL_met_0 : decode cL_met 0 = .ok (.aload_n 0, 1) := by decide +kernel
theorem dL_met_1 : decode cL_met 1 = .ok (.invokevirtual 213, 3) := by decide +kernel
theorem dL_met_4 : decode cL_met 4 = .ok (.istore_n 2, 1) := by decide +kernel
theorem dL_met_5 : decode cL_met 5 = .ok (.iconst 0, 1) := by decide +kernel
theorem dL_met_6 : decode cL_met 6 = .ok (.istore_n 3, 1) := by decide +kernel
theorem dL_met_7 : decode cL_met 7 = .ok (.iload_n 3, 1) := by decide +kernel
theorem dL_met_8 : decode cL_met 8 = .ok (.iload_n 2, 1) := by decide +kernel
theorem dL_met_9 : decode cL_met 9 = .ok (.if_icmp .ge 153, 3) := by decide +kernel
theorem dL_met_12 : decode cL_met 12 = .ok (.iconst 0, 1) := by decide +kernel
theorem dL_met_13 : decode cL_met 13 = .ok (.istore 4, 2) := by decide +kernel
theorem dL_met_15 : decode cL_met 15 = .ok (.aload_n 0, 1) := by decide +kernel
theorem dL_met_16 : decode cL_met 16 = .ok (.invokestatic 204, 3) := by decide +kernel
theorem dL_met_19 : decode cL_met 19 = .ok (.ifCond .lt 21, 3) := by decide +kernel
theorem dL_met_22 : decode cL_met 22 = .ok (.aload_n 0, 1) := by decide +kernel
theorem dL_met_23 : decode cL_met 23 = .ok (.aload_n 1, 1) := by decide +kernel
theorem dL_met_24 : decode cL_met 24 = .ok (.iload_n 3, 1) := by decide +kernel
theorem dL_met_25 : decode cL_met 25 = .ok (.aaload, 1) := by decide +kernel
theorem dL_met_26 : decode cL_met 26 = .ok (.iload 4, 2) := by decide +kernel
theorem dL_met_28 : decode cL_met 28 = .ok (.invokestatic 216, 3) := by decide +kernel
theorem dL_met_31 : decode cL_met 31 = .ok (.ifCond .ne 9, 3) := by decide +kernel
theorem dL_met_34 : decode cL_met 34 = .ok (.iinc 4 1, 3) := by decide +kernel
theorem dL_met_37 : decode cL_met 37 = .ok (.goto (-22), 3) := by decide +kernel
theorem dL_met_40 : decode cL_met 40 = .ok (.aload_n 0, 1) := by decide +kernel
theorem dL_met_41 : decode cL_met 41 = .ok (.iload_n 3, 1) := by decide +kernel
theorem dL_met_42 : decode cL_met 42 = .ok (.invokestatic 297, 3) := by decide +kernel
theorem dL_met_45 : decode cL_met 45 = .ok (.aload_n 0, 1) := by decide +kernel
theorem dL_met_46 : decode cL_met 46 = .ok (.invokestatic 204, 3) := by decide +kernel
theorem dL_met_49 : decode cL_met 49 = .ok (.ifCond .ge 8, 3) := by decide +kernel
theorem dL_met_52 : decode cL_met 52 = .ok (.bipush (-13), 2) := by decide +kernel
theorem dL_met_54 : decode cL_met 54 = .ok (.goto 5, 3) := by decide +kernel
theorem dL_met_57 : decode cL_met 57 = .ok (.iload 4, 2) := by decide +kernel
theorem dL_met_59 : decode cL_met 59 = .ok (.if_icmp .eq 5, 3) := by decide +kernel
theorem dL_met_62 : decode cL_met 62 = .ok (.iconst 0, 1) := by decide +kernel
theorem dL_met_63 : decode cL_met 63 = .ok (.ireturn, 1) := by decide +kernel
theorem dL_met_64 : decode cL_met 64 = .ok (.iconst 0, 1) := by decide +kernel
theorem dL_met_65 : decode cL_met 65 = .ok (.istore 5, 2) := by decide +kernel
theorem dL_met_67 : decode cL_met 67 = .ok (.iload 5, 2) := by decide +kernel
theorem dL_met_69 : decode cL_met 69 = .ok (.iload_n 2, 1) := by decide +kernel
theorem dL_met_70 : decode cL_met 70 = .ok (.if_icmp .ge 86, 3) := by decide +kernel
theorem dL_met_73 : decode cL_met 73 = .ok (.bipush (-13), 2) := by decide +kernel
theorem dL_met_75 : decode cL_met 75 = .ok (.istore 6, 2) := by decide +kernel
theorem dL_met_77 : decode cL_met 77 = .ok (.sipush 2000, 3) := by decide +kernel
theorem dL_met_80 : decode cL_met 80 = .ok (.istore 7, 2) := by decide +kernel
theorem dL_met_82 : decode cL_met 82 = .ok (.iload 7, 2) := by decide +kernel
theorem dL_met_84 : decode cL_met 84 = .ok (.ifCond .lt 40, 3) := by decide +kernel
theorem dL_met_87 : decode cL_met 87 = .ok (.aload_n 0, 1) := by decide +kernel
theorem dL_met_88 : decode cL_met 88 = .ok (.aload_n 1, 1) := by decide +kernel
theorem dL_met_89 : decode cL_met 89 = .ok (.iload_n 3, 1) := by decide +kernel
theorem dL_met_90 : decode cL_met 90 = .ok (.aaload, 1) := by decide +kernel
theorem dL_met_91 : decode cL_met 91 = .ok (.iload 7, 2) := by decide +kernel
theorem dL_met_93 : decode cL_met 93 = .ok (.invokestatic 206, 3) := by decide +kernel
theorem dL_met_96 : decode cL_met 96 = .ok (.aload_n 0, 1) := by decide +kernel
theorem dL_met_97 : decode cL_met 97 = .ok (.aload_n 1, 1) := by decide +kernel
theorem dL_met_98 : decode cL_met 98 = .ok (.iload 5, 2) := by decide +kernel
theorem dL_met_100 : decode cL_met 100 = .ok (.aaload, 1) := by decide +kernel
theorem dL_met_101 : decode cL_met 101 = .ok (.iload 7, 2) := by decide +kernel
theorem dL_met_103 : decode cL_met 103 = .ok (.invokestatic 206, 3) := by decide +kernel
theorem dL_met_106 : decode cL_met 106 = .ok (.if_icmp .ne 8, 3) := by decide +kernel
theorem dL_met_109 : decode cL_met 109 = .ok (.iload 7, 2) := by decide +kernel
theorem dL_met_111 : decode cL_met 111 = .ok (.goto 5, 3) := by decide +kernel
theorem dL_met_114 : decode cL_met 114 = .ok (.iload 6, 2) := by decide +kernel
theorem dL_met_116 : decode cL_met 116 = .ok (.istore 6, 2) := by decide +kernel
theorem dL_met_118 : decode cL_met 118 = .ok (.iinc 7 (-1), 3) := by decide +kernel
theorem dL_met_121 : decode cL_met 121 = .ok (.goto (-39), 3) := by decide +kernel
theorem dL_met_124 : decode cL_met 124 = .ok (.aload_n 0, 1) := by decide +kernel
theorem dL_met_125 : decode cL_met 125 = .ok (.iload_n 3, 1) := by decide +kernel
theorem dL_met_126 : decode cL_met 126 = .ok (.iload 5, 2) := by decide +kernel
theorem dL_met_128 : decode cL_met 128 = .ok (.invokestatic 299, 3) := by decide +kernel
theorem dL_met_131 : decode cL_met 131 = .ok (.iload 6, 2) := by decide +kernel
theorem dL_met_133 : decode cL_met 133 = .ok (.if_icmp .ne 15, 3) := by decide +kernel
theorem dL_met_136 : decode cL_met 136 = .ok (.aload_n 0, 1) := by decide +kernel
theorem dL_met_137 : decode cL_met 137 = .ok (.iload_n 3, 1) := by decide +kernel
theorem dL_met_138 : decode cL_met 138 = .ok (.iload 5, 2) := by decide +kernel
theorem dL_met_140 : decode cL_met 140 = .ok (.invokestatic 301, 3) := by decide +kernel
theorem dL_met_143 : decode cL_met 143 = .ok (.iload 6, 2) := by decide +kernel
theorem dL_met_145 : decode cL_met 145 = .ok (.if_icmp .eq 5, 3) := by decide +kernel
theorem dL_met_148 : decode cL_met 148 = .ok (.iconst 0, 1) := by decide +kernel
theorem dL_met_149 : decode cL_met 149 = .ok (.ireturn, 1) := by decide +kernel
theorem dL_met_150 : decode cL_met 150 = .ok (.iinc 5 1, 3) := by decide +kernel
theorem dL_met_153 : decode cL_met 153 = .ok (.goto (-86), 3) := by decide +kernel
theorem dL_met_156 : decode cL_met 156 = .ok (.iinc 3 1, 3) := by decide +kernel
theorem dL_met_159 : decode cL_met 159 = .ok (.goto (-152), 3) := by decide +kernel
theorem dL_met_162 : decode cL_met 162 = .ok (.aload_n 0, 1) := by decide +kernel
theorem dL_met_163 : decode cL_met 163 = .ok (.iload_n 2, 1) := by decide +kernel
theorem dL_met_164 : decode cL_met 164 = .ok (.invokestatic 297, 3) := by decide +kernel
theorem dL_met_167 : decode cL_met 167 = .ok (.bipush (-11), 2) := by decide +kernel
theorem dL_met_169 : decode cL_met 169 = .ok (.if_icmp .ne 29, 3) := by decide +kernel
theorem dL_met_172 : decode cL_met 172 = .ok (.aload_n 0, 1) := by decide +kernel
theorem dL_met_173 : decode cL_met 173 = .ok (.iconst 0, 1) := by decide +kernel
theorem dL_met_174 : decode cL_met 174 = .ok (.iload_n 2, 1) := by decide +kernel
theorem dL_met_175 : decode cL_met 175 = .ok (.invokestatic 299, 3) := by decide +kernel
theorem dL_met_178 : decode cL_met 178 = .ok (.bipush (-11), 2) := by decide +kernel
theorem dL_met_180 : decode cL_met 180 = .ok (.if_icmp .ne 18, 3) := by decide +kernel
theorem dL_met_183 : decode cL_met 183 = .ok (.aload_n 0, 1) := by decide +kernel
theorem dL_met_184 : decode cL_met 184 = .ok (.iconst (-1), 1) := by decide +kernel
theorem dL_met_185 : decode cL_met 185 = .ok (.iconst 0, 1) := by decide +kernel
theorem dL_met_186 : decode cL_met 186 = .ok (.invokestatic 301, 3) := by decide +kernel
theorem dL_met_189 : decode cL_met 189 = .ok (.bipush (-11), 2) := by decide +kernel
theorem dL_met_191 : decode cL_met 191 = .ok (.if_icmp .ne 7, 3) := by decide +kernel
theorem dL_met_194 : decode cL_met 194 = .ok (.iconst 1, 1) := by decide +kernel
theorem dL_met_195 : decode cL_met 195 = .ok (.goto 4, 3) := by decide +kernel
theorem dL_met_198 : decode cL_met 198 = .ok (.iconst 0, 1) := by decide +kernel
theorem dL_met_199 : decode cL_met 199 = .ok (.ireturn, 1) := by decide +kernel
set_option maxRecDepth 20000 in
theorem ggL_spells_J0_length_8abf5 : GoodIn wsL_spells wsJ0_length_8abf5 := goodIn_r _ [5, 6, 7, 8, 9, 4, 10, 11, 12, 91, 92, 93, 94] (by decide +kernel) (by decide +kernel)
set_option maxRecDepth 20000 in
theorem gL_spells_J0_length_8abf5 : GoodIn wsL_spells (wsV RL 148 RJ0 yJ0_length_8abf5 wsJ0_length_8abf5) := goodIn_app (goodIn_of _ (by decide +kernel)) ggL_spells_J0_length_8abf5
set_option maxRecDepth 20000 in
theorem ggL_spells_L_lineAt : GoodIn wsL_spells wsL_lineAt := goodIn_ca (goodIn_r _ [16, 17, 18, 19, 20, 21, 22, 23, 24, 25, 26, 27, 28, 29, 30, 31, 32, 33, 34, 35, 36, 37, 38, 39, 40, 41, 42, 43, 44, 45, 46, 47, 48, 49, 50, 51, 52, 53, 4, 54, 55, 56, 57, 58, 59, 60, 61, 62, 63, 64, 65, 66, 67, 68, 69, 95, 96, 97, 98, 99, 100, 101, 102, 103, 104, 105, 106, 107, 108] (by decide +kernel) (by decide +kernel)) (goodIn_sub (fun _ h => List.mem_cons_of_mem _ (List.mem_append_right _ h)) (by decide +kernel))
set_option maxRecDepth 20000 in
theorem gL_spells_L_lineAt : GoodIn wsL_spells (va_wsS RL 303 yL_lineAt wsL_lineAt) := goodIn_app (goodIn_of _ (by decide +kernel)) ggL_spells_L_lineAt
set_option maxRecDepth 20000 in
theorem ggL_spells_J0_charAt_5068e : GoodIn wsL_spells wsJ0_charAt_5068e := goodIn_r _ [73, 6, 74, 75, 76, 4, 77, 11, 12, 78, 79, 80, 81, 82, 53, 54, 55, 56, 57, 58, 59, 83, 84, 62, 85, 86, 87, 88, 67, 68, 69, 89, 90, 61, 63, 64, 65, 66, 91, 92, 93, 94] (by decide +kernel) (by decide +kernel)
set_option maxRecDepth 20000 in
theorem gL_spells_J0_charAt_5068e : GoodIn wsL_spells (wsV RL 153 RJ0 yJ0_charAt_5068e wsJ0_charAt_5068e) := goodIn_app (goodIn_of _ (by decide +kernel)) ggL_spells_J0_charAt_5068e
theorem dL_spells_0 : decode cL_spells 0 = .ok (.iload_n 1, 1) := by decide +kernel
theorem dL_spells_1 : decode cL_spells 1 = .ok (.aload_n 2, 1) := by decide +kernel
theorem dL_spells_2 : decode cL_spells 2 = .ok (.invokevirtual 148, 3) := by decide +kernel
theorem dL_spells_5 : decode cL_spells 5 = .ok (.if_icmp .ne 7, 3) := by decide +kernel
theorem dL_spells_8 : decode cL_spells 8 = .ok (.iconst 1, 1) := by decide +kernel
theorem dL_spells_9 : decode cL_spells 9 = .ok (.goto 4, 3) := by decide +kernel
theorem dL_spells_12 : decode cL_spells 12 = .ok (.iconst 0, 1) := by decide +kernel
theorem dL_spells_13 : decode cL_spells 13 = .ok (.istore_n 3, 1) := by decide +kernel
theorem dL_spells_14 : decode cL_spells 14 = .ok (.iconst 0, 1) := by decide +kernel
theorem dL_spells_15 : decode cL_spells 15 = .ok (.istore 4, 2) := by decide +kernel
theorem dL_spells_17 : decode cL_spells 17 = .ok (.iload 4, 2) := by decide +kernel
theorem dL_spells_19 : decode cL_spells 19 = .ok (.aload_n 2, 1) := by decide +kernel
theorem dL_spells_20 : decode cL_spells 20 = .ok (.invokevirtual 148, 3) := by decide +kernel
theorem dL_spells_23 : decode cL_spells 23 = .ok (.if_icmp .ge 34, 3) := by decide +kernel
theorem dL_spells_26 : decode cL_spells 26 = .ok (.iload_n 3, 1) := by decide +kernel
theorem dL_spells_27 : decode cL_spells 27 = .ok (.ifCond .eq 30, 3) := by decide +kernel
theorem dL_spells_30 : decode cL_spells 30 = .ok (.aload_n 0, 1) := by decide +kernel
theorem dL_spells_31 : decode cL_spells 31 = .ok (.iload 4, 2) := by decide +kernel
theorem dL_spells_33 : decode cL_spells 33 = .ok (.invokestatic 303, 3) := by decide +kernel
theorem dL_spells_36 : decode cL_spells 36 = .ok (.aload_n 2, 1) := by decide +kernel
theorem dL_spells_37 : decode cL_spells 37 = .ok (.iload 4, 2) := by decide +kernel
theorem dL_spells_39 : decode cL_spells 39 = .ok (.invokevirtual 153, 3) := by decide +kernel
theorem dL_spells_42 : decode cL_spells 42 = .ok (.if_icmp .ne 7, 3) := by decide +kernel
theorem dL_spells_45 : decode cL_spells 45 = .ok (.iconst 1, 1) := by decide +kernel
theorem dL_spells_46 : decode cL_spells 46 = .ok (.goto 4, 3) := by decide +kernel
theorem dL_spells_49 : decode cL_spells 49 = .ok (.iconst 0, 1) := by decide +kernel
theorem dL_spells_50 : decode cL_spells 50 = .ok (.istore_n 3, 1) := by decide +kernel
theorem dL_spells_51 : decode cL_spells 51 = .ok (.iinc 4 1, 3) := by decide +kernel
theorem dL_spells_54 : decode cL_spells 54 = .ok (.goto (-37), 3) := by decide +kernel
theorem dL_spells_57 : decode cL_spells 57 = .ok (.iload_n 3, 1) := by decide +kernel
theorem dL_spells_58 : decode cL_spells 58 = .ok (.ifCond .eq 17, 3) := by decide +kernel
theorem dL_spells_61 : decode cL_spells 61 = .ok (.aload_n 0, 1) := by decide +kernel
theorem dL_spells_62 : decode cL_spells 62 = .ok (.iload_n 1, 1) := by decide +kernel
theorem dL_spells_63 : decode cL_spells 63 = .ok (.invokestatic 303, 3) := by decide +kernel
theorem dL_spells_66 : decode cL_spells 66 = .ok (.bipush (-11), 2) := by decide +kernel
theorem dL_spells_68 : decode cL_spells 68 = .ok (.if_icmp .ne 7, 3) := by decide +kernel
theorem dL_spells_71 : decode cL_spells 71 = .ok (.iconst 1, 1) := by decide +kernel
theorem dL_spells_72 : decode cL_spells 72 = .ok (.goto 4, 3) := by decide +kernel
theorem dL_spells_75 : decode cL_spells 75 = .ok (.iconst 0, 1) := by decide +kernel
theorem dL_spells_76 : decode cL_spells 76 = .ok (.ireturn, 1) := by decide +kernel
set_option maxRecDepth 20000 in
theorem ggL_lines_J4_init_da8c8 : GoodIn wsL_lines wsJ4_init_da8c8 := goodIn_r _ [6, 7, 8, 9, 10, 11, 12, 13, 14, 15, 16, 17, 18, 19, 20, 21, 22, 23, 24, 25, 516, 517, 518, 519] (by decide +kernel) (by decide +kernel)
set_option maxRecDepth 20000 in
theorem gL_lines_J4_init_da8c8 : GoodIn wsL_lines (wsJ4_init_da8c8) := ggL_lines_J4_init_da8c8
set_option maxRecDepth 20000 in
theorem ggL_lines_J4_append_15ec4 : GoodIn wsL_lines wsJ4_append_15ec4 := goodIn_r _ [29, 30, 31, 32, 33, 9, 34, 35, 36, 37, 38, 39, 40, 16, 41, 42, 43, 44, 45, 17, 46, 47, 48, 49, 50, 51, 52, 53, 54, 55, 56, 57, 58, 59, 60, 61, 62, 63, 64, 65, 66, 67, 68, 69, 70, 71, 72, 73, 15, 74, 75, 76, 77, 78, 79, 80, 81, 82, 83, 84, 85, 14, 86, 87, 20, 88, 89, 90, 91, 92, 93, 94, 95, 96, 97, 98, 99, 100, 101, 102, 103, 104, 105, 106, 107, 108, 109, 110, 111, 112, 113, 114, 115, 116, 117, 118, 119, 120, 121, 122, 123, 124, 125, 126, 127, 128, 129, 130, 131, 132, 133, 134, 135, 136, 18, 19, 21, 22, 23, 24, 25, 137, 138, 139, 140, 141, 142, 143, 144, 145, 146, 147, 148, 149, 150, 151, 152, 153, 154, 155, 156, 157, 158, 516, 517, 518, 519, 520, 521, 522, 523] (by decide +kernel) (by decide +kernel)
set_option maxRecDepth 20000 in
theorem gL_lines_J4_append_15ec4 : GoodIn wsL_lines (wsV RL 310 RJ4 yJ4_append_15ec4 wsJ4_append_15ec4) := goodIn_app (goodIn_of _ (by decide +kernel)) ggL_lines_J4_append_15ec4
set_option maxRecDepth 20000 in
theorem ggL_lines_X5_levelAt : GoodIn wsL_lines wsX5_levelAt := goodIn_ca (goodIn_ca (goodIn_ca (goodIn_r _ [163, 164, 165, 166, 162, 167, 168, 169, 170, 171, 172, 173, 174, 175, 176, 177, 178, 179, 57, 58, 59, 180, 181, 182, 183, 184, 185, 186, 187, 188, 189, 190, 191, 192, 193, 194, 195, 196, 197, 198, 199, 200, 201, 202, 203, 204, 205, 206, 207, 208, 209, 210, 211, 212, 213, 214, 215, 216, 217, 218, 219, 220, 221, 222, 223, 224, 225, 226, 227, 228, 229, 230, 231, 232, 75, 76, 233, 234, 235, 236, 237, 238, 239, 240, 241, 524, 525, 526, 527, 528, 529, 530, 531, 532, 533, 534, 535] (by decide +kernel) (by decide +kernel)) (goodIn_sub (fun _ h => List.mem_cons_of_mem _ (List.mem_append_left _ (List.mem_append_left _ (List.mem_append_right _ h)))) (by decide +kernel))) (goodIn_sub (fun _ h => List.mem_cons_of_mem _ (List.mem_append_left _ (List.mem_append_left _ (List.mem_append_left _ (List.mem_append_right _ h))))) (by decide +kernel))) (goodIn_sub (fun _ h => List.mem_cons_of_mem _ (List.mem_append_left _ (List.mem_append_right _ h))) (by decide +kernel))
set_option maxRecDepth 20000 in
theorem gL_lines_X5_levelAt : GoodIn wsL_lines (wsV RL 101 RX5 yX5_levelAt wsX5_levelAt) := goodIn_app (goodIn_of _ (by decide +kernel)) ggL_lines_X5_levelAt
set_option maxRecDepth 20000 in
theorem ggL_lines_J4_append_bf812 : GoodIn wsL_lines wsJ4_append_bf812 := goodIn_r _ [245, 246, 247, 32, 248, 9, 249, 35, 16, 250, 251, 252, 253, 41, 42, 43, 44, 45, 17, 46, 47, 48, 49, 50, 51, 52, 53, 54, 55, 56, 57, 58, 59, 60, 61, 62, 63, 64, 65, 66, 67, 68, 69, 70, 71, 72, 73, 15, 74, 75, 76, 77, 78, 79, 80, 81, 82, 83, 84, 85, 14, 254, 255, 256, 257, 258, 259, 260, 20, 261, 89, 90, 91, 92, 93, 94, 95, 96, 97, 98, 99, 100, 101, 102, 103, 104, 262, 263, 264, 265, 266, 105, 106, 107, 108, 109, 516, 517, 518, 519] (by decide +kernel) (by decide +kernel)
set_option maxRecDepth 20000 in
theorem gL_lines_J4_append_bf812 : GoodIn wsL_lines (wsV RL 316 RJ4 yJ4_append_bf812 wsJ4_append_bf812) := goodIn_app (goodIn_of _ (by decide +kernel)) ggL_lines_J4_append_bf812
set_option maxRecDepth 20000 in
theorem ggL_lines_X5_hasToe : GoodIn wsL_lines wsX5_hasToe := goodIn_ca (goodIn_ca (goodIn_r _ [270, 164, 165, 166, 162, 167, 168, 169, 170, 171, 172, 173, 271, 238, 239, 240, 178, 241, 180, 181, 182, 183, 184, 185, 524, 525, 526, 527, 528, 529, 530, 531, 532, 533, 534, 535] (by decide +kernel) (by decide +kernel)) (goodIn_sub (fun _ h => List.mem_cons_of_mem _ (List.mem_append_left _ (List.mem_append_left _ (List.mem_append_right _ h)))) (by decide +kernel))) (goodIn_sub (fun _ h => List.mem_cons_of_mem _ (List.mem_append_left _ (List.mem_append_left _ (List.mem_append_left _ (List.mem_append_right _ h))))) (by decide +kernel))
