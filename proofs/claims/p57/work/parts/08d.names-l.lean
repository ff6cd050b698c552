theorem dL_isDark_30 : decode cL_isDark 30 = .ok (.ireturn, 1) := by decide +kernel
set_option maxRecDepth 20000 in
theorem ggL_tide_X5_moonCount : GoodIn wsL_tide wsX5_moonCount := goodIn_ca (goodIn_r _ [9, 10, 11, 12, 13, 14, 15, 16, 17, 18, 19, 20, 21, 22, 82, 83, 84, 85, 86, 87, 88, 89, 90, 91, 92, 93] (by decide +kernel) (by decide +kernel)) (goodIn_sub (fun _ h => List.mem_cons_of_mem _ (List.mem_append_left _ (List.mem_append_left _ (List.mem_append_left _ (List.mem_append_right _ h))))) (by decide +kernel))
set_option maxRecDepth 20000 in
theorem gL_tide_X5_moonCount : GoodIn wsL_tide (wsV RL 213 RX5 yX5_moonCount wsX5_moonCount) := goodIn_app (goodIn_of _ (by decide +kernel)) ggL_tide_X5_moonCount
set_option maxRecDepth 20000 in
theorem ggL_tide_L_placeIn : GoodIn wsL_tide wsL_placeIn := goodIn_ca (goodIn_ca (goodIn_r _ [26, 27, 28, 29, 8, 30, 10, 31, 32, 18, 19, 20, 21, 22, 82, 83, 84, 85, 86, 87, 88, 89, 90, 91, 92, 93] (by decide +kernel) (by decide +kernel)) (goodIn_sub (fun _ h => List.mem_cons_of_mem _ (List.mem_append_left _ (List.mem_append_left _ (List.mem_append_left _ (List.mem_append_right _ h))))) (by decide +kernel))) (goodIn_sub (fun _ h => List.mem_cons_of_mem _ (List.mem_append_left _ (List.mem_append_left _ (List.mem_append_right _ h)))) (by decide +kernel))
set_option maxRecDepth 20000 in
theorem gL_tide_L_placeIn : GoodIn wsL_tide (va_wsS RL 206 yL_placeIn wsL_placeIn) := goodIn_app (goodIn_of _ (by decide +kernel)) ggL_tide_L_placeIn
set_option maxRecDepth 20000 in
theorem ggL_tide_L_isDark : GoodIn wsL_tide wsL_isDark := goodIn_ca (goodIn_ca (goodIn_ca (goodIn_r _ [35, 1, 2, 3, 4, 36, 37, 25, 38, 39, 40, 41, 42, 8, 43, 10, 44, 45, 46, 47, 48, 49, 50, 51, 52, 14, 53, 54, 55, 56, 57, 16, 17, 18, 19, 20, 21, 22, 58, 23, 24, 26, 27, 28, 29, 30, 31, 32, 82, 83, 84, 85, 86, 87, 88, 89, 90, 91, 92, 93] (by decide +kernel) (by decide +kernel)) (goodIn_sub (fun _ h => List.mem_cons_of_mem _ (List.mem_append_left _ (List.mem_append_right _ h))) (by decide +kernel))) (goodIn_sub (fun _ h => List.mem_cons_of_mem _ (List.mem_append_left _ (List.mem_append_left _ (List.mem_append_left _ (List.mem_append_right _ h))))) (by decide +kernel))) (goodIn_sub (fun _ h => List.mem_cons_of_mem _ (List.mem_append_left _ (List.mem_append_left _ (List.mem_append_right _ h)))) (by decide +kernel))
set_option maxRecDepth 20000 in
theorem gL_tide_L_isDark : GoodIn wsL_tide (va_wsS RL 216 yL_isDark wsL_isDark) := goodIn_app (goodIn_of _ (by decide +kernel)) ggL_tide_L_isDark
set_option maxRecDepth 20000 in
theorem ggL_tide_L_massIn : GoodIn wsL_tide wsL_massIn := goodIn_ca (goodIn_r _ [61, 62, 63, 3, 64, 27, 28, 29, 8, 30, 10, 31, 32, 18, 19, 20, 21, 22, 82, 83, 84, 85, 86, 87, 88, 89, 90, 91, 92, 93] (by decide +kernel) (by decide +kernel)) (goodIn_sub (fun _ h => List.mem_cons_of_mem _ (List.mem_append_left _ (List.mem_append_left _ (List.mem_append_left _ (List.mem_append_right _ h))))) (by decide +kernel))
set_option maxRecDepth 20000 in
theorem gL_tide_L_massIn : GoodIn wsL_tide (va_wsS RL 220 yL_massIn wsL_massIn) := goodIn_app (goodIn_of _ (by decide +kernel)) ggL_tide_L_massIn
set_option maxRecDepth 20000 in
theorem ggL_tide_X5_hasToe : GoodIn wsL_tide wsX5_hasToe := goodIn_ca (goodIn_ca (goodIn_r _ [68, 10, 69, 70, 8, 71, 72, 73, 74, 75, 14, 76, 77, 78, 79, 80, 16, 81, 17, 18, 19, 20, 21, 22, 82, 83, 84, 85, 86, 87, 88, 89, 90, 91, 92, 93] (by decide +kernel) (by decide +kernel)) (goodIn_sub (fun _ h => List.mem_cons_of_mem _ (List.mem_append_right _ h)) (by decide +kernel))) (goodIn_sub (fun _ h => List.mem_cons_of_mem _ (List.mem_append_left _ (List.mem_append_left _ (List.mem_append_left _ (List.mem_append_right _ h))))) (by decide +kernel))
set_option maxRecDepth 20000 in
theorem gL_tide_X5_hasToe : GoodIn wsL_tide (wsV RL 78 RX5 yX5_hasToe wsX5_hasToe) := goodIn_app (goodIn_of _ (by decide +kernel)) ggL_tide_X5_hasToe
theorem dL_tide_0 : decode cL_tide 0 = .ok (.iconst 0, 1) := by decide +kernel
theorem dL_tide_1 : decode cL_tide 1 = .ok (.istore 4, 2) := by decide +kernel
theorem dL_tide_3 : decode cL_tide 3 = .ok (.iconst 0, 1) := by decide +kernel
theorem dL_tide_4 : decode cL_tide 4 = .ok (.istore 5, 2) := by decide +kernel
theorem dL_tide_6 : decode cL_tide 6 = .ok (.iload 5, 2) := by decide +kernel
theorem dL_tide_8 : decode cL_tide 8 = .ok (.aload_n 0, 1) := by decide +kernel
theorem dL_tide_9 : decode cL_tide 9 = .ok (.invokevirtual 213, 3) := by decide +kernel
theorem dL_tide_12 : decode cL_tide 12 = .ok (.if_icmp .ge 79, 3) := by decide +kernel
theorem dL_tide_15 : decode cL_tide 15 = .ok (.iload_n 2, 1) := by decide +kernel
theorem dL_tide_16 : decode cL_tide 16 = .ok (.aload_n 0, 1) := by decide +kernel
theorem dL_tide_17 : decode cL_tide 17 = .ok (.aload_n 1, 1) := by decide +kernel
theorem dL_tide_18 : decode cL_tide 18 = .ok (.iload 5, 2) := by decide +kernel
theorem dL_tide_20 : decode cL_tide 20 = .ok (.aaload, 1) := by decide +kernel
theorem dL_tide_21 : decode cL_tide 21 = .ok (.iload_n 3, 1) := by decide +kernel
theorem dL_tide_22 : decode cL_tide 22 = .ok (.invokestatic 206, 3) := by decide +kernel
theorem dL_tide_25 : decode cL_tide 25 = .ok (.isub, 1) := by decide +kernel
theorem dL_tide_26 : decode cL_tide 26 = .ok (.invokestatic 210, 3) := by decide +kernel
theorem dL_tide_29 : decode cL_tide 29 = .ok (.istore 6, 2) := by decide +kernel
theorem dL_tide_31 : decode cL_tide 31 = .ok (.iload 6, 2) := by decide +kernel
theorem dL_tide_33 : decode cL_tide 33 = .ok (.bipush 6, 2) := by decide +kernel
theorem dL_tide_35 : decode cL_tide 35 = .ok (.if_icmp .le 11, 3) := by decide +kernel
theorem dL_tide_38 : decode cL_tide 38 = .ok (.bipush 12, 2) := by decide +kernel
theorem dL_tide_40 : decode cL_tide 40 = .ok (.iload 6, 2) := by decide +kernel
theorem dL_tide_42 : decode cL_tide 42 = .ok (.isub, 1) := by decide +kernel
theorem dL_tide_43 : decode cL_tide 43 = .ok (.goto 5, 3) := by decide +kernel
theorem dL_tide_46 : decode cL_tide 46 = .ok (.iload 6, 2) := by decide +kernel
theorem dL_tide_48 : decode cL_tide 48 = .ok (.istore 6, 2) := by decide +kernel
theorem dL_tide_50 : decode cL_tide 50 = .ok (.iload 4, 2) := by decide +kernel
theorem dL_tide_52 : decode cL_tide 52 = .ok (.aload_n 0, 1) := by decide +kernel
theorem dL_tide_53 : decode cL_tide 53 = .ok (.aload_n 1, 1) := by decide +kernel
theorem dL_tide_54 : decode cL_tide 54 = .ok (.iload 5, 2) := by decide +kernel
theorem dL_tide_56 : decode cL_tide 56 = .ok (.aaload, 1) := by decide +kernel
theorem dL_tide_57 : decode cL_tide 57 = .ok (.iload_n 3, 1) := by decide +kernel
theorem dL_tide_58 : decode cL_tide 58 = .ok (.invokestatic 216, 3) := by decide +kernel
theorem dL_tide_61 : decode cL_tide 61 = .ok (.ifCond .eq 7, 3) := by decide +kernel
theorem dL_tide_64 : decode cL_tide 64 = .ok (.iconst 0, 1) := by decide +kernel
theorem dL_tide_65 : decode cL_tide 65 = .ok (.goto 17, 3) := by decide +kernel
theorem dL_tide_68 : decode cL_tide 68 = .ok (.aload_n 0, 1) := by decide +kernel
theorem dL_tide_69 : decode cL_tide 69 = .ok (.aload_n 1, 1) := by decide +kernel
theorem dL_tide_70 : decode cL_tide 70 = .ok (.iload 5, 2) := by decide +kernel
theorem dL_tide_72 : decode cL_tide 72 = .ok (.aaload, 1) := by decide +kernel
theorem dL_tide_73 : decode cL_tide 73 = .ok (.iload_n 3, 1) := by decide +kernel
theorem dL_tide_74 : decode cL_tide 74 = .ok (.invokestatic 220, 3) := by decide +kernel
theorem dL_tide_77 : decode cL_tide 77 = .ok (.iconst 3, 1) := by decide +kernel
theorem dL_tide_78 : decode cL_tide 78 = .ok (.iload 6, 2) := by decide +kernel
theorem dL_tide_80 : decode cL_tide 80 = .ok (.isub, 1) := by decide +kernel
theorem dL_tide_81 : decode cL_tide 81 = .ok (.imul, 1) := by decide +kernel
theorem dL_tide_82 : decode cL_tide 82 = .ok (.iadd, 1) := by decide +kernel
theorem dL_tide_83 : decode cL_tide 83 = .ok (.istore 4, 2) := by decide +kernel
theorem dL_tide_85 : decode cL_tide 85 = .ok (.iinc 5 1, 3) := by decide +kernel
theorem dL_tide_88 : decode cL_tide 88 = .ok (.goto (-82), 3) := by decide +kernel
theorem dL_tide_91 : decode cL_tide 91 = .ok (.aload_n 0, 1) := by decide +kernel
theorem dL_tide_92 : decode cL_tide 92 = .ok (.iload_n 2, 1) := by decide +kernel
theorem dL_tide_93 : decode cL_tide 93 = .ok (.invokevirtual 78, 3) := by decide +kernel
theorem dL_tide_96 : decode cL_tide 96 = .ok (.ifCond .eq 10, 3) := by decide +kernel
theorem dL_tide_99 : decode cL_tide 99 = .ok (.iload 4, 2) := by decide +kernel
theorem dL_tide_101 : decode cL_tide 101 = .ok (.iconst 2, 1) := by decide +kernel
theorem dL_tide_102 : decode cL_tide 102 = .ok (.idiv, 1) := by decide +kernel
theorem dL_tide_103 : decode cL_tide 103 = .ok (.goto 5, 3) := by decide +kernel
theorem dL_tide_106 : decode cL_tide 106 = .ok (.iload 4, 2) := by decide +kernel
theorem dL_tide_108 : decode cL_tide 108 = .ok (.ireturn, 1) := by decide +kernel
set_option maxRecDepth 20000 in
theorem gz3_h : GoodIn wsL_law [.code yL_drawn cL_drawn 8 (some (.object "BathtubTides"))] := goodIn_r _ [4] (by decide +kernel) (by decide +kernel)
set_option maxRecDepth 20000 in
theorem gz3_0 : GoodIn wsL_law wsL_drawn_r1 := goodIn_r _ [5, 6, 7, 8, 9, 10, 11, 12, 13, 14, 15, 16, 17, 18, 19, 20, 21, 22, 23, 24, 25, 26, 27, 28] (by decide +kernel) (by decide +kernel)
set_option maxRecDepth 20000 in
theorem gz3_1 : GoodIn wsL_law wsL_drawn_r2 := goodIn_r _ [29, 30, 31, 32, 33, 34, 35, 36, 37, 38, 39, 40, 41, 42, 43, 44, 45, 46, 47, 48, 49, 50, 51, 52] (by decide +kernel) (by decide +kernel)
set_option maxRecDepth 20000 in
theorem gz3_2 : GoodIn wsL_law wsL_drawn_r3 := goodIn_r _ [53, 54, 55, 56, 57, 58, 59, 60, 61, 62, 63, 64, 65, 66, 67, 68, 69, 70, 71, 72, 73, 74, 75, 76] (by decide +kernel) (by decide +kernel)
set_option maxRecDepth 20000 in
theorem gz3_3 : GoodIn wsL_law wsL_drawn_r4 := goodIn_r _ [77, 78, 79, 80, 81, 82, 83, 84, 85, 86, 87, 88, 89, 90, 91, 92, 93, 94, 95, 96, 97, 98, 99, 100] (by decide +kernel) (by decide +kernel)
set_option maxRecDepth 20000 in
theorem gz3_4 : GoodIn wsL_law wsL_drawn_r5 := goodIn_r _ [101, 102, 103, 104, 105, 106, 107, 108, 3, 109, 110, 111, 112, 113, 114, 115, 116, 117, 118, 119, 120, 121, 122, 123] (by decide +kernel) (by decide +kernel)
set_option maxRecDepth 20000 in
theorem gz3_5 : GoodIn wsL_law wsL_drawn_r6 := goodIn_r _ [124, 125, 126, 127, 128, 129, 130, 131, 132, 133, 134, 135, 136, 137, 138, 139, 140, 141, 142, 143, 144, 145, 146, 147] (by decide +kernel) (by decide +kernel)
set_option maxRecDepth 20000 in
theorem gz3_6 : GoodIn wsL_law wsL_drawn_r7 := goodIn_r _ [148, 149, 150, 151, 152, 153, 154, 155, 156, 157, 158, 159, 160, 161, 162, 163, 164, 165, 166, 167, 168, 169, 170, 171] (by decide +kernel) (by decide +kernel)
set_option maxRecDepth 20000 in
theorem gz3_7 : GoodIn wsL_law wsL_drawn_r8 := goodIn_r _ [172, 173, 174, 175, 176, 177, 178, 179, 180, 181, 182, 183, 184, 185, 186, 187, 188, 189, 190, 191, 192, 193, 194, 195] (by decide +kernel) (by decide +kernel)
set_option maxRecDepth 20000 in
theorem gz3_8 : GoodIn wsL_law wsL_drawn_r9 := goodIn_r _ [196, 197, 198, 199, 200, 201, 202, 203, 204, 205, 206, 207, 208, 209, 210, 211, 212, 213, 214, 215, 216, 217, 218, 219] (by decide +kernel) (by decide +kernel)
set_option maxRecDepth 20000 in
theorem gz3_9 : GoodIn wsL_law wsL_drawn_r10 := goodIn_r _ [220, 221, 222, 223, 224, 225, 226, 227, 228, 229, 230, 231, 232, 233, 234, 235, 236, 237, 238, 239, 240, 241, 242, 243] (by decide +kernel) (by decide +kernel)
set_option maxRecDepth 20000 in
theorem gz3_10 : GoodIn wsL_law wsL_drawn_r11 := goodIn_r _ [244, 245, 246, 247, 248, 249, 250, 251, 252, 253, 254, 255, 256, 257, 258, 259, 260, 261, 262, 263, 264, 265, 266, 267] (by decide +kernel) (by decide +kernel)
set_option maxRecDepth 20000 in
theorem gz3_11 : GoodIn wsL_law wsL_drawn_r12 := goodIn_r _ [268, 269, 270, 271, 272, 273, 274, 275, 276, 277, 278, 279, 280, 281, 282, 283, 284, 285, 286, 287, 288, 289, 290, 291] (by decide +kernel) (by decide +kernel)
set_option maxRecDepth 20000 in
theorem gz3_12 : GoodIn wsL_law wsL_drawn_r13 := goodIn_r _ [292, 293, 294, 295, 296, 297, 298, 299, 300, 301, 302, 303, 304, 305, 306, 307, 308, 309, 310, 311, 312, 313, 314, 315] (by decide +kernel) (by decide +kernel)
set_option maxRecDepth 20000 in
theorem gz3_13 : GoodIn wsL_law wsL_drawn_r14 := goodIn_r _ [316, 317, 318, 319, 320, 321, 322, 323, 324, 325, 326, 327, 328, 329, 330, 331, 332, 333, 334, 335, 336, 337, 338, 339] (by decide +kernel) (by decide +kernel)
set_option maxRecDepth 20000 in
theorem gz3_14 : GoodIn wsL_law wsL_drawn_r15 := goodIn_r _ [340, 341, 342, 343, 344, 345, 346, 347, 348, 349, 350, 351, 352, 353, 354] (by decide +kernel) (by decide +kernel)
set_option maxRecDepth 20000 in
theorem gz3_15 : GoodIn wsL_law wsX50 := goodIn_r _ [1163, 1164, 1165, 1166, 1167, 1168, 1169, 1170, 1171, 1172] (by decide +kernel) (by decide +kernel)
set_option maxRecDepth 20000 in
theorem gz3_16 : GoodIn wsL_law wsX40 := goodIn_r _ [1173] (by decide +kernel) (by decide +kernel)
set_option maxRecDepth 20000 in
theorem gz3_17 : GoodIn wsL_law wsX00 := goodIn_r _ [1174, 1175, 1176] (by decide +kernel) (by decide +kernel)
set_option maxRecDepth 20000 in
theorem gz3_18 : GoodIn wsL_law wsX10 := goodIn_r _ [1177, 1178, 1179] (by decide +kernel) (by decide +kernel)
set_option maxRecDepth 20000 in
theorem gz3_19 : GoodIn wsL_law wsX30 := goodIn_r _ [1180, 1181, 1182, 1183, 1184] (by decide +kernel) (by decide +kernel)
set_option maxRecDepth 20000 in
theorem gz3_20 : GoodIn wsL_law wsJ40 := goodIn_r _ [1185, 1186, 1187, 1188] (by decide +kernel) (by decide +kernel)
set_option maxRecDepth 20000 in
theorem gz3_21 : GoodIn wsL_law wsX20 := goodIn_r _ [1189] (by decide +kernel) (by decide +kernel)
set_option maxRecDepth 20000 in
theorem ggL_law_L_drawn : GoodIn wsL_law wsL_drawn := goodIn_ca (goodIn_ca (goodIn_ca (goodIn_ca (goodIn_ca (goodIn_app gz3_h (goodIn_app (goodIn_app (goodIn_app (goodIn_app (goodIn_app (goodIn_app (goodIn_app (goodIn_app gz3_0 (goodIn_app gz3_1 (goodIn_app gz3_2 (goodIn_app gz3_3 (goodIn_app gz3_4 (goodIn_app gz3_5 (goodIn_app gz3_6 (goodIn_app gz3_7 (goodIn_app gz3_8 (goodIn_app gz3_9 (goodIn_app gz3_10 (goodIn_app gz3_11 (goodIn_app gz3_12 (goodIn_app gz3_13 gz3_14)))))))))))))) gz3_15) gz3_16) gz3_17) gz3_18) gz3_19) gz3_20) gz3_21)) (goodIn_sub (fun _ h => List.mem_append_left _ (List.mem_append_left _ (List.mem_append_left _ (List.mem_append_left _ (List.mem_append_left _ (List.mem_append_left _ (List.mem_append_right _ h))))))) (by decide +kernel))) (goodIn_sub (fun _ h => List.mem_append_left _ (List.mem_append_left _ (List.mem_append_left _ (List.mem_append_left _ (List.mem_append_left _ (List.mem_append_right _ h)))))) (by decide +kernel))) (goodIn_sub (fun _ h => List.mem_append_left _ (List.mem_append_left _ (List.mem_append_left _ (List.mem_append_left _ (List.mem_append_right _ h))))) (by decide +kernel))) (goodIn_sub (fun _ h => List.mem_append_left _ (List.mem_append_left _ (List.mem_append_left _ (List.mem_append_right _ h)))) (by decide +kernel))) (goodIn_sub (fun _ h => List.mem_append_left _ (List.mem_append_left _ (List.mem_append_right _ h))) (by decide +kernel))
set_option maxRecDepth 20000 in
theorem gL_law_L_drawn : GoodIn wsL_law (va_wsS RL 225 yL_drawn wsL_drawn) := goodIn_app (goodIn_of _ (by decide +kernel)) ggL_law_L_drawn
set_option maxRecDepth 20000 in
theorem ggL_law_L_moved : GoodIn wsL_law wsL_moved := goodIn_ca (goodIn_ca (goodIn_ca (goodIn_ca (goodIn_ca (goodIn_r _ [357, 358, 359, 360, 7, 361, 18, 362, 150, 151, 17, 152, 48, 153, 117, 118, 37, 119, 53, 363, 364, 3, 365, 366, 260, 160, 261, 367, 368, 369, 370, 371, 372, 373, 374, 375, 376, 377, 378, 379, 380, 381, 382, 383, 384, 337, 338, 339, 340, 385, 386, 387, 388, 111, 112, 113, 114, 115, 116, 389, 390, 391, 281, 392, 393, 394, 395, 396, 397, 398, 399, 289, 290, 400, 401, 402, 403, 149, 404, 241, 242, 243, 228, 229, 230, 231, 244, 245, 246, 247, 405, 406, 407, 408, 409, 410, 411, 412, 225, 226, 227, 209, 210, 211, 232, 233, 234, 235, 236, 237, 238, 239, 413, 414, 415, 416, 417, 418, 419, 420, 421, 422, 423, 424, 425, 426, 427, 428, 429, 430, 431, 432, 433, 434, 435, 436, 437, 438, 439, 440, 441, 442, 443, 444, 445, 446, 447, 253, 254, 255, 256, 257, 258, 259, 208, 159, 161, 448, 449, 450, 451, 452, 453, 1163, 1164, 1165, 1166, 1167, 1168, 1169, 1170, 1171, 1172, 1173, 1189] (by decide +kernel) (by decide +kernel)) (goodIn_sub (fun _ h => List.mem_append_left _ (List.mem_append_left _ (List.mem_append_left _ (List.mem_append_left _ (List.mem_append_left _ (List.mem_append_left _ (List.mem_append_right _ h))))))) (by decide +kernel))) (goodIn_sub (fun _ h => List.mem_append_left _ (List.mem_append_right _ h)) (by decide +kernel))) (goodIn_sub (fun _ h => List.mem_append_left _ (List.mem_append_left _ (List.mem_append_left _ (List.mem_append_right _ h)))) (by decide +kernel))) (goodIn_sub (fun _ h => List.mem_append_left _ (List.mem_append_left _ (List.mem_append_right _ h))) (by decide +kernel))) (goodIn_sub (fun _ h => List.mem_append_right _ h) (by decide +kernel))
set_option maxRecDepth 20000 in
theorem gL_law_L_moved : GoodIn wsL_law (va_wsS RL 229 yL_moved wsL_moved) := goodIn_app (goodIn_of _ (by decide +kernel)) ggL_law_L_moved
set_option maxRecDepth 20000 in
theorem gz4_h : GoodIn wsL_law [.code yL_tides cL_tides 13 (some .boolean)] := goodIn_r _ [456] (by decide +kernel) (by decide +kernel)
set_option maxRecDepth 20000 in
theorem gz4_0 : GoodIn wsL_law wsL_tides_r1 := goodIn_r _ [416, 210, 160, 211, 457, 159, 161, 458, 459, 460, 3, 461, 366, 260, 261, 358, 359, 360, 7, 361, 18, 362, 150, 151] (by decide +kernel) (by decide +kernel)
set_option maxRecDepth 20000 in
theorem gz4_1 : GoodIn wsL_law wsL_tides_r2 := goodIn_r _ [17, 152, 48, 153, 117, 118, 37, 119, 53, 386, 387, 388, 111, 112, 113, 114, 115, 116, 363, 364, 365, 367, 368, 369] (by decide +kernel) (by decide +kernel)
set_option maxRecDepth 20000 in
theorem gz4_2 : GoodIn wsL_law wsL_tides_r3 := goodIn_r _ [370, 371, 372, 373, 374, 375, 376, 377, 378, 379, 380, 381, 382, 383, 384, 337, 338, 339, 340, 385, 413, 414, 415, 462] (by decide +kernel) (by decide +kernel)
set_option maxRecDepth 20000 in
theorem gz4_3 : GoodIn wsL_law wsL_tides_r4 := goodIn_r _ [463, 464, 465, 286, 287, 288, 289, 290, 291, 143, 144, 466, 267, 268, 269, 142, 467, 468, 469, 470, 471, 472, 473, 281] (by decide +kernel) (by decide +kernel)
set_option maxRecDepth 20000 in
theorem gz4_4 : GoodIn wsL_law wsL_tides_r5 := goodIn_r _ [474, 475, 476, 477, 478, 479, 480, 135, 136, 481, 221, 222, 223, 149, 224, 225, 226, 227, 209, 228, 229, 230, 231, 232] (by decide +kernel) (by decide +kernel)
set_option maxRecDepth 20000 in
theorem gz4_5 : GoodIn wsL_law wsL_tides_r6 := goodIn_r _ [233, 234, 235, 236, 237, 238, 239, 240, 241, 242, 243, 244, 245, 246, 247, 248, 249, 250, 251, 252, 253, 254, 255, 256] (by decide +kernel) (by decide +kernel)
set_option maxRecDepth 20000 in
theorem gz4_6 : GoodIn wsL_law wsL_tides_r7 := goodIn_r _ [257, 258, 259, 208, 262, 263, 264, 265, 266, 482, 483, 484, 485, 486, 487, 488, 22, 489, 490, 491, 21, 492, 62, 63] (by decide +kernel) (by decide +kernel)
set_option maxRecDepth 20000 in
theorem gz4_7 : GoodIn wsL_law wsL_tides_r8 := goodIn_r _ [64, 493, 494, 495, 55, 56, 57, 496, 497, 498, 499, 500, 501, 502, 201, 202, 203, 166, 167, 503, 504, 505, 506, 507] (by decide +kernel) (by decide +kernel)
set_option maxRecDepth 20000 in
theorem gz4_8 : GoodIn wsL_law wsL_tides_r9 := goodIn_r _ [508, 509, 510, 511, 512, 513, 514, 515, 516, 517, 518, 519, 520, 521, 522, 523, 524, 525, 526, 220, 527, 528, 529, 530] (by decide +kernel) (by decide +kernel)
set_option maxRecDepth 20000 in
theorem gz4_9 : GoodIn wsL_law wsL_tides_r10 := goodIn_r _ [531, 532, 533, 534, 535, 536, 537, 538, 539, 540, 541, 542, 543, 544, 545, 546, 547, 548, 549, 550, 551, 552, 553, 554] (by decide +kernel) (by decide +kernel)
set_option maxRecDepth 20000 in
theorem gz4_10 : GoodIn wsL_law wsL_tides_r11 := goodIn_r _ [555, 556, 557, 558, 559, 560, 561, 562, 563, 564, 212, 213, 214, 215, 216, 217, 218, 219, 565, 566, 567, 568, 569] (by decide +kernel) (by decide +kernel)
set_option maxRecDepth 20000 in
theorem gz4_11 : GoodIn wsL_law wsX50 := goodIn_r _ [1163, 1164, 1165, 1166, 1167, 1168, 1169, 1170, 1171, 1172] (by decide +kernel) (by decide +kernel)
set_option maxRecDepth 20000 in
theorem gz4_12 : GoodIn wsL_law wsX40 := goodIn_r _ [1173] (by decide +kernel) (by decide +kernel)
set_option maxRecDepth 20000 in
theorem gz4_13 : GoodIn wsL_law wsX20 := goodIn_r _ [1189] (by decide +kernel) (by decide +kernel)
set_option maxRecDepth 20000 in
theorem gz4_14 : GoodIn wsL_law wsX00 := goodIn_r _ [1174, 1175, 1176] (by decide +kernel) (by decide +kernel)
set_option maxRecDepth 20000 in
theorem ggL_law_L_tides : GoodIn wsL_law wsL_tides := goodIn_ca (goodIn_ca (goodIn_ca (goodIn_ca (goodIn_ca (goodIn_app gz4_h (goodIn_app (goodIn_app (goodIn_app (goodIn_app (goodIn_app gz4_0 (goodIn_app gz4_1 (goodIn_app gz4_2 (goodIn_app gz4_3 (goodIn_app gz4_4 (goodIn_app gz4_5 (goodIn_app gz4_6 (goodIn_app gz4_7 (goodIn_app gz4_8 (goodIn_app gz4_9 gz4_10)))))))))) gz4_11) gz4_12) gz4_13) gz4_14)) (goodIn_sub (fun _ h => List.mem_append_left _ (List.mem_append_left _ (List.mem_append_left _ (List.mem_append_left _ (List.mem_append_left _ (List.mem_append_left _ (List.mem_append_right _ h))))))) (by decide +kernel))) (goodIn_sub (fun _ h => List.mem_append_left _ (List.mem_append_left _ (List.mem_append_left _ (List.mem_append_right _ h)))) (by decide +kernel))) (goodIn_sub (fun _ h => List.mem_append_left _ (List.mem_append_right _ h)) (by decide +kernel))) (goodIn_sub (fun _ h => List.mem_append_left _ (List.mem_append_left _ (List.mem_append_right _ h))) (by decide +kernel))) (goodIn_sub (fun _ h => List.mem_append_left _ (List.mem_append_left _ (List.mem_append_left _ (List.mem_append_left _ (List.mem_append_left _ (List.mem_append_right _ h)))))) (by decide +kernel))
set_option maxRecDepth 20000 in
theorem gL_law_L_tides : GoodIn wsL_law (va_wsS RL 233 yL_tides wsL_tides) := goodIn_app (goodIn_of _ (by decide +kernel)) ggL_law_L_tides
set_option maxRecDepth 20000 in
theorem ggL_law_L_met : GoodIn wsL_law wsL_met := goodIn_ca (goodIn_ca (goodIn_ca (goodIn_ca (goodIn_r _ [572, 358, 359, 360, 7, 361, 18, 362, 150, 151, 17, 152, 48, 153, 117, 118, 37, 119, 53, 367, 368, 3, 369, 370, 371, 372, 373, 374, 375, 376, 377, 378, 379, 380, 381, 382, 383, 384, 337, 338, 339, 340, 385, 363, 364, 365, 366, 260, 160, 261, 386, 387, 388, 111, 112, 113, 114, 115, 116, 573, 574, 575, 281, 576, 577, 578, 579, 396, 397, 398, 399, 289, 290, 400, 401, 402, 403, 149, 580, 581, 21, 582, 583, 496, 241, 242, 243, 228, 229, 230, 231, 244, 245, 246, 247, 584, 585, 586, 504, 494, 587, 588, 589, 590, 591, 592, 593, 594, 595, 596, 597, 598, 599, 600, 601, 602, 603, 604, 605, 606, 607, 608, 609, 610, 159, 161, 1163, 1164, 1165, 1166, 1167, 1168, 1169, 1170, 1171, 1172, 1173, 1189] (by decide +kernel) (by decide +kernel)) (goodIn_sub (fun _ h => List.mem_append_left _ (List.mem_append_left _ (List.mem_append_left _ (List.mem_append_left _ (List.mem_append_left _ (List.mem_append_left _ (List.mem_append_right _ h))))))) (by decide +kernel))) (goodIn_sub (fun _ h => List.mem_append_left _ (List.mem_append_right _ h)) (by decide +kernel))) (goodIn_sub (fun _ h => List.mem_append_left _ (List.mem_append_left _ (List.mem_append_left _ (List.mem_append_right _ h)))) (by decide +kernel))) (goodIn_sub (fun _ h => List.mem_append_left _ (List.mem_append_left _ (List.mem_append_right _ h))) (by decide +kernel))
set_option maxRecDepth 20000 in
theorem gL_law_L_met : GoodIn wsL_law (va_wsS RL 236 yL_met wsL_met) := goodIn_app (goodIn_of _ (by decide +kernel)) ggL_law_L_met
set_option maxRecDepth 20000 in
theorem gz5_h : GoodIn wsL_law [.code yL_lines cL_lines 5 (some .boolean)] := goodIn_r _ [613] (by decide +kernel) (by decide +kernel)
set_option maxRecDepth 20000 in
theorem gz5_0 : GoodIn wsL_law wsL_lines_r1 := goodIn_r _ [614, 32, 33, 615, 85, 86, 87, 88, 89, 90, 91, 13, 14, 92, 93, 94, 95, 96, 97, 98, 99, 100, 101, 102] (by decide +kernel) (by decide +kernel)
set_option maxRecDepth 20000 in
theorem gz5_1 : GoodIn wsL_law wsL_lines_r2 := goodIn_r _ [103, 616, 617, 618, 619, 620, 621, 622, 623, 624, 625, 626, 627, 628, 629, 630, 631, 632, 633, 634, 635, 636, 637, 638] (by decide +kernel) (by decide +kernel)
set_option maxRecDepth 20000 in
theorem gz5_2 : GoodIn wsL_law wsL_lines_r3 := goodIn_r _ [639, 640, 641, 642, 643, 644, 645, 646, 210, 160, 211, 647, 648, 649, 650, 651, 652, 653, 654, 655, 656, 657, 658, 659] (by decide +kernel) (by decide +kernel)
set_option maxRecDepth 20000 in
theorem gz5_3 : GoodIn wsL_law wsL_lines_r4 := goodIn_r _ [660, 661, 159, 161, 662, 663, 664, 665, 666, 667, 668, 669, 670, 671, 672, 673, 674, 675, 676, 677, 678, 679, 680, 681] (by decide +kernel) (by decide +kernel)
set_option maxRecDepth 20000 in
theorem gz5_4 : GoodIn wsL_law wsL_lines_r5 := goodIn_r _ [682, 683, 684, 685, 686, 687, 688, 689, 690, 691, 692, 693, 694, 695, 696, 697, 698, 699, 700, 701, 702, 703, 704, 705] (by decide +kernel) (by decide +kernel)
set_option maxRecDepth 20000 in
theorem gz5_5 : GoodIn wsL_law wsL_lines_r6 := goodIn_r _ [706, 707, 708, 709, 710, 711, 712, 713, 714, 715, 716, 717, 718, 719, 720, 721, 722, 723, 724, 725, 726, 727, 728, 729] (by decide +kernel) (by decide +kernel)
set_option maxRecDepth 20000 in
theorem gz5_6 : GoodIn wsL_law wsL_lines_r7 := goodIn_r _ [730, 731, 732, 733, 734, 735, 736, 737, 738, 739, 740, 741, 742, 743, 519, 520, 521, 7, 522, 18, 286, 287, 288, 289] (by decide +kernel) (by decide +kernel)
set_option maxRecDepth 20000 in
theorem gz5_7 : GoodIn wsL_law wsL_lines_r8 := goodIn_r _ [290, 291, 143, 17, 144, 523, 524, 525, 526, 48, 209, 153, 117, 118, 37, 119, 53, 220, 221, 222, 223, 149, 150, 151] (by decide +kernel) (by decide +kernel)
set_option maxRecDepth 20000 in
theorem gz5_8 : GoodIn wsL_law wsL_lines_r9 := goodIn_r _ [152, 224, 225, 226, 227, 228, 229, 230, 231, 232, 233, 234, 235, 236, 237, 238, 239, 240, 241, 242, 243, 244, 245, 246] (by decide +kernel) (by decide +kernel)
set_option maxRecDepth 20000 in
theorem gz5_9 : GoodIn wsL_law wsL_lines_r10 := goodIn_r _ [247, 248, 249, 250, 251, 252, 253, 254, 255, 256, 257, 258, 259, 260, 261, 208, 262, 263, 264, 265, 266, 267, 268, 269] (by decide +kernel) (by decide +kernel)
set_option maxRecDepth 20000 in
theorem gz5_10 : GoodIn wsL_law wsL_lines_r11 := goodIn_r _ [142, 744, 745, 746, 747, 748, 749, 750, 751, 752, 753, 754, 755, 756, 757, 758, 759, 760, 761, 762, 763, 764, 765, 766] (by decide +kernel) (by decide +kernel)
set_option maxRecDepth 20000 in
theorem gz5_11 : GoodIn wsL_law wsL_lines_r12 := goodIn_r _ [767, 768, 462, 463, 464, 465, 466, 367, 368, 3, 369, 370, 371, 372, 373, 374, 375, 376, 377, 378, 379, 380, 381, 382] (by decide +kernel) (by decide +kernel)
set_option maxRecDepth 20000 in
theorem gz5_12 : GoodIn wsL_law wsL_lines_r13 := goodIn_r _ [383, 384, 337, 338, 339, 340, 385, 769, 770, 771, 772, 773, 774, 775, 776, 777, 778, 779, 780, 781, 782, 783, 784, 785] (by decide +kernel) (by decide +kernel)
set_option maxRecDepth 20000 in
theorem gz5_13 : GoodIn wsL_law wsL_lines_r14 := goodIn_r _ [786, 787, 788, 789, 790, 791, 792, 793, 794, 795, 796, 797, 798, 799, 800, 801, 802, 803, 804, 805, 806, 807, 808, 809] (by decide +kernel) (by decide +kernel)
set_option maxRecDepth 20000 in
theorem gz5_14 : GoodIn wsL_law wsL_lines_r15 := goodIn_r _ [810, 811, 812, 813, 814, 815, 816, 817, 818, 819, 820, 821, 822, 823, 824, 825, 213, 214, 215, 826, 827, 828, 829, 830] (by decide +kernel) (by decide +kernel)
set_option maxRecDepth 20000 in
theorem gz5_15 : GoodIn wsL_law wsL_lines_r16 := goodIn_r _ [831, 832, 833, 834, 835, 836, 837, 212, 838, 217, 218, 219, 839, 840, 841, 842, 34, 843, 844, 845, 846, 847, 848, 849] (by decide +kernel) (by decide +kernel)
set_option maxRecDepth 20000 in
theorem gz5_16 : GoodIn wsL_law wsL_lines_r17 := goodIn_r _ [850, 851, 852, 853, 854, 855, 856, 857, 858, 859, 860, 861, 862, 863, 864, 865, 866, 867, 868, 869, 870, 871, 872, 873] (by decide +kernel) (by decide +kernel)
set_option maxRecDepth 20000 in
theorem gz5_17 : GoodIn wsL_law wsL_lines_r18 := goodIn_r _ [874, 875, 876, 877, 878, 879, 880, 881, 882, 883, 884, 885, 886, 887, 888, 889, 890, 891, 892, 893, 894, 895, 896, 897] (by decide +kernel) (by decide +kernel)
set_option maxRecDepth 20000 in
theorem gz5_18 : GoodIn wsL_law wsL_lines_r19 := goodIn_r _ [898, 899, 319, 320, 321, 216, 900, 901, 902, 903, 904, 905, 906, 907, 908, 281, 909, 910, 911, 912, 913, 914, 915, 916] (by decide +kernel) (by decide +kernel)
set_option maxRecDepth 20000 in
theorem gz5_19 : GoodIn wsL_law wsL_lines_r20 := goodIn_r _ [917, 918, 919, 920, 921, 922, 923, 924, 925, 926, 927, 928, 929, 930, 931, 932, 933, 934, 935, 936, 937, 938, 358, 359] (by decide +kernel) (by decide +kernel)
set_option maxRecDepth 20000 in
theorem gz5_20 : GoodIn wsL_law wsL_lines_r21 := goodIn_r _ [360, 361, 362, 939, 940, 941, 942, 943, 944, 945, 396, 397, 398, 399, 400, 401, 402, 403, 432, 404, 412, 447, 946, 408] (by decide +kernel) (by decide +kernel)
set_option maxRecDepth 20000 in
theorem gz5_21 : GoodIn wsL_law wsL_lines_r22 := goodIn_r _ [409, 410, 411, 392, 393, 394, 395, 443, 444, 445, 446] (by decide +kernel) (by decide +kernel)
set_option maxRecDepth 20000 in
theorem gz5_22 : GoodIn wsL_law wsJ40 := goodIn_r _ [1185, 1186, 1187, 1188] (by decide +kernel) (by decide +kernel)
set_option maxRecDepth 20000 in
theorem gz5_23 : GoodIn wsL_law wsJ00 := goodIn_r _ [1190, 1191, 1192, 1193] (by decide +kernel) (by decide +kernel)
set_option maxRecDepth 20000 in
theorem gz5_24 : GoodIn wsL_law wsX50 := goodIn_r _ [1163, 1164, 1165, 1166, 1167, 1168, 1169, 1170, 1171, 1172] (by decide +kernel) (by decide +kernel)
set_option maxRecDepth 20000 in
theorem gz5_25 : GoodIn wsL_law wsX40 := goodIn_r _ [1173] (by decide +kernel) (by decide +kernel)
set_option maxRecDepth 20000 in
theorem gz5_26 : GoodIn wsL_law wsX20 := goodIn_r _ [1189] (by decide +kernel) (by decide +kernel)
set_option maxRecDepth 20000 in
theorem gz5_27 : GoodIn wsL_law wsJx7c7330 := goodIn_r _ [1194, 1195, 1196, 1197, 1198, 1199] (by decide +kernel) (by decide +kernel)
set_option maxRecDepth 20000 in
theorem gz5_28 : GoodIn wsL_law wsJx000600 := goodIn_r _ [1200, 1201, 1202, 1203, 1204, 1205] (by decide +kernel) (by decide +kernel)
set_option maxRecDepth 20000 in
theorem ggL_law_L_lines : GoodIn wsL_law wsL_lines := goodIn_ca (goodIn_ca (goodIn_ca (goodIn_ca (goodIn_app gz5_h (goodIn_app (goodIn_app (goodIn_app (goodIn_app (goodIn_app (goodIn_app (goodIn_app (goodIn_app gz5_0 (goodIn_app gz5_1 (goodIn_app gz5_2 (goodIn_app gz5_3 (goodIn_app gz5_4 (goodIn_app gz5_5 (goodIn_app gz5_6 (goodIn_app gz5_7 (goodIn_app gz5_8 (goodIn_app gz5_9 (goodIn_app gz5_10 (goodIn_app gz5_11 (goodIn_app gz5_12 (goodIn_app gz5_13 (goodIn_app gz5_14 (goodIn_app gz5_15 (goodIn_app gz5_16 (goodIn_app gz5_17 (goodIn_app gz5_18 (goodIn_app gz5_19 (goodIn_app gz5_20 gz5_21))))))))))))))))))))) gz5_22) gz5_23) gz5_24) gz5_25) gz5_26) gz5_27) gz5_28)) (goodIn_sub (fun _ h => List.mem_append_left _ (List.mem_append_left _ (List.mem_append_left _ (List.mem_append_left _ (List.mem_append_left _ (List.mem_append_left _ (List.mem_append_right _ h))))))) (by decide +kernel))) (goodIn_sub (fun _ h => List.mem_append_left _ (List.mem_append_left _ (List.mem_append_right _ h))) (by decide +kernel))) (goodIn_sub (fun _ h => List.mem_append_left _ (List.mem_append_left _ (List.mem_append_left _ (List.mem_append_right _ h)))) (by decide +kernel))) (goodIn_sub (fun _ h => List.mem_append_left _ (List.mem_append_right _ h)) (by decide +kernel))
set_option maxRecDepth 20000 in
theorem gL_law_L_lines : GoodIn wsL_law (va_wsS RL 239 yL_lines wsL_lines) := goodIn_app (goodIn_of _ (by decide +kernel)) ggL_law_L_lines
set_option maxRecDepth 20000 in
theorem gz6_h : GoodIn wsL_law [.code yL_undone cL_undone 8 (some .boolean)] := goodIn_r _ [949] (by decide +kernel) (by decide +kernel)
set_option maxRecDepth 20000 in
theorem gz6_0 : GoodIn wsL_law wsL_undone_r1 := goodIn_r _ [950, 614, 32, 33, 107, 108, 3, 109, 110, 951, 952, 953, 954, 955, 956, 957, 958, 959, 111, 112, 113, 7, 114, 18] (by decide +kernel) (by decide +kernel)
set_option maxRecDepth 20000 in
theorem gz6_1 : GoodIn wsL_law wsL_undone_r2 := goodIn_r _ [115, 116, 117, 118, 37, 119, 53, 467, 468, 469, 470, 960, 961, 962, 963, 964, 965, 966, 967, 367, 368, 369, 370, 371] (by decide +kernel) (by decide +kernel)
set_option maxRecDepth 20000 in
theorem gz6_2 : GoodIn wsL_law wsL_undone_r3 := goodIn_r _ [372, 373, 374, 375, 376, 377, 378, 379, 380, 381, 382, 383, 17, 384, 337, 338, 339, 340, 48, 153, 385, 358, 359, 360] (by decide +kernel) (by decide +kernel)
set_option maxRecDepth 20000 in
theorem gz6_3 : GoodIn wsL_law wsL_undone_r4 := goodIn_r _ [361, 362, 150, 151, 152, 420, 421, 422, 423, 396, 397, 398, 399, 289, 290, 400, 401, 402, 403, 149, 424, 229, 230, 231] (by decide +kernel) (by decide +kernel)
set_option maxRecDepth 20000 in
theorem gz6_4 : GoodIn wsL_law wsL_undone_r5 := goodIn_r _ [392, 393, 394, 395, 404, 241, 242, 243, 228, 244, 245, 246, 247, 408, 409, 410, 411, 412, 225, 226, 227, 209, 210, 160] (by decide +kernel) (by decide +kernel)
set_option maxRecDepth 20000 in
theorem gz6_5 : GoodIn wsL_law wsL_undone_r6 := goodIn_r _ [211, 232, 233, 234, 235, 236, 237, 238, 239, 428, 429, 430, 431, 432, 436, 437, 438, 439, 821, 822, 823, 824, 825, 213] (by decide +kernel) (by decide +kernel)
set_option maxRecDepth 20000 in
theorem gz6_6 : GoodIn wsL_law wsL_undone_r7 := goodIn_r _ [214, 215, 826, 827, 828, 829, 830, 831, 832, 833, 834, 835, 836, 837, 212, 838, 217, 218, 219, 968, 969, 970, 971, 972] (by decide +kernel) (by decide +kernel)
set_option maxRecDepth 20000 in
theorem gz6_7 : GoodIn wsL_law wsL_undone_r8 := goodIn_r _ [973, 974, 975, 976, 977, 978, 979, 462, 463, 464, 465, 286, 287, 288, 291, 143, 144, 466, 267, 268, 269, 142, 120, 121] (by decide +kernel) (by decide +kernel)
set_option maxRecDepth 20000 in
theorem gz6_8 : GoodIn wsL_law wsL_undone_r9 := goodIn_r _ [122, 123, 124, 125, 126, 127, 128, 129, 130, 131, 132, 133, 134, 135, 136, 137, 138, 26, 139, 140, 141, 145, 146, 147] (by decide +kernel) (by decide +kernel)
set_option maxRecDepth 20000 in
theorem gz6_9 : GoodIn wsL_law wsL_undone_r10 := goodIn_r _ [148, 154, 155, 156, 25, 157, 70, 71, 72, 158, 159, 161, 162, 163, 164, 165, 166, 167, 55, 56, 57, 168, 169, 170] (by decide +kernel) (by decide +kernel)
set_option maxRecDepth 20000 in
theorem gz6_10 : GoodIn wsL_law wsL_undone_r11 := goodIn_r _ [171, 54, 172, 173, 174, 175, 176, 177, 178, 179, 180, 181, 182, 183, 184, 185, 980, 981, 982, 281, 983, 984, 985, 986] (by decide +kernel) (by decide +kernel)
set_option maxRecDepth 20000 in
theorem gz6_11 : GoodIn wsL_law wsL_undone_r12 := goodIn_r _ [987, 988, 989, 990, 991, 278, 279, 280, 282, 283, 284, 285, 292, 293, 294, 295, 266, 296, 297, 298, 299, 300, 301, 302] (by decide +kernel) (by decide +kernel)
set_option maxRecDepth 20000 in
theorem gz6_12 : GoodIn wsL_law wsL_undone_r13 := goodIn_r _ [303, 992, 993, 994, 995, 996, 997, 998, 999, 1000, 1001, 1002, 326, 327, 328, 329, 330, 331, 332, 333, 334, 335, 336, 1003] (by decide +kernel) (by decide +kernel)
set_option maxRecDepth 20000 in
theorem gz6_13 : GoodIn wsL_law wsL_undone_r14 := goodIn_r _ [1004, 1005, 1006, 1007, 1008, 1009, 1010, 304, 305, 306, 307, 308, 309, 310, 311, 312, 313, 314, 315, 316, 317, 318, 319, 320] (by decide +kernel) (by decide +kernel)
set_option maxRecDepth 20000 in
theorem gz6_14 : GoodIn wsL_law wsL_undone_r15 := goodIn_r _ [321, 216, 322, 323, 324, 325, 1011, 1012, 1013, 1014, 1015, 1016, 1017, 1018, 1019, 1020, 1021, 1022, 1023, 1024, 1025, 208, 200, 201] (by decide +kernel) (by decide +kernel)
set_option maxRecDepth 20000 in
theorem gz6_15 : GoodIn wsL_law wsL_undone_r16 := goodIn_r _ [202, 203, 1026, 1027, 1028, 1029, 1030, 1031, 1032, 1033, 341, 342, 343, 344, 345, 346, 347, 348, 349, 350, 351, 352, 353, 354] (by decide +kernel) (by decide +kernel)
set_option maxRecDepth 20000 in
theorem gz6_16 : GoodIn wsL_law wsL_undone_r17 := goodIn_r _ [186, 187, 188, 189, 190, 191, 192, 193, 194, 195, 196, 197, 198, 199, 204, 205, 206, 207, 220, 221, 222, 223, 224, 240] (by decide +kernel) (by decide +kernel)
set_option maxRecDepth 20000 in
theorem gz6_17 : GoodIn wsL_law wsL_undone_r18 := goodIn_r _ [248, 249, 250, 251, 252, 253, 254, 255, 256, 257, 258, 259, 260, 261, 262, 263, 264, 265, 270, 271, 272, 273, 274, 275] (by decide +kernel) (by decide +kernel)
set_option maxRecDepth 20000 in
theorem gz6_18 : GoodIn wsL_law wsL_undone_r19 := goodIn_r _ [276, 277, 615, 85, 86, 87, 88, 89, 90, 91, 13, 14, 92, 93, 94, 95, 96, 97, 98, 99, 100, 101, 102, 103] (by decide +kernel) (by decide +kernel)
set_option maxRecDepth 20000 in
theorem gz6_19 : GoodIn wsL_law wsL_undone_r20 := goodIn_r _ [616, 617, 618, 619, 620, 621, 622, 623, 624, 625, 626, 627, 628, 629, 630, 631, 632, 633, 634, 635, 636, 637, 638, 639] (by decide +kernel) (by decide +kernel)
set_option maxRecDepth 20000 in
theorem gz6_20 : GoodIn wsL_law wsL_undone_r21 := goodIn_r _ [640, 641, 642, 643, 644, 645, 646, 647, 648, 649, 650, 651, 652, 653, 654, 655, 656, 657, 658, 659, 660, 661, 662, 663] (by decide +kernel) (by decide +kernel)
set_option maxRecDepth 20000 in
theorem gz6_21 : GoodIn wsL_law wsL_undone_r22 := goodIn_r _ [664, 665, 666, 667, 668, 669, 670, 671, 672, 673, 674, 675, 676, 677, 678, 679, 680, 681, 682, 683, 684, 685, 686, 687] (by decide +kernel) (by decide +kernel)
set_option maxRecDepth 20000 in
theorem gz6_22 : GoodIn wsL_law wsL_undone_r23 := goodIn_r _ [688, 689, 690, 691, 692, 693, 694, 695, 696, 697, 698, 699, 700, 701, 702, 703, 704, 705, 706, 707, 708, 709, 710, 711] (by decide +kernel) (by decide +kernel)
set_option maxRecDepth 20000 in
theorem gz6_23 : GoodIn wsL_law wsL_undone_r24 := goodIn_r _ [712, 713, 714, 715, 716, 717, 718, 719, 720, 721, 722, 723, 724, 725, 726, 727, 728, 729, 730, 731, 732, 733, 734, 735] (by decide +kernel) (by decide +kernel)
set_option maxRecDepth 20000 in
theorem gz6_24 : GoodIn wsL_law wsL_undone_r25 := goodIn_r _ [736, 737, 738, 739, 740, 741, 742, 743, 744, 745, 746, 747, 748, 749, 750, 751, 752, 753, 754, 755, 756, 757, 758, 759] (by decide +kernel) (by decide +kernel)
set_option maxRecDepth 20000 in
theorem gz6_25 : GoodIn wsL_law wsL_undone_r26 := goodIn_r _ [760, 761, 762, 763, 764, 765, 766, 767, 768, 769, 770, 771, 772, 773, 774, 775, 776, 777, 778, 779, 780, 781, 782, 783] (by decide +kernel) (by decide +kernel)
set_option maxRecDepth 20000 in
theorem gz6_26 : GoodIn wsL_law wsL_undone_r27 := goodIn_r _ [784, 785, 786, 787, 788, 789, 790, 791, 792, 793, 794, 795, 796, 797, 798, 799, 800, 801, 802, 803, 804, 805, 806, 807] (by decide +kernel) (by decide +kernel)
set_option maxRecDepth 20000 in
theorem gz6_27 : GoodIn wsL_law wsL_undone_r28 := goodIn_r _ [808, 809, 810, 811, 812, 813, 814, 815, 816, 817, 818, 819, 820, 1034, 1035, 1036, 905, 924, 925, 926, 927, 928, 929, 930] (by decide +kernel) (by decide +kernel)
set_option maxRecDepth 20000 in
theorem gz6_28 : GoodIn wsL_law wsL_undone_r29 := goodIn_r _ [931, 932, 933, 934, 935, 889, 890, 891, 892, 893, 936, 937, 938, 885, 886, 887, 888, 1037, 1038, 1039, 1040, 1041, 1042, 1043] (by decide +kernel) (by decide +kernel)
set_option maxRecDepth 20000 in
theorem gz6_29 : GoodIn wsL_law wsL_undone_r30 := goodIn_r _ [30, 1044, 1045, 1046, 29, 1047, 78, 1048, 901, 1049, 1050, 1051, 1052, 1053, 872, 873, 874, 875, 876, 877, 878, 879, 880, 881] (by decide +kernel) (by decide +kernel)
set_option maxRecDepth 20000 in
theorem gz6_30 : GoodIn wsL_law wsL_undone_r31 := goodIn_r _ [882, 883, 884, 1054, 1055, 1056, 1057, 1058, 1059, 1060, 41, 38, 42, 1061, 1062, 1063, 1064, 81, 82, 1065, 1066, 1067, 1068, 80] (by decide +kernel) (by decide +kernel)
set_option maxRecDepth 20000 in
theorem gz6_31 : GoodIn wsL_law wsL_undone_r32 := goodIn_r _ [83, 1069, 1070, 1071, 1072, 1073, 1074, 1075, 1076, 1077, 1078, 1079, 1080, 1081, 1082, 1083, 1084, 1085, 1086, 914, 915, 916, 917, 918] (by decide +kernel) (by decide +kernel)
set_option maxRecDepth 20000 in
theorem gz6_32 : GoodIn wsL_law wsL_undone_r33 := goodIn_r _ [919, 920, 921, 922, 923, 1087, 1088, 1089, 1090, 1091, 1092, 1093, 1094, 1095, 1096, 1097, 1098, 1099, 1100, 1101, 1102, 1103, 844, 845] (by decide +kernel) (by decide +kernel)
set_option maxRecDepth 20000 in
theorem gz6_33 : GoodIn wsL_law wsL_undone_r34 := goodIn_r _ [846, 847, 848, 849, 850, 851, 852, 853, 854, 855, 856, 857, 858, 859, 860, 861, 862, 863, 864, 865, 866, 867, 868, 869] (by decide +kernel) (by decide +kernel)
set_option maxRecDepth 20000 in
theorem gz6_34 : GoodIn wsL_law wsL_undone_r35 := goodIn_r _ [870, 1104, 1105, 1106, 1107, 1108, 1109, 1110, 1111, 1112, 1113, 1114, 1115, 1116, 1117, 1118, 1119, 1120, 1121, 1122, 1123, 1124, 1125, 1126] (by decide +kernel) (by decide +kernel)
set_option maxRecDepth 20000 in
theorem gz6_35 : GoodIn wsL_law wsL_undone_r36 := goodIn_r _ [1127, 1128, 1129, 1130, 1131, 1132, 1133, 1134, 1135, 1136, 1137, 1138, 1139, 1140, 1141, 1142, 1143, 1144, 1145, 1146, 1147, 1148, 1149, 1150] (by decide +kernel) (by decide +kernel)
set_option maxRecDepth 20000 in
theorem gz6_36 : GoodIn wsL_law wsL_undone_r37 := goodIn_r _ [1151, 1152, 1153, 1154, 1155, 1156, 1157, 1158, 1159, 1160, 1161, 1162] (by decide +kernel) (by decide +kernel)
set_option maxRecDepth 20000 in
theorem gz6_37 : GoodIn wsL_law wsJ40 := goodIn_r _ [1185, 1186, 1187, 1188] (by decide +kernel) (by decide +kernel)
set_option maxRecDepth 20000 in
theorem gz6_38 : GoodIn wsL_law wsX50 := goodIn_r _ [1163, 1164, 1165, 1166, 1167, 1168, 1169, 1170, 1171, 1172] (by decide +kernel) (by decide +kernel)
set_option maxRecDepth 20000 in
theorem gz6_39 : GoodIn wsL_law wsX40 := goodIn_r _ [1173] (by decide +kernel) (by decide +kernel)
set_option maxRecDepth 20000 in
theorem gz6_40 : GoodIn wsL_law wsX20 := goodIn_r _ [1189] (by decide +kernel) (by decide +kernel)
set_option maxRecDepth 20000 in
theorem gz6_41 : GoodIn wsL_law wsX10 := goodIn_r _ [1177, 1178, 1179] (by decide +kernel) (by decide +kernel)
set_option maxRecDepth 20000 in
theorem gz6_42 : GoodIn wsL_law wsJ00 := goodIn_r _ [1190, 1191, 1192, 1193] (by decide +kernel) (by decide +kernel)
set_option maxRecDepth 20000 in
theorem gz6_43 : GoodIn wsL_law wsX30 := goodIn_r _ [1180, 1181, 1182, 1183, 1184] (by decide +kernel) (by decide +kernel)
set_option maxRecDepth 20000 in
theorem gz6_44 : GoodIn wsL_law wsJx7c7330 := goodIn_r _ [1194, 1195, 1196, 1197, 1198, 1199] (by decide +kernel) (by decide +kernel)
set_option maxRecDepth 20000 in
theorem gz6_45 : GoodIn wsL_law wsJx000600 := goodIn_r _ [1200, 1201, 1202, 1203, 1204, 1205] (by decide +kernel) (by decide +kernel)
set_option maxRecDepth 20000 in
theorem ggL_law_L_undone : GoodIn wsL_law wsL_undone := goodIn_ca (goodIn_ca (goodIn_ca (goodIn_ca (goodIn_ca (goodIn_ca (goodIn_app gz6_h (goodIn_app (goodIn_app (goodIn_app (goodIn_app (goodIn_app (goodIn_app (goodIn_app (goodIn_app (goodIn_app (goodIn_app gz6_0 (goodIn_app gz6_1 (goodIn_app gz6_2 (goodIn_app gz6_3 (goodIn_app gz6_4 (goodIn_app gz6_5 (goodIn_app gz6_6 (goodIn_app gz6_7 (goodIn_app gz6_8 (goodIn_app gz6_9 (goodIn_app gz6_10 (goodIn_app gz6_11 (goodIn_app gz6_12 (goodIn_app gz6_13 (goodIn_app gz6_14 (goodIn_app gz6_15 (goodIn_app gz6_16 (goodIn_app gz6_17 (goodIn_app gz6_18 (goodIn_app gz6_19 (goodIn_app gz6_20 (goodIn_app gz6_21 (goodIn_app gz6_22 (goodIn_app gz6_23 (goodIn_app gz6_24 (goodIn_app gz6_25 (goodIn_app gz6_26 (goodIn_app gz6_27 (goodIn_app gz6_28 (goodIn_app gz6_29 (goodIn_app gz6_30 (goodIn_app gz6_31 (goodIn_app gz6_32 (goodIn_app gz6_33 (goodIn_app gz6_34 (goodIn_app gz6_35 gz6_36)))))))))))))))))))))))))))))))))))) gz6_37) gz6_38) gz6_39) gz6_40) gz6_41) gz6_42) gz6_43) gz6_44) gz6_45)) (goodIn_sub (fun _ h => List.mem_append_left _ (List.mem_append_left _ (List.mem_append_left _ (List.mem_append_left _ (List.mem_append_left _ (List.mem_append_left _ (List.mem_append_right _ h))))))) (by decide +kernel))) (goodIn_sub (fun _ h => List.mem_append_left _ (List.mem_append_right _ h)) (by decide +kernel))) (goodIn_sub (fun _ h => List.mem_append_left _ (List.mem_append_left _ (List.mem_append_right _ h))) (by decide +kernel))) (goodIn_sub (fun _ h => List.mem_append_left _ (List.mem_append_left _ (List.mem_append_left _ (List.mem_append_right _ h)))) (by decide +kernel))) (goodIn_sub (fun _ h => List.mem_append_left _ (List.mem_append_left _ (List.mem_append_left _ (List.mem_append_left _ (List.mem_append_left _ (List.mem_append_right _ h)))))) (by decide +kernel))) (goodIn_sub (fun _ h => List.mem_append_left _ (List.mem_append_left _ (List.mem_append_left _ (List.mem_append_left _ (List.mem_append_right _ h))))) (by decide +kernel))
set_option maxRecDepth 20000 in
theorem gL_law_L_undone : GoodIn wsL_law (va_wsS RL 242 yL_undone wsL_undone) := goodIn_app (goodIn_of _ (by decide +kernel)) ggL_law_L_undone
theorem dL_law_0 : decode cL_law 0 = .ok (.iconst 5, 1) := by decide +kernel
theorem dL_law_1 : decode cL_law 1 = .ok (.anewarray 223, 3) := by decide +kernel
theorem dL_law_4 : decode cL_law 4 = .ok (.astore_n 1, 1) := by decide +kernel
theorem dL_law_5 : decode cL_law 5 = .ok (.aload_n 0, 1) := by decide +kernel
theorem dL_law_6 : decode cL_law 6 = .ok (.aload_n 1, 1) := by decide +kernel
theorem dL_law_7 : decode cL_law 7 = .ok (.invokestatic 225, 3) := by decide +kernel
theorem dL_law_10 : decode cL_law 10 = .ok (.astore_n 2, 1) := by decide +kernel
theorem dL_law_11 : decode cL_law 11 = .ok (.aload_n 2, 1) := by decide +kernel
theorem dL_law_12 : decode cL_law 12 = .ok (.ifnull 47, 3) := by decide +kernel
theorem dL_law_15 : decode cL_law 15 = .ok (.aload_n 2, 1) := by decide +kernel
theorem dL_law_16 : decode cL_law 16 = .ok (.aload_n 1, 1) := by decide +kernel
theorem dL_law_17 : decode cL_law 17 = .ok (.invokestatic 229, 3) := by decide +kernel
theorem dL_law_20 : decode cL_law 20 = .ok (.ifCond .eq 39, 3) := by decide +kernel
theorem dL_law_23 : decode cL_law 23 = .ok (.aload_n 2, 1) := by decide +kernel
theorem dL_law_24 : decode cL_law 24 = .ok (.aload_n 1, 1) := by decide +kernel
theorem dL_law_25 : decode cL_law 25 = .ok (.invokestatic 233, 3) := by decide +kernel
theorem dL_law_28 : decode cL_law 28 = .ok (.ifCond .eq 31, 3) := by decide +kernel
theorem dL_law_31 : decode cL_law 31 = .ok (.aload_n 2, 1) := by decide +kernel
theorem dL_law_32 : decode cL_law 32 = .ok (.aload_n 1, 1) := by decide +kernel
theorem dL_law_33 : decode cL_law 33 = .ok (.invokestatic 236, 3) := by decide +kernel
theorem dL_law_36 : decode cL_law 36 = .ok (.ifCond .eq 23, 3) := by decide +kernel
theorem dL_law_39 : decode cL_law 39 = .ok (.aload_n 2, 1) := by decide +kernel
theorem dL_law_40 : decode cL_law 40 = .ok (.aload_n 1, 1) := by decide +kernel
theorem dL_law_41 : decode cL_law 41 = .ok (.invokestatic 239, 3) := by decide +kernel
theorem dL_law_44 : decode cL_law 44 = .ok (.ifCond .eq 15, 3) := by decide +kernel
theorem dL_law_47 : decode cL_law 47 = .ok (.aload_n 0, 1) := by decide +kernel
theorem dL_law_48 : decode cL_law 48 = .ok (.aload_n 2, 1) := by decide +kernel
theorem dL_law_49 : decode cL_law 49 = .ok (.invokestatic 242, 3) := by decide +kernel
theorem dL_law_52 : decode cL_law 52 = .ok (.ifCond .eq 7, 3) := by decide +kernel
theorem dL_law_55 : decode cL_law 55 = .ok (.iconst 1, 1) := by decide +kernel
theorem dL_law_56 : decode cL_law 56 = .ok (.goto 4, 3) := by decide +kernel
theorem dL_law_59 : decode cL_law 59 = .ok (.iconst 0, 1) := by decide +kernel
theorem dL_law_60 : decode cL_law 60 = .ok (.ireturn, 1) := by decide +kernel
set_option maxRecDepth 20000 in
theorem ggL_moved_X5_moonCount : GoodIn wsL_moved wsX5_moonCount := goodIn_ca (goodIn_r _ [5, 6, 7, 8, 9, 10, 11, 12, 13, 14, 15, 16, 17, 18, 163, 164, 165, 166, 167, 168, 169, 170, 171, 172, 173, 174] (by decide +kernel) (by decide +kernel)) (goodIn_sub (fun _ h => List.mem_cons_of_mem _ (List.mem_append_left _ (List.mem_append_left _ (List.mem_append_left _ (List.mem_append_left _ (List.mem_append_right _ h)))))) (by decide +kernel))
set_option maxRecDepth 20000 in
theorem gL_moved_X5_moonCount : GoodIn wsL_moved (wsV RL 213 RX5 yX5_moonCount wsX5_moonCount) := goodIn_app (goodIn_of _ (by decide +kernel)) ggL_moved_X5_moonCount
set_option maxRecDepth 20000 in
theorem ggL_moved_L_isDark : GoodIn wsL_moved wsL_isDark := goodIn_ca (goodIn_ca (goodIn_ca (goodIn_r _ [22, 23, 24, 25, 26, 27, 28, 21, 29, 30, 31, 32, 33, 4, 34, 6, 35, 36, 37, 38, 39, 40, 41, 42, 43, 10, 44, 45, 46, 47, 48, 12, 13, 14, 15, 16, 17, 18, 49, 50, 51, 52, 53, 54, 55, 56, 57, 58, 163, 164, 165, 166, 167, 168, 169, 170, 171, 172, 173, 174] (by decide +kernel) (by decide +kernel)) (goodIn_sub (fun _ h => List.mem_cons_of_mem _ (List.mem_append_left _ (List.mem_append_left _ (List.mem_append_left _ (List.mem_append_right _ h))))) (by decide +kernel))) (goodIn_sub (fun _ h => List.mem_cons_of_mem _ (List.mem_append_left _ (List.mem_append_left _ (List.mem_append_left _ (List.mem_append_left _ (List.mem_append_right _ h)))))) (by decide +kernel))) (goodIn_sub (fun _ h => List.mem_cons_of_mem _ (List.mem_append_left _ (List.mem_append_left _ (List.mem_append_right _ h)))) (by decide +kernel))
set_option maxRecDepth 20000 in
theorem gL_moved_L_isDark : GoodIn wsL_moved (va_wsS RL 216 yL_isDark wsL_isDark) := goodIn_app (goodIn_of _ (by decide +kernel)) ggL_moved_L_isDark
set_option maxRecDepth 20000 in
theorem ggL_moved_L_positionOf : GoodIn wsL_moved wsL_positionOf := goodIn_ca (goodIn_ca (goodIn_ca (goodIn_r _ [61, 62, 63, 64, 65, 4, 66, 6, 67, 68, 69, 70, 71, 72, 73, 74, 75, 10, 76, 77, 8, 9, 11, 12, 13, 14, 15, 16, 17, 18, 78, 79, 80, 81, 82, 83, 84, 85, 86, 87, 88, 89, 163, 164, 165, 166, 167, 168, 169, 170, 171, 172, 173, 174] (by decide +kernel) (by decide +kernel)) (goodIn_sub (fun _ h => List.mem_cons_of_mem _ (List.mem_append_left _ (List.mem_append_right _ h))) (by decide +kernel))) (goodIn_sub (fun _ h => List.mem_cons_of_mem _ (List.mem_append_left _ (List.mem_append_left _ (List.mem_append_left _ (List.mem_append_left _ (List.mem_append_right _ h)))))) (by decide +kernel))) (goodIn_sub (fun _ h => List.mem_cons_of_mem _ (List.mem_append_left _ (List.mem_append_left _ (List.mem_append_right _ h)))) (by decide +kernel))
set_option maxRecDepth 20000 in
theorem gL_moved_L_positionOf : GoodIn wsL_moved (va_wsS RL 246 yL_positionOf wsL_positionOf) := goodIn_app (goodIn_of _ (by decide +kernel)) ggL_moved_L_positionOf
set_option maxRecDepth 20000 in
theorem ggL_moved_L_placeIn : GoodIn wsL_moved wsL_placeIn := goodIn_ca (goodIn_ca (goodIn_r _ [52, 53, 54, 55, 4, 56, 6, 57, 58, 14, 15, 16, 17, 18, 163, 164, 165, 166, 167, 168, 169, 170, 171, 172, 173, 174] (by decide +kernel) (by decide +kernel)) (goodIn_sub (fun _ h => List.mem_cons_of_mem _ (List.mem_append_left _ (List.mem_append_left _ (List.mem_append_left _ (List.mem_append_left _ (List.mem_append_right _ h)))))) (by decide +kernel))) (goodIn_sub (fun _ h => List.mem_cons_of_mem _ (List.mem_append_left _ (List.mem_append_left _ (List.mem_append_right _ h)))) (by decide +kernel))
set_option maxRecDepth 20000 in
theorem gL_moved_L_placeIn : GoodIn wsL_moved (va_wsS RL 206 yL_placeIn wsL_placeIn) := goodIn_app (goodIn_of _ (by decide +kernel)) ggL_moved_L_placeIn
set_option maxRecDepth 20000 in
theorem ggL_moved_L_massOf : GoodIn wsL_moved wsL_massOf := goodIn_ca (goodIn_ca (goodIn_r _ [92, 62, 93, 94, 95, 4, 96, 6, 67, 68, 69, 70, 71, 72, 73, 74, 75, 10, 76, 77, 8, 9, 11, 12, 13, 14, 15, 16, 17, 18, 97, 98, 99, 100, 101, 102, 25, 103, 82, 83, 84, 85, 104, 105, 106, 107, 108, 109, 110, 111, 163, 164, 165, 166, 167, 168, 169, 170, 171, 172, 173, 174] (by decide +kernel) (by decide +kernel)) (goodIn_sub (fun _ h => List.mem_cons_of_mem _ (List.mem_append_left _ (List.mem_append_right _ h))) (by decide +kernel))) (goodIn_sub (fun _ h => List.mem_cons_of_mem _ (List.mem_append_left _ (List.mem_append_left _ (List.mem_append_left _ (List.mem_append_left _ (List.mem_append_right _ h)))))) (by decide +kernel))
set_option maxRecDepth 20000 in
theorem gL_moved_L_massOf : GoodIn wsL_moved (va_wsS RL 248 yL_massOf wsL_massOf) := goodIn_app (goodIn_of _ (by decide +kernel)) ggL_moved_L_massOf
set_option maxRecDepth 20000 in
theorem ggL_moved_L_massIn : GoodIn wsL_moved wsL_massIn := goodIn_ca (goodIn_r _ [114, 115, 102, 25, 103, 53, 54, 55, 4, 56, 6, 57, 58, 14, 15, 16, 17, 18, 163, 164, 165, 166, 167, 168, 169, 170, 171, 172, 173, 174] (by decide +kernel) (by decide +kernel)) (goodIn_sub (fun _ h => List.mem_cons_of_mem _ (List.mem_append_left _ (List.mem_append_left _ (List.mem_append_left _ (List.mem_append_left _ (List.mem_append_right _ h)))))) (by decide +kernel))
set_option maxRecDepth 20000 in
theorem gL_moved_L_massIn : GoodIn wsL_moved (va_wsS RL 220 yL_massIn wsL_massIn) := goodIn_app (goodIn_of _ (by decide +kernel)) ggL_moved_L_massIn
set_option maxRecDepth 20000 in
theorem ggL_moved_L_ageOf : GoodIn wsL_moved wsL_ageOf := goodIn_ca (goodIn_ca (goodIn_r _ [118, 62, 119, 120, 121, 4, 122, 6, 67, 68, 69, 70, 71, 72, 73, 74, 75, 10, 76, 77, 8, 9, 11, 12, 13, 14, 15, 16, 17, 18, 123, 83, 84, 85, 163, 164, 165, 166, 167, 168, 169, 170, 171, 172, 173, 174] (by decide +kernel) (by decide +kernel)) (goodIn_sub (fun _ h => List.mem_cons_of_mem _ (List.mem_append_left _ (List.mem_append_right _ h))) (by decide +kernel))) (goodIn_sub (fun _ h => List.mem_cons_of_mem _ (List.mem_append_left _ (List.mem_append_left _ (List.mem_append_left _ (List.mem_append_left _ (List.mem_append_right _ h)))))) (by decide +kernel))
set_option maxRecDepth 20000 in
theorem gL_moved_L_ageOf : GoodIn wsL_moved (va_wsS RL 250 yL_ageOf wsL_ageOf) := goodIn_app (goodIn_of _ (by decide +kernel)) ggL_moved_L_ageOf
set_option maxRecDepth 20000 in
theorem ggL_moved_X5_time : GoodIn wsL_moved wsX5_time := goodIn_ca (goodIn_r _ [56, 6, 57, 58, 14, 15, 16, 17, 18, 163, 164, 165, 166, 167, 168, 169, 170, 171, 172, 173, 174] (by decide +kernel) (by decide +kernel)) (goodIn_sub (fun _ h => List.mem_cons_of_mem _ (List.mem_append_left _ (List.mem_append_left _ (List.mem_append_left _ (List.mem_append_left _ (List.mem_append_right _ h)))))) (by decide +kernel))
set_option maxRecDepth 20000 in
theorem gL_moved_X5_time : GoodIn wsL_moved (wsV RL 180 RX5 yX5_time wsX5_time) := goodIn_app (goodIn_of _ (by decide +kernel)) ggL_moved_X5_time
set_option maxRecDepth 20000 in
theorem ggL_moved_L_isHard : GoodIn wsL_moved wsL_isHard := goodIn_ca (goodIn_ca (goodIn_r _ [126, 62, 127, 128, 129, 4, 130, 6, 67, 68, 69, 70, 71, 72, 73, 74, 75, 10, 76, 77, 8, 9, 11, 12, 13, 14, 15, 16, 17, 18, 131, 109, 110, 111, 163, 164, 165, 166, 167, 168, 169, 170, 171, 172, 173, 174] (by decide +kernel) (by decide +kernel)) (goodIn_sub (fun _ h => List.mem_cons_of_mem _ (List.mem_append_left _ (List.mem_append_right _ h))) (by decide +kernel))) (goodIn_sub (fun _ h => List.mem_cons_of_mem _ (List.mem_append_left _ (List.mem_append_left _ (List.mem_append_left _ (List.mem_append_left _ (List.mem_append_right _ h)))))) (by decide +kernel))
set_option maxRecDepth 20000 in
theorem gL_moved_L_isHard : GoodIn wsL_moved (va_wsS RL 252 yL_isHard wsL_isHard) := goodIn_app (goodIn_of _ (by decide +kernel)) ggL_moved_L_isHard
set_option maxRecDepth 20000 in
theorem ggL_moved_L_isSoft : GoodIn wsL_moved wsL_isSoft := goodIn_ca (goodIn_ca (goodIn_r _ [134, 62, 135, 136, 137, 4, 138, 6, 67, 68, 69, 70, 71, 72, 73, 74, 75, 10, 76, 77, 8, 9, 11, 12, 13, 14, 15, 16, 17, 18, 131, 109, 110, 111, 163, 164, 165, 166, 167, 168, 169, 170, 171, 172, 173, 174] (by decide +kernel) (by decide +kernel)) (goodIn_sub (fun _ h => List.mem_cons_of_mem _ (List.mem_append_left _ (List.mem_append_right _ h))) (by decide +kernel))) (goodIn_sub (fun _ h => List.mem_cons_of_mem _ (List.mem_append_left _ (List.mem_append_left _ (List.mem_append_left _ (List.mem_append_left _ (List.mem_append_right _ h)))))) (by decide +kernel))
