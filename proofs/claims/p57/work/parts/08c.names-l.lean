set_option maxRecDepth 20000 in
theorem gL_lineAt_X5_lineAt : GoodIn wsL_lineAt (wsV RL 128 RX5 yX5_lineAt wsX5_lineAt) := goodIn_app (goodIn_of _ (by decide +kernel)) ggL_lineAt_X5_lineAt
theorem dL_lineAt_0 : decode cL_lineAt 0 = .ok (.aload_n 0, 1) := by decide +kernel
theorem dL_lineAt_1 : decode cL_lineAt 1 = .ok (.iload_n 1, 1) := by decide +kernel
theorem dL_lineAt_2 : decode cL_lineAt 2 = .ok (.invokevirtual 128, 3) := by decide +kernel
theorem dL_lineAt_5 : decode cL_lineAt 5 = .ok (.ireturn, 1) := by decide +kernel
theorem dL_lineAt_6 : decode cL_lineAt 6 = .ok (.astore_n 2, 1) := by decide +kernel
theorem dL_lineAt_7 : decode cL_lineAt 7 = .ok (.bipush (-11), 2) := by decide +kernel
theorem dL_lineAt_9 : decode cL_lineAt 9 = .ok (.ireturn, 1) := by decide +kernel
set_option maxRecDepth 20000 in
theorem ggL_type_X5_type : GoodIn wsL_type wsX5_type := goodIn_ca (goodIn_ca (goodIn_r _ [6, 7, 8, 9, 10, 11, 12, 13, 14, 15, 16, 17, 18, 19, 20, 21, 22, 23, 24, 25, 26, 27, 28, 29, 30, 31, 32, 33, 34, 35, 36, 37, 38, 39, 40, 41, 42, 43, 44, 45, 46, 47, 48, 49, 50, 51, 52, 53, 54, 55, 56, 57, 58, 59, 60, 61, 62, 63, 64, 65, 66, 67, 68, 69, 70, 71, 72, 73, 74, 75, 76, 77, 78, 79, 80, 81, 82, 83, 84, 85, 86, 87, 88, 89, 90, 91, 92, 93, 94, 95, 96, 97, 98, 99, 100, 101, 102, 103, 104, 105, 106, 107, 108, 109, 110, 111, 112, 113, 114, 115, 116, 117, 118, 119, 120, 121, 122, 123, 124, 125, 126, 127, 128, 129, 130, 131, 132, 133, 134, 135, 136, 137, 138, 139, 140, 141, 142, 143, 144, 145, 146, 147, 148, 149, 150, 151, 152, 153, 154, 155, 156, 157, 158, 159, 160, 161, 162, 163, 164, 165] (by decide +kernel) (by decide +kernel)) (goodIn_sub (fun _ h => List.mem_cons_of_mem _ (List.mem_append_left _ (List.mem_append_right _ h))) (by decide +kernel))) (goodIn_sub (fun _ h => List.mem_cons_of_mem _ (List.mem_append_right _ h)) (by decide +kernel))
set_option maxRecDepth 20000 in
theorem gL_type_X5_type : GoodIn wsL_type (wsV RL 132 RX5 yX5_type wsX5_type) := goodIn_app (goodIn_of _ (by decide +kernel)) ggL_type_X5_type
theorem dL_type_0 : decode cL_type 0 = .ok (.aload_n 0, 1) := by decide +kernel
theorem dL_type_1 : decode cL_type 1 = .ok (.iload_n 1, 1) := by decide +kernel
theorem dL_type_2 : decode cL_type 2 = .ok (.invokevirtual 132, 3) := by decide +kernel
theorem dL_type_5 : decode cL_type 5 = .ok (.ireturn, 1) := by decide +kernel
theorem dL_type_6 : decode cL_type 6 = .ok (.astore_n 2, 1) := by decide +kernel
theorem dL_type_7 : decode cL_type 7 = .ok (.bipush (-12), 2) := by decide +kernel
theorem dL_type_9 : decode cL_type 9 = .ok (.ireturn, 1) := by decide +kernel
theorem dL_type_10 : decode cL_type 10 = .ok (.astore_n 2, 1) := by decide +kernel
theorem dL_type_11 : decode cL_type 11 = .ok (.bipush (-14), 2) := by decide +kernel
theorem dL_type_13 : decode cL_type 13 = .ok (.ireturn, 1) := by decide +kernel
set_option maxRecDepth 20000 in
theorem gz1_h : GoodIn wsL_executes [.code yX5_execute cX5_execute 7 (some .int)] := goodIn_r _ [6] (by decide +kernel) (by decide +kernel)
set_option maxRecDepth 20000 in
theorem gz1_0 : GoodIn wsL_executes wsX5_execute_r1 := goodIn_r _ [7, 8, 9, 10, 11, 12, 13, 14, 15, 16, 17, 18, 19, 20, 21, 22, 23, 24, 25, 26, 27, 28, 29, 30] (by decide +kernel) (by decide +kernel)
set_option maxRecDepth 20000 in
theorem gz1_1 : GoodIn wsL_executes wsX5_execute_r2 := goodIn_r _ [31, 32, 33, 34, 35, 36, 37, 38, 39, 40, 41, 42, 43, 44, 45, 46, 47, 48, 49, 50, 51, 52, 53, 54] (by decide +kernel) (by decide +kernel)
set_option maxRecDepth 20000 in
theorem gz1_2 : GoodIn wsL_executes wsX5_execute_r3 := goodIn_r _ [55, 56, 57, 58, 59, 60, 61, 62, 63, 64, 65, 66, 67, 68, 69, 70, 71, 72, 73, 74, 75, 76, 77, 78] (by decide +kernel) (by decide +kernel)
set_option maxRecDepth 20000 in
theorem gz1_3 : GoodIn wsL_executes wsX5_execute_r4 := goodIn_r _ [79, 80, 81, 82, 83, 84, 85, 86, 87, 88, 89, 90, 91, 92, 93, 94, 95, 96, 97, 98, 99, 100, 101, 102] (by decide +kernel) (by decide +kernel)
set_option maxRecDepth 20000 in
theorem gz1_4 : GoodIn wsL_executes wsX5_execute_r5 := goodIn_r _ [103, 104, 105, 106, 107, 108, 109, 110, 111, 112, 113, 114, 115, 116, 117, 118, 119, 120, 121, 122, 123, 124, 125, 126] (by decide +kernel) (by decide +kernel)
set_option maxRecDepth 20000 in
theorem gz1_5 : GoodIn wsL_executes wsX5_execute_r6 := goodIn_r _ [127, 128, 129, 130, 131, 132, 133, 134, 135, 136, 137, 138, 139, 140, 141, 142, 143, 144, 145, 146, 147, 148, 149, 150] (by decide +kernel) (by decide +kernel)
set_option maxRecDepth 20000 in
theorem gz1_6 : GoodIn wsL_executes wsX5_execute_r7 := goodIn_r _ [151, 152, 153, 154, 155, 156, 157, 158, 159, 160, 161, 162, 163, 164, 165, 166, 167, 168, 169, 170, 171, 172, 173, 174] (by decide +kernel) (by decide +kernel)
set_option maxRecDepth 20000 in
theorem gz1_7 : GoodIn wsL_executes wsX5_execute_r8 := goodIn_r _ [175, 176, 177, 178, 179, 180, 181, 182, 183, 184, 185, 186, 187, 188, 189, 190, 191, 192, 193, 194, 195, 196, 197, 198] (by decide +kernel) (by decide +kernel)
set_option maxRecDepth 20000 in
theorem gz1_8 : GoodIn wsL_executes wsX5_execute_r9 := goodIn_r _ [199, 200, 201, 202, 203, 204, 205, 206, 207, 208, 209, 210, 211, 212, 213, 214, 215, 216, 217, 218, 219, 220, 221, 222] (by decide +kernel) (by decide +kernel)
set_option maxRecDepth 20000 in
theorem gz1_9 : GoodIn wsL_executes wsX5_execute_r10 := goodIn_r _ [223, 224, 225, 226, 227, 228, 229, 230, 231, 232, 233, 234, 235, 236, 237, 238, 239, 240, 241, 242, 243, 244, 245, 246] (by decide +kernel) (by decide +kernel)
set_option maxRecDepth 20000 in
theorem gz1_10 : GoodIn wsL_executes wsX5_execute_r11 := goodIn_r _ [247, 248, 249, 250, 251, 252, 253, 254, 255, 256, 257, 258, 259, 260, 261, 262, 263, 264, 265, 266, 267, 268, 269, 270] (by decide +kernel) (by decide +kernel)
set_option maxRecDepth 20000 in
theorem gz1_11 : GoodIn wsL_executes wsX5_execute_r12 := goodIn_r _ [271, 272, 273, 274, 275, 276, 277, 278, 279, 280, 281, 282, 283, 284, 285, 286, 287, 288, 289, 290, 291, 292, 293, 294] (by decide +kernel) (by decide +kernel)
set_option maxRecDepth 20000 in
theorem gz1_12 : GoodIn wsL_executes wsX5_execute_r13 := goodIn_r _ [295, 296, 297, 298, 299, 300, 301, 302, 303, 304, 305, 306, 307, 308, 309, 310, 311, 312, 313, 314, 315, 316, 317, 318] (by decide +kernel) (by decide +kernel)
set_option maxRecDepth 20000 in
theorem gz1_13 : GoodIn wsL_executes wsX5_execute_r14 := goodIn_r _ [319, 320, 321, 322, 323, 324, 325, 326, 327, 328, 329, 330, 331, 332, 333, 334, 335, 336, 337, 338, 339, 340, 341, 342] (by decide +kernel) (by decide +kernel)
set_option maxRecDepth 20000 in
theorem gz1_14 : GoodIn wsL_executes wsX5_execute_r15 := goodIn_r _ [343, 344, 345, 346, 347, 348, 349, 350, 351, 352, 353, 354, 355, 356, 357, 358, 359, 360, 361, 362, 363, 364, 365, 366] (by decide +kernel) (by decide +kernel)
set_option maxRecDepth 20000 in
theorem gz1_15 : GoodIn wsL_executes wsX5_execute_r16 := goodIn_r _ [367, 368, 369, 370, 371, 372, 373, 374, 375, 376, 377, 378, 379, 380, 381, 382, 383, 384, 385, 386, 387, 388, 389, 390] (by decide +kernel) (by decide +kernel)
set_option maxRecDepth 20000 in
theorem gz1_16 : GoodIn wsL_executes wsX5_execute_r17 := goodIn_r _ [391, 392, 393, 394, 395, 396, 397, 398, 399, 400, 401, 402, 403, 404, 405, 406, 407, 408, 409, 410, 411, 412, 413, 414] (by decide +kernel) (by decide +kernel)
set_option maxRecDepth 20000 in
theorem gz1_17 : GoodIn wsL_executes wsX5_execute_r18 := goodIn_r _ [415, 416, 417, 418, 419, 420, 421, 422, 423, 424, 425, 426, 427, 428, 429, 430, 431, 432, 433, 434] (by decide +kernel) (by decide +kernel)
set_option maxRecDepth 20000 in
theorem gz1_18 : GoodIn wsL_executes wsX50 := goodIn_r _ [435, 436, 437, 438, 439, 440, 441, 442, 443, 444] (by decide +kernel) (by decide +kernel)
set_option maxRecDepth 20000 in
theorem gz1_19 : GoodIn wsL_executes wsX40 := goodIn_r _ [445] (by decide +kernel) (by decide +kernel)
set_option maxRecDepth 20000 in
theorem gz1_20 : GoodIn wsL_executes wsX30 := goodIn_r _ [446, 447, 448, 449, 450] (by decide +kernel) (by decide +kernel)
set_option maxRecDepth 20000 in
theorem gz1_21 : GoodIn wsL_executes wsJ00 := goodIn_r _ [451, 452, 453, 454] (by decide +kernel) (by decide +kernel)
set_option maxRecDepth 20000 in
theorem gz1_22 : GoodIn wsL_executes wsJ40 := goodIn_r _ [455, 456, 457, 458] (by decide +kernel) (by decide +kernel)
set_option maxRecDepth 20000 in
theorem gz1_23 : GoodIn wsL_executes wsX20 := goodIn_r _ [459] (by decide +kernel) (by decide +kernel)
set_option maxRecDepth 20000 in
theorem gz1_24 : GoodIn wsL_executes wsJx7c7330 := goodIn_r _ [460, 461, 462, 463, 464, 465] (by decide +kernel) (by decide +kernel)
set_option maxRecDepth 20000 in
theorem gz1_25 : GoodIn wsL_executes wsJx000600 := goodIn_r _ [466, 467, 468, 469, 470, 471] (by decide +kernel) (by decide +kernel)
set_option maxRecDepth 20000 in
theorem gz1_26 : GoodIn wsL_executes wsX10 := goodIn_r _ [472, 473, 474] (by decide +kernel) (by decide +kernel)
set_option maxRecDepth 20000 in
theorem ggL_executes_X5_execute : GoodIn wsL_executes wsX5_execute := goodIn_ca (goodIn_ca (goodIn_ca (goodIn_ca (goodIn_app gz1_h (goodIn_app (goodIn_app (goodIn_app (goodIn_app (goodIn_app (goodIn_app (goodIn_app (goodIn_app (goodIn_app (goodIn_app gz1_0 (goodIn_app gz1_1 (goodIn_app gz1_2 (goodIn_app gz1_3 (goodIn_app gz1_4 (goodIn_app gz1_5 (goodIn_app gz1_6 (goodIn_app gz1_7 (goodIn_app gz1_8 (goodIn_app gz1_9 (goodIn_app gz1_10 (goodIn_app gz1_11 (goodIn_app gz1_12 (goodIn_app gz1_13 (goodIn_app gz1_14 (goodIn_app gz1_15 (goodIn_app gz1_16 gz1_17))))))))))))))))) gz1_18) gz1_19) gz1_20) gz1_21) gz1_22) gz1_23) gz1_24) gz1_25) gz1_26)) (goodIn_sub (fun _ h => List.mem_cons_of_mem _ (List.mem_append_left _ (List.mem_append_left _ (List.mem_append_left _ (List.mem_append_right _ h))))) (by decide +kernel))) (goodIn_sub (fun _ h => List.mem_cons_of_mem _ (List.mem_append_left _ (List.mem_append_left _ (List.mem_append_right _ h)))) (by decide +kernel))) (goodIn_sub (fun _ h => List.mem_cons_of_mem _ (List.mem_append_left _ (List.mem_append_right _ h))) (by decide +kernel))) (goodIn_sub (fun _ h => List.mem_cons_of_mem _ (List.mem_append_right _ h)) (by decide +kernel))
set_option maxRecDepth 20000 in
theorem gL_executes_X5_execute : GoodIn wsL_executes (wsV RL 136 RX5 yX5_execute wsX5_execute) := goodIn_app (goodIn_of _ (by decide +kernel)) ggL_executes_X5_execute
theorem dL_executes_0 : decode cL_executes 0 = .ok (.aload_n 0, 1) := by decide +kernel
theorem dL_executes_1 : decode cL_executes 1 = .ok (.invokevirtual 136, 3) := by decide +kernel
theorem dL_executes_4 : decode cL_executes 4 = .ok (.ireturn, 1) := by decide +kernel
theorem dL_executes_5 : decode cL_executes 5 = .ok (.astore_n 1, 1) := by decide +kernel
theorem dL_executes_6 : decode cL_executes 6 = .ok (.iconst (-1), 1) := by decide +kernel
theorem dL_executes_7 : decode cL_executes 7 = .ok (.ireturn, 1) := by decide +kernel
theorem dL_executes_8 : decode cL_executes 8 = .ok (.astore_n 1, 1) := by decide +kernel
theorem dL_executes_9 : decode cL_executes 9 = .ok (.bipush (-2), 2) := by decide +kernel
theorem dL_executes_11 : decode cL_executes 11 = .ok (.ireturn, 1) := by decide +kernel
set_option maxRecDepth 20000 in
theorem ggL_undo_X5_undo : GoodIn wsL_undo wsX5_undo := goodIn_ca (goodIn_ca (goodIn_r _ [6, 7, 8, 9, 10, 11, 12, 13, 14, 15, 16, 17, 18, 19, 20, 21, 22, 23, 24, 25, 26, 27, 28, 29, 30, 31, 32, 33, 34, 35, 36, 37, 38, 39, 40, 41, 42, 43, 44, 45, 46, 47, 48, 49, 50, 51, 52] (by decide +kernel) (by decide +kernel)) (goodIn_sub (fun _ h => List.mem_cons_of_mem _ (List.mem_append_left _ (List.mem_append_right _ h))) (by decide +kernel))) (goodIn_sub (fun _ h => List.mem_cons_of_mem _ (List.mem_append_right _ h)) (by decide +kernel))
set_option maxRecDepth 20000 in
theorem gL_undo_X5_undo : GoodIn wsL_undo (wsV RL 145 RX5 yX5_undo wsX5_undo) := goodIn_app (goodIn_of _ (by decide +kernel)) ggL_undo_X5_undo
theorem dL_undo_0 : decode cL_undo 0 = .ok (.aload_n 0, 1) := by decide +kernel
theorem dL_undo_1 : decode cL_undo 1 = .ok (.invokevirtual 145, 3) := by decide +kernel
theorem dL_undo_4 : decode cL_undo 4 = .ok (.ireturn, 1) := by decide +kernel
theorem dL_undo_5 : decode cL_undo 5 = .ok (.astore_n 1, 1) := by decide +kernel
theorem dL_undo_6 : decode cL_undo 6 = .ok (.iconst (-1), 1) := by decide +kernel
theorem dL_undo_7 : decode cL_undo 7 = .ok (.ireturn, 1) := by decide +kernel
set_option maxRecDepth 20000 in
theorem ggL_execute_J0_length_8abf5 : GoodIn wsL_execute wsJ0_length_8abf5 := goodIn_r _ [5, 6, 7, 8, 9, 4, 10, 11, 12, 500, 501, 502, 503] (by decide +kernel) (by decide +kernel)
set_option maxRecDepth 20000 in
theorem gL_execute_J0_length_8abf5 : GoodIn wsL_execute (wsV RL 148 RJ0 yJ0_length_8abf5 wsJ0_length_8abf5) := goodIn_app (goodIn_of _ (by decide +kernel)) ggL_execute_J0_length_8abf5
set_option maxRecDepth 20000 in
theorem ggL_execute_J0_charAt_5068e : GoodIn wsL_execute wsJ0_charAt_5068e := goodIn_r _ [16, 6, 17, 18, 19, 4, 20, 11, 12, 21, 22, 23, 24, 25, 26, 27, 28, 29, 30, 31, 32, 33, 34, 35, 36, 37, 38, 39, 40, 41, 42, 43, 44, 45, 46, 47, 48, 49, 500, 501, 502, 503] (by decide +kernel) (by decide +kernel)
set_option maxRecDepth 20000 in
theorem gL_execute_J0_charAt_5068e : GoodIn wsL_execute (wsV RL 153 RJ0 yJ0_charAt_5068e wsJ0_charAt_5068e) := goodIn_app (goodIn_of _ (by decide +kernel)) ggL_execute_J0_charAt_5068e
set_option maxRecDepth 20000 in
theorem ggL_execute_L_type : GoodIn wsL_execute wsL_type := goodIn_ca (goodIn_ca (goodIn_r _ [53, 54, 55, 56, 57, 58, 59, 60, 61, 62, 63, 64, 65, 66, 67, 68, 69, 70, 71, 72, 73, 74, 75, 76, 77, 78, 79, 80, 81, 82, 83, 84, 85, 86, 87, 88, 89, 90, 91, 92, 93, 94, 95, 96, 97, 98, 99, 100, 101, 102, 103, 104, 105, 106, 107, 108, 109, 110, 111, 112, 113, 114, 115, 116, 117, 118, 119, 120, 121, 122, 123, 124, 125, 126, 127, 128, 129, 130, 131, 132, 133, 134, 135, 136, 137, 138, 139, 140, 141, 142, 143, 144, 145, 23, 146, 147, 148, 149, 150, 151, 152, 153, 35, 154, 155, 156, 157, 158, 159, 160, 161, 162, 163, 164, 165, 166, 167, 40, 41, 42, 168, 169, 4, 170, 28, 171, 172, 31, 173, 174, 175, 176, 47, 48, 49, 177, 178, 179, 37, 38, 39, 43, 26, 27, 29, 30, 32, 504, 505, 506, 507, 508, 509, 510, 511, 512, 513, 514, 515, 516, 517, 518, 519, 520, 521, 522] (by decide +kernel) (by decide +kernel)) (goodIn_sub (fun _ h => List.mem_cons_of_mem _ (List.mem_append_left _ (List.mem_append_left _ (List.mem_append_left _ (List.mem_append_right _ h))))) (by decide +kernel))) (goodIn_sub (fun _ h => List.mem_cons_of_mem _ (List.mem_append_left _ (List.mem_append_left _ (List.mem_append_right _ h)))) (by decide +kernel))
set_option maxRecDepth 20000 in
theorem gL_execute_L_type : GoodIn wsL_execute (va_wsS RL 156 yL_type wsL_type) := goodIn_app (goodIn_of _ (by decide +kernel)) ggL_execute_L_type
set_option maxRecDepth 20000 in
theorem gz2_h : GoodIn wsL_execute [.codeWith yL_executes cL_executes 2 (some .int) [(0, 4, 5, 14), (0, 4, 8, 16)]] := goodIn_r _ [182] (by decide +kernel) (by decide +kernel)
set_option maxRecDepth 20000 in
theorem gz2_0 : GoodIn wsL_execute wsL_executes_r1 := goodIn_r _ [54, 183, 184, 185, 58, 186, 60, 61, 62, 63, 64, 187, 188, 189, 190, 191, 192, 193, 194, 195, 68, 196, 197, 198] (by decide +kernel) (by decide +kernel)
set_option maxRecDepth 20000 in
theorem gz2_1 : GoodIn wsL_execute wsL_executes_r2 := goodIn_r _ [70, 199, 200, 201, 202, 203, 204, 205, 206, 207, 208, 209, 113, 114, 115, 210, 211, 212, 213, 214, 215, 216, 217, 2] (by decide +kernel) (by decide +kernel)
set_option maxRecDepth 20000 in
theorem gz2_2 : GoodIn wsL_execute wsL_executes_r3 := goodIn_r _ [3, 4, 5, 6, 7, 8, 9, 10, 11, 12, 218, 219, 220, 221, 71, 72, 73, 74, 75, 76, 77, 78, 79, 80] (by decide +kernel) (by decide +kernel)
set_option maxRecDepth 20000 in
theorem gz2_3 : GoodIn wsL_execute wsL_executes_r4 := goodIn_r _ [81, 82, 222, 223, 224, 225, 226, 227, 228, 229, 101, 95, 230, 132, 133, 231, 26, 27, 28, 29, 30, 31, 32, 232] (by decide +kernel) (by decide +kernel)
set_option maxRecDepth 20000 in
theorem gz2_4 : GoodIn wsL_execute wsL_executes_r5 := goodIn_r _ [45, 35, 46, 47, 48, 49, 40, 41, 42, 233, 14, 15, 16, 17, 18, 19, 20, 21, 22, 23, 24, 25, 33, 34] (by decide +kernel) (by decide +kernel)
set_option maxRecDepth 20000 in
theorem gz2_5 : GoodIn wsL_execute wsL_executes_r6 := goodIn_r _ [36, 37, 38, 39, 43, 44, 234, 235, 236, 237, 238, 239, 240, 241, 242, 243, 244, 245, 246, 247, 248, 249, 250, 251] (by decide +kernel) (by decide +kernel)
set_option maxRecDepth 20000 in
theorem gz2_6 : GoodIn wsL_execute wsL_executes_r7 := goodIn_r _ [252, 253, 254, 255, 256, 257, 258, 259, 260, 261, 262, 263, 264, 265, 96, 97, 98, 99, 100, 102, 103, 104, 105, 106] (by decide +kernel) (by decide +kernel)
set_option maxRecDepth 20000 in
theorem gz2_7 : GoodIn wsL_execute wsL_executes_r8 := goodIn_r _ [107, 108, 109, 110, 111, 112, 116, 117, 118, 119, 120, 121, 122, 123, 124, 125, 126, 127, 128, 129, 130, 131, 134, 135] (by decide +kernel) (by decide +kernel)
set_option maxRecDepth 20000 in
theorem gz2_8 : GoodIn wsL_execute wsL_executes_r9 := goodIn_r _ [136, 137, 138, 139, 140, 141, 142, 143, 266, 267, 268, 269, 270, 271, 272, 273, 274, 275, 276, 277, 278, 279, 280, 281] (by decide +kernel) (by decide +kernel)
set_option maxRecDepth 20000 in
theorem gz2_9 : GoodIn wsL_execute wsL_executes_r10 := goodIn_r _ [282, 283, 284, 285, 286, 287, 288, 289, 290, 291, 292, 293, 294, 295, 296, 297, 298, 299, 300, 301, 302, 303, 304, 305] (by decide +kernel) (by decide +kernel)
set_option maxRecDepth 20000 in
theorem gz2_10 : GoodIn wsL_execute wsL_executes_r11 := goodIn_r _ [306, 307, 308, 309, 310, 311, 312, 313, 314, 315, 316, 317, 318, 319, 320, 321, 322, 323, 324, 325, 326, 327, 328, 329] (by decide +kernel) (by decide +kernel)
set_option maxRecDepth 20000 in
theorem gz2_11 : GoodIn wsL_execute wsL_executes_r12 := goodIn_r _ [330, 331, 332, 333, 334, 335, 336, 337, 338, 339, 340, 341, 342, 343, 344, 345, 346, 347, 348, 349, 350, 351, 352, 353] (by decide +kernel) (by decide +kernel)
set_option maxRecDepth 20000 in
theorem gz2_12 : GoodIn wsL_execute wsL_executes_r13 := goodIn_r _ [354, 355, 356, 357, 358, 359, 360, 361, 362, 363, 364, 365, 366, 367, 368, 369, 370, 371, 372, 373, 374, 375, 376, 377] (by decide +kernel) (by decide +kernel)
set_option maxRecDepth 20000 in
theorem gz2_13 : GoodIn wsL_execute wsL_executes_r14 := goodIn_r _ [378, 379, 380, 381, 382, 383, 384, 385, 386, 387, 388, 389, 390, 391, 392, 393, 394, 395, 396, 397, 398, 399, 400, 401] (by decide +kernel) (by decide +kernel)
set_option maxRecDepth 20000 in
theorem gz2_14 : GoodIn wsL_execute wsL_executes_r15 := goodIn_r _ [402, 403, 404, 405, 406, 407, 408, 409, 410, 411, 412, 413, 414, 415, 416, 417, 418, 419, 420, 421, 422, 423, 424, 425] (by decide +kernel) (by decide +kernel)
set_option maxRecDepth 20000 in
theorem gz2_15 : GoodIn wsL_execute wsL_executes_r16 := goodIn_r _ [426, 427, 428, 429, 430, 431, 432, 433, 434, 435, 436, 437, 438, 439, 440, 441, 442, 443, 444, 445, 446, 447, 448, 449] (by decide +kernel) (by decide +kernel)
set_option maxRecDepth 20000 in
theorem gz2_16 : GoodIn wsL_execute wsL_executes_r17 := goodIn_r _ [450, 451, 452, 453, 454, 455, 456, 457, 458, 459, 460, 461, 462, 463, 464, 465, 466, 467, 468, 469, 470, 471, 472, 473] (by decide +kernel) (by decide +kernel)
set_option maxRecDepth 20000 in
theorem gz2_17 : GoodIn wsL_execute wsL_executes_r18 := goodIn_r _ [474, 475, 476, 477, 478, 479, 480, 481, 482, 483, 484, 485, 486, 487, 488, 489, 490, 491, 492, 493, 494, 495, 496, 497] (by decide +kernel) (by decide +kernel)
set_option maxRecDepth 20000 in
theorem gz2_18 : GoodIn wsL_execute wsL_executes_r19 := goodIn_r _ [498, 499] (by decide +kernel) (by decide +kernel)
set_option maxRecDepth 20000 in
theorem gz2_19 : GoodIn wsL_execute wsX50 := goodIn_r _ [504, 505, 506, 507, 508, 509, 510, 511, 512, 513] (by decide +kernel) (by decide +kernel)
set_option maxRecDepth 20000 in
theorem gz2_20 : GoodIn wsL_execute wsX40 := goodIn_r _ [523] (by decide +kernel) (by decide +kernel)
set_option maxRecDepth 20000 in
theorem gz2_21 : GoodIn wsL_execute wsX30 := goodIn_r _ [514, 515, 516, 517, 518] (by decide +kernel) (by decide +kernel)
set_option maxRecDepth 20000 in
theorem gz2_22 : GoodIn wsL_execute wsJ00 := goodIn_r _ [500, 501, 502, 503] (by decide +kernel) (by decide +kernel)
set_option maxRecDepth 20000 in
theorem gz2_23 : GoodIn wsL_execute wsJ40 := goodIn_r _ [519, 520, 521, 522] (by decide +kernel) (by decide +kernel)
set_option maxRecDepth 20000 in
theorem gz2_24 : GoodIn wsL_execute wsX20 := goodIn_r _ [524] (by decide +kernel) (by decide +kernel)
set_option maxRecDepth 20000 in
theorem gz2_25 : GoodIn wsL_execute wsJx7c7330 := goodIn_r _ [525, 526, 527, 528, 529, 530] (by decide +kernel) (by decide +kernel)
set_option maxRecDepth 20000 in
theorem gz2_26 : GoodIn wsL_execute wsJx000600 := goodIn_r _ [531, 532, 533, 534, 535, 536] (by decide +kernel) (by decide +kernel)
set_option maxRecDepth 20000 in
theorem gz2_27 : GoodIn wsL_execute wsX10 := goodIn_r _ [537, 538, 539] (by decide +kernel) (by decide +kernel)
set_option maxRecDepth 20000 in
theorem ggL_execute_L_executes : GoodIn wsL_execute wsL_executes := goodIn_ca (goodIn_ca (goodIn_ca (goodIn_ca (goodIn_app gz2_h (goodIn_app (goodIn_app (goodIn_app (goodIn_app (goodIn_app (goodIn_app (goodIn_app (goodIn_app (goodIn_app (goodIn_app gz2_0 (goodIn_app gz2_1 (goodIn_app gz2_2 (goodIn_app gz2_3 (goodIn_app gz2_4 (goodIn_app gz2_5 (goodIn_app gz2_6 (goodIn_app gz2_7 (goodIn_app gz2_8 (goodIn_app gz2_9 (goodIn_app gz2_10 (goodIn_app gz2_11 (goodIn_app gz2_12 (goodIn_app gz2_13 (goodIn_app gz2_14 (goodIn_app gz2_15 (goodIn_app gz2_16 (goodIn_app gz2_17 gz2_18)))))))))))))))))) gz2_19) gz2_20) gz2_21) gz2_22) gz2_23) gz2_24) gz2_25) gz2_26) gz2_27)) (goodIn_sub (fun _ h => List.mem_cons_of_mem _ (List.mem_append_left _ (List.mem_append_left _ (List.mem_append_left _ (List.mem_append_right _ h))))) (by decide +kernel))) (goodIn_sub (fun _ h => List.mem_cons_of_mem _ (List.mem_append_left _ (List.mem_append_left _ (List.mem_append_right _ h)))) (by decide +kernel))) (goodIn_sub (fun _ h => List.mem_cons_of_mem _ (List.mem_append_left _ (List.mem_append_right _ h))) (by decide +kernel))) (goodIn_sub (fun _ h => List.mem_cons_of_mem _ (List.mem_append_right _ h)) (by decide +kernel))
set_option maxRecDepth 20000 in
theorem gL_execute_L_executes : GoodIn wsL_execute (va_wsS RL 161 yL_executes wsL_executes) := goodIn_app (goodIn_of _ (by decide +kernel)) ggL_execute_L_executes
theorem dL_execute_0 : decode cL_execute 0 = .ok (.iconst 0, 1) := by decide +kernel
theorem dL_execute_1 : decode cL_execute 1 = .ok (.istore_n 2, 1) := by decide +kernel
theorem dL_execute_2 : decode cL_execute 2 = .ok (.iload_n 2, 1) := by decide +kernel
theorem dL_execute_3 : decode cL_execute 3 = .ok (.aload_n 1, 1) := by decide +kernel
theorem dL_execute_4 : decode cL_execute 4 = .ok (.invokevirtual 148, 3) := by decide +kernel
theorem dL_execute_7 : decode cL_execute 7 = .ok (.if_icmp .ge 27, 3) := by decide +kernel
theorem dL_execute_10 : decode cL_execute 10 = .ok (.aload_n 0, 1) := by decide +kernel
theorem dL_execute_11 : decode cL_execute 11 = .ok (.aload_n 1, 1) := by decide +kernel
theorem dL_execute_12 : decode cL_execute 12 = .ok (.iload_n 2, 1) := by decide +kernel
theorem dL_execute_13 : decode cL_execute 13 = .ok (.invokevirtual 153, 3) := by decide +kernel
theorem dL_execute_16 : decode cL_execute 16 = .ok (.invokestatic 156, 3) := by decide +kernel
theorem dL_execute_19 : decode cL_execute 19 = .ok (.iload_n 2, 1) := by decide +kernel
theorem dL_execute_20 : decode cL_execute 20 = .ok (.iconst 1, 1) := by decide +kernel
theorem dL_execute_21 : decode cL_execute 21 = .ok (.iadd, 1) := by decide +kernel
theorem dL_execute_22 : decode cL_execute 22 = .ok (.if_icmp .eq 6, 3) := by decide +kernel
theorem dL_execute_25 : decode cL_execute 25 = .ok (.bipush (-9), 2) := by decide +kernel
theorem dL_execute_27 : decode cL_execute 27 = .ok (.ireturn, 1) := by decide +kernel
theorem dL_execute_28 : decode cL_execute 28 = .ok (.iinc 2 1, 3) := by decide +kernel
theorem dL_execute_31 : decode cL_execute 31 = .ok (.goto (-29), 3) := by decide +kernel
theorem dL_execute_34 : decode cL_execute 34 = .ok (.aload_n 0, 1) := by decide +kernel
theorem dL_execute_35 : decode cL_execute 35 = .ok (.invokestatic 161, 3) := by decide +kernel
theorem dL_execute_38 : decode cL_execute 38 = .ok (.ireturn, 1) := by decide +kernel
set_option maxRecDepth 20000 in
theorem ggL_moon_L_hard : GoodIn wsL_moon wsL_hard := goodIn_ca (goodIn_ca (goodIn_ca (goodIn_r _ [4, 5, 6, 7, 8, 9, 10, 11, 12, 13, 14, 15, 16, 17, 18, 19, 20, 21, 22, 23, 24, 25, 26, 27, 28, 29, 30, 31, 32, 33, 34, 35, 36, 37, 38, 39, 40, 41, 42, 43, 44, 45, 46, 47, 48, 49, 50, 51, 52, 53, 54, 55, 56, 57, 58, 59, 60, 61, 62, 63, 64, 65, 66, 67, 68, 69, 84, 85, 86, 87, 88, 89, 90, 91, 92, 93, 94, 95, 96, 97, 98] (by decide +kernel) (by decide +kernel)) (goodIn_sub (fun _ h => List.mem_cons_of_mem _ (List.mem_append_left _ (List.mem_append_left _ (List.mem_append_right _ h)))) (by decide +kernel))) (goodIn_sub (fun _ h => List.mem_cons_of_mem _ (List.mem_append_left _ (List.mem_append_right _ h))) (by decide +kernel))) (goodIn_sub (fun _ h => List.mem_cons_of_mem _ (List.mem_append_right _ h)) (by decide +kernel))
set_option maxRecDepth 20000 in
theorem gL_moon_L_hard : GoodIn wsL_moon (va_wsS RL 165 yL_hard wsL_hard) := goodIn_app (goodIn_of _ (by decide +kernel)) ggL_moon_L_hard
set_option maxRecDepth 20000 in
theorem ggL_moon_L_soft : GoodIn wsL_moon wsL_soft := goodIn_ca (goodIn_ca (goodIn_ca (goodIn_r _ [72, 5, 73, 74, 75, 9, 76, 11, 12, 13, 14, 15, 16, 17, 18, 19, 20, 21, 22, 23, 24, 25, 26, 27, 28, 29, 30, 31, 32, 33, 34, 35, 36, 37, 38, 39, 40, 41, 42, 43, 44, 45, 46, 47, 48, 49, 50, 51, 52, 53, 54, 55, 56, 57, 58, 59, 60, 61, 62, 63, 64, 65, 66, 67, 68, 69, 84, 85, 86, 87, 88, 89, 90, 91, 92, 93, 94, 95, 96, 97, 98] (by decide +kernel) (by decide +kernel)) (goodIn_sub (fun _ h => List.mem_cons_of_mem _ (List.mem_append_left _ (List.mem_append_left _ (List.mem_append_right _ h)))) (by decide +kernel))) (goodIn_sub (fun _ h => List.mem_cons_of_mem _ (List.mem_append_left _ (List.mem_append_right _ h))) (by decide +kernel))) (goodIn_sub (fun _ h => List.mem_cons_of_mem _ (List.mem_append_right _ h)) (by decide +kernel))
set_option maxRecDepth 20000 in
theorem gL_moon_L_soft : GoodIn wsL_moon (va_wsS RL 169 yL_soft wsL_soft) := goodIn_app (goodIn_of _ (by decide +kernel)) ggL_moon_L_soft
set_option maxRecDepth 20000 in
theorem ggL_moon_L_bubble : GoodIn wsL_moon wsL_bubble := goodIn_ca (goodIn_ca (goodIn_ca (goodIn_r _ [79, 5, 80, 81, 82, 9, 83, 11, 12, 13, 14, 15, 16, 17, 18, 19, 20, 21, 22, 23, 24, 25, 26, 27, 28, 29, 30, 31, 32, 33, 34, 35, 36, 37, 38, 39, 40, 41, 42, 43, 44, 45, 46, 47, 48, 49, 50, 51, 52, 53, 54, 55, 56, 57, 58, 59, 60, 61, 62, 63, 64, 65, 66, 67, 68, 69, 84, 85, 86, 87, 88, 89, 90, 91, 92, 93, 94, 95, 96, 97, 98] (by decide +kernel) (by decide +kernel)) (goodIn_sub (fun _ h => List.mem_cons_of_mem _ (List.mem_append_left _ (List.mem_append_left _ (List.mem_append_right _ h)))) (by decide +kernel))) (goodIn_sub (fun _ h => List.mem_cons_of_mem _ (List.mem_append_left _ (List.mem_append_right _ h))) (by decide +kernel))) (goodIn_sub (fun _ h => List.mem_cons_of_mem _ (List.mem_append_right _ h)) (by decide +kernel))
set_option maxRecDepth 20000 in
theorem gL_moon_L_bubble : GoodIn wsL_moon (va_wsS RL 172 yL_bubble wsL_bubble) := goodIn_app (goodIn_of _ (by decide +kernel)) ggL_moon_L_bubble
theorem dL_moon_0 : decode cL_moon 0 = .ok (.iload_n 1, 1) := by decide +kernel
theorem dL_moon_1 : decode cL_moon 1 = .ok (.ifCond .ne 14, 3) := by decide +kernel
theorem dL_moon_4 : decode cL_moon 4 = .ok (.aload_n 0, 1) := by decide +kernel
theorem dL_moon_5 : decode cL_moon 5 = .ok (.iload_n 2, 1) := by decide +kernel
theorem dL_moon_6 : decode cL_moon 6 = .ok (.iload_n 3, 1) := by decide +kernel
theorem dL_moon_7 : decode cL_moon 7 = .ok (.iload 4, 2) := by decide +kernel
theorem dL_moon_9 : decode cL_moon 9 = .ok (.invokestatic 165, 3) := by decide +kernel
theorem dL_moon_12 : decode cL_moon 12 = .ok (.goto 27, 3) := by decide +kernel
theorem dL_moon_15 : decode cL_moon 15 = .ok (.iload_n 1, 1) := by decide +kernel
theorem dL_moon_16 : decode cL_moon 16 = .ok (.iconst 1, 1) := by decide +kernel
theorem dL_moon_17 : decode cL_moon 17 = .ok (.if_icmp .ne 14, 3) := by decide +kernel
theorem dL_moon_20 : decode cL_moon 20 = .ok (.aload_n 0, 1) := by decide +kernel
theorem dL_moon_21 : decode cL_moon 21 = .ok (.iload_n 2, 1) := by decide +kernel
theorem dL_moon_22 : decode cL_moon 22 = .ok (.iload_n 3, 1) := by decide +kernel
theorem dL_moon_23 : decode cL_moon 23 = .ok (.iload 4, 2) := by decide +kernel
theorem dL_moon_25 : decode cL_moon 25 = .ok (.invokestatic 169, 3) := by decide +kernel
theorem dL_moon_28 : decode cL_moon 28 = .ok (.goto 11, 3) := by decide +kernel
theorem dL_moon_31 : decode cL_moon 31 = .ok (.aload_n 0, 1) := by decide +kernel
theorem dL_moon_32 : decode cL_moon 32 = .ok (.iload_n 2, 1) := by decide +kernel
theorem dL_moon_33 : decode cL_moon 33 = .ok (.iload_n 3, 1) := by decide +kernel
theorem dL_moon_34 : decode cL_moon 34 = .ok (.iload 4, 2) := by decide +kernel
theorem dL_moon_36 : decode cL_moon 36 = .ok (.invokestatic 172, 3) := by decide +kernel
theorem dL_moon_39 : decode cL_moon 39 = .ok (.ireturn, 1) := by decide +kernel
set_option maxRecDepth 20000 in
theorem ggL_drawn_X5_init : GoodIn wsL_drawn wsX5_init := goodIn_ca (goodIn_r _ [7, 8, 9, 10, 11, 12, 13, 14, 15, 16, 17, 18, 19, 20, 21, 22, 23, 24, 25, 26, 27, 28, 29, 30, 31, 32, 33, 34, 35, 36, 37, 38, 39, 40, 41, 42, 43, 44, 45, 46, 47, 48, 4, 49, 50, 51, 52, 53, 54, 55, 56, 57, 58, 59, 60, 61, 62, 63, 64, 65, 66, 67, 68, 69, 70, 71, 72, 73, 74, 75, 76, 77, 78, 79, 80, 81, 82, 83, 84, 85, 86, 87, 88, 89, 90, 91, 92, 93, 94, 95, 96, 97, 98, 99, 100, 101, 102, 362, 352, 353, 354, 355, 356, 357, 358, 359, 360, 361, 363, 364, 365, 366, 367, 368, 369, 370, 371, 372, 373, 374, 375, 376, 377, 378] (by decide +kernel) (by decide +kernel)) (goodIn_sub (fun _ h => List.mem_cons_of_mem _ (List.mem_append_left _ (List.mem_append_left _ (List.mem_append_left _ (List.mem_append_left _ (List.mem_append_right _ h)))))) (by decide +kernel))
set_option maxRecDepth 20000 in
theorem gL_drawn_X5_init : GoodIn wsL_drawn (wsX5_init) := ggL_drawn_X5_init
set_option maxRecDepth 20000 in
theorem ggL_drawn_L_cell : GoodIn wsL_drawn wsL_cell := goodIn_ca (goodIn_r _ [106, 107] (by decide +kernel) (by decide +kernel)) (goodIn_sub (fun _ h => List.mem_cons_of_mem _ (List.mem_append_left _ (List.mem_append_left _ (List.mem_append_left _ (List.mem_append_left _ (List.mem_append_right _ h)))))) (by decide +kernel))
set_option maxRecDepth 20000 in
theorem gL_drawn_L_cell : GoodIn wsL_drawn (va_wsS RL 176 yL_cell wsL_cell) := goodIn_app (goodIn_of _ (by decide +kernel)) ggL_drawn_L_cell
set_option maxRecDepth 20000 in
theorem ggL_drawn_X5_time : GoodIn wsL_drawn wsX5_time := goodIn_ca (goodIn_r _ [111, 14, 112, 113, 114, 115, 33, 116, 49, 352, 353, 354, 355, 356, 357, 358, 359, 360, 361, 362, 378] (by decide +kernel) (by decide +kernel)) (goodIn_sub (fun _ h => List.mem_cons_of_mem _ (List.mem_append_left _ (List.mem_append_left _ (List.mem_append_left _ (List.mem_append_left _ (List.mem_append_right _ h)))))) (by decide +kernel))
set_option maxRecDepth 20000 in
theorem gL_drawn_X5_time : GoodIn wsL_drawn (wsV RL 180 RX5 yX5_time wsX5_time) := goodIn_app (goodIn_of _ (by decide +kernel)) ggL_drawn_X5_time
set_option maxRecDepth 20000 in
theorem ggL_drawn_L_moon : GoodIn wsL_drawn wsL_moon := goodIn_ca (goodIn_ca (goodIn_ca (goodIn_r _ [119, 120, 121, 105, 122, 123, 124, 125, 126, 3, 127, 128, 129, 130, 131, 132, 133, 134, 135, 14, 22, 112, 136, 137, 13, 138, 139, 140, 141, 142, 143, 144, 145, 146, 147, 148, 149, 44, 150, 114, 115, 33, 116, 49, 151, 152, 153, 21, 154, 66, 67, 68, 155, 156, 157, 158, 159, 160, 161, 162, 163, 164, 51, 52, 53, 165, 166, 167, 168, 50, 169, 170, 171, 172, 173, 174, 175, 176, 177, 178, 179, 180, 181, 182, 352, 353, 354, 355, 356, 357, 358, 359, 360, 361, 362, 378, 366, 367, 368] (by decide +kernel) (by decide +kernel)) (goodIn_sub (fun _ h => List.mem_cons_of_mem _ (List.mem_append_left _ (List.mem_append_left _ (List.mem_append_left _ (List.mem_append_right _ h))))) (by decide +kernel))) (goodIn_sub (fun _ h => List.mem_cons_of_mem _ (List.mem_append_left _ (List.mem_append_left _ (List.mem_append_right _ h)))) (by decide +kernel))) (goodIn_sub (fun _ h => List.mem_cons_of_mem _ (List.mem_append_left _ (List.mem_append_left _ (List.mem_append_left _ (List.mem_append_left _ (List.mem_append_right _ h)))))) (by decide +kernel))
set_option maxRecDepth 20000 in
theorem gL_drawn_L_moon : GoodIn wsL_drawn (va_wsS RL 183 yL_moon wsL_moon) := goodIn_app (goodIn_of _ (by decide +kernel)) ggL_drawn_L_moon
set_option maxRecDepth 20000 in
theorem ggL_drawn_L_advance : GoodIn wsL_drawn wsL_advance := goodIn_ca (goodIn_ca (goodIn_ca (goodIn_r _ [185, 123, 186, 187, 188, 3, 189, 132, 133, 22, 14, 112, 190, 191, 13, 192, 151, 152, 153, 21, 154, 66, 67, 68, 155, 156, 157, 158, 159, 160, 161, 33, 162, 163, 114, 115, 116, 49, 164, 51, 52, 53, 193, 194, 195, 196, 44, 197, 198, 199, 200, 201, 202, 203, 204, 205, 206, 207, 208, 150, 50, 209, 210, 211, 212, 213, 214, 215, 216, 217, 218, 219, 220, 146, 147, 148, 149, 221, 222, 223, 224, 225, 226, 227, 228, 229, 230, 231, 232, 233, 234, 235, 236, 237, 238, 239, 240, 241, 242, 243, 244, 245, 246, 247, 248, 249, 250, 251, 252, 253, 254, 255, 256, 257, 258, 259, 260, 261, 262, 263, 264, 265, 266, 139, 140, 141, 267, 268, 269, 270, 271, 272, 273, 274, 352, 353, 354, 355, 356, 357, 358, 359, 360, 361, 362, 366, 367, 368, 378] (by decide +kernel) (by decide +kernel)) (goodIn_sub (fun _ h => List.mem_cons_of_mem _ (List.mem_append_left _ (List.mem_append_left _ (List.mem_append_left _ (List.mem_append_right _ h))))) (by decide +kernel))) (goodIn_sub (fun _ h => List.mem_cons_of_mem _ (List.mem_append_left _ (List.mem_append_left _ (List.mem_append_left _ (List.mem_append_left _ (List.mem_append_right _ h)))))) (by decide +kernel))) (goodIn_sub (fun _ h => List.mem_cons_of_mem _ (List.mem_append_left _ (List.mem_append_right _ h))) (by decide +kernel))
set_option maxRecDepth 20000 in
theorem gL_drawn_L_advance : GoodIn wsL_drawn (va_wsS RL 187 yL_advance wsL_advance) := goodIn_app (goodIn_of _ (by decide +kernel)) ggL_drawn_L_advance
set_option maxRecDepth 20000 in
theorem ggL_drawn_L_placeToe : GoodIn wsL_drawn wsL_placeToe := goodIn_ca (goodIn_ca (goodIn_ca (goodIn_r _ [277, 278, 279, 280, 281, 3, 282, 134, 135, 14, 22, 112, 283, 284, 285, 286, 287, 288, 140, 13, 141, 289, 290, 291, 292, 263, 264, 265, 266, 44, 139, 150, 114, 115, 33, 116, 49, 293, 294, 295, 296, 151, 152, 153, 21, 154, 66, 67, 68, 155, 156, 157, 158, 159, 160, 161, 162, 163, 164, 51, 52, 53, 297, 298, 299, 300, 50, 352, 353, 354, 355, 356, 357, 358, 359, 360, 361, 362, 378, 366, 367, 368] (by decide +kernel) (by decide +kernel)) (goodIn_sub (fun _ h => List.mem_cons_of_mem _ (List.mem_append_left _ (List.mem_append_left _ (List.mem_append_right _ h)))) (by decide +kernel))) (goodIn_sub (fun _ h => List.mem_cons_of_mem _ (List.mem_append_right _ h)) (by decide +kernel))) (goodIn_sub (fun _ h => List.mem_cons_of_mem _ (List.mem_append_left _ (List.mem_append_left _ (List.mem_append_left _ (List.mem_append_left _ (List.mem_append_right _ h)))))) (by decide +kernel))
set_option maxRecDepth 20000 in
theorem gL_drawn_L_placeToe : GoodIn wsL_drawn (va_wsS RL 190 yL_placeToe wsL_placeToe) := goodIn_app (goodIn_of _ (by decide +kernel)) ggL_drawn_L_placeToe
set_option maxRecDepth 20000 in
theorem ggL_drawn_L_layTowel : GoodIn wsL_drawn wsL_layTowel := goodIn_ca (goodIn_ca (goodIn_ca (goodIn_ca (goodIn_r _ [303, 278, 304, 305, 306, 3, 307, 132, 133, 134, 135, 14, 22, 112, 283, 284, 285, 286, 287, 288, 140, 13, 141, 308, 309, 310, 311, 312, 313, 314, 315, 316, 317, 318, 209, 210, 211, 212, 44, 150, 114, 115, 33, 116, 49, 213, 214, 215, 216, 151, 152, 153, 21, 154, 66, 67, 68, 155, 156, 157, 158, 159, 160, 161, 162, 163, 164, 51, 52, 53, 319, 320, 321, 322, 50, 352, 353, 354, 355, 356, 357, 358, 359, 360, 361, 362, 378, 366, 367, 368] (by decide +kernel) (by decide +kernel)) (goodIn_sub (fun _ h => List.mem_cons_of_mem _ (List.mem_append_left _ (List.mem_append_left _ (List.mem_append_left _ (List.mem_append_right _ h))))) (by decide +kernel))) (goodIn_sub (fun _ h => List.mem_cons_of_mem _ (List.mem_append_left _ (List.mem_append_left _ (List.mem_append_right _ h)))) (by decide +kernel))) (goodIn_sub (fun _ h => List.mem_cons_of_mem _ (List.mem_append_right _ h)) (by decide +kernel))) (goodIn_sub (fun _ h => List.mem_cons_of_mem _ (List.mem_append_left _ (List.mem_append_left _ (List.mem_append_left _ (List.mem_append_left _ (List.mem_append_right _ h)))))) (by decide +kernel))
set_option maxRecDepth 20000 in
theorem gL_drawn_L_layTowel : GoodIn wsL_drawn (va_wsS RL 192 yL_layTowel wsL_layTowel) := goodIn_app (goodIn_of _ (by decide +kernel)) ggL_drawn_L_layTowel
set_option maxRecDepth 20000 in
theorem ggL_drawn_L_insertPlug : GoodIn wsL_drawn wsL_insertPlug := goodIn_ca (goodIn_ca (goodIn_r _ [325, 278, 326, 327, 328, 3, 329, 22, 14, 112, 283, 284, 285, 286, 287, 288, 140, 13, 141, 151, 152, 153, 21, 154, 66, 67, 68, 155, 156, 157, 158, 159, 160, 161, 33, 162, 163, 114, 115, 116, 49, 164, 51, 52, 53, 330, 331, 332, 333, 44, 334, 335, 336, 337, 150, 50, 352, 353, 354, 355, 356, 357, 358, 359, 360, 361, 362, 366, 367, 368, 378] (by decide +kernel) (by decide +kernel)) (goodIn_sub (fun _ h => List.mem_cons_of_mem _ (List.mem_append_right _ h)) (by decide +kernel))) (goodIn_sub (fun _ h => List.mem_cons_of_mem _ (List.mem_append_left _ (List.mem_append_left _ (List.mem_append_left _ (List.mem_append_left _ (List.mem_append_right _ h)))))) (by decide +kernel))
set_option maxRecDepth 20000 in
theorem gL_drawn_L_insertPlug : GoodIn wsL_drawn (va_wsS RL 195 yL_insertPlug wsL_insertPlug) := goodIn_app (goodIn_of _ (by decide +kernel)) ggL_drawn_L_insertPlug
set_option maxRecDepth 20000 in
theorem ggL_drawn_L_setFlow : GoodIn wsL_drawn wsL_setFlow := goodIn_ca (goodIn_ca (goodIn_r _ [340, 123, 341, 342, 343, 3, 344, 132, 133, 22, 14, 112, 345, 346, 13, 347, 151, 152, 153, 21, 154, 66, 67, 68, 155, 156, 157, 158, 159, 160, 161, 33, 162, 163, 114, 115, 116, 49, 164, 51, 52, 53, 348, 349, 350, 351, 44, 150, 50, 352, 353, 354, 355, 356, 357, 358, 359, 360, 361, 362, 366, 367, 368, 378] (by decide +kernel) (by decide +kernel)) (goodIn_sub (fun _ h => List.mem_cons_of_mem _ (List.mem_append_left _ (List.mem_append_left _ (List.mem_append_left _ (List.mem_append_right _ h))))) (by decide +kernel))) (goodIn_sub (fun _ h => List.mem_cons_of_mem _ (List.mem_append_left _ (List.mem_append_left _ (List.mem_append_left _ (List.mem_append_left _ (List.mem_append_right _ h)))))) (by decide +kernel))
set_option maxRecDepth 20000 in
theorem gL_drawn_L_setFlow : GoodIn wsL_drawn (va_wsS RL 197 yL_setFlow wsL_setFlow) := goodIn_app (goodIn_of _ (by decide +kernel)) ggL_drawn_L_setFlow
theorem dL_drawn_0 : decode cL_drawn 0 = .ok (.new 9, 3) := by decide +kernel
theorem dL_drawn_3 : decode cL_drawn 3 = .ok (.dup, 1) := by decide +kernel
theorem dL_drawn_4 : decode cL_drawn 4 = .ok (.invokespecial 175, 3) := by decide +kernel
theorem dL_drawn_7 : decode cL_drawn 7 = .ok (.astore_n 2, 1) := by decide +kernel
theorem dL_drawn_8 : decode cL_drawn 8 = .ok (.aload_n 0, 1) := by decide +kernel
theorem dL_drawn_9 : decode cL_drawn 9 = .ok (.iconst 0, 1) := by decide +kernel
theorem dL_drawn_10 : decode cL_drawn 10 = .ok (.invokestatic 176, 3) := by decide +kernel
theorem dL_drawn_13 : decode cL_drawn 13 = .ok (.iconst 1, 1) := by decide +kernel
theorem dL_drawn_14 : decode cL_drawn 14 = .ok (.iushr, 1) := by decide +kernel
theorem dL_drawn_15 : decode cL_drawn 15 = .ok (.istore_n 3, 1) := by decide +kernel
theorem dL_drawn_16 : decode cL_drawn 16 = .ok (.iconst 1, 1) := by decide +kernel
theorem dL_drawn_17 : decode cL_drawn 17 = .ok (.iload_n 3, 1) := by decide +kernel
theorem dL_drawn_18 : decode cL_drawn 18 = .ok (.iconst 5, 1) := by decide +kernel
theorem dL_drawn_19 : decode cL_drawn 19 = .ok (.irem, 1) := by decide +kernel
theorem dL_drawn_20 : decode cL_drawn 20 = .ok (.iadd, 1) := by decide +kernel
theorem dL_drawn_21 : decode cL_drawn 21 = .ok (.istore 4, 2) := by decide +kernel
theorem dL_drawn_23 : decode cL_drawn 23 = .ok (.iconst 0, 1) := by decide +kernel
theorem dL_drawn_24 : decode cL_drawn 24 = .ok (.istore 5, 2) := by decide +kernel
theorem dL_drawn_26 : decode cL_drawn 26 = .ok (.iload 5, 2) := by decide +kernel
theorem dL_drawn_28 : decode cL_drawn 28 = .ok (.iload 4, 2) := by decide +kernel
theorem dL_drawn_30 : decode cL_drawn 30 = .ok (.if_icmp .ge 132, 3) := by decide +kernel
theorem dL_drawn_33 : decode cL_drawn 33 = .ok (.aload_n 0, 1) := by decide +kernel
theorem dL_drawn_34 : decode cL_drawn 34 = .ok (.iconst 1, 1) := by decide +kernel
theorem dL_drawn_35 : decode cL_drawn 35 = .ok (.iload 5, 2) := by decide +kernel
theorem dL_drawn_37 : decode cL_drawn 37 = .ok (.iadd, 1) := by decide +kernel
theorem dL_drawn_38 : decode cL_drawn 38 = .ok (.invokestatic 176, 3) := by decide +kernel
theorem dL_drawn_41 : decode cL_drawn 41 = .ok (.iconst 1, 1) := by decide +kernel
theorem dL_drawn_42 : decode cL_drawn 42 = .ok (.iushr, 1) := by decide +kernel
theorem dL_drawn_43 : decode cL_drawn 43 = .ok (.istore 6, 2) := by decide +kernel
theorem dL_drawn_45 : decode cL_drawn 45 = .ok (.iconst 5, 1) := by decide +kernel
theorem dL_drawn_46 : decode cL_drawn 46 = .ok (.newarray .int, 2) := by decide +kernel
theorem dL_drawn_48 : decode cL_drawn 48 = .ok (.dup, 1) := by decide +kernel
theorem dL_drawn_49 : decode cL_drawn 49 = .ok (.iconst 0, 1) := by decide +kernel
theorem dL_drawn_50 : decode cL_drawn 50 = .ok (.iload 6, 2) := by decide +kernel
theorem dL_drawn_52 : decode cL_drawn 52 = .ok (.iconst 3, 1) := by decide +kernel
theorem dL_drawn_53 : decode cL_drawn 53 = .ok (.irem, 1) := by decide +kernel
theorem dL_drawn_54 : decode cL_drawn 54 = .ok (.iastore, 1) := by decide +kernel
theorem dL_drawn_55 : decode cL_drawn 55 = .ok (.dup, 1) := by decide +kernel
theorem dL_drawn_56 : decode cL_drawn 56 = .ok (.iconst 1, 1) := by decide +kernel
theorem dL_drawn_57 : decode cL_drawn 57 = .ok (.iconst 1, 1) := by decide +kernel
theorem dL_drawn_58 : decode cL_drawn 58 = .ok (.iload 6, 2) := by decide +kernel
theorem dL_drawn_60 : decode cL_drawn 60 = .ok (.iconst 2, 1) := by decide +kernel
theorem dL_drawn_61 : decode cL_drawn 61 = .ok (.iushr, 1) := by decide +kernel
theorem dL_drawn_62 : decode cL_drawn 62 = .ok (.bipush 6, 2) := by decide +kernel
theorem dL_drawn_64 : decode cL_drawn 64 = .ok (.irem, 1) := by decide +kernel
theorem dL_drawn_65 : decode cL_drawn 65 = .ok (.iadd, 1) := by decide +kernel
theorem dL_drawn_66 : decode cL_drawn 66 = .ok (.iastore, 1) := by decide +kernel
theorem dL_drawn_67 : decode cL_drawn 67 = .ok (.dup, 1) := by decide +kernel
theorem dL_drawn_68 : decode cL_drawn 68 = .ok (.iconst 2, 1) := by decide +kernel
theorem dL_drawn_69 : decode cL_drawn 69 = .ok (.iload 6, 2) := by decide +kernel
theorem dL_drawn_71 : decode cL_drawn 71 = .ok (.iconst 5, 1) := by decide +kernel
theorem dL_drawn_72 : decode cL_drawn 72 = .ok (.iushr, 1) := by decide +kernel
theorem dL_drawn_73 : decode cL_drawn 73 = .ok (.bipush 12, 2) := by decide +kernel
theorem dL_drawn_75 : decode cL_drawn 75 = .ok (.irem, 1) := by decide +kernel
theorem dL_drawn_76 : decode cL_drawn 76 = .ok (.iastore, 1) := by decide +kernel
theorem dL_drawn_77 : decode cL_drawn 77 = .ok (.dup, 1) := by decide +kernel
theorem dL_drawn_78 : decode cL_drawn 78 = .ok (.iconst 3, 1) := by decide +kernel
theorem dL_drawn_79 : decode cL_drawn 79 = .ok (.iconst 1, 1) := by decide +kernel
theorem dL_drawn_80 : decode cL_drawn 80 = .ok (.iload 6, 2) := by decide +kernel
theorem dL_drawn_82 : decode cL_drawn 82 = .ok (.bipush 9, 2) := by decide +kernel
theorem dL_drawn_84 : decode cL_drawn 84 = .ok (.iushr, 1) := by decide +kernel
theorem dL_drawn_85 : decode cL_drawn 85 = .ok (.bipush 12, 2) := by decide +kernel
theorem dL_drawn_87 : decode cL_drawn 87 = .ok (.irem, 1) := by decide +kernel
theorem dL_drawn_88 : decode cL_drawn 88 = .ok (.iadd, 1) := by decide +kernel
theorem dL_drawn_89 : decode cL_drawn 89 = .ok (.iastore, 1) := by decide +kernel
theorem dL_drawn_90 : decode cL_drawn 90 = .ok (.dup, 1) := by decide +kernel
theorem dL_drawn_91 : decode cL_drawn 91 = .ok (.iconst 4, 1) := by decide +kernel
theorem dL_drawn_92 : decode cL_drawn 92 = .ok (.aload_n 2, 1) := by decide +kernel
theorem dL_drawn_93 : decode cL_drawn 93 = .ok (.invokevirtual 180, 3) := by decide +kernel
theorem dL_drawn_96 : decode cL_drawn 96 = .ok (.iastore, 1) := by decide +kernel
theorem dL_drawn_97 : decode cL_drawn 97 = .ok (.astore 7, 2) := by decide +kernel
theorem dL_drawn_99 : decode cL_drawn 99 = .ok (.aload_n 1, 1) := by decide +kernel
theorem dL_drawn_100 : decode cL_drawn 100 = .ok (.iload 5, 2) := by decide +kernel
theorem dL_drawn_102 : decode cL_drawn 102 = .ok (.aload 7, 2) := by decide +kernel
theorem dL_drawn_104 : decode cL_drawn 104 = .ok (.aastore, 1) := by decide +kernel
theorem dL_drawn_105 : decode cL_drawn 105 = .ok (.aload_n 2, 1) := by decide +kernel
theorem dL_drawn_106 : decode cL_drawn 106 = .ok (.aload 7, 2) := by decide +kernel
theorem dL_drawn_108 : decode cL_drawn 108 = .ok (.iconst 0, 1) := by decide +kernel
theorem dL_drawn_109 : decode cL_drawn 109 = .ok (.iaload, 1) := by decide +kernel
theorem dL_drawn_110 : decode cL_drawn 110 = .ok (.aload 7, 2) := by decide +kernel
theorem dL_drawn_112 : decode cL_drawn 112 = .ok (.iconst 1, 1) := by decide +kernel
theorem dL_drawn_113 : decode cL_drawn 113 = .ok (.iaload, 1) := by decide +kernel
theorem dL_drawn_114 : decode cL_drawn 114 = .ok (.aload 7, 2) := by decide +kernel
theorem dL_drawn_116 : decode cL_drawn 116 = .ok (.iconst 2, 1) := by decide +kernel
theorem dL_drawn_117 : decode cL_drawn 117 = .ok (.iaload, 1) := by decide +kernel
theorem dL_drawn_118 : decode cL_drawn 118 = .ok (.aload 7, 2) := by decide +kernel
theorem dL_drawn_120 : decode cL_drawn 120 = .ok (.iconst 3, 1) := by decide +kernel
theorem dL_drawn_121 : decode cL_drawn 121 = .ok (.iaload, 1) := by decide +kernel
theorem dL_drawn_122 : decode cL_drawn 122 = .ok (.invokestatic 183, 3) := by decide +kernel
theorem dL_drawn_125 : decode cL_drawn 125 = .ok (.iload 5, 2) := by decide +kernel
theorem dL_drawn_127 : decode cL_drawn 127 = .ok (.if_icmp .ne 27, 3) := by decide +kernel
theorem dL_drawn_130 : decode cL_drawn 130 = .ok (.iload 6, 2) := by decide +kernel
theorem dL_drawn_132 : decode cL_drawn 132 = .ok (.iconst 4, 1) := by decide +kernel
theorem dL_drawn_133 : decode cL_drawn 133 = .ok (.irem, 1) := by decide +kernel
theorem dL_drawn_134 : decode cL_drawn 134 = .ok (.ifCond .ne 22, 3) := by decide +kernel
theorem dL_drawn_137 : decode cL_drawn 137 = .ok (.aload_n 2, 1) := by decide +kernel
theorem dL_drawn_138 : decode cL_drawn 138 = .ok (.iconst 1, 1) := by decide +kernel
theorem dL_drawn_139 : decode cL_drawn 139 = .ok (.iload 6, 2) := by decide +kernel
theorem dL_drawn_141 : decode cL_drawn 141 = .ok (.bipush 13, 2) := by decide +kernel
theorem dL_drawn_143 : decode cL_drawn 143 = .ok (.iushr, 1) := by decide +kernel
theorem dL_drawn_144 : decode cL_drawn 144 = .ok (.bipush 9, 2) := by decide +kernel
theorem dL_drawn_146 : decode cL_drawn 146 = .ok (.irem, 1) := by decide +kernel
theorem dL_drawn_147 : decode cL_drawn 147 = .ok (.iadd, 1) := by decide +kernel
theorem dL_drawn_148 : decode cL_drawn 148 = .ok (.invokestatic 187, 3) := by decide +kernel
theorem dL_drawn_151 : decode cL_drawn 151 = .ok (.ifCond .ge 5, 3) := by decide +kernel
theorem dL_drawn_154 : decode cL_drawn 154 = .ok (.aconst_null, 1) := by decide +kernel
theorem dL_drawn_155 : decode cL_drawn 155 = .ok (.areturn, 1) := by decide +kernel
theorem dL_drawn_156 : decode cL_drawn 156 = .ok (.iinc 5 1, 3) := by decide +kernel
theorem dL_drawn_159 : decode cL_drawn 159 = .ok (.goto (-133), 3) := by decide +kernel
theorem dL_drawn_162 : decode cL_drawn 162 = .ok (.iconst 0, 1) := by decide +kernel
theorem dL_drawn_163 : decode cL_drawn 163 = .ok (.istore 5, 2) := by decide +kernel
theorem dL_drawn_165 : decode cL_drawn 165 = .ok (.iload 5, 2) := by decide +kernel
theorem dL_drawn_167 : decode cL_drawn 167 = .ok (.iconst 3, 1) := by decide +kernel
theorem dL_drawn_168 : decode cL_drawn 168 = .ok (.if_icmp .ge 60, 3) := by decide +kernel
theorem dL_drawn_171 : decode cL_drawn 171 = .ok (.aload_n 0, 1) := by decide +kernel
theorem dL_drawn_172 : decode cL_drawn 172 = .ok (.bipush 6, 2) := by decide +kernel
theorem dL_drawn_174 : decode cL_drawn 174 = .ok (.iload 5, 2) := by decide +kernel
theorem dL_drawn_176 : decode cL_drawn 176 = .ok (.iadd, 1) := by decide +kernel
theorem dL_drawn_177 : decode cL_drawn 177 = .ok (.invokestatic 176, 3) := by decide +kernel
theorem dL_drawn_180 : decode cL_drawn 180 = .ok (.iconst 1, 1) := by decide +kernel
theorem dL_drawn_181 : decode cL_drawn 181 = .ok (.iushr, 1) := by decide +kernel
theorem dL_drawn_182 : decode cL_drawn 182 = .ok (.istore 6, 2) := by decide +kernel
theorem dL_drawn_184 : decode cL_drawn 184 = .ok (.aload_n 2, 1) := by decide +kernel
theorem dL_drawn_185 : decode cL_drawn 185 = .ok (.iload 6, 2) := by decide +kernel
theorem dL_drawn_187 : decode cL_drawn 187 = .ok (.bipush 12, 2) := by decide +kernel
theorem dL_drawn_189 : decode cL_drawn 189 = .ok (.irem, 1) := by decide +kernel
theorem dL_drawn_190 : decode cL_drawn 190 = .ok (.invokestatic 190, 3) := by decide +kernel
theorem dL_drawn_193 : decode cL_drawn 193 = .ok (.iconst (-1), 1) := by decide +kernel
theorem dL_drawn_194 : decode cL_drawn 194 = .ok (.if_icmp .eq 26, 3) := by decide +kernel
theorem dL_drawn_197 : decode cL_drawn 197 = .ok (.aload_n 2, 1) := by decide +kernel
theorem dL_drawn_198 : decode cL_drawn 198 = .ok (.iload 6, 2) := by decide +kernel
theorem dL_drawn_200 : decode cL_drawn 200 = .ok (.iconst 4, 1) := by decide +kernel
theorem dL_drawn_201 : decode cL_drawn 201 = .ok (.iushr, 1) := by decide +kernel
theorem dL_drawn_202 : decode cL_drawn 202 = .ok (.bipush 12, 2) := by decide +kernel
theorem dL_drawn_204 : decode cL_drawn 204 = .ok (.irem, 1) := by decide +kernel
theorem dL_drawn_205 : decode cL_drawn 205 = .ok (.iload 6, 2) := by decide +kernel
theorem dL_drawn_207 : decode cL_drawn 207 = .ok (.bipush 8, 2) := by decide +kernel
theorem dL_drawn_209 : decode cL_drawn 209 = .ok (.iushr, 1) := by decide +kernel
theorem dL_drawn_210 : decode cL_drawn 210 = .ok (.bipush 40, 2) := by decide +kernel
theorem dL_drawn_212 : decode cL_drawn 212 = .ok (.irem, 1) := by decide +kernel
theorem dL_drawn_213 : decode cL_drawn 213 = .ok (.invokestatic 192, 3) := by decide +kernel
theorem dL_drawn_216 : decode cL_drawn 216 = .ok (.iconst (-1), 1) := by decide +kernel
theorem dL_drawn_217 : decode cL_drawn 217 = .ok (.if_icmp .ne 5, 3) := by decide +kernel
theorem dL_drawn_220 : decode cL_drawn 220 = .ok (.aconst_null, 1) := by decide +kernel
theorem dL_drawn_221 : decode cL_drawn 221 = .ok (.areturn, 1) := by decide +kernel
theorem dL_drawn_222 : decode cL_drawn 222 = .ok (.iinc 5 1, 3) := by decide +kernel
theorem dL_drawn_225 : decode cL_drawn 225 = .ok (.goto (-60), 3) := by decide +kernel
theorem dL_drawn_228 : decode cL_drawn 228 = .ok (.iload_n 3, 1) := by decide +kernel
theorem dL_drawn_229 : decode cL_drawn 229 = .ok (.iconst 3, 1) := by decide +kernel
theorem dL_drawn_230 : decode cL_drawn 230 = .ok (.irem, 1) := by decide +kernel
theorem dL_drawn_231 : decode cL_drawn 231 = .ok (.ifCond .le 19, 3) := by decide +kernel
theorem dL_drawn_234 : decode cL_drawn 234 = .ok (.aload_n 2, 1) := by decide +kernel
theorem dL_drawn_235 : decode cL_drawn 235 = .ok (.iload_n 3, 1) := by decide +kernel
theorem dL_drawn_236 : decode cL_drawn 236 = .ok (.iconst 4, 1) := by decide +kernel
theorem dL_drawn_237 : decode cL_drawn 237 = .ok (.iushr, 1) := by decide +kernel
theorem dL_drawn_238 : decode cL_drawn 238 = .ok (.bipush 12, 2) := by decide +kernel
theorem dL_drawn_240 : decode cL_drawn 240 = .ok (.irem, 1) := by decide +kernel
theorem dL_drawn_241 : decode cL_drawn 241 = .ok (.invokestatic 195, 3) := by decide +kernel
theorem dL_drawn_244 : decode cL_drawn 244 = .ok (.iconst 1, 1) := by decide +kernel
theorem dL_drawn_245 : decode cL_drawn 245 = .ok (.if_icmp .eq 5, 3) := by decide +kernel
theorem dL_drawn_248 : decode cL_drawn 248 = .ok (.aconst_null, 1) := by decide +kernel
theorem dL_drawn_249 : decode cL_drawn 249 = .ok (.areturn, 1) := by decide +kernel
theorem dL_drawn_250 : decode cL_drawn 250 = .ok (.iload_n 3, 1) := by decide +kernel
theorem dL_drawn_251 : decode cL_drawn 251 = .ok (.bipush 8, 2) := by decide +kernel
theorem dL_drawn_253 : decode cL_drawn 253 = .ok (.iushr, 1) := by decide +kernel
theorem dL_drawn_254 : decode cL_drawn 254 = .ok (.bipush 7, 2) := by decide +kernel
theorem dL_drawn_256 : decode cL_drawn 256 = .ok (.irem, 1) := by decide +kernel
theorem dL_drawn_257 : decode cL_drawn 257 = .ok (.iconst 3, 1) := by decide +kernel
theorem dL_drawn_258 : decode cL_drawn 258 = .ok (.isub, 1) := by decide +kernel
theorem dL_drawn_259 : decode cL_drawn 259 = .ok (.istore 5, 2) := by decide +kernel
theorem dL_drawn_261 : decode cL_drawn 261 = .ok (.aload_n 2, 1) := by decide +kernel
theorem dL_drawn_262 : decode cL_drawn 262 = .ok (.iload 5, 2) := by decide +kernel
theorem dL_drawn_264 : decode cL_drawn 264 = .ok (.invokestatic 197, 3) := by decide +kernel
theorem dL_drawn_267 : decode cL_drawn 267 = .ok (.ifCond .ne 19, 3) := by decide +kernel
theorem dL_drawn_270 : decode cL_drawn 270 = .ok (.aload_n 2, 1) := by decide +kernel
theorem dL_drawn_271 : decode cL_drawn 271 = .ok (.iconst 1, 1) := by decide +kernel
theorem dL_drawn_272 : decode cL_drawn 272 = .ok (.iload_n 3, 1) := by decide +kernel
theorem dL_drawn_273 : decode cL_drawn 273 = .ok (.bipush 12, 2) := by decide +kernel
theorem dL_drawn_275 : decode cL_drawn 275 = .ok (.iushr, 1) := by decide +kernel
theorem dL_drawn_276 : decode cL_drawn 276 = .ok (.bipush 40, 2) := by decide +kernel
theorem dL_drawn_278 : decode cL_drawn 278 = .ok (.irem, 1) := by decide +kernel
theorem dL_drawn_279 : decode cL_drawn 279 = .ok (.iadd, 1) := by decide +kernel
theorem dL_drawn_280 : decode cL_drawn 280 = .ok (.invokestatic 187, 3) := by decide +kernel
theorem dL_drawn_283 : decode cL_drawn 283 = .ok (.ifCond .ge 7, 3) := by decide +kernel
theorem dL_drawn_286 : decode cL_drawn 286 = .ok (.aconst_null, 1) := by decide +kernel
theorem dL_drawn_287 : decode cL_drawn 287 = .ok (.goto 4, 3) := by decide +kernel
theorem dL_drawn_290 : decode cL_drawn 290 = .ok (.aload_n 2, 1) := by decide +kernel
theorem dL_drawn_291 : decode cL_drawn 291 = .ok (.areturn, 1) := by decide +kernel
set_option maxRecDepth 20000 in
theorem ggL_placeIn_X5_time : GoodIn wsL_placeIn wsX5_time := goodIn_ca (goodIn_r _ [5, 6, 7, 8, 9, 10, 11, 12, 13, 14, 15, 16, 17, 18, 19, 20, 21, 22, 23, 24, 25] (by decide +kernel) (by decide +kernel)) (goodIn_sub (fun _ h => List.mem_cons_of_mem _ (List.mem_append_left _ (List.mem_append_right _ h))) (by decide +kernel))
set_option maxRecDepth 20000 in
theorem gL_placeIn_X5_time : GoodIn wsL_placeIn (wsV RL 180 RX5 yX5_time wsX5_time) := goodIn_app (goodIn_of _ (by decide +kernel)) ggL_placeIn_X5_time
theorem dL_placeIn_0 : decode cL_placeIn 0 = .ok (.aload_n 0, 1) := by decide +kernel
theorem dL_placeIn_1 : decode cL_placeIn 1 = .ok (.invokevirtual 180, 3) := by decide +kernel
theorem dL_placeIn_4 : decode cL_placeIn 4 = .ok (.iload_n 2, 1) := by decide +kernel
theorem dL_placeIn_5 : decode cL_placeIn 5 = .ok (.iadd, 1) := by decide +kernel
theorem dL_placeIn_6 : decode cL_placeIn 6 = .ok (.aload_n 1, 1) := by decide +kernel
theorem dL_placeIn_7 : decode cL_placeIn 7 = .ok (.iconst 4, 1) := by decide +kernel
theorem dL_placeIn_8 : decode cL_placeIn 8 = .ok (.iaload, 1) := by decide +kernel
theorem dL_placeIn_9 : decode cL_placeIn 9 = .ok (.isub, 1) := by decide +kernel
theorem dL_placeIn_10 : decode cL_placeIn 10 = .ok (.aload_n 1, 1) := by decide +kernel
theorem dL_placeIn_11 : decode cL_placeIn 11 = .ok (.iconst 3, 1) := by decide +kernel
theorem dL_placeIn_12 : decode cL_placeIn 12 = .ok (.iaload, 1) := by decide +kernel
theorem dL_placeIn_13 : decode cL_placeIn 13 = .ok (.idiv, 1) := by decide +kernel
theorem dL_placeIn_14 : decode cL_placeIn 14 = .ok (.istore_n 3, 1) := by decide +kernel
theorem dL_placeIn_15 : decode cL_placeIn 15 = .ok (.aload_n 1, 1) := by decide +kernel
theorem dL_placeIn_16 : decode cL_placeIn 16 = .ok (.iconst 2, 1) := by decide +kernel
theorem dL_placeIn_17 : decode cL_placeIn 17 = .ok (.iaload, 1) := by decide +kernel
theorem dL_placeIn_18 : decode cL_placeIn 18 = .ok (.iload_n 3, 1) := by decide +kernel
theorem dL_placeIn_19 : decode cL_placeIn 19 = .ok (.iadd, 1) := by decide +kernel
theorem dL_placeIn_20 : decode cL_placeIn 20 = .ok (.bipush 12, 2) := by decide +kernel
theorem dL_placeIn_22 : decode cL_placeIn 22 = .ok (.irem, 1) := by decide +kernel
theorem dL_placeIn_23 : decode cL_placeIn 23 = .ok (.ireturn, 1) := by decide +kernel
set_option maxRecDepth 20000 in
theorem ggL_massIn_X5_time : GoodIn wsL_massIn wsX5_time := goodIn_ca (goodIn_r _ [9, 10, 11, 12, 13, 14, 15, 16, 17, 18, 19, 20, 21, 22, 23, 24, 25, 26, 27, 28, 29] (by decide +kernel) (by decide +kernel)) (goodIn_sub (fun _ h => List.mem_cons_of_mem _ (List.mem_append_right _ h)) (by decide +kernel))
set_option maxRecDepth 20000 in
theorem gL_massIn_X5_time : GoodIn wsL_massIn (wsV RL 180 RX5 yX5_time wsX5_time) := goodIn_app (goodIn_of _ (by decide +kernel)) ggL_massIn_X5_time
theorem dL_massIn_0 : decode cL_massIn 0 = .ok (.aload_n 0, 1) := by decide +kernel
theorem dL_massIn_1 : decode cL_massIn 1 = .ok (.invokevirtual 180, 3) := by decide +kernel
theorem dL_massIn_4 : decode cL_massIn 4 = .ok (.iload_n 2, 1) := by decide +kernel
theorem dL_massIn_5 : decode cL_massIn 5 = .ok (.iadd, 1) := by decide +kernel
theorem dL_massIn_6 : decode cL_massIn 6 = .ok (.aload_n 1, 1) := by decide +kernel
theorem dL_massIn_7 : decode cL_massIn 7 = .ok (.iconst 4, 1) := by decide +kernel
theorem dL_massIn_8 : decode cL_massIn 8 = .ok (.iaload, 1) := by decide +kernel
theorem dL_massIn_9 : decode cL_massIn 9 = .ok (.isub, 1) := by decide +kernel
theorem dL_massIn_10 : decode cL_massIn 10 = .ok (.istore_n 3, 1) := by decide +kernel
theorem dL_massIn_11 : decode cL_massIn 11 = .ok (.aload_n 1, 1) := by decide +kernel
theorem dL_massIn_12 : decode cL_massIn 12 = .ok (.iconst 0, 1) := by decide +kernel
theorem dL_massIn_13 : decode cL_massIn 13 = .ok (.iaload, 1) := by decide +kernel
theorem dL_massIn_14 : decode cL_massIn 14 = .ok (.ifCond .ne 7, 3) := by decide +kernel
theorem dL_massIn_17 : decode cL_massIn 17 = .ok (.aload_n 1, 1) := by decide +kernel
theorem dL_massIn_18 : decode cL_massIn 18 = .ok (.iconst 1, 1) := by decide +kernel
theorem dL_massIn_19 : decode cL_massIn 19 = .ok (.iaload, 1) := by decide +kernel
theorem dL_massIn_20 : decode cL_massIn 20 = .ok (.ireturn, 1) := by decide +kernel
theorem dL_massIn_21 : decode cL_massIn 21 = .ok (.aload_n 1, 1) := by decide +kernel
theorem dL_massIn_22 : decode cL_massIn 22 = .ok (.iconst 0, 1) := by decide +kernel
theorem dL_massIn_23 : decode cL_massIn 23 = .ok (.iaload, 1) := by decide +kernel
theorem dL_massIn_24 : decode cL_massIn 24 = .ok (.iconst 1, 1) := by decide +kernel
theorem dL_massIn_25 : decode cL_massIn 25 = .ok (.if_icmp .ne 18, 3) := by decide +kernel
theorem dL_massIn_28 : decode cL_massIn 28 = .ok (.iconst 0, 1) := by decide +kernel
theorem dL_massIn_29 : decode cL_massIn 29 = .ok (.aload_n 1, 1) := by decide +kernel
theorem dL_massIn_30 : decode cL_massIn 30 = .ok (.iconst 1, 1) := by decide +kernel
theorem dL_massIn_31 : decode cL_massIn 31 = .ok (.iaload, 1) := by decide +kernel
theorem dL_massIn_32 : decode cL_massIn 32 = .ok (.iload_n 3, 1) := by decide +kernel
theorem dL_massIn_33 : decode cL_massIn 33 = .ok (.bipush 10, 2) := by decide +kernel
theorem dL_massIn_35 : decode cL_massIn 35 = .ok (.idiv, 1) := by decide +kernel
theorem dL_massIn_36 : decode cL_massIn 36 = .ok (.isub, 1) := by decide +kernel
theorem dL_massIn_37 : decode cL_massIn 37 = .ok (.invokestatic 199, 3) := by decide +kernel
theorem dL_massIn_40 : decode cL_massIn 40 = .ok (.goto 20, 3) := by decide +kernel
theorem dL_massIn_43 : decode cL_massIn 43 = .ok (.iload_n 3, 1) := by decide +kernel
theorem dL_massIn_44 : decode cL_massIn 44 = .ok (.iconst 2, 1) := by decide +kernel
theorem dL_massIn_45 : decode cL_massIn 45 = .ok (.irem, 1) := by decide +kernel
theorem dL_massIn_46 : decode cL_massIn 46 = .ok (.ifCond .ne 9, 3) := by decide +kernel
theorem dL_massIn_49 : decode cL_massIn 49 = .ok (.aload_n 1, 1) := by decide +kernel
theorem dL_massIn_50 : decode cL_massIn 50 = .ok (.iconst 1, 1) := by decide +kernel
theorem dL_massIn_51 : decode cL_massIn 51 = .ok (.iaload, 1) := by decide +kernel
theorem dL_massIn_52 : decode cL_massIn 52 = .ok (.goto 8, 3) := by decide +kernel
theorem dL_massIn_55 : decode cL_massIn 55 = .ok (.aload_n 1, 1) := by decide +kernel
theorem dL_massIn_56 : decode cL_massIn 56 = .ok (.iconst 1, 1) := by decide +kernel
theorem dL_massIn_57 : decode cL_massIn 57 = .ok (.iaload, 1) := by decide +kernel
theorem dL_massIn_58 : decode cL_massIn 58 = .ok (.iconst 2, 1) := by decide +kernel
theorem dL_massIn_59 : decode cL_massIn 59 = .ok (.idiv, 1) := by decide +kernel
theorem dL_massIn_60 : decode cL_massIn 60 = .ok (.ireturn, 1) := by decide +kernel
set_option maxRecDepth 20000 in
theorem ggL_isDark_L_plugPosition : GoodIn wsL_isDark wsL_plugPosition := goodIn_ca (goodIn_ca (goodIn_r _ [8, 9, 10, 11, 12, 13, 14, 15, 16, 17, 18, 19, 20, 21, 22, 23, 24, 25, 26, 27, 28, 29, 30, 31, 32, 33, 34, 35, 36, 37, 38, 48, 49, 50, 51, 52, 53, 54, 55, 56, 57, 58, 59] (by decide +kernel) (by decide +kernel)) (goodIn_sub (fun _ h => List.mem_cons_of_mem _ (List.mem_append_left _ (List.mem_append_left _ (List.mem_append_right _ h)))) (by decide +kernel))) (goodIn_sub (fun _ h => List.mem_cons_of_mem _ (List.mem_append_left _ (List.mem_append_right _ h))) (by decide +kernel))
set_option maxRecDepth 20000 in
theorem gL_isDark_L_plugPosition : GoodIn wsL_isDark (va_wsS RL 204 yL_plugPosition wsL_plugPosition) := goodIn_app (goodIn_of _ (by decide +kernel)) ggL_isDark_L_plugPosition
set_option maxRecDepth 20000 in
theorem ggL_isDark_L_placeIn : GoodIn wsL_isDark wsL_placeIn := goodIn_ca (goodIn_ca (goodIn_r _ [41, 42, 43, 44, 13, 45, 15, 46, 47, 33, 34, 35, 36, 37, 48, 49, 50, 51, 52, 53, 54, 55, 56, 57, 58, 59] (by decide +kernel) (by decide +kernel)) (goodIn_sub (fun _ h => List.mem_cons_of_mem _ (List.mem_append_left _ (List.mem_append_right _ h))) (by decide +kernel))) (goodIn_sub (fun _ h => List.mem_cons_of_mem _ (List.mem_append_right _ h)) (by decide +kernel))
set_option maxRecDepth 20000 in
theorem gL_isDark_L_placeIn : GoodIn wsL_isDark (va_wsS RL 206 yL_placeIn wsL_placeIn) := goodIn_app (goodIn_of _ (by decide +kernel)) ggL_isDark_L_placeIn
theorem dL_isDark_0 : decode cL_isDark 0 = .ok (.aload_n 0, 1) := by decide +kernel
theorem dL_isDark_1 : decode cL_isDark 1 = .ok (.invokestatic 204, 3) := by decide +kernel
theorem dL_isDark_4 : decode cL_isDark 4 = .ok (.istore_n 3, 1) := by decide +kernel
theorem dL_isDark_5 : decode cL_isDark 5 = .ok (.iload_n 3, 1) := by decide +kernel
theorem dL_isDark_6 : decode cL_isDark 6 = .ok (.ifCond .lt 23, 3) := by decide +kernel
theorem dL_isDark_9 : decode cL_isDark 9 = .ok (.iload_n 3, 1) := by decide +kernel
theorem dL_isDark_10 : decode cL_isDark 10 = .ok (.aload_n 0, 1) := by decide +kernel
theorem dL_isDark_11 : decode cL_isDark 11 = .ok (.aload_n 1, 1) := by decide +kernel
theorem dL_isDark_12 : decode cL_isDark 12 = .ok (.iload_n 2, 1) := by decide +kernel
theorem dL_isDark_13 : decode cL_isDark 13 = .ok (.invokestatic 206, 3) := by decide +kernel
theorem dL_isDark_16 : decode cL_isDark 16 = .ok (.isub, 1) := by decide +kernel
theorem dL_isDark_17 : decode cL_isDark 17 = .ok (.invokestatic 210, 3) := by decide +kernel
theorem dL_isDark_20 : decode cL_isDark 20 = .ok (.bipush 6, 2) := by decide +kernel
theorem dL_isDark_22 : decode cL_isDark 22 = .ok (.if_icmp .ne 7, 3) := by decide +kernel
theorem dL_isDark_25 : decode cL_isDark 25 = .ok (.iconst 1, 1) := by decide +kernel
theorem dL_isDark_26 : decode cL_isDark 26 = .ok (.goto 4, 3) := by decide +kernel
theorem dL_isDark_29 : decode cL_isDark 29 = .ok (.iconst 0, 1) := by decide +kernel
