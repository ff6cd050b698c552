set_option maxRecDepth 20000 in
theorem gL_lines_X5_hasToe : GoodIn wsL_lines (wsV RL 78 RX5 yX5_hasToe wsX5_hasToe) := goodIn_app (goodIn_of _ (by decide +kernel)) ggL_lines_X5_hasToe
set_option maxRecDepth 20000 in
theorem ggL_lines_L_plugPosition : GoodIn wsL_lines wsL_plugPosition := goodIn_ca (goodIn_ca (goodIn_r _ [275, 276, 277, 278, 279, 162, 280, 164, 281, 282, 283, 284, 285, 286, 287, 288, 289, 172, 290, 291, 292, 293, 294, 178, 180, 181, 182, 183, 184, 185, 295, 524, 525, 526, 527, 528, 529, 530, 531, 532, 533, 534, 535] (by decide +kernel) (by decide +kernel)) (goodIn_sub (fun _ h => List.mem_cons_of_mem _ (List.mem_append_right _ h)) (by decide +kernel))) (goodIn_sub (fun _ h => List.mem_cons_of_mem _ (List.mem_append_left _ (List.mem_append_left _ (List.mem_append_left _ (List.mem_append_right _ h))))) (by decide +kernel))
set_option maxRecDepth 20000 in
theorem gL_lines_L_plugPosition : GoodIn wsL_lines (va_wsS RL 204 yL_plugPosition wsL_plugPosition) := goodIn_app (goodIn_of _ (by decide +kernel)) ggL_lines_L_plugPosition
set_option maxRecDepth 20000 in
theorem ggL_lines_J4_toString_0e30d : GoodIn wsL_lines wsJ4_toString_0e30d := goodIn_r _ [299, 300, 301, 98, 302, 303, 304, 305, 306, 307, 308, 12, 13, 120, 114, 119, 309, 310, 311, 312, 313, 9, 314, 16, 315, 316, 317, 318, 319, 3, 320, 321, 32, 322, 323, 35, 324, 82, 83, 84, 85, 14, 17, 325, 326, 66, 327, 68, 69, 70, 71, 72, 73, 328, 329, 330, 15, 74, 75, 58, 76, 77, 78, 79, 80, 331, 332, 333, 334, 2, 335, 336, 20, 337, 338, 339, 340, 144, 145, 146, 93, 94, 95, 147, 148, 149, 100, 150, 151, 103, 152, 341, 342, 343, 89, 108, 109, 22, 23, 24, 25, 344, 345, 346, 347, 520, 521, 522, 523, 516, 517, 518, 519] (by decide +kernel) (by decide +kernel)
set_option maxRecDepth 20000 in
theorem gL_lines_J4_toString_0e30d : GoodIn wsL_lines (wsV RL 323 RJ4 yJ4_toString_0e30d wsJ4_toString_0e30d) := goodIn_app (goodIn_of _ (by decide +kernel)) ggL_lines_J4_toString_0e30d
set_option maxRecDepth 20000 in
theorem ggL_lines_X5_towelCount : GoodIn wsL_lines wsX5_towelCount := goodIn_ca (goodIn_r _ [351, 164, 352, 353, 354, 172, 355, 178, 180, 181, 182, 183, 184, 185, 524, 525, 526, 527, 528, 529, 530, 531, 532, 533, 534, 535] (by decide +kernel) (by decide +kernel)) (goodIn_sub (fun _ h => List.mem_cons_of_mem _ (List.mem_append_left _ (List.mem_append_left _ (List.mem_append_left _ (List.mem_append_right _ h))))) (by decide +kernel))
set_option maxRecDepth 20000 in
theorem gL_lines_X5_towelCount : GoodIn wsL_lines (wsV RL 327 RX5 yX5_towelCount wsX5_towelCount) := goodIn_app (goodIn_of _ (by decide +kernel)) ggL_lines_X5_towelCount
set_option maxRecDepth 20000 in
theorem ggL_lines_X5_shoreOf : GoodIn wsL_lines wsX5_shoreOf := goodIn_ca (goodIn_ca (goodIn_r _ [359, 164, 360, 361, 362, 162, 363, 168, 169, 364, 365, 366, 172, 367, 368, 353, 354, 355, 178, 180, 181, 182, 183, 184, 185, 369, 370, 371, 372, 524, 525, 526, 527, 528, 529, 530, 531, 532, 533, 534, 535] (by decide +kernel) (by decide +kernel)) (goodIn_sub (fun _ h => List.mem_cons_of_mem _ (List.mem_append_left _ (List.mem_append_left _ (List.mem_append_right _ h)))) (by decide +kernel))) (goodIn_sub (fun _ h => List.mem_cons_of_mem _ (List.mem_append_left _ (List.mem_append_left _ (List.mem_append_left _ (List.mem_append_right _ h))))) (by decide +kernel))
set_option maxRecDepth 20000 in
theorem gL_lines_X5_shoreOf : GoodIn wsL_lines (wsV RL 86 RX5 yX5_shoreOf wsX5_shoreOf) := goodIn_app (goodIn_of _ (by decide +kernel)) ggL_lines_X5_shoreOf
set_option maxRecDepth 20000 in
theorem gz7_h : GoodIn wsL_lines [.code yX5_writeRim cX5_writeRim 2 (some .int)] := goodIn_r _ [376] (by decide +kernel) (by decide +kernel)
set_option maxRecDepth 20000 in
theorem gz7_0 : GoodIn wsL_lines wsX5_writeRim_r1 := goodIn_r _ [377, 164, 378, 379, 380, 3, 381, 382, 383, 32, 384, 9, 385, 386, 387, 388, 35, 16, 389, 41, 42, 43, 44, 45] (by decide +kernel) (by decide +kernel)
set_option maxRecDepth 20000 in
theorem gz7_1 : GoodIn wsL_lines wsX5_writeRim_r2 := goodIn_r _ [17, 46, 47, 48, 49, 50, 51, 52, 53, 54, 55, 56, 57, 58, 59, 60, 61, 62, 63, 64, 65, 66, 67, 68] (by decide +kernel) (by decide +kernel)
set_option maxRecDepth 20000 in
theorem gz7_2 : GoodIn wsL_lines wsX5_writeRim_r3 := goodIn_r _ [69, 70, 71, 72, 73, 15, 74, 75, 76, 77, 78, 79, 80, 81, 82, 83, 84, 85, 14, 390, 391, 139, 392, 393] (by decide +kernel) (by decide +kernel)
set_option maxRecDepth 20000 in
theorem gz7_3 : GoodIn wsL_lines wsX5_writeRim_r4 := goodIn_r _ [394, 395, 396, 397, 398, 334, 2, 399, 400, 401, 402, 403, 20, 404, 405, 406, 407, 408, 409, 410, 411, 412, 413, 414] (by decide +kernel) (by decide +kernel)
set_option maxRecDepth 20000 in
theorem gz7_4 : GoodIn wsL_lines wsX5_writeRim_r5 := goodIn_r _ [415, 416, 132, 133, 134, 135, 136, 18, 19, 21, 22, 23, 24, 25, 137, 138, 140, 141, 142, 143, 144, 145, 146, 93] (by decide +kernel) (by decide +kernel)
set_option maxRecDepth 20000 in
theorem gz7_5 : GoodIn wsL_lines wsX5_writeRim_r6 := goodIn_r _ [94, 95, 147, 148, 98, 149, 100, 150, 151, 103, 152, 105, 106, 107, 89, 108, 109, 417, 418, 419, 420, 421, 422, 423] (by decide +kernel) (by decide +kernel)
set_option maxRecDepth 20000 in
theorem gz7_6 : GoodIn wsL_lines wsX5_writeRim_r7 := goodIn_r _ [424, 425, 426, 427, 428, 174, 175, 176, 172, 177, 178, 179, 180, 181, 182, 183, 184, 185, 186, 187, 188, 189, 190, 191] (by decide +kernel) (by decide +kernel)
set_option maxRecDepth 20000 in
theorem gz7_7 : GoodIn wsL_lines wsX5_writeRim_r8 := goodIn_r _ [192, 193, 194, 195, 196, 197, 198, 199, 200, 201, 202, 203, 204, 205, 206, 207, 208, 209, 210, 211, 212, 213, 214, 215] (by decide +kernel) (by decide +kernel)
set_option maxRecDepth 20000 in
theorem gz7_8 : GoodIn wsL_lines wsX5_writeRim_r9 := goodIn_r _ [216, 217, 218, 219, 220, 221, 222, 223, 224, 225, 226, 227, 228, 229, 230, 231, 232, 233, 234, 235, 236, 237, 238, 239] (by decide +kernel) (by decide +kernel)
set_option maxRecDepth 20000 in
theorem gz7_9 : GoodIn wsL_lines wsX5_writeRim_r10 := goodIn_r _ [240, 241, 171, 173, 429, 243, 244, 245, 246, 247, 248, 249, 250, 251, 252, 253, 254, 255, 256, 257, 258, 259, 260, 261] (by decide +kernel) (by decide +kernel)
set_option maxRecDepth 20000 in
theorem gz7_10 : GoodIn wsL_lines wsX5_writeRim_r11 := goodIn_r _ [90, 91, 92, 96, 97, 99, 101, 102, 104, 262, 263, 264, 265, 266, 271, 430, 431, 432, 162, 433, 295, 292, 293, 294] (by decide +kernel) (by decide +kernel)
set_option maxRecDepth 20000 in
theorem gz7_11 : GoodIn wsL_lines wsX5_writeRim_r12 := goodIn_r _ [434, 435, 436, 437, 368, 353, 354, 355, 438, 370, 371, 372, 439, 319, 440, 320, 321, 316, 322, 323] (by decide +kernel) (by decide +kernel)
set_option maxRecDepth 20000 in
theorem gz7_12 : GoodIn wsL_lines wsX50 := goodIn_r _ [524, 525, 526, 527, 528, 529, 530, 531, 532, 533] (by decide +kernel) (by decide +kernel)
set_option maxRecDepth 20000 in
theorem gz7_13 : GoodIn wsL_lines wsJx7c7330 := goodIn_r _ [536, 537, 538, 539, 540, 541] (by decide +kernel) (by decide +kernel)
set_option maxRecDepth 20000 in
theorem gz7_14 : GoodIn wsL_lines wsJ40 := goodIn_r _ [516, 517, 518, 519] (by decide +kernel) (by decide +kernel)
set_option maxRecDepth 20000 in
theorem gz7_15 : GoodIn wsL_lines wsJx000600 := goodIn_r _ [542, 543, 544, 545, 546, 547] (by decide +kernel) (by decide +kernel)
set_option maxRecDepth 20000 in
theorem gz7_16 : GoodIn wsL_lines wsX40 := goodIn_r _ [534] (by decide +kernel) (by decide +kernel)
set_option maxRecDepth 20000 in
theorem gz7_17 : GoodIn wsL_lines wsX20 := goodIn_r _ [535] (by decide +kernel) (by decide +kernel)
set_option maxRecDepth 20000 in
theorem ggL_lines_X5_writeRim : GoodIn wsL_lines wsX5_writeRim := goodIn_ca (goodIn_ca (goodIn_app gz7_h (goodIn_app (goodIn_app (goodIn_app (goodIn_app (goodIn_app (goodIn_app (goodIn_app gz7_0 (goodIn_app gz7_1 (goodIn_app gz7_2 (goodIn_app gz7_3 (goodIn_app gz7_4 (goodIn_app gz7_5 (goodIn_app gz7_6 (goodIn_app gz7_7 (goodIn_app gz7_8 (goodIn_app gz7_9 (goodIn_app gz7_10 gz7_11))))))))))) gz7_12) gz7_13) gz7_14) gz7_15) gz7_16) gz7_17)) (goodIn_sub (fun _ h => List.mem_cons_of_mem _ (List.mem_append_left _ (List.mem_append_left _ (List.mem_append_left _ (List.mem_append_right _ h))))) (by decide +kernel))) (goodIn_sub (fun _ h => List.mem_cons_of_mem _ (List.mem_append_left _ (List.mem_append_right _ h))) (by decide +kernel))
set_option maxRecDepth 20000 in
theorem gL_lines_X5_writeRim : GoodIn wsL_lines (wsV RL 332 RX5 yX5_writeRim wsX5_writeRim) := goodIn_app (goodIn_of _ (by decide +kernel)) ggL_lines_X5_writeRim
set_option maxRecDepth 20000 in
theorem ggL_lines_L_spells : GoodIn wsL_lines wsL_spells := goodIn_ca (goodIn_r _ [443, 444, 111, 112, 98, 113, 114, 115, 116, 117, 118, 119, 120, 445, 446, 274, 447, 448, 449, 450, 451, 162, 452, 168, 169, 377, 439, 319, 440, 3, 320, 321, 316, 32, 322, 9, 323, 35, 453, 454, 455, 456, 457, 458, 459, 460, 17, 16, 461, 75, 58, 76, 462, 424, 425, 100, 426, 427, 103, 428, 463, 342, 20, 343, 89, 108, 109, 93, 94, 95, 464, 465, 466, 467, 468, 469, 470, 471, 472, 473, 139, 474, 475, 476, 477, 478, 420, 421, 422, 423, 341, 520, 521, 522, 523, 524, 525, 526, 527, 528, 529, 530, 531, 532, 533, 516, 517, 518, 519] (by decide +kernel) (by decide +kernel)) (goodIn_sub (fun _ h => List.mem_cons_of_mem _ (List.mem_append_left _ (List.mem_append_left _ (List.mem_append_right _ h)))) (by decide +kernel))
set_option maxRecDepth 20000 in
theorem gL_lines_L_spells : GoodIn wsL_lines (va_wsS RL 335 yL_spells wsL_spells) := goodIn_app (goodIn_of _ (by decide +kernel)) ggL_lines_L_spells
set_option maxRecDepth 20000 in
theorem ggL_lines_X5_moonCount : GoodIn wsL_lines wsX5_moonCount := goodIn_ca (goodIn_r _ [482, 164, 483, 191, 192, 172, 193, 178, 180, 181, 182, 183, 184, 185, 524, 525, 526, 527, 528, 529, 530, 531, 532, 533, 534, 535] (by decide +kernel) (by decide +kernel)) (goodIn_sub (fun _ h => List.mem_cons_of_mem _ (List.mem_append_left _ (List.mem_append_left _ (List.mem_append_left _ (List.mem_append_right _ h))))) (by decide +kernel))
set_option maxRecDepth 20000 in
theorem gL_lines_X5_moonCount : GoodIn wsL_lines (wsV RL 213 RX5 yX5_moonCount wsX5_moonCount) := goodIn_app (goodIn_of _ (by decide +kernel)) ggL_lines_X5_moonCount
set_option maxRecDepth 20000 in
theorem gz8_h : GoodIn wsL_lines [.codeWith yL_writeMoon cL_writeMoon 3 (some .int) [(0, 5, 6, 28)]] := goodIn_r _ [486] (by decide +kernel) (by decide +kernel)
set_option maxRecDepth 20000 in
theorem gz8_0 : GoodIn wsL_lines wsL_writeMoon_r1 := goodIn_r _ [448, 487, 488, 489, 162, 490, 164, 377, 491, 492, 493, 494, 168, 169, 495, 496, 497, 172, 498, 190, 191, 192, 193, 178] (by decide +kernel) (by decide +kernel)
set_option maxRecDepth 20000 in
theorem gz8_1 : GoodIn wsL_lines wsL_writeMoon_r2 := goodIn_r _ [180, 181, 182, 183, 184, 185, 499, 207, 208, 209, 500, 211, 212, 213, 198, 199, 200, 201, 214, 215, 216, 217, 378, 379] (by decide +kernel) (by decide +kernel)
set_option maxRecDepth 20000 in
theorem gz8_2 : GoodIn wsL_lines wsL_writeMoon_r3 := goodIn_r _ [380, 3, 381, 382, 383, 32, 384, 9, 385, 386, 387, 388, 35, 16, 389, 41, 42, 43, 44, 45, 17, 46, 47, 48] (by decide +kernel) (by decide +kernel)
set_option maxRecDepth 20000 in
theorem gz8_3 : GoodIn wsL_lines wsL_writeMoon_r4 := goodIn_r _ [49, 50, 51, 52, 53, 54, 55, 56, 57, 58, 59, 60, 61, 62, 63, 64, 65, 66, 67, 68, 69, 70, 71, 72] (by decide +kernel) (by decide +kernel)
set_option maxRecDepth 20000 in
theorem gz8_4 : GoodIn wsL_lines wsL_writeMoon_r5 := goodIn_r _ [73, 15, 74, 75, 76, 77, 78, 79, 80, 81, 82, 83, 84, 85, 14, 390, 391, 139, 392, 393, 394, 395, 396, 397] (by decide +kernel) (by decide +kernel)
set_option maxRecDepth 20000 in
theorem gz8_5 : GoodIn wsL_lines wsL_writeMoon_r6 := goodIn_r _ [398, 334, 2, 399, 400, 401, 402, 403, 20, 404, 405, 406, 407, 408, 409, 410, 411, 412, 413, 414, 415, 416, 132, 133] (by decide +kernel) (by decide +kernel)
set_option maxRecDepth 20000 in
theorem gz8_6 : GoodIn wsL_lines wsL_writeMoon_r7 := goodIn_r _ [134, 135, 136, 18, 19, 21, 22, 23, 24, 25, 137, 138, 140, 141, 142, 143, 144, 145, 146, 93, 94, 95, 147, 148] (by decide +kernel) (by decide +kernel)
set_option maxRecDepth 20000 in
theorem gz8_7 : GoodIn wsL_lines wsL_writeMoon_r8 := goodIn_r _ [98, 149, 100, 150, 151, 103, 152, 105, 106, 107, 89, 108, 109, 417, 418, 419, 420, 421, 422, 423, 424, 425, 426, 427] (by decide +kernel) (by decide +kernel)
set_option maxRecDepth 20000 in
theorem gz8_8 : GoodIn wsL_lines wsL_writeMoon_r9 := goodIn_r _ [428, 501, 195, 196, 197, 179, 202, 203, 204, 205, 206, 429, 243, 244, 245, 246, 247, 248, 249, 250, 251, 252, 253, 254] (by decide +kernel) (by decide +kernel)
set_option maxRecDepth 20000 in
theorem gz8_9 : GoodIn wsL_lines wsL_writeMoon_r10 := goodIn_r _ [255, 256, 257, 258, 259, 260, 261, 90, 91, 92, 96, 97, 99, 101, 102, 104, 262, 263, 264, 265, 266, 502, 223, 224] (by decide +kernel) (by decide +kernel)
set_option maxRecDepth 20000 in
theorem gz8_10 : GoodIn wsL_lines wsL_writeMoon_r11 := goodIn_r _ [225, 226, 227, 228, 229, 230, 231, 232, 430, 431, 432, 433, 439, 319, 440, 320, 321, 316, 322, 323] (by decide +kernel) (by decide +kernel)
set_option maxRecDepth 20000 in
theorem gz8_11 : GoodIn wsL_lines wsX50 := goodIn_r _ [524, 525, 526, 527, 528, 529, 530, 531, 532, 533] (by decide +kernel) (by decide +kernel)
set_option maxRecDepth 20000 in
theorem gz8_12 : GoodIn wsL_lines wsX40 := goodIn_r _ [534] (by decide +kernel) (by decide +kernel)
set_option maxRecDepth 20000 in
theorem gz8_13 : GoodIn wsL_lines wsX20 := goodIn_r _ [535] (by decide +kernel) (by decide +kernel)
set_option maxRecDepth 20000 in
theorem gz8_14 : GoodIn wsL_lines wsJx7c7330 := goodIn_r _ [536, 537, 538, 539, 540, 541] (by decide +kernel) (by decide +kernel)
set_option maxRecDepth 20000 in
theorem gz8_15 : GoodIn wsL_lines wsJ40 := goodIn_r _ [516, 517, 518, 519] (by decide +kernel) (by decide +kernel)
set_option maxRecDepth 20000 in
theorem gz8_16 : GoodIn wsL_lines wsJx000600 := goodIn_r _ [542, 543, 544, 545, 546, 547] (by decide +kernel) (by decide +kernel)
set_option maxRecDepth 20000 in
theorem ggL_lines_L_writeMoon : GoodIn wsL_lines wsL_writeMoon := goodIn_ca (goodIn_ca (goodIn_ca (goodIn_app gz8_h (goodIn_app (goodIn_app (goodIn_app (goodIn_app (goodIn_app (goodIn_app (goodIn_app gz8_0 (goodIn_app gz8_1 (goodIn_app gz8_2 (goodIn_app gz8_3 (goodIn_app gz8_4 (goodIn_app gz8_5 (goodIn_app gz8_6 (goodIn_app gz8_7 (goodIn_app gz8_8 (goodIn_app gz8_9 gz8_10)))))))))) gz8_11) gz8_12) gz8_13) gz8_14) gz8_15) gz8_16)) (goodIn_sub (fun _ h => List.mem_cons_of_mem _ (List.mem_append_left _ (List.mem_append_left _ (List.mem_append_right _ h)))) (by decide +kernel))) (goodIn_sub (fun _ h => List.mem_cons_of_mem _ (List.mem_append_left _ (List.mem_append_left _ (List.mem_append_left _ (List.mem_append_right _ h))))) (by decide +kernel))) (goodIn_sub (fun _ h => List.mem_cons_of_mem _ (List.mem_append_left _ (List.mem_append_right _ h))) (by decide +kernel))
set_option maxRecDepth 20000 in
theorem gL_lines_L_writeMoon : GoodIn wsL_lines (va_wsS RL 339 yL_writeMoon wsL_writeMoon) := goodIn_app (goodIn_of _ (by decide +kernel)) ggL_lines_L_writeMoon
set_option maxRecDepth 20000 in
theorem ggL_lines_J0_charAt_5068e : GoodIn wsL_lines wsJ0_charAt_5068e := goodIn_r _ [467, 114, 468, 469, 470, 98, 471, 119, 120, 472, 473, 139, 474, 475, 424, 425, 100, 426, 427, 103, 428, 476, 477, 20, 478, 420, 421, 422, 93, 94, 95, 423, 341, 342, 343, 89, 108, 109, 520, 521, 522, 523] (by decide +kernel) (by decide +kernel)
set_option maxRecDepth 20000 in
theorem gL_lines_J0_charAt_5068e : GoodIn wsL_lines (wsV RL 153 RJ0 yJ0_charAt_5068e wsJ0_charAt_5068e) := goodIn_app (goodIn_of _ (by decide +kernel)) ggL_lines_J0_charAt_5068e
set_option maxRecDepth 20000 in
theorem ggL_lines_J4_append_cf468 : GoodIn wsL_lines wsJ4_append_cf468 := goodIn_r _ [409, 410, 411, 32, 412, 9, 413, 35, 16, 41, 42, 43, 44, 45, 17, 46, 47, 48, 49, 50, 51, 52, 53, 54, 55, 56, 57, 58, 59, 60, 61, 62, 63, 64, 65, 66, 67, 68, 69, 70, 71, 72, 73, 15, 74, 75, 76, 77, 78, 79, 80, 81, 82, 83, 84, 85, 14, 414, 415, 139, 416, 132, 133, 134, 135, 136, 18, 19, 20, 21, 22, 23, 24, 25, 137, 138, 140, 141, 142, 143, 144, 145, 146, 93, 94, 95, 147, 148, 98, 149, 100, 150, 151, 103, 152, 105, 106, 107, 89, 108, 109, 417, 418, 419, 420, 421, 422, 423, 424, 425, 426, 427, 428, 516, 517, 518, 519] (by decide +kernel) (by decide +kernel)
set_option maxRecDepth 20000 in
theorem gL_lines_J4_append_cf468 : GoodIn wsL_lines (wsV RL 343 RJ4 yJ4_append_cf468 wsJ4_append_cf468) := goodIn_app (goodIn_of _ (by decide +kernel)) ggL_lines_J4_append_cf468
set_option maxRecDepth 20000 in
theorem ggL_lines_X5_massOf : GoodIn wsL_lines wsX5_massOf := goodIn_ca (goodIn_ca (goodIn_r _ [507, 164, 491, 492, 493, 162, 494, 168, 169, 495, 496, 497, 172, 498, 190, 191, 192, 193, 178, 180, 181, 182, 183, 184, 185, 501, 195, 196, 197, 179, 57, 58, 59, 198, 199, 200, 201, 202, 203, 204, 205, 206, 207, 208, 209, 524, 525, 526, 527, 528, 529, 530, 531, 532, 533, 534, 535] (by decide +kernel) (by decide +kernel)) (goodIn_sub (fun _ h => List.mem_cons_of_mem _ (List.mem_append_left _ (List.mem_append_left _ (List.mem_append_right _ h)))) (by decide +kernel))) (goodIn_sub (fun _ h => List.mem_cons_of_mem _ (List.mem_append_left _ (List.mem_append_left _ (List.mem_append_left _ (List.mem_append_right _ h))))) (by decide +kernel))
set_option maxRecDepth 20000 in
theorem gL_lines_X5_massOf : GoodIn wsL_lines (wsV RL 63 RX5 yX5_massOf wsX5_massOf) := goodIn_app (goodIn_of _ (by decide +kernel)) ggL_lines_X5_massOf
set_option maxRecDepth 20000 in
theorem ggL_lines_X5_positionOf : GoodIn wsL_lines wsX5_positionOf := goodIn_ca (goodIn_ca (goodIn_ca (goodIn_r _ [511, 164, 491, 492, 493, 162, 494, 168, 169, 495, 496, 497, 172, 498, 190, 191, 192, 193, 178, 180, 181, 182, 183, 184, 185, 500, 211, 212, 213, 198, 199, 200, 201, 214, 215, 216, 217, 524, 525, 526, 527, 528, 529, 530, 531, 532, 533, 534, 535] (by decide +kernel) (by decide +kernel)) (goodIn_sub (fun _ h => List.mem_cons_of_mem _ (List.mem_append_left _ (List.mem_append_left _ (List.mem_append_right _ h)))) (by decide +kernel))) (goodIn_sub (fun _ h => List.mem_cons_of_mem _ (List.mem_append_left _ (List.mem_append_left _ (List.mem_append_left _ (List.mem_append_right _ h))))) (by decide +kernel))) (goodIn_sub (fun _ h => List.mem_cons_of_mem _ (List.mem_append_left _ (List.mem_append_right _ h))) (by decide +kernel))
set_option maxRecDepth 20000 in
theorem gL_lines_X5_positionOf : GoodIn wsL_lines (wsV RL 60 RX5 yX5_positionOf wsX5_positionOf) := goodIn_app (goodIn_of _ (by decide +kernel)) ggL_lines_X5_positionOf
set_option maxRecDepth 20000 in
theorem ggL_lines_X5_isEclipsed : GoodIn wsL_lines wsX5_isEclipsed := goodIn_ca (goodIn_ca (goodIn_ca (goodIn_r _ [515, 164, 491, 492, 493, 162, 494, 168, 169, 495, 496, 497, 172, 498, 190, 191, 192, 193, 178, 180, 181, 182, 183, 184, 185, 500, 211, 212, 213, 198, 199, 200, 201, 214, 215, 216, 217, 502, 223, 224, 225, 226, 227, 228, 229, 230, 58, 231, 232, 75, 76, 524, 525, 526, 527, 528, 529, 530, 531, 532, 533, 534, 535] (by decide +kernel) (by decide +kernel)) (goodIn_sub (fun _ h => List.mem_cons_of_mem _ (List.mem_append_left _ (List.mem_append_left _ (List.mem_append_right _ h)))) (by decide +kernel))) (goodIn_sub (fun _ h => List.mem_cons_of_mem _ (List.mem_append_left _ (List.mem_append_left _ (List.mem_append_left _ (List.mem_append_right _ h))))) (by decide +kernel))) (goodIn_sub (fun _ h => List.mem_cons_of_mem _ (List.mem_append_left _ (List.mem_append_right _ h))) (by decide +kernel))
set_option maxRecDepth 20000 in
theorem gL_lines_X5_isEclipsed : GoodIn wsL_lines (wsV RL 75 RX5 yX5_isEclipsed wsX5_isEclipsed) := goodIn_app (goodIn_of _ (by decide +kernel)) ggL_lines_X5_isEclipsed
theorem dL_lines_0 : decode cL_lines 0 = .ok (.ldc_w 305, 3) := by decide +kernel
theorem dL_lines_3 : decode cL_lines 3 = .ok (.astore_n 2, 1) := by decide +kernel
theorem dL_lines_4 : decode cL_lines 4 = .ok (.iconst 0, 1) := by decide +kernel
theorem dL_lines_5 : decode cL_lines 5 = .ok (.istore_n 3, 1) := by decide +kernel
theorem dL_lines_6 : decode cL_lines 6 = .ok (.iload_n 3, 1) := by decide +kernel
theorem dL_lines_7 : decode cL_lines 7 = .ok (.bipush 12, 2) := by decide +kernel
theorem dL_lines_9 : decode cL_lines 9 = .ok (.if_icmp .ge 143, 3) := by decide +kernel
theorem dL_lines_12 : decode cL_lines 12 = .ok (.new 307, 3) := by decide +kernel
theorem dL_lines_15 : decode cL_lines 15 = .ok (.dup, 1) := by decide +kernel
theorem dL_lines_16 : decode cL_lines 16 = .ok (.invokespecial 309, 3) := by decide +kernel
theorem dL_lines_19 : decode cL_lines 19 = .ok (.aload_n 2, 1) := by decide +kernel
theorem dL_lines_20 : decode cL_lines 20 = .ok (.invokevirtual 310, 3) := by decide +kernel
theorem dL_lines_23 : decode cL_lines 23 = .ok (.iload_n 3, 1) := by decide +kernel
theorem dL_lines_24 : decode cL_lines 24 = .ok (.ifCond .ne 9, 3) := by decide +kernel
theorem dL_lines_27 : decode cL_lines 27 = .ok (.ldc_w 305, 3) := by decide +kernel
theorem dL_lines_30 : decode cL_lines 30 = .ok (.goto 6, 3) := by decide +kernel
theorem dL_lines_33 : decode cL_lines 33 = .ok (.ldc_w 314, 3) := by decide +kernel
theorem dL_lines_36 : decode cL_lines 36 = .ok (.invokevirtual 310, 3) := by decide +kernel
theorem dL_lines_39 : decode cL_lines 39 = .ok (.aload_n 0, 1) := by decide +kernel
theorem dL_lines_40 : decode cL_lines 40 = .ok (.iload_n 3, 1) := by decide +kernel
theorem dL_lines_41 : decode cL_lines 41 = .ok (.invokevirtual 101, 3) := by decide +kernel
theorem dL_lines_44 : decode cL_lines 44 = .ok (.invokevirtual 316, 3) := by decide +kernel
theorem dL_lines_47 : decode cL_lines 47 = .ok (.aload_n 0, 1) := by decide +kernel
theorem dL_lines_48 : decode cL_lines 48 = .ok (.iload_n 3, 1) := by decide +kernel
theorem dL_lines_49 : decode cL_lines 49 = .ok (.invokevirtual 78, 3) := by decide +kernel
theorem dL_lines_52 : decode cL_lines 52 = .ok (.ifCond .eq 9, 3) := by decide +kernel
theorem dL_lines_55 : decode cL_lines 55 = .ok (.ldc_w 319, 3) := by decide +kernel
theorem dL_lines_58 : decode cL_lines 58 = .ok (.goto 6, 3) := by decide +kernel
theorem dL_lines_61 : decode cL_lines 61 = .ok (.ldc_w 305, 3) := by decide +kernel
theorem dL_lines_64 : decode cL_lines 64 = .ok (.invokevirtual 310, 3) := by decide +kernel
theorem dL_lines_67 : decode cL_lines 67 = .ok (.aload_n 0, 1) := by decide +kernel
theorem dL_lines_68 : decode cL_lines 68 = .ok (.invokestatic 204, 3) := by decide +kernel
theorem dL_lines_71 : decode cL_lines 71 = .ok (.iload_n 3, 1) := by decide +kernel
theorem dL_lines_72 : decode cL_lines 72 = .ok (.if_icmp .ne 9, 3) := by decide +kernel
theorem dL_lines_75 : decode cL_lines 75 = .ok (.ldc_w 321, 3) := by decide +kernel
theorem dL_lines_78 : decode cL_lines 78 = .ok (.goto 6, 3) := by decide +kernel
theorem dL_lines_81 : decode cL_lines 81 = .ok (.ldc_w 305, 3) := by decide +kernel
theorem dL_lines_84 : decode cL_lines 84 = .ok (.invokevirtual 310, 3) := by decide +kernel
theorem dL_lines_87 : decode cL_lines 87 = .ok (.invokevirtual 323, 3) := by decide +kernel
theorem dL_lines_90 : decode cL_lines 90 = .ok (.astore_n 2, 1) := by decide +kernel
theorem dL_lines_91 : decode cL_lines 91 = .ok (.iconst 0, 1) := by decide +kernel
theorem dL_lines_92 : decode cL_lines 92 = .ok (.istore 4, 2) := by decide +kernel
theorem dL_lines_94 : decode cL_lines 94 = .ok (.iload 4, 2) := by decide +kernel
theorem dL_lines_96 : decode cL_lines 96 = .ok (.aload_n 0, 1) := by decide +kernel
theorem dL_lines_97 : decode cL_lines 97 = .ok (.invokevirtual 327, 3) := by decide +kernel
theorem dL_lines_100 : decode cL_lines 100 = .ok (.if_icmp .ge 46, 3) := by decide +kernel
theorem dL_lines_103 : decode cL_lines 103 = .ok (.new 307, 3) := by decide +kernel
theorem dL_lines_106 : decode cL_lines 106 = .ok (.dup, 1) := by decide +kernel
theorem dL_lines_107 : decode cL_lines 107 = .ok (.invokespecial 309, 3) := by decide +kernel
theorem dL_lines_110 : decode cL_lines 110 = .ok (.aload_n 2, 1) := by decide +kernel
theorem dL_lines_111 : decode cL_lines 111 = .ok (.invokevirtual 310, 3) := by decide +kernel
theorem dL_lines_114 : decode cL_lines 114 = .ok (.aload_n 0, 1) := by decide +kernel
theorem dL_lines_115 : decode cL_lines 115 = .ok (.iload 4, 2) := by decide +kernel
theorem dL_lines_117 : decode cL_lines 117 = .ok (.invokevirtual 86, 3) := by decide +kernel
theorem dL_lines_120 : decode cL_lines 120 = .ok (.iload_n 3, 1) := by decide +kernel
theorem dL_lines_121 : decode cL_lines 121 = .ok (.if_icmp .ne 9, 3) := by decide +kernel
theorem dL_lines_124 : decode cL_lines 124 = .ok (.ldc_w 330, 3) := by decide +kernel
theorem dL_lines_127 : decode cL_lines 127 = .ok (.goto 6, 3) := by decide +kernel
theorem dL_lines_130 : decode cL_lines 130 = .ok (.ldc_w 305, 3) := by decide +kernel
theorem dL_lines_133 : decode cL_lines 133 = .ok (.invokevirtual 310, 3) := by decide +kernel
theorem dL_lines_136 : decode cL_lines 136 = .ok (.invokevirtual 323, 3) := by decide +kernel
theorem dL_lines_139 : decode cL_lines 139 = .ok (.astore_n 2, 1) := by decide +kernel
theorem dL_lines_140 : decode cL_lines 140 = .ok (.iinc 4 1, 3) := by decide +kernel
theorem dL_lines_143 : decode cL_lines 143 = .ok (.goto (-49), 3) := by decide +kernel
theorem dL_lines_146 : decode cL_lines 146 = .ok (.iinc 3 1, 3) := by decide +kernel
theorem dL_lines_149 : decode cL_lines 149 = .ok (.goto (-143), 3) := by decide +kernel
theorem dL_lines_152 : decode cL_lines 152 = .ok (.aload_n 0, 1) := by decide +kernel
theorem dL_lines_153 : decode cL_lines 153 = .ok (.aload_n 0, 1) := by decide +kernel
theorem dL_lines_154 : decode cL_lines 154 = .ok (.invokevirtual 332, 3) := by decide +kernel
theorem dL_lines_157 : decode cL_lines 157 = .ok (.aload_n 2, 1) := by decide +kernel
theorem dL_lines_158 : decode cL_lines 158 = .ok (.invokestatic 335, 3) := by decide +kernel
theorem dL_lines_161 : decode cL_lines 161 = .ok (.ifCond .ne 5, 3) := by decide +kernel
theorem dL_lines_164 : decode cL_lines 164 = .ok (.iconst 0, 1) := by decide +kernel
theorem dL_lines_165 : decode cL_lines 165 = .ok (.ireturn, 1) := by decide +kernel
theorem dL_lines_166 : decode cL_lines 166 = .ok (.iconst 0, 1) := by decide +kernel
theorem dL_lines_167 : decode cL_lines 167 = .ok (.istore_n 3, 1) := by decide +kernel
theorem dL_lines_168 : decode cL_lines 168 = .ok (.iload_n 3, 1) := by decide +kernel
theorem dL_lines_169 : decode cL_lines 169 = .ok (.aload_n 0, 1) := by decide +kernel
theorem dL_lines_170 : decode cL_lines 170 = .ok (.invokevirtual 213, 3) := by decide +kernel
theorem dL_lines_173 : decode cL_lines 173 = .ok (.if_icmp .ge 95, 3) := by decide +kernel
theorem dL_lines_176 : decode cL_lines 176 = .ok (.aload_n 0, 1) := by decide +kernel
theorem dL_lines_177 : decode cL_lines 177 = .ok (.aload_n 0, 1) := by decide +kernel
theorem dL_lines_178 : decode cL_lines 178 = .ok (.iload_n 3, 1) := by decide +kernel
theorem dL_lines_179 : decode cL_lines 179 = .ok (.invokestatic 339, 3) := by decide +kernel
theorem dL_lines_182 : decode cL_lines 182 = .ok (.new 307, 3) := by decide +kernel
theorem dL_lines_185 : decode cL_lines 185 = .ok (.dup, 1) := by decide +kernel
theorem dL_lines_186 : decode cL_lines 186 = .ok (.invokespecial 309, 3) := by decide +kernel
theorem dL_lines_189 : decode cL_lines 189 = .ok (.ldc_w 341, 3) := by decide +kernel
theorem dL_lines_192 : decode cL_lines 192 = .ok (.aload_n 1, 1) := by decide +kernel
theorem dL_lines_193 : decode cL_lines 193 = .ok (.iload_n 3, 1) := by decide +kernel
theorem dL_lines_194 : decode cL_lines 194 = .ok (.aaload, 1) := by decide +kernel
theorem dL_lines_195 : decode cL_lines 195 = .ok (.iconst 0, 1) := by decide +kernel
theorem dL_lines_196 : decode cL_lines 196 = .ok (.iaload, 1) := by decide +kernel
theorem dL_lines_197 : decode cL_lines 197 = .ok (.invokevirtual 153, 3) := by decide +kernel
theorem dL_lines_200 : decode cL_lines 200 = .ok (.invokevirtual 343, 3) := by decide +kernel
theorem dL_lines_203 : decode cL_lines 203 = .ok (.ldc_w 305, 3) := by decide +kernel
theorem dL_lines_206 : decode cL_lines 206 = .ok (.invokevirtual 310, 3) := by decide +kernel
theorem dL_lines_209 : decode cL_lines 209 = .ok (.aload_n 0, 1) := by decide +kernel
theorem dL_lines_210 : decode cL_lines 210 = .ok (.iload_n 3, 1) := by decide +kernel
theorem dL_lines_211 : decode cL_lines 211 = .ok (.invokevirtual 63, 3) := by decide +kernel
theorem dL_lines_214 : decode cL_lines 214 = .ok (.invokevirtual 316, 3) := by decide +kernel
theorem dL_lines_217 : decode cL_lines 217 = .ok (.ldc_w 346, 3) := by decide +kernel
theorem dL_lines_220 : decode cL_lines 220 = .ok (.invokevirtual 310, 3) := by decide +kernel
theorem dL_lines_223 : decode cL_lines 223 = .ok (.aload_n 0, 1) := by decide +kernel
theorem dL_lines_224 : decode cL_lines 224 = .ok (.iload_n 3, 1) := by decide +kernel
theorem dL_lines_225 : decode cL_lines 225 = .ok (.invokevirtual 60, 3) := by decide +kernel
theorem dL_lines_228 : decode cL_lines 228 = .ok (.invokevirtual 316, 3) := by decide +kernel
theorem dL_lines_231 : decode cL_lines 231 = .ok (.aload_n 0, 1) := by decide +kernel
theorem dL_lines_232 : decode cL_lines 232 = .ok (.iload_n 3, 1) := by decide +kernel
theorem dL_lines_233 : decode cL_lines 233 = .ok (.invokevirtual 75, 3) := by decide +kernel
theorem dL_lines_236 : decode cL_lines 236 = .ok (.ifCond .eq 9, 3) := by decide +kernel
theorem dL_lines_239 : decode cL_lines 239 = .ok (.ldc_w 348, 3) := by decide +kernel
theorem dL_lines_242 : decode cL_lines 242 = .ok (.goto 6, 3) := by decide +kernel
theorem dL_lines_245 : decode cL_lines 245 = .ok (.ldc_w 305, 3) := by decide +kernel
theorem dL_lines_248 : decode cL_lines 248 = .ok (.invokevirtual 310, 3) := by decide +kernel
theorem dL_lines_251 : decode cL_lines 251 = .ok (.invokevirtual 323, 3) := by decide +kernel
theorem dL_lines_254 : decode cL_lines 254 = .ok (.invokestatic 335, 3) := by decide +kernel
theorem dL_lines_257 : decode cL_lines 257 = .ok (.ifCond .ne 5, 3) := by decide +kernel
theorem dL_lines_260 : decode cL_lines 260 = .ok (.iconst 0, 1) := by decide +kernel
theorem dL_lines_261 : decode cL_lines 261 = .ok (.ireturn, 1) := by decide +kernel
theorem dL_lines_262 : decode cL_lines 262 = .ok (.iinc 3 1, 3) := by decide +kernel
theorem dL_lines_265 : decode cL_lines 265 = .ok (.goto (-97), 3) := by decide +kernel
theorem dL_lines_268 : decode cL_lines 268 = .ok (.aload_n 0, 1) := by decide +kernel
theorem dL_lines_269 : decode cL_lines 269 = .ok (.aload_n 0, 1) := by decide +kernel
theorem dL_lines_270 : decode cL_lines 270 = .ok (.invokevirtual 213, 3) := by decide +kernel
theorem dL_lines_273 : decode cL_lines 273 = .ok (.invokestatic 339, 3) := by decide +kernel
theorem dL_lines_276 : decode cL_lines 276 = .ok (.bipush (-11), 2) := by decide +kernel
theorem dL_lines_278 : decode cL_lines 278 = .ok (.if_icmp .ne 7, 3) := by decide +kernel
theorem dL_lines_281 : decode cL_lines 281 = .ok (.iconst 1, 1) := by decide +kernel
theorem dL_lines_282 : decode cL_lines 282 = .ok (.goto 4, 3) := by decide +kernel
theorem dL_lines_285 : decode cL_lines 285 = .ok (.iconst 0, 1) := by decide +kernel
theorem dL_lines_286 : decode cL_lines 286 = .ok (.ireturn, 1) := by decide +kernel
set_option maxRecDepth 20000 in
theorem ggL_sum_X5_time : GoodIn wsL_sum wsX5_time := goodIn_ca (goodIn_r _ [11, 12, 13, 14, 15, 16, 17, 18, 19, 180, 181, 182, 183, 184, 185, 186, 187, 188, 189, 190, 191] (by decide +kernel) (by decide +kernel)) (goodIn_sub (fun _ h => List.mem_cons_of_mem _ (List.mem_append_left _ (List.mem_append_left _ (List.mem_append_left _ (List.mem_append_right _ h))))) (by decide +kernel))
set_option maxRecDepth 20000 in
theorem gL_sum_X5_time : GoodIn wsL_sum (wsV RL 180 RX5 yX5_time wsX5_time) := goodIn_app (goodIn_of _ (by decide +kernel)) ggL_sum_X5_time
set_option maxRecDepth 20000 in
theorem ggL_sum_X5_baseLevel : GoodIn wsL_sum wsX5_baseLevel := goodIn_ca (goodIn_r _ [23, 12, 13, 14, 15, 16, 17, 18, 19, 180, 181, 182, 183, 184, 185, 186, 187, 188, 189, 190, 191] (by decide +kernel) (by decide +kernel)) (goodIn_sub (fun _ h => List.mem_cons_of_mem _ (List.mem_append_left _ (List.mem_append_left _ (List.mem_append_left _ (List.mem_append_right _ h))))) (by decide +kernel))
set_option maxRecDepth 20000 in
theorem gL_sum_X5_baseLevel : GoodIn wsL_sum (wsV RL 266 RX5 yX5_baseLevel wsX5_baseLevel) := goodIn_app (goodIn_of _ (by decide +kernel)) ggL_sum_X5_baseLevel
set_option maxRecDepth 20000 in
theorem ggL_sum_X5_flow : GoodIn wsL_sum wsX5_flow := goodIn_ca (goodIn_r _ [27, 12, 13, 14, 15, 16, 17, 18, 19, 180, 181, 182, 183, 184, 185, 186, 187, 188, 189, 190, 191] (by decide +kernel) (by decide +kernel)) (goodIn_sub (fun _ h => List.mem_cons_of_mem _ (List.mem_append_left _ (List.mem_append_left _ (List.mem_append_left _ (List.mem_append_right _ h))))) (by decide +kernel))
set_option maxRecDepth 20000 in
theorem gL_sum_X5_flow : GoodIn wsL_sum (wsV RL 354 RX5 yX5_flow wsX5_flow) := goodIn_app (goodIn_of _ (by decide +kernel)) ggL_sum_X5_flow
set_option maxRecDepth 20000 in
theorem ggL_sum_X5_spilled : GoodIn wsL_sum wsX5_spilled := goodIn_ca (goodIn_r _ [31, 12, 13, 14, 15, 16, 17, 18, 19, 180, 181, 182, 183, 184, 185, 186, 187, 188, 189, 190, 191] (by decide +kernel) (by decide +kernel)) (goodIn_sub (fun _ h => List.mem_cons_of_mem _ (List.mem_append_left _ (List.mem_append_left _ (List.mem_append_left _ (List.mem_append_right _ h))))) (by decide +kernel))
set_option maxRecDepth 20000 in
theorem gL_sum_X5_spilled : GoodIn wsL_sum (wsV RL 357 RX5 yX5_spilled wsX5_spilled) := goodIn_app (goodIn_of _ (by decide +kernel)) ggL_sum_X5_spilled
set_option maxRecDepth 20000 in
theorem ggL_sum_L_plugPosition : GoodIn wsL_sum wsL_plugPosition := goodIn_ca (goodIn_ca (goodIn_r _ [35, 36, 37, 38, 39, 10, 40, 12, 41, 42, 43, 44, 45, 46, 47, 48, 49, 50, 51, 52, 53, 54, 55, 56, 57, 15, 16, 17, 18, 19, 58, 180, 181, 182, 183, 184, 185, 186, 187, 188, 189, 190, 191] (by decide +kernel) (by decide +kernel)) (goodIn_sub (fun _ h => List.mem_cons_of_mem _ (List.mem_append_left _ (List.mem_append_left _ (List.mem_append_right _ h)))) (by decide +kernel))) (goodIn_sub (fun _ h => List.mem_cons_of_mem _ (List.mem_append_left _ (List.mem_append_left _ (List.mem_append_left _ (List.mem_append_right _ h))))) (by decide +kernel))
set_option maxRecDepth 20000 in
theorem gL_sum_L_plugPosition : GoodIn wsL_sum (va_wsS RL 204 yL_plugPosition wsL_plugPosition) := goodIn_app (goodIn_of _ (by decide +kernel)) ggL_sum_L_plugPosition
set_option maxRecDepth 20000 in
theorem ggL_sum_X5_moonCount : GoodIn wsL_sum wsX5_moonCount := goodIn_ca (goodIn_r _ [62, 12, 63, 64, 65, 50, 66, 56, 57, 15, 16, 17, 18, 19, 180, 181, 182, 183, 184, 185, 186, 187, 188, 189, 190, 191] (by decide +kernel) (by decide +kernel)) (goodIn_sub (fun _ h => List.mem_cons_of_mem _ (List.mem_append_left _ (List.mem_append_left _ (List.mem_append_left _ (List.mem_append_right _ h))))) (by decide +kernel))
set_option maxRecDepth 20000 in
theorem gL_sum_X5_moonCount : GoodIn wsL_sum (wsV RL 213 RX5 yX5_moonCount wsX5_moonCount) := goodIn_app (goodIn_of _ (by decide +kernel)) ggL_sum_X5_moonCount
set_option maxRecDepth 20000 in
theorem ggL_sum_X5_ageOf : GoodIn wsL_sum wsX5_ageOf := goodIn_ca (goodIn_ca (goodIn_r _ [70, 12, 71, 72, 73, 10, 74, 75, 76, 77, 78, 79, 50, 80, 81, 64, 65, 66, 56, 57, 15, 16, 17, 18, 19, 82, 83, 84, 85, 180, 181, 182, 183, 184, 185, 186, 187, 188, 189, 190, 191] (by decide +kernel) (by decide +kernel)) (goodIn_sub (fun _ h => List.mem_cons_of_mem _ (List.mem_append_left _ (List.mem_append_right _ h))) (by decide +kernel))) (goodIn_sub (fun _ h => List.mem_cons_of_mem _ (List.mem_append_left _ (List.mem_append_left _ (List.mem_append_left _ (List.mem_append_right _ h))))) (by decide +kernel))
set_option maxRecDepth 20000 in
theorem gL_sum_X5_ageOf : GoodIn wsL_sum (wsV RL 66 RX5 yX5_ageOf wsX5_ageOf) := goodIn_app (goodIn_of _ (by decide +kernel)) ggL_sum_X5_ageOf
set_option maxRecDepth 20000 in
theorem ggL_sum_X5_positionOf : GoodIn wsL_sum wsX5_positionOf := goodIn_ca (goodIn_ca (goodIn_ca (goodIn_r _ [89, 12, 71, 72, 73, 10, 74, 75, 76, 77, 78, 79, 50, 80, 81, 64, 65, 66, 56, 57, 15, 16, 17, 18, 19, 90, 91, 92, 93, 94, 83, 84, 85, 95, 96, 97, 98, 180, 181, 182, 183, 184, 185, 186, 187, 188, 189, 190, 191] (by decide +kernel) (by decide +kernel)) (goodIn_sub (fun _ h => List.mem_cons_of_mem _ (List.mem_append_left _ (List.mem_append_right _ h))) (by decide +kernel))) (goodIn_sub (fun _ h => List.mem_cons_of_mem _ (List.mem_append_left _ (List.mem_append_left _ (List.mem_append_left _ (List.mem_append_right _ h))))) (by decide +kernel))) (goodIn_sub (fun _ h => List.mem_cons_of_mem _ (List.mem_append_right _ h)) (by decide +kernel))
set_option maxRecDepth 20000 in
theorem gL_sum_X5_positionOf : GoodIn wsL_sum (wsV RL 60 RX5 yX5_positionOf wsX5_positionOf) := goodIn_app (goodIn_of _ (by decide +kernel)) ggL_sum_X5_positionOf
set_option maxRecDepth 20000 in
theorem ggL_sum_X5_massOf : GoodIn wsL_sum wsX5_massOf := goodIn_ca (goodIn_ca (goodIn_r _ [102, 12, 71, 72, 73, 10, 74, 75, 76, 77, 78, 79, 50, 80, 81, 64, 65, 66, 56, 57, 15, 16, 17, 18, 19, 103, 104, 105, 106, 107, 108, 109, 110, 94, 83, 84, 85, 111, 112, 113, 114, 115, 116, 117, 118, 180, 181, 182, 183, 184, 185, 186, 187, 188, 189, 190, 191] (by decide +kernel) (by decide +kernel)) (goodIn_sub (fun _ h => List.mem_cons_of_mem _ (List.mem_append_left _ (List.mem_append_right _ h))) (by decide +kernel))) (goodIn_sub (fun _ h => List.mem_cons_of_mem _ (List.mem_append_left _ (List.mem_append_left _ (List.mem_append_left _ (List.mem_append_right _ h))))) (by decide +kernel))
set_option maxRecDepth 20000 in
theorem gL_sum_X5_massOf : GoodIn wsL_sum (wsV RL 63 RX5 yX5_massOf wsX5_massOf) := goodIn_app (goodIn_of _ (by decide +kernel)) ggL_sum_X5_massOf
set_option maxRecDepth 20000 in
theorem ggL_sum_X5_isHard : GoodIn wsL_sum wsX5_isHard := goodIn_ca (goodIn_ca (goodIn_r _ [122, 12, 71, 72, 73, 10, 74, 75, 76, 77, 78, 79, 50, 80, 81, 64, 65, 66, 56, 57, 15, 16, 17, 18, 19, 123, 116, 117, 118, 180, 181, 182, 183, 184, 185, 186, 187, 188, 189, 190, 191] (by decide +kernel) (by decide +kernel)) (goodIn_sub (fun _ h => List.mem_cons_of_mem _ (List.mem_append_left _ (List.mem_append_right _ h))) (by decide +kernel))) (goodIn_sub (fun _ h => List.mem_cons_of_mem _ (List.mem_append_left _ (List.mem_append_left _ (List.mem_append_left _ (List.mem_append_right _ h))))) (by decide +kernel))
set_option maxRecDepth 20000 in
theorem gL_sum_X5_isHard : GoodIn wsL_sum (wsV RL 69 RX5 yX5_isHard wsX5_isHard) := goodIn_app (goodIn_of _ (by decide +kernel)) ggL_sum_X5_isHard
set_option maxRecDepth 20000 in
theorem ggL_sum_X5_isSoft : GoodIn wsL_sum wsX5_isSoft := goodIn_ca (goodIn_ca (goodIn_r _ [127, 12, 71, 72, 73, 10, 74, 75, 76, 77, 78, 79, 50, 80, 81, 64, 65, 66, 56, 57, 15, 16, 17, 18, 19, 123, 116, 117, 118, 180, 181, 182, 183, 184, 185, 186, 187, 188, 189, 190, 191] (by decide +kernel) (by decide +kernel)) (goodIn_sub (fun _ h => List.mem_cons_of_mem _ (List.mem_append_left _ (List.mem_append_right _ h))) (by decide +kernel))) (goodIn_sub (fun _ h => List.mem_cons_of_mem _ (List.mem_append_left _ (List.mem_append_left _ (List.mem_append_left _ (List.mem_append_right _ h))))) (by decide +kernel))
set_option maxRecDepth 20000 in
theorem gL_sum_X5_isSoft : GoodIn wsL_sum (wsV RL 72 RX5 yX5_isSoft wsX5_isSoft) := goodIn_app (goodIn_of _ (by decide +kernel)) ggL_sum_X5_isSoft
set_option maxRecDepth 20000 in
theorem ggL_sum_X5_towelCount : GoodIn wsL_sum wsX5_towelCount := goodIn_ca (goodIn_r _ [131, 12, 132, 133, 134, 50, 135, 56, 57, 15, 16, 17, 18, 19, 180, 181, 182, 183, 184, 185, 186, 187, 188, 189, 190, 191] (by decide +kernel) (by decide +kernel)) (goodIn_sub (fun _ h => List.mem_cons_of_mem _ (List.mem_append_left _ (List.mem_append_left _ (List.mem_append_left _ (List.mem_append_right _ h))))) (by decide +kernel))
set_option maxRecDepth 20000 in
theorem gL_sum_X5_towelCount : GoodIn wsL_sum (wsV RL 327 RX5 yX5_towelCount wsX5_towelCount) := goodIn_app (goodIn_of _ (by decide +kernel)) ggL_sum_X5_towelCount
set_option maxRecDepth 20000 in
theorem ggL_sum_X5_shoreOf : GoodIn wsL_sum wsX5_shoreOf := goodIn_ca (goodIn_ca (goodIn_r _ [139, 12, 140, 141, 142, 10, 143, 75, 76, 144, 145, 146, 50, 147, 148, 133, 134, 135, 56, 57, 15, 16, 17, 18, 19, 149, 150, 151, 152, 180, 181, 182, 183, 184, 185, 186, 187, 188, 189, 190, 191] (by decide +kernel) (by decide +kernel)) (goodIn_sub (fun _ h => List.mem_cons_of_mem _ (List.mem_append_left _ (List.mem_append_right _ h))) (by decide +kernel))) (goodIn_sub (fun _ h => List.mem_cons_of_mem _ (List.mem_append_left _ (List.mem_append_left _ (List.mem_append_left _ (List.mem_append_right _ h))))) (by decide +kernel))
set_option maxRecDepth 20000 in
theorem gL_sum_X5_shoreOf : GoodIn wsL_sum (wsV RL 86 RX5 yX5_shoreOf wsX5_shoreOf) := goodIn_app (goodIn_of _ (by decide +kernel)) ggL_sum_X5_shoreOf
set_option maxRecDepth 20000 in
theorem ggL_sum_X5_heightOf : GoodIn wsL_sum wsX5_heightOf := goodIn_ca (goodIn_ca (goodIn_r _ [156, 12, 140, 141, 142, 10, 143, 75, 76, 144, 145, 146, 50, 147, 148, 133, 134, 135, 56, 57, 15, 16, 17, 18, 19, 149, 150, 151, 152, 180, 181, 182, 183, 184, 185, 186, 187, 188, 189, 190, 191] (by decide +kernel) (by decide +kernel)) (goodIn_sub (fun _ h => List.mem_cons_of_mem _ (List.mem_append_left _ (List.mem_append_right _ h))) (by decide +kernel))) (goodIn_sub (fun _ h => List.mem_cons_of_mem _ (List.mem_append_left _ (List.mem_append_left _ (List.mem_append_left _ (List.mem_append_right _ h))))) (by decide +kernel))
set_option maxRecDepth 20000 in
theorem gL_sum_X5_heightOf : GoodIn wsL_sum (wsV RL 89 RX5 yX5_heightOf wsX5_heightOf) := goodIn_app (goodIn_of _ (by decide +kernel)) ggL_sum_X5_heightOf
set_option maxRecDepth 20000 in
theorem ggL_sum_X5_absorbedBy : GoodIn wsL_sum wsX5_absorbedBy := goodIn_ca (goodIn_ca (goodIn_r _ [160, 12, 140, 141, 142, 10, 143, 75, 76, 144, 145, 146, 50, 147, 148, 133, 134, 135, 56, 57, 15, 16, 17, 18, 19, 149, 150, 151, 152, 180, 181, 182, 183, 184, 185, 186, 187, 188, 189, 190, 191] (by decide +kernel) (by decide +kernel)) (goodIn_sub (fun _ h => List.mem_cons_of_mem _ (List.mem_append_left _ (List.mem_append_right _ h))) (by decide +kernel))) (goodIn_sub (fun _ h => List.mem_cons_of_mem _ (List.mem_append_left _ (List.mem_append_left _ (List.mem_append_left _ (List.mem_append_right _ h))))) (by decide +kernel))
set_option maxRecDepth 20000 in
theorem gL_sum_X5_absorbedBy : GoodIn wsL_sum (wsV RL 92 RX5 yX5_absorbedBy wsX5_absorbedBy) := goodIn_app (goodIn_of _ (by decide +kernel)) ggL_sum_X5_absorbedBy
set_option maxRecDepth 20000 in
theorem ggL_sum_X5_floodsOf : GoodIn wsL_sum wsX5_floodsOf := goodIn_ca (goodIn_ca (goodIn_r _ [164, 12, 140, 141, 142, 10, 143, 75, 76, 144, 145, 146, 50, 147, 148, 133, 134, 135, 56, 57, 15, 16, 17, 18, 19, 149, 150, 151, 152, 180, 181, 182, 183, 184, 185, 186, 187, 188, 189, 190, 191] (by decide +kernel) (by decide +kernel)) (goodIn_sub (fun _ h => List.mem_cons_of_mem _ (List.mem_append_left _ (List.mem_append_right _ h))) (by decide +kernel))) (goodIn_sub (fun _ h => List.mem_cons_of_mem _ (List.mem_append_left _ (List.mem_append_left _ (List.mem_append_left _ (List.mem_append_right _ h))))) (by decide +kernel))
set_option maxRecDepth 20000 in
theorem gL_sum_X5_floodsOf : GoodIn wsL_sum (wsV RL 95 RX5 yX5_floodsOf wsX5_floodsOf) := goodIn_app (goodIn_of _ (by decide +kernel)) ggL_sum_X5_floodsOf
set_option maxRecDepth 20000 in
theorem ggL_sum_X5_hasToe : GoodIn wsL_sum wsX5_hasToe := goodIn_ca (goodIn_ca (goodIn_r _ [168, 12, 169, 170, 10, 171, 75, 76, 172, 173, 50, 174, 175, 176, 177, 178, 56, 179, 57, 15, 16, 17, 18, 19, 180, 181, 182, 183, 184, 185, 186, 187, 188, 189, 190, 191] (by decide +kernel) (by decide +kernel)) (goodIn_sub (fun _ h => List.mem_cons_of_mem _ (List.mem_append_left _ (List.mem_append_right _ h))) (by decide +kernel))) (goodIn_sub (fun _ h => List.mem_cons_of_mem _ (List.mem_append_left _ (List.mem_append_left _ (List.mem_append_left _ (List.mem_append_right _ h))))) (by decide +kernel))
set_option maxRecDepth 20000 in
theorem gL_sum_X5_hasToe : GoodIn wsL_sum (wsV RL 78 RX5 yX5_hasToe wsX5_hasToe) := goodIn_app (goodIn_of _ (by decide +kernel)) ggL_sum_X5_hasToe
theorem dL_sum_0 : decode cL_sum 0 = .ok (.ldc2_w 350, 3) := by decide +kernel
theorem dL_sum_3 : decode cL_sum 3 = .ok (.aload_n 0, 1) := by decide +kernel
theorem dL_sum_4 : decode cL_sum 4 = .ok (.invokevirtual 180, 3) := by decide +kernel
theorem dL_sum_7 : decode cL_sum 7 = .ok (.i2l, 1) := by decide +kernel
theorem dL_sum_8 : decode cL_sum 8 = .ok (.ladd, 1) := by decide +kernel
theorem dL_sum_9 : decode cL_sum 9 = .ok (.lstore_n 1, 1) := by decide +kernel
theorem dL_sum_10 : decode cL_sum 10 = .ok (.ldc2_w 352, 3) := by decide +kernel
theorem dL_sum_13 : decode cL_sum 13 = .ok (.lload_n 1, 1) := by decide +kernel
theorem dL_sum_14 : decode cL_sum 14 = .ok (.lmul, 1) := by decide +kernel
theorem dL_sum_15 : decode cL_sum 15 = .ok (.aload_n 0, 1) := by decide +kernel
theorem dL_sum_16 : decode cL_sum 16 = .ok (.invokevirtual 266, 3) := by decide +kernel
theorem dL_sum_19 : decode cL_sum 19 = .ok (.i2l, 1) := by decide +kernel
theorem dL_sum_20 : decode cL_sum 20 = .ok (.ladd, 1) := by decide +kernel
theorem dL_sum_21 : decode cL_sum 21 = .ok (.lstore_n 1, 1) := by decide +kernel
theorem dL_sum_22 : decode cL_sum 22 = .ok (.ldc2_w 352, 3) := by decide +kernel
theorem dL_sum_25 : decode cL_sum 25 = .ok (.lload_n 1, 1) := by decide +kernel
theorem dL_sum_26 : decode cL_sum 26 = .ok (.lmul, 1) := by decide +kernel
theorem dL_sum_27 : decode cL_sum 27 = .ok (.aload_n 0, 1) := by decide +kernel
theorem dL_sum_28 : decode cL_sum 28 = .ok (.invokevirtual 354, 3) := by decide +kernel
theorem dL_sum_31 : decode cL_sum 31 = .ok (.i2l, 1) := by decide +kernel
theorem dL_sum_32 : decode cL_sum 32 = .ok (.ladd, 1) := by decide +kernel
theorem dL_sum_33 : decode cL_sum 33 = .ok (.lstore_n 1, 1) := by decide +kernel
theorem dL_sum_34 : decode cL_sum 34 = .ok (.ldc2_w 352, 3) := by decide +kernel
theorem dL_sum_37 : decode cL_sum 37 = .ok (.lload_n 1, 1) := by decide +kernel
theorem dL_sum_38 : decode cL_sum 38 = .ok (.lmul, 1) := by decide +kernel
theorem dL_sum_39 : decode cL_sum 39 = .ok (.aload_n 0, 1) := by decide +kernel
theorem dL_sum_40 : decode cL_sum 40 = .ok (.invokevirtual 357, 3) := by decide +kernel
theorem dL_sum_43 : decode cL_sum 43 = .ok (.i2l, 1) := by decide +kernel
theorem dL_sum_44 : decode cL_sum 44 = .ok (.ladd, 1) := by decide +kernel
theorem dL_sum_45 : decode cL_sum 45 = .ok (.lstore_n 1, 1) := by decide +kernel
theorem dL_sum_46 : decode cL_sum 46 = .ok (.ldc2_w 352, 3) := by decide +kernel
theorem dL_sum_49 : decode cL_sum 49 = .ok (.lload_n 1, 1) := by decide +kernel
theorem dL_sum_50 : decode cL_sum 50 = .ok (.lmul, 1) := by decide +kernel
theorem dL_sum_51 : decode cL_sum 51 = .ok (.aload_n 0, 1) := by decide +kernel
theorem dL_sum_52 : decode cL_sum 52 = .ok (.invokestatic 204, 3) := by decide +kernel
theorem dL_sum_55 : decode cL_sum 55 = .ok (.i2l, 1) := by decide +kernel
theorem dL_sum_56 : decode cL_sum 56 = .ok (.ladd, 1) := by decide +kernel
theorem dL_sum_57 : decode cL_sum 57 = .ok (.lstore_n 1, 1) := by decide +kernel
theorem dL_sum_58 : decode cL_sum 58 = .ok (.iconst 0, 1) := by decide +kernel
theorem dL_sum_59 : decode cL_sum 59 = .ok (.istore_n 3, 1) := by decide +kernel
theorem dL_sum_60 : decode cL_sum 60 = .ok (.iload_n 3, 1) := by decide +kernel
theorem dL_sum_61 : decode cL_sum 61 = .ok (.aload_n 0, 1) := by decide +kernel
theorem dL_sum_62 : decode cL_sum 62 = .ok (.invokevirtual 213, 3) := by decide +kernel
theorem dL_sum_65 : decode cL_sum 65 = .ok (.if_icmp .ge 75, 3) := by decide +kernel
theorem dL_sum_68 : decode cL_sum 68 = .ok (.ldc2_w 360, 3) := by decide +kernel
theorem dL_sum_71 : decode cL_sum 71 = .ok (.lload_n 1, 1) := by decide +kernel
theorem dL_sum_72 : decode cL_sum 72 = .ok (.lmul, 1) := by decide +kernel
theorem dL_sum_73 : decode cL_sum 73 = .ok (.sipush 1000, 3) := by decide +kernel
theorem dL_sum_76 : decode cL_sum 76 = .ok (.aload_n 0, 1) := by decide +kernel
theorem dL_sum_77 : decode cL_sum 77 = .ok (.iload_n 3, 1) := by decide +kernel
theorem dL_sum_78 : decode cL_sum 78 = .ok (.invokevirtual 66, 3) := by decide +kernel
theorem dL_sum_81 : decode cL_sum 81 = .ok (.imul, 1) := by decide +kernel
theorem dL_sum_82 : decode cL_sum 82 = .ok (.i2l, 1) := by decide +kernel
theorem dL_sum_83 : decode cL_sum 83 = .ok (.ladd, 1) := by decide +kernel
theorem dL_sum_84 : decode cL_sum 84 = .ok (.bipush 50, 2) := by decide +kernel
theorem dL_sum_86 : decode cL_sum 86 = .ok (.aload_n 0, 1) := by decide +kernel
theorem dL_sum_87 : decode cL_sum 87 = .ok (.iload_n 3, 1) := by decide +kernel
theorem dL_sum_88 : decode cL_sum 88 = .ok (.invokevirtual 60, 3) := by decide +kernel
theorem dL_sum_91 : decode cL_sum 91 = .ok (.imul, 1) := by decide +kernel
theorem dL_sum_92 : decode cL_sum 92 = .ok (.i2l, 1) := by decide +kernel
theorem dL_sum_93 : decode cL_sum 93 = .ok (.ladd, 1) := by decide +kernel
theorem dL_sum_94 : decode cL_sum 94 = .ok (.iconst 4, 1) := by decide +kernel
theorem dL_sum_95 : decode cL_sum 95 = .ok (.aload_n 0, 1) := by decide +kernel
theorem dL_sum_96 : decode cL_sum 96 = .ok (.iload_n 3, 1) := by decide +kernel
theorem dL_sum_97 : decode cL_sum 97 = .ok (.invokevirtual 63, 3) := by decide +kernel
theorem dL_sum_100 : decode cL_sum 100 = .ok (.imul, 1) := by decide +kernel
theorem dL_sum_101 : decode cL_sum 101 = .ok (.i2l, 1) := by decide +kernel
theorem dL_sum_102 : decode cL_sum 102 = .ok (.ladd, 1) := by decide +kernel
theorem dL_sum_103 : decode cL_sum 103 = .ok (.aload_n 0, 1) := by decide +kernel
theorem dL_sum_104 : decode cL_sum 104 = .ok (.iload_n 3, 1) := by decide +kernel
theorem dL_sum_105 : decode cL_sum 105 = .ok (.invokevirtual 69, 3) := by decide +kernel
theorem dL_sum_108 : decode cL_sum 108 = .ok (.ifCond .eq 7, 3) := by decide +kernel
theorem dL_sum_111 : decode cL_sum 111 = .ok (.iconst 2, 1) := by decide +kernel
theorem dL_sum_112 : decode cL_sum 112 = .ok (.goto 4, 3) := by decide +kernel
theorem dL_sum_115 : decode cL_sum 115 = .ok (.iconst 0, 1) := by decide +kernel
theorem dL_sum_116 : decode cL_sum 116 = .ok (.i2l, 1) := by decide +kernel
theorem dL_sum_117 : decode cL_sum 117 = .ok (.ladd, 1) := by decide +kernel
theorem dL_sum_118 : decode cL_sum 118 = .ok (.aload_n 0, 1) := by decide +kernel
theorem dL_sum_119 : decode cL_sum 119 = .ok (.iload_n 3, 1) := by decide +kernel
theorem dL_sum_120 : decode cL_sum 120 = .ok (.invokevirtual 72, 3) := by decide +kernel
theorem dL_sum_123 : decode cL_sum 123 = .ok (.ifCond .eq 7, 3) := by decide +kernel
theorem dL_sum_126 : decode cL_sum 126 = .ok (.iconst 1, 1) := by decide +kernel
theorem dL_sum_127 : decode cL_sum 127 = .ok (.goto 4, 3) := by decide +kernel
theorem dL_sum_130 : decode cL_sum 130 = .ok (.iconst 0, 1) := by decide +kernel
theorem dL_sum_131 : decode cL_sum 131 = .ok (.i2l, 1) := by decide +kernel
theorem dL_sum_132 : decode cL_sum 132 = .ok (.ladd, 1) := by decide +kernel
theorem dL_sum_133 : decode cL_sum 133 = .ok (.lstore_n 1, 1) := by decide +kernel
theorem dL_sum_134 : decode cL_sum 134 = .ok (.iinc 3 1, 3) := by decide +kernel
theorem dL_sum_137 : decode cL_sum 137 = .ok (.goto (-77), 3) := by decide +kernel
theorem dL_sum_140 : decode cL_sum 140 = .ok (.iconst 0, 1) := by decide +kernel
theorem dL_sum_141 : decode cL_sum 141 = .ok (.istore_n 3, 1) := by decide +kernel
theorem dL_sum_142 : decode cL_sum 142 = .ok (.iload_n 3, 1) := by decide +kernel
theorem dL_sum_143 : decode cL_sum 143 = .ok (.aload_n 0, 1) := by decide +kernel
theorem dL_sum_144 : decode cL_sum 144 = .ok (.invokevirtual 327, 3) := by decide +kernel
theorem dL_sum_147 : decode cL_sum 147 = .ok (.if_icmp .ge 54, 3) := by decide +kernel
theorem dL_sum_150 : decode cL_sum 150 = .ok (.ldc2_w 362, 3) := by decide +kernel
theorem dL_sum_153 : decode cL_sum 153 = .ok (.lload_n 1, 1) := by decide +kernel
theorem dL_sum_154 : decode cL_sum 154 = .ok (.lmul, 1) := by decide +kernel
theorem dL_sum_155 : decode cL_sum 155 = .ok (.sipush 1000, 3) := by decide +kernel
theorem dL_sum_158 : decode cL_sum 158 = .ok (.aload_n 0, 1) := by decide +kernel
theorem dL_sum_159 : decode cL_sum 159 = .ok (.iload_n 3, 1) := by decide +kernel
theorem dL_sum_160 : decode cL_sum 160 = .ok (.invokevirtual 86, 3) := by decide +kernel
theorem dL_sum_163 : decode cL_sum 163 = .ok (.imul, 1) := by decide +kernel
theorem dL_sum_164 : decode cL_sum 164 = .ok (.i2l, 1) := by decide +kernel
theorem dL_sum_165 : decode cL_sum 165 = .ok (.ladd, 1) := by decide +kernel
theorem dL_sum_166 : decode cL_sum 166 = .ok (.bipush 10, 2) := by decide +kernel
theorem dL_sum_168 : decode cL_sum 168 = .ok (.aload_n 0, 1) := by decide +kernel
theorem dL_sum_169 : decode cL_sum 169 = .ok (.iload_n 3, 1) := by decide +kernel
theorem dL_sum_170 : decode cL_sum 170 = .ok (.invokevirtual 89, 3) := by decide +kernel
theorem dL_sum_173 : decode cL_sum 173 = .ok (.imul, 1) := by decide +kernel
theorem dL_sum_174 : decode cL_sum 174 = .ok (.i2l, 1) := by decide +kernel
theorem dL_sum_175 : decode cL_sum 175 = .ok (.ladd, 1) := by decide +kernel
theorem dL_sum_176 : decode cL_sum 176 = .ok (.aload_n 0, 1) := by decide +kernel
theorem dL_sum_177 : decode cL_sum 177 = .ok (.iload_n 3, 1) := by decide +kernel
theorem dL_sum_178 : decode cL_sum 178 = .ok (.invokevirtual 92, 3) := by decide +kernel
theorem dL_sum_181 : decode cL_sum 181 = .ok (.i2l, 1) := by decide +kernel
theorem dL_sum_182 : decode cL_sum 182 = .ok (.ladd, 1) := by decide +kernel
theorem dL_sum_183 : decode cL_sum 183 = .ok (.ldc_w 364, 3) := by decide +kernel
theorem dL_sum_186 : decode cL_sum 186 = .ok (.aload_n 0, 1) := by decide +kernel
theorem dL_sum_187 : decode cL_sum 187 = .ok (.iload_n 3, 1) := by decide +kernel
theorem dL_sum_188 : decode cL_sum 188 = .ok (.invokevirtual 95, 3) := by decide +kernel
theorem dL_sum_191 : decode cL_sum 191 = .ok (.imul, 1) := by decide +kernel
theorem dL_sum_192 : decode cL_sum 192 = .ok (.i2l, 1) := by decide +kernel
theorem dL_sum_193 : decode cL_sum 193 = .ok (.ladd, 1) := by decide +kernel
theorem dL_sum_194 : decode cL_sum 194 = .ok (.lstore_n 1, 1) := by decide +kernel
theorem dL_sum_195 : decode cL_sum 195 = .ok (.iinc 3 1, 3) := by decide +kernel
theorem dL_sum_198 : decode cL_sum 198 = .ok (.goto (-56), 3) := by decide +kernel
theorem dL_sum_201 : decode cL_sum 201 = .ok (.iconst 0, 1) := by decide +kernel
theorem dL_sum_202 : decode cL_sum 202 = .ok (.istore_n 3, 1) := by decide +kernel
theorem dL_sum_203 : decode cL_sum 203 = .ok (.iload_n 3, 1) := by decide +kernel
theorem dL_sum_204 : decode cL_sum 204 = .ok (.bipush 12, 2) := by decide +kernel
theorem dL_sum_206 : decode cL_sum 206 = .ok (.if_icmp .ge 30, 3) := by decide +kernel
theorem dL_sum_209 : decode cL_sum 209 = .ok (.ldc2_w 365, 3) := by decide +kernel
theorem dL_sum_212 : decode cL_sum 212 = .ok (.lload_n 1, 1) := by decide +kernel
theorem dL_sum_213 : decode cL_sum 213 = .ok (.lmul, 1) := by decide +kernel
theorem dL_sum_214 : decode cL_sum 214 = .ok (.aload_n 0, 1) := by decide +kernel
theorem dL_sum_215 : decode cL_sum 215 = .ok (.iload_n 3, 1) := by decide +kernel
theorem dL_sum_216 : decode cL_sum 216 = .ok (.invokevirtual 78, 3) := by decide +kernel
theorem dL_sum_219 : decode cL_sum 219 = .ok (.ifCond .eq 7, 3) := by decide +kernel
theorem dL_sum_222 : decode cL_sum 222 = .ok (.iconst 1, 1) := by decide +kernel
theorem dL_sum_223 : decode cL_sum 223 = .ok (.goto 4, 3) := by decide +kernel
theorem dL_sum_226 : decode cL_sum 226 = .ok (.iconst 0, 1) := by decide +kernel
theorem dL_sum_227 : decode cL_sum 227 = .ok (.i2l, 1) := by decide +kernel
theorem dL_sum_228 : decode cL_sum 228 = .ok (.ladd, 1) := by decide +kernel
theorem dL_sum_229 : decode cL_sum 229 = .ok (.lstore_n 1, 1) := by decide +kernel
theorem dL_sum_230 : decode cL_sum 230 = .ok (.iinc 3 1, 3) := by decide +kernel
theorem dL_sum_233 : decode cL_sum 233 = .ok (.goto (-30), 3) := by decide +kernel
theorem dL_sum_236 : decode cL_sum 236 = .ok (.lload_n 1, 1) := by decide +kernel
theorem dL_sum_237 : decode cL_sum 237 = .ok (.lreturn, 1) := by decide +kernel
set_option maxRecDepth 20000 in
theorem ggL_undone_L_cell : GoodIn wsL_undone wsL_cell := goodIn_ca (goodIn_r _ [8, 9] (by decide +kernel) (by decide +kernel)) (goodIn_sub (fun _ h => List.mem_cons_of_mem _ (List.mem_append_left _ (List.mem_append_left _ (List.mem_append_left _ (List.mem_append_left _ (List.mem_append_left _ (List.mem_append_right _ h))))))) (by decide +kernel))
set_option maxRecDepth 20000 in
theorem gL_undone_L_cell : GoodIn wsL_undone (va_wsS RL 176 yL_cell wsL_cell) := goodIn_app (goodIn_of _ (by decide +kernel)) ggL_undone_L_cell
set_option maxRecDepth 20000 in
theorem ggL_undone_L_sum : GoodIn wsL_undone wsL_sum := goodIn_ca (goodIn_ca (goodIn_ca (goodIn_ca (goodIn_r _ [12, 13, 14, 15, 16, 17, 18, 19, 20, 21, 22, 23, 24, 25, 26, 27, 28, 29, 30, 31, 32, 33, 34, 35, 36, 37, 38, 39, 40, 41, 42, 43, 44, 45, 7, 46, 47, 48, 49, 50, 51, 52, 53, 54, 55, 56, 57, 58, 59, 60, 61, 62, 63, 64, 65, 66, 67, 68, 69, 70, 71, 72, 73, 74, 75, 76, 77, 78, 79, 80, 81, 82, 83, 84, 85, 86, 87, 88, 89, 90, 91, 92, 93, 94, 95, 96, 97, 98, 99, 100, 101, 102, 103, 104, 105, 106, 107, 108, 109, 110, 111, 112, 113, 114, 115, 116, 117, 118, 119, 120, 121, 122, 123, 124, 125, 126, 127, 128, 129, 130, 131, 132, 133, 134, 135, 136, 137, 138, 139, 140, 141, 142, 143, 144, 145, 146, 147, 148, 149, 150, 151, 152, 153, 154, 155, 156, 157, 158, 159, 160, 161, 162, 163, 164, 165, 166, 167, 168, 169, 170, 171, 172, 173, 174, 175, 176, 177, 178, 179, 180, 181, 182, 183, 184, 185, 186, 187, 188, 189, 190, 881, 882, 883, 884, 885, 886, 887, 888, 889, 890, 891, 892] (by decide +kernel) (by decide +kernel)) (goodIn_sub (fun _ h => List.mem_cons_of_mem _ (List.mem_append_left _ (List.mem_append_left _ (List.mem_append_left _ (List.mem_append_left _ (List.mem_append_left _ (List.mem_append_right _ h))))))) (by decide +kernel))) (goodIn_sub (fun _ h => List.mem_cons_of_mem _ (List.mem_append_left _ (List.mem_append_left _ (List.mem_append_left _ (List.mem_append_left _ (List.mem_append_right _ h)))))) (by decide +kernel))) (goodIn_sub (fun _ h => List.mem_cons_of_mem _ (List.mem_append_left _ (List.mem_append_left _ (List.mem_append_left _ (List.mem_append_right _ h))))) (by decide +kernel))) (goodIn_sub (fun _ h => List.mem_cons_of_mem _ (List.mem_append_left _ (List.mem_append_left _ (List.mem_append_right _ h)))) (by decide +kernel))
set_option maxRecDepth 20000 in
theorem gL_undone_L_sum : GoodIn wsL_undone (va_wsS RL 367 yL_sum wsL_sum) := goodIn_app (goodIn_of _ (by decide +kernel)) ggL_undone_L_sum
set_option maxRecDepth 20000 in
theorem ggL_undone_L_moon : GoodIn wsL_undone wsL_moon := goodIn_ca (goodIn_ca (goodIn_ca (goodIn_r _ [193, 194, 195, 7, 196, 197, 198, 199, 200, 22, 201, 202, 203, 204, 205, 206, 207, 208, 209, 24, 210, 25, 211, 212, 61, 213, 190, 184, 185, 214, 215, 216, 217, 92, 75, 76, 77, 67, 68, 27, 28, 29, 30, 31, 218, 219, 220, 221, 222, 223, 224, 225, 226, 227, 120, 228, 229, 230, 231, 232, 233, 234, 235, 236, 237, 238, 239, 240, 241, 242, 243, 244, 245, 246, 247, 248, 249, 250, 251, 252, 253, 254, 255, 256, 881, 882, 883, 884, 885, 886, 887, 888, 889, 890, 891, 892, 893, 894, 895] (by decide +kernel) (by decide +kernel)) (goodIn_sub (fun _ h => List.mem_cons_of_mem _ (List.mem_append_left _ (List.mem_append_right _ h))) (by decide +kernel))) (goodIn_sub (fun _ h => List.mem_cons_of_mem _ (List.mem_append_right _ h)) (by decide +kernel))) (goodIn_sub (fun _ h => List.mem_cons_of_mem _ (List.mem_append_left _ (List.mem_append_left _ (List.mem_append_left _ (List.mem_append_left _ (List.mem_append_left _ (List.mem_append_right _ h))))))) (by decide +kernel))
set_option maxRecDepth 20000 in
theorem gL_undone_L_moon : GoodIn wsL_undone (va_wsS RL 183 yL_moon wsL_moon) := goodIn_app (goodIn_of _ (by decide +kernel)) ggL_undone_L_moon
set_option maxRecDepth 20000 in
theorem ggL_undone_L_removeMoon : GoodIn wsL_undone wsL_removeMoon := goodIn_ca (goodIn_ca (goodIn_r _ [259, 260, 261, 262, 263, 22, 264, 210, 24, 25, 82, 83, 84, 85, 86, 87, 88, 89, 90, 61, 91, 92, 75, 76, 77, 67, 68, 27, 28, 29, 30, 31, 218, 219, 220, 221, 222, 223, 224, 225, 226, 227, 120, 228, 229, 230, 231, 232, 233, 234, 235, 236, 237, 265, 266, 267, 268, 269, 242, 881, 882, 883, 884, 885, 886, 887, 888, 889, 890, 891, 892, 893, 894, 895] (by decide +kernel) (by decide +kernel)) (goodIn_sub (fun _ h => List.mem_cons_of_mem _ (List.mem_append_left _ (List.mem_append_left _ (List.mem_append_left _ (List.mem_append_right _ h))))) (by decide +kernel))) (goodIn_sub (fun _ h => List.mem_cons_of_mem _ (List.mem_append_left _ (List.mem_append_left _ (List.mem_append_left _ (List.mem_append_left _ (List.mem_append_left _ (List.mem_append_right _ h))))))) (by decide +kernel))
set_option maxRecDepth 20000 in
theorem gL_undone_L_removeMoon : GoodIn wsL_undone (va_wsS RL 371 yL_removeMoon wsL_removeMoon) := goodIn_app (goodIn_of _ (by decide +kernel)) ggL_undone_L_removeMoon
set_option maxRecDepth 20000 in
theorem ggL_undone_L_placeToe : GoodIn wsL_undone wsL_placeToe := goodIn_ca (goodIn_ca (goodIn_ca (goodIn_r _ [272, 260, 273, 274, 275, 22, 276, 208, 209, 24, 210, 25, 180, 181, 182, 86, 87, 183, 184, 61, 185, 277, 278, 279, 280, 281, 187, 188, 189, 67, 190, 68, 27, 28, 29, 30, 31, 282, 283, 284, 285, 218, 219, 220, 221, 222, 223, 224, 225, 226, 227, 120, 228, 229, 230, 231, 232, 233, 234, 235, 236, 237, 286, 287, 288, 289, 242, 881, 882, 883, 884, 885, 886, 887, 888, 889, 890, 891, 892, 893, 894, 895] (by decide +kernel) (by decide +kernel)) (goodIn_sub (fun _ h => List.mem_cons_of_mem _ (List.mem_append_right _ h)) (by decide +kernel))) (goodIn_sub (fun _ h => List.mem_cons_of_mem _ (List.mem_append_left _ (List.mem_append_left _ (List.mem_append_left _ (List.mem_append_right _ h))))) (by decide +kernel))) (goodIn_sub (fun _ h => List.mem_cons_of_mem _ (List.mem_append_left _ (List.mem_append_left _ (List.mem_append_left _ (List.mem_append_left _ (List.mem_append_left _ (List.mem_append_right _ h))))))) (by decide +kernel))
set_option maxRecDepth 20000 in
theorem gL_undone_L_placeToe : GoodIn wsL_undone (va_wsS RL 190 yL_placeToe wsL_placeToe) := goodIn_app (goodIn_of _ (by decide +kernel)) ggL_undone_L_placeToe
set_option maxRecDepth 20000 in
theorem ggL_undone_L_removeToe : GoodIn wsL_undone wsL_removeToe := goodIn_ca (goodIn_ca (goodIn_ca (goodIn_r _ [292, 260, 293, 294, 295, 22, 296, 208, 209, 24, 210, 25, 180, 181, 182, 86, 87, 183, 184, 61, 185, 186, 187, 188, 189, 67, 190, 68, 27, 28, 29, 30, 31, 218, 219, 220, 221, 222, 223, 224, 225, 226, 227, 120, 228, 229, 230, 231, 232, 233, 234, 235, 236, 237, 297, 298, 299, 300, 242, 282, 283, 284, 285, 881, 882, 883, 884, 885, 886, 887, 888, 889, 890, 891, 892, 893, 894, 895] (by decide +kernel) (by decide +kernel)) (goodIn_sub (fun _ h => List.mem_cons_of_mem _ (List.mem_append_right _ h)) (by decide +kernel))) (goodIn_sub (fun _ h => List.mem_cons_of_mem _ (List.mem_append_left _ (List.mem_append_left _ (List.mem_append_left _ (List.mem_append_right _ h))))) (by decide +kernel))) (goodIn_sub (fun _ h => List.mem_cons_of_mem _ (List.mem_append_left _ (List.mem_append_left _ (List.mem_append_left _ (List.mem_append_left _ (List.mem_append_left _ (List.mem_append_right _ h))))))) (by decide +kernel))
