set_option maxRecDepth 20000 in
theorem gL_undone_L_removeToe : GoodIn wsL_undone (va_wsS RL 373 yL_removeToe wsL_removeToe) := goodIn_app (goodIn_of _ (by decide +kernel)) ggL_undone_L_removeToe
set_option maxRecDepth 20000 in
theorem ggL_undone_L_insertPlug : GoodIn wsL_undone wsL_insertPlug := goodIn_ca (goodIn_ca (goodIn_r _ [303, 260, 304, 305, 306, 22, 307, 210, 24, 25, 180, 181, 182, 86, 87, 183, 184, 61, 185, 218, 219, 220, 221, 222, 223, 224, 225, 226, 227, 120, 228, 229, 230, 231, 29, 232, 233, 27, 28, 30, 31, 234, 235, 236, 237, 308, 309, 310, 311, 67, 63, 64, 65, 66, 68, 242, 881, 882, 883, 884, 885, 886, 887, 888, 889, 890, 891, 893, 894, 895, 892] (by decide +kernel) (by decide +kernel)) (goodIn_sub (fun _ h => List.mem_cons_of_mem _ (List.mem_append_left _ (List.mem_append_left _ (List.mem_append_left _ (List.mem_append_right _ h))))) (by decide +kernel))) (goodIn_sub (fun _ h => List.mem_cons_of_mem _ (List.mem_append_left _ (List.mem_append_left _ (List.mem_append_left _ (List.mem_append_left _ (List.mem_append_left _ (List.mem_append_right _ h))))))) (by decide +kernel))
set_option maxRecDepth 20000 in
theorem gL_undone_L_insertPlug : GoodIn wsL_undone (va_wsS RL 195 yL_insertPlug wsL_insertPlug) := goodIn_app (goodIn_of _ (by decide +kernel)) ggL_undone_L_insertPlug
set_option maxRecDepth 20000 in
theorem ggL_undone_L_pullPlug : GoodIn wsL_undone wsL_pullPlug := goodIn_ca (goodIn_ca (goodIn_r _ [314, 315, 316, 317, 318, 22, 319, 208, 209, 24, 210, 25, 58, 59, 60, 61, 62, 63, 64, 65, 66, 67, 68, 27, 28, 29, 30, 31, 218, 219, 220, 221, 222, 223, 224, 225, 226, 227, 120, 228, 229, 230, 231, 232, 233, 234, 235, 236, 237, 308, 309, 310, 311, 242, 881, 882, 883, 884, 885, 886, 887, 888, 889, 890, 891, 892, 893, 894, 895] (by decide +kernel) (by decide +kernel)) (goodIn_sub (fun _ h => List.mem_cons_of_mem _ (List.mem_append_right _ h)) (by decide +kernel))) (goodIn_sub (fun _ h => List.mem_cons_of_mem _ (List.mem_append_left _ (List.mem_append_left _ (List.mem_append_left _ (List.mem_append_left _ (List.mem_append_left _ (List.mem_append_right _ h))))))) (by decide +kernel))
set_option maxRecDepth 20000 in
theorem gL_undone_L_pullPlug : GoodIn wsL_undone (va_wsS RL 375 yL_pullPlug wsL_pullPlug) := goodIn_app (goodIn_of _ (by decide +kernel)) ggL_undone_L_pullPlug
set_option maxRecDepth 20000 in
theorem ggL_undone_L_layTowel : GoodIn wsL_undone wsL_layTowel := goodIn_ca (goodIn_ca (goodIn_ca (goodIn_ca (goodIn_r _ [322, 260, 323, 324, 325, 22, 326, 206, 207, 208, 209, 24, 210, 25, 180, 181, 182, 86, 87, 183, 184, 61, 185, 327, 328, 329, 330, 331, 332, 333, 334, 335, 336, 337, 159, 144, 145, 146, 67, 68, 27, 28, 29, 30, 31, 338, 161, 162, 163, 218, 219, 220, 221, 222, 223, 224, 225, 226, 227, 120, 228, 229, 230, 231, 232, 233, 234, 235, 236, 237, 339, 340, 341, 342, 242, 881, 882, 883, 884, 885, 886, 887, 888, 889, 890, 891, 892, 893, 894, 895] (by decide +kernel) (by decide +kernel)) (goodIn_sub (fun _ h => List.mem_cons_of_mem _ (List.mem_append_left _ (List.mem_append_right _ h))) (by decide +kernel))) (goodIn_sub (fun _ h => List.mem_cons_of_mem _ (List.mem_append_right _ h)) (by decide +kernel))) (goodIn_sub (fun _ h => List.mem_cons_of_mem _ (List.mem_append_left _ (List.mem_append_left _ (List.mem_append_left _ (List.mem_append_right _ h))))) (by decide +kernel))) (goodIn_sub (fun _ h => List.mem_cons_of_mem _ (List.mem_append_left _ (List.mem_append_left _ (List.mem_append_left _ (List.mem_append_left _ (List.mem_append_left _ (List.mem_append_right _ h))))))) (by decide +kernel))
set_option maxRecDepth 20000 in
theorem gL_undone_L_layTowel : GoodIn wsL_undone (va_wsS RL 192 yL_layTowel wsL_layTowel) := goodIn_app (goodIn_of _ (by decide +kernel)) ggL_undone_L_layTowel
set_option maxRecDepth 20000 in
theorem ggL_undone_L_removeTowel : GoodIn wsL_undone wsL_removeTowel := goodIn_ca (goodIn_ca (goodIn_r _ [345, 260, 346, 347, 348, 22, 349, 210, 24, 25, 151, 152, 153, 154, 86, 87, 155, 156, 157, 61, 158, 159, 144, 145, 146, 67, 68, 27, 28, 29, 30, 31, 218, 219, 220, 221, 222, 223, 224, 225, 226, 227, 120, 228, 229, 230, 231, 232, 233, 234, 235, 236, 237, 350, 351, 352, 353, 354, 355, 356, 357, 358, 338, 161, 162, 163, 242, 359, 360, 361, 362, 269, 881, 882, 883, 884, 885, 886, 887, 888, 889, 890, 891, 892, 893, 894, 895] (by decide +kernel) (by decide +kernel)) (goodIn_sub (fun _ h => List.mem_cons_of_mem _ (List.mem_append_left _ (List.mem_append_left _ (List.mem_append_left _ (List.mem_append_right _ h))))) (by decide +kernel))) (goodIn_sub (fun _ h => List.mem_cons_of_mem _ (List.mem_append_left _ (List.mem_append_left _ (List.mem_append_left _ (List.mem_append_left _ (List.mem_append_left _ (List.mem_append_right _ h))))))) (by decide +kernel))
set_option maxRecDepth 20000 in
theorem gL_undone_L_removeTowel : GoodIn wsL_undone (va_wsS RL 377 yL_removeTowel wsL_removeTowel) := goodIn_app (goodIn_of _ (by decide +kernel)) ggL_undone_L_removeTowel
set_option maxRecDepth 20000 in
theorem ggL_undone_L_wringTowel : GoodIn wsL_undone wsL_wringTowel := goodIn_ca (goodIn_ca (goodIn_r _ [365, 260, 366, 367, 368, 22, 369, 210, 24, 25, 151, 152, 153, 154, 86, 87, 155, 156, 157, 61, 158, 159, 144, 145, 146, 67, 68, 27, 28, 29, 30, 31, 218, 219, 220, 221, 222, 223, 224, 225, 226, 227, 120, 228, 229, 230, 231, 232, 233, 234, 235, 236, 237, 370, 355, 356, 357, 358, 338, 161, 162, 163, 242, 359, 360, 361, 362, 881, 882, 883, 884, 885, 886, 887, 888, 889, 890, 891, 892, 893, 894, 895] (by decide +kernel) (by decide +kernel)) (goodIn_sub (fun _ h => List.mem_cons_of_mem _ (List.mem_append_left _ (List.mem_append_left _ (List.mem_append_left _ (List.mem_append_right _ h))))) (by decide +kernel))) (goodIn_sub (fun _ h => List.mem_cons_of_mem _ (List.mem_append_left _ (List.mem_append_left _ (List.mem_append_left _ (List.mem_append_left _ (List.mem_append_left _ (List.mem_append_right _ h))))))) (by decide +kernel))
set_option maxRecDepth 20000 in
theorem gL_undone_L_wringTowel : GoodIn wsL_undone (va_wsS RL 379 yL_wringTowel wsL_wringTowel) := goodIn_app (goodIn_of _ (by decide +kernel)) ggL_undone_L_wringTowel
set_option maxRecDepth 20000 in
theorem ggL_undone_L_setFlow : GoodIn wsL_undone wsL_setFlow := goodIn_ca (goodIn_ca (goodIn_r _ [373, 197, 374, 375, 376, 22, 377, 206, 207, 210, 24, 25, 378, 379, 61, 380, 218, 219, 220, 221, 222, 223, 224, 225, 226, 227, 120, 228, 229, 230, 231, 29, 232, 233, 27, 28, 30, 31, 234, 235, 236, 237, 381, 382, 383, 384, 67, 68, 242, 881, 882, 883, 884, 885, 886, 887, 888, 889, 890, 891, 893, 894, 895, 892] (by decide +kernel) (by decide +kernel)) (goodIn_sub (fun _ h => List.mem_cons_of_mem _ (List.mem_append_left _ (List.mem_append_right _ h))) (by decide +kernel))) (goodIn_sub (fun _ h => List.mem_cons_of_mem _ (List.mem_append_left _ (List.mem_append_left _ (List.mem_append_left _ (List.mem_append_left _ (List.mem_append_left _ (List.mem_append_right _ h))))))) (by decide +kernel))
set_option maxRecDepth 20000 in
theorem gL_undone_L_setFlow : GoodIn wsL_undone (va_wsS RL 197 yL_setFlow wsL_setFlow) := goodIn_app (goodIn_of _ (by decide +kernel)) ggL_undone_L_setFlow
set_option maxRecDepth 20000 in
theorem ggL_undone_L_advance : GoodIn wsL_undone wsL_advance := goodIn_ca (goodIn_ca (goodIn_ca (goodIn_r _ [387, 197, 388, 389, 390, 22, 391, 206, 207, 210, 24, 25, 392, 393, 61, 394, 218, 219, 220, 221, 222, 223, 224, 225, 226, 227, 120, 228, 229, 230, 231, 29, 232, 233, 27, 28, 30, 31, 234, 235, 236, 237, 395, 396, 397, 398, 67, 359, 360, 361, 362, 399, 400, 401, 402, 358, 118, 119, 121, 68, 242, 159, 144, 145, 146, 338, 161, 162, 163, 403, 404, 405, 406, 92, 75, 76, 77, 407, 115, 116, 117, 105, 94, 95, 96, 122, 123, 124, 125, 126, 127, 128, 129, 408, 102, 103, 104, 106, 107, 108, 109, 409, 410, 411, 412, 413, 414, 415, 416, 417, 418, 419, 420, 421, 422, 423, 424, 425, 426, 281, 187, 188, 189, 190, 184, 185, 427, 428, 429, 430, 431, 432, 433, 434, 881, 882, 883, 884, 885, 886, 887, 888, 889, 890, 891, 893, 894, 895, 892] (by decide +kernel) (by decide +kernel)) (goodIn_sub (fun _ h => List.mem_cons_of_mem _ (List.mem_append_left _ (List.mem_append_right _ h))) (by decide +kernel))) (goodIn_sub (fun _ h => List.mem_cons_of_mem _ (List.mem_append_left _ (List.mem_append_left _ (List.mem_append_left _ (List.mem_append_left _ (List.mem_append_left _ (List.mem_append_right _ h))))))) (by decide +kernel))) (goodIn_sub (fun _ h => List.mem_cons_of_mem _ (List.mem_append_left _ (List.mem_append_left _ (List.mem_append_right _ h)))) (by decide +kernel))
set_option maxRecDepth 20000 in
theorem gL_undone_L_advance : GoodIn wsL_undone (va_wsS RL 187 yL_advance wsL_advance) := goodIn_app (goodIn_of _ (by decide +kernel)) ggL_undone_L_advance
set_option maxRecDepth 20000 in
theorem ggL_undone_J4_init_da8c8 : GoodIn wsL_undone wsJ4_init_da8c8 := goodIn_r _ [437, 438, 439, 440, 441, 442, 443, 444, 445, 446, 447, 448, 449, 450, 451, 452, 453, 454, 455, 456, 877, 878, 879, 880] (by decide +kernel) (by decide +kernel)
set_option maxRecDepth 20000 in
theorem gL_undone_J4_init_da8c8 : GoodIn wsL_undone (wsJ4_init_da8c8) := ggL_undone_J4_init_da8c8
set_option maxRecDepth 20000 in
theorem ggL_undone_J4_append_15ec4 : GoodIn wsL_undone wsJ4_append_15ec4 := goodIn_r _ [460, 461, 462, 463, 464, 440, 465, 466, 467, 468, 469, 470, 471, 447, 472, 473, 474, 475, 476, 448, 477, 478, 479, 480, 481, 482, 483, 484, 485, 486, 487, 119, 120, 121, 488, 489, 490, 491, 492, 493, 494, 495, 496, 497, 498, 499, 500, 501, 446, 502, 227, 228, 503, 504, 505, 506, 507, 508, 509, 510, 511, 445, 512, 513, 451, 514, 515, 516, 517, 518, 519, 520, 521, 522, 523, 524, 525, 526, 527, 528, 529, 530, 531, 532, 533, 534, 535, 536, 537, 538, 539, 540, 541, 542, 543, 544, 545, 546, 547, 548, 549, 550, 551, 552, 553, 554, 555, 556, 557, 558, 559, 560, 561, 562, 449, 450, 452, 453, 454, 455, 456, 563, 564, 565, 566, 567, 568, 569, 570, 571, 572, 573, 574, 575, 576, 577, 578, 579, 580, 581, 582, 583, 584, 877, 878, 879, 880, 896, 897, 898, 899] (by decide +kernel) (by decide +kernel)
set_option maxRecDepth 20000 in
theorem gL_undone_J4_append_15ec4 : GoodIn wsL_undone (wsV RL 310 RJ4 yJ4_append_15ec4 wsJ4_append_15ec4) := goodIn_app (goodIn_of _ (by decide +kernel)) ggL_undone_J4_append_15ec4
set_option maxRecDepth 20000 in
theorem ggL_undone_J4_append_bf812 : GoodIn wsL_undone wsJ4_append_bf812 := goodIn_r _ [588, 589, 590, 463, 591, 440, 592, 466, 447, 593, 594, 595, 596, 472, 473, 474, 475, 476, 448, 477, 478, 479, 480, 481, 482, 483, 484, 485, 486, 487, 119, 120, 121, 488, 489, 490, 491, 492, 493, 494, 495, 496, 497, 498, 499, 500, 501, 446, 502, 227, 228, 503, 504, 505, 506, 507, 508, 509, 510, 511, 445, 597, 598, 599, 600, 601, 602, 603, 451, 604, 515, 516, 517, 518, 519, 520, 521, 522, 523, 524, 525, 526, 527, 528, 529, 530, 605, 606, 607, 608, 609, 531, 532, 533, 534, 535, 877, 878, 879, 880] (by decide +kernel) (by decide +kernel)
set_option maxRecDepth 20000 in
theorem gL_undone_J4_append_bf812 : GoodIn wsL_undone (wsV RL 316 RJ4 yJ4_append_bf812 wsJ4_append_bf812) := goodIn_app (goodIn_of _ (by decide +kernel)) ggL_undone_J4_append_bf812
set_option maxRecDepth 20000 in
theorem ggL_undone_J4_toString_0e30d : GoodIn wsL_undone wsJ4_toString_0e30d := goodIn_r _ [613, 614, 615, 524, 616, 617, 618, 619, 620, 621, 622, 443, 444, 546, 540, 545, 623, 624, 625, 626, 627, 440, 628, 447, 629, 630, 631, 632, 633, 4, 634, 635, 463, 636, 637, 466, 638, 508, 509, 510, 511, 445, 448, 639, 640, 494, 641, 496, 497, 498, 499, 500, 501, 642, 643, 644, 446, 502, 227, 120, 228, 503, 504, 505, 506, 645, 646, 647, 648, 3, 649, 650, 451, 651, 652, 653, 654, 570, 571, 572, 519, 520, 521, 573, 574, 575, 526, 576, 577, 529, 578, 655, 656, 657, 515, 534, 535, 453, 454, 455, 456, 658, 659, 660, 661, 896, 897, 898, 899, 877, 878, 879, 880] (by decide +kernel) (by decide +kernel)
set_option maxRecDepth 20000 in
theorem gL_undone_J4_toString_0e30d : GoodIn wsL_undone (wsV RL 323 RJ4 yJ4_toString_0e30d wsJ4_toString_0e30d) := goodIn_app (goodIn_of _ (by decide +kernel)) ggL_undone_J4_toString_0e30d
set_option maxRecDepth 20000 in
theorem gz9_h : GoodIn wsL_undone [.code yL_execute cL_execute 3 (some .int)] := goodIn_r _ [664] (by decide +kernel) (by decide +kernel)
set_option maxRecDepth 20000 in
theorem gz9_0 : GoodIn wsL_undone wsL_execute_r1 := goodIn_r _ [665, 537, 538, 524, 539, 540, 541, 542, 543, 544, 545, 546, 666, 667, 668, 669, 670, 671, 672, 673, 674, 675, 565, 676] (by decide +kernel) (by decide +kernel)
set_option maxRecDepth 20000 in
theorem gz9_1 : GoodIn wsL_undone wsL_execute_r2 := goodIn_r _ [677, 678, 679, 526, 680, 681, 529, 682, 683, 684, 451, 685, 686, 687, 688, 519, 520, 521, 689, 655, 656, 657, 515, 534] (by decide +kernel) (by decide +kernel)
set_option maxRecDepth 20000 in
theorem gz9_2 : GoodIn wsL_undone wsL_execute_r3 := goodIn_r _ [535, 690, 691, 7, 692, 197, 693, 694, 695, 22, 696, 206, 207, 208, 209, 697, 698, 699, 700, 701, 702, 703, 704, 633] (by decide +kernel) (by decide +kernel)
set_option maxRecDepth 20000 in
theorem gz9_3 : GoodIn wsL_undone wsL_execute_r4 := goodIn_r _ [705, 4, 634, 635, 630, 463, 636, 440, 637, 466, 706, 707, 708, 709, 710, 711, 712, 713, 714, 715, 716, 717, 447, 472] (by decide +kernel) (by decide +kernel)
set_option maxRecDepth 20000 in
theorem gz9_4 : GoodIn wsL_undone wsL_execute_r5 := goodIn_r _ [473, 474, 475, 476, 448, 477, 478, 479, 480, 481, 482, 483, 484, 485, 486, 487, 119, 120, 121, 488, 489, 490, 491, 492] (by decide +kernel) (by decide +kernel)
set_option maxRecDepth 20000 in
theorem gz9_5 : GoodIn wsL_undone wsL_execute_r6 := goodIn_r _ [493, 494, 495, 496, 497, 498, 499, 500, 501, 446, 502, 227, 228, 503, 504, 505, 506, 507, 508, 509, 510, 511, 445, 718] (by decide +kernel) (by decide +kernel)
set_option maxRecDepth 20000 in
theorem gz9_6 : GoodIn wsL_undone wsL_execute_r7 := goodIn_r _ [719, 720, 558, 559, 560, 561, 562, 449, 450, 452, 453, 454, 455, 456, 563, 564, 566, 567, 568, 569, 570, 571, 572, 573] (by decide +kernel) (by decide +kernel)
set_option maxRecDepth 20000 in
theorem gz9_7 : GoodIn wsL_undone wsL_execute_r8 := goodIn_r _ [574, 575, 576, 577, 578, 531, 532, 533, 721, 722, 723, 724, 725, 726, 727, 728, 729, 730, 731, 732, 24, 25, 733, 210] (by decide +kernel) (by decide +kernel)
set_option maxRecDepth 20000 in
theorem gz9_8 : GoodIn wsL_undone wsL_execute_r9 := goodIn_r _ [734, 735, 736, 737, 738, 739, 740, 741, 742, 743, 744, 745, 746, 747, 748, 749, 750, 751, 752, 753, 754, 755, 756, 757] (by decide +kernel) (by decide +kernel)
set_option maxRecDepth 20000 in
theorem gz9_9 : GoodIn wsL_undone wsL_execute_r10 := goodIn_r _ [758, 759, 760, 761, 762, 763, 764, 765, 766, 767, 768, 769, 770, 771, 772, 773, 774, 775, 235, 236, 29, 237, 31, 776] (by decide +kernel) (by decide +kernel)
set_option maxRecDepth 20000 in
theorem gz9_10 : GoodIn wsL_undone wsL_execute_r11 := goodIn_r _ [777, 778, 779, 780, 781, 782, 783, 784, 785, 786, 787, 788, 789, 790, 791, 792, 793, 794, 795, 796, 797, 798, 799, 800] (by decide +kernel) (by decide +kernel)
set_option maxRecDepth 20000 in
theorem gz9_11 : GoodIn wsL_undone wsL_execute_r12 := goodIn_r _ [801, 802, 803, 804, 805, 806, 807, 808, 809, 810, 648, 3, 811, 812, 813, 814, 815, 816, 817, 818, 819, 820, 821, 822] (by decide +kernel) (by decide +kernel)
set_option maxRecDepth 20000 in
theorem gz9_12 : GoodIn wsL_undone wsL_execute_r13 := goodIn_r _ [230, 231, 232, 233, 27, 28, 30, 234, 823, 824, 825, 826, 827, 828, 829, 830, 831, 832, 833, 834, 835, 836, 837, 838] (by decide +kernel) (by decide +kernel)
set_option maxRecDepth 20000 in
theorem gz9_13 : GoodIn wsL_undone wsL_execute_r14 := goodIn_r _ [61, 839, 840, 212, 213, 190, 184, 185, 841, 215, 216, 217, 92, 75, 76, 77, 67, 68, 842, 89, 90, 91, 843, 278] (by decide +kernel) (by decide +kernel)
set_option maxRecDepth 20000 in
theorem gz9_14 : GoodIn wsL_undone wsL_execute_r15 := goodIn_r _ [279, 280, 281, 187, 188, 189, 282, 283, 284, 285, 844, 59, 60, 62, 63, 64, 65, 66, 845, 328, 329, 846, 331, 332] (by decide +kernel) (by decide +kernel)
set_option maxRecDepth 20000 in
theorem gz9_15 : GoodIn wsL_undone wsL_execute_r16 := goodIn_r _ [333, 334, 335, 336, 337, 159, 144, 145, 146, 338, 161, 162, 163, 847, 156, 157, 158, 848, 379, 380, 849, 393, 394, 850] (by decide +kernel) (by decide +kernel)
set_option maxRecDepth 20000 in
theorem gz9_16 : GoodIn wsL_undone wsL_execute_r17 := goodIn_r _ [851, 852, 853, 854, 239, 240, 241, 242, 855, 266, 267, 268, 269, 856, 287, 288, 289, 857, 298, 299, 300, 858, 309, 310] (by decide +kernel) (by decide +kernel)
set_option maxRecDepth 20000 in
theorem gz9_17 : GoodIn wsL_undone wsL_execute_r18 := goodIn_r _ [311, 859, 340, 341, 342, 354, 355, 356, 357, 358, 359, 360, 361, 362, 860, 382, 383, 384, 861, 396, 397, 398, 399, 400] (by decide +kernel) (by decide +kernel)
set_option maxRecDepth 20000 in
theorem gz9_18 : GoodIn wsL_undone wsL_execute_r19 := goodIn_r _ [401, 402, 118, 403, 404, 405, 406, 407, 115, 116, 117, 105, 94, 95, 96, 122, 123, 124, 125, 126, 127, 128, 129, 408] (by decide +kernel) (by decide +kernel)
set_option maxRecDepth 20000 in
theorem gz9_19 : GoodIn wsL_undone wsL_execute_r20 := goodIn_r _ [102, 103, 104, 106, 107, 108, 109, 409, 410, 411, 412, 413, 414, 415, 416, 417, 418, 419, 420, 421, 422, 423, 424, 425] (by decide +kernel) (by decide +kernel)
set_option maxRecDepth 20000 in
theorem gz9_20 : GoodIn wsL_undone wsL_execute_r21 := goodIn_r _ [426, 427, 428, 429, 430, 431, 432, 433, 434, 218, 219, 220, 221, 222, 223, 224, 225, 226, 229] (by decide +kernel) (by decide +kernel)
set_option maxRecDepth 20000 in
theorem gz9_21 : GoodIn wsL_undone wsJ00 := goodIn_r _ [896, 897, 898, 899] (by decide +kernel) (by decide +kernel)
set_option maxRecDepth 20000 in
theorem gz9_22 : GoodIn wsL_undone wsX50 := goodIn_r _ [881, 882, 883, 884, 885, 886, 887, 888, 889, 890] (by decide +kernel) (by decide +kernel)
set_option maxRecDepth 20000 in
theorem gz9_23 : GoodIn wsL_undone wsX30 := goodIn_r _ [900, 901, 902, 903, 904] (by decide +kernel) (by decide +kernel)
set_option maxRecDepth 20000 in
theorem gz9_24 : GoodIn wsL_undone wsJ40 := goodIn_r _ [877, 878, 879, 880] (by decide +kernel) (by decide +kernel)
set_option maxRecDepth 20000 in
theorem gz9_25 : GoodIn wsL_undone wsX40 := goodIn_r _ [891] (by decide +kernel) (by decide +kernel)
set_option maxRecDepth 20000 in
theorem gz9_26 : GoodIn wsL_undone wsX20 := goodIn_r _ [892] (by decide +kernel) (by decide +kernel)
set_option maxRecDepth 20000 in
theorem gz9_27 : GoodIn wsL_undone wsJx7c7330 := goodIn_r _ [905, 906, 907, 908, 909, 910] (by decide +kernel) (by decide +kernel)
set_option maxRecDepth 20000 in
theorem gz9_28 : GoodIn wsL_undone wsJx000600 := goodIn_r _ [911, 912, 913, 914, 915, 916] (by decide +kernel) (by decide +kernel)
set_option maxRecDepth 20000 in
theorem gz9_29 : GoodIn wsL_undone wsX10 := goodIn_r _ [893, 894, 895] (by decide +kernel) (by decide +kernel)
set_option maxRecDepth 20000 in
theorem ggL_undone_L_execute : GoodIn wsL_undone wsL_execute := goodIn_ca (goodIn_ca (goodIn_ca (goodIn_ca (goodIn_app gz9_h (goodIn_app (goodIn_app (goodIn_app (goodIn_app (goodIn_app (goodIn_app (goodIn_app (goodIn_app (goodIn_app (goodIn_app gz9_0 (goodIn_app gz9_1 (goodIn_app gz9_2 (goodIn_app gz9_3 (goodIn_app gz9_4 (goodIn_app gz9_5 (goodIn_app gz9_6 (goodIn_app gz9_7 (goodIn_app gz9_8 (goodIn_app gz9_9 (goodIn_app gz9_10 (goodIn_app gz9_11 (goodIn_app gz9_12 (goodIn_app gz9_13 (goodIn_app gz9_14 (goodIn_app gz9_15 (goodIn_app gz9_16 (goodIn_app gz9_17 (goodIn_app gz9_18 (goodIn_app gz9_19 gz9_20)))))))))))))))))))) gz9_21) gz9_22) gz9_23) gz9_24) gz9_25) gz9_26) gz9_27) gz9_28) gz9_29)) (goodIn_sub (fun _ h => List.mem_cons_of_mem _ (List.mem_append_left _ (List.mem_append_right _ h))) (by decide +kernel))) (goodIn_sub (fun _ h => List.mem_cons_of_mem _ (List.mem_append_right _ h)) (by decide +kernel))) (goodIn_sub (fun _ h => List.mem_cons_of_mem _ (List.mem_append_left _ (List.mem_append_left _ (List.mem_append_left _ (List.mem_append_left _ (List.mem_append_left _ (List.mem_append_right _ h))))))) (by decide +kernel))) (goodIn_sub (fun _ h => List.mem_cons_of_mem _ (List.mem_append_left _ (List.mem_append_left _ (List.mem_append_right _ h)))) (by decide +kernel))
set_option maxRecDepth 20000 in
theorem gL_undone_L_execute : GoodIn wsL_undone (va_wsS RL 389 yL_execute wsL_execute) := goodIn_app (goodIn_of _ (by decide +kernel)) ggL_undone_L_execute
set_option maxRecDepth 20000 in
theorem ggL_undone_L_undo : GoodIn wsL_undone wsL_undo := goodIn_ca (goodIn_ca (goodIn_r _ [864, 315, 865, 866, 867, 22, 868, 208, 209, 210, 24, 25, 869, 870, 871, 221, 872, 225, 873, 874, 875, 876, 224, 223, 229, 230, 231, 29, 232, 233, 27, 28, 30, 31, 234, 235, 236, 237, 881, 882, 883, 884, 885, 886, 887, 888, 889, 890, 891, 893, 894, 895, 892] (by decide +kernel) (by decide +kernel)) (goodIn_sub (fun _ h => List.mem_cons_of_mem _ (List.mem_append_right _ h)) (by decide +kernel))) (goodIn_sub (fun _ h => List.mem_cons_of_mem _ (List.mem_append_left _ (List.mem_append_left _ (List.mem_append_left _ (List.mem_append_left _ (List.mem_append_left _ (List.mem_append_right _ h))))))) (by decide +kernel))
set_option maxRecDepth 20000 in
theorem gL_undone_L_undo : GoodIn wsL_undone (va_wsS RL 392 yL_undo wsL_undo) := goodIn_app (goodIn_of _ (by decide +kernel)) ggL_undone_L_undo
theorem dL_undone_0 : decode cL_undone 0 = .ok (.bipush 9, 2) := by decide +kernel
theorem dL_undone_2 : decode cL_undone 2 = .ok (.newarray .long, 2) := by decide +kernel
theorem dL_undone_4 : decode cL_undone 4 = .ok (.astore_n 2, 1) := by decide +kernel
theorem dL_undone_5 : decode cL_undone 5 = .ok (.iconst 0, 1) := by decide +kernel
theorem dL_undone_6 : decode cL_undone 6 = .ok (.istore_n 3, 1) := by decide +kernel
theorem dL_undone_7 : decode cL_undone 7 = .ok (.iconst 0, 1) := by decide +kernel
theorem dL_undone_8 : decode cL_undone 8 = .ok (.istore 4, 2) := by decide +kernel
theorem dL_undone_10 : decode cL_undone 10 = .ok (.iload 4, 2) := by decide +kernel
theorem dL_undone_12 : decode cL_undone 12 = .ok (.bipush 7, 2) := by decide +kernel
theorem dL_undone_14 : decode cL_undone 14 = .ok (.if_icmp .ge 395, 3) := by decide +kernel
theorem dL_undone_17 : decode cL_undone 17 = .ok (.aload_n 0, 1) := by decide +kernel
theorem dL_undone_18 : decode cL_undone 18 = .ok (.bipush 9, 2) := by decide +kernel
theorem dL_undone_20 : decode cL_undone 20 = .ok (.iload 4, 2) := by decide +kernel
theorem dL_undone_22 : decode cL_undone 22 = .ok (.iadd, 1) := by decide +kernel
theorem dL_undone_23 : decode cL_undone 23 = .ok (.invokestatic 176, 3) := by decide +kernel
theorem dL_undone_26 : decode cL_undone 26 = .ok (.iconst 1, 1) := by decide +kernel
theorem dL_undone_27 : decode cL_undone 27 = .ok (.iushr, 1) := by decide +kernel
theorem dL_undone_28 : decode cL_undone 28 = .ok (.istore 5, 2) := by decide +kernel
theorem dL_undone_30 : decode cL_undone 30 = .ok (.iload 5, 2) := by decide +kernel
theorem dL_undone_32 : decode cL_undone 32 = .ok (.iconst 4, 1) := by decide +kernel
theorem dL_undone_33 : decode cL_undone 33 = .ok (.iushr, 1) := by decide +kernel
theorem dL_undone_34 : decode cL_undone 34 = .ok (.istore 6, 2) := by decide +kernel
theorem dL_undone_36 : decode cL_undone 36 = .ok (.aload_n 2, 1) := by decide +kernel
theorem dL_undone_37 : decode cL_undone 37 = .ok (.iload_n 3, 1) := by decide +kernel
theorem dL_undone_38 : decode cL_undone 38 = .ok (.aload_n 1, 1) := by decide +kernel
theorem dL_undone_39 : decode cL_undone 39 = .ok (.invokestatic 367, 3) := by decide +kernel
theorem dL_undone_42 : decode cL_undone 42 = .ok (.lastore, 1) := by decide +kernel
theorem dL_undone_43 : decode cL_undone 43 = .ok (.iload 5, 2) := by decide +kernel
theorem dL_undone_45 : decode cL_undone 45 = .ok (.bipush 11, 2) := by decide +kernel
theorem dL_undone_47 : decode cL_undone 47 = .ok (.irem, 1) := by decide +kernel
theorem dL_undone_48 : decode cL_undone 48 = .ok (.tableswitch 242 0 9 #[56, 89, 103, 117, 131, 145, 154, 175, 210, 228], 56) := by decide +kernel
theorem dL_undone_104 : decode cL_undone 104 = .ok (.aload_n 1, 1) := by decide +kernel
theorem dL_undone_105 : decode cL_undone 105 = .ok (.iload 6, 2) := by decide +kernel
theorem dL_undone_107 : decode cL_undone 107 = .ok (.iconst 3, 1) := by decide +kernel
theorem dL_undone_108 : decode cL_undone 108 = .ok (.irem, 1) := by decide +kernel
theorem dL_undone_109 : decode cL_undone 109 = .ok (.iload 6, 2) := by decide +kernel
theorem dL_undone_111 : decode cL_undone 111 = .ok (.bipush 8, 2) := by decide +kernel
theorem dL_undone_113 : decode cL_undone 113 = .ok (.irem, 1) := by decide +kernel
theorem dL_undone_114 : decode cL_undone 114 = .ok (.iload 6, 2) := by decide +kernel
theorem dL_undone_116 : decode cL_undone 116 = .ok (.iconst 3, 1) := by decide +kernel
theorem dL_undone_117 : decode cL_undone 117 = .ok (.iushr, 1) := by decide +kernel
theorem dL_undone_118 : decode cL_undone 118 = .ok (.bipush 13, 2) := by decide +kernel
theorem dL_undone_120 : decode cL_undone 120 = .ok (.irem, 1) := by decide +kernel
theorem dL_undone_121 : decode cL_undone 121 = .ok (.iload 6, 2) := by decide +kernel
theorem dL_undone_123 : decode cL_undone 123 = .ok (.bipush 7, 2) := by decide +kernel
theorem dL_undone_125 : decode cL_undone 125 = .ok (.iushr, 1) := by decide +kernel
theorem dL_undone_126 : decode cL_undone 126 = .ok (.bipush 14, 2) := by decide +kernel
theorem dL_undone_128 : decode cL_undone 128 = .ok (.irem, 1) := by decide +kernel
theorem dL_undone_129 : decode cL_undone 129 = .ok (.invokestatic 183, 3) := by decide +kernel
theorem dL_undone_132 : decode cL_undone 132 = .ok (.istore 7, 2) := by decide +kernel
theorem dL_undone_134 : decode cL_undone 134 = .ok (.goto 238, 3) := by decide +kernel
theorem dL_undone_137 : decode cL_undone 137 = .ok (.aload_n 1, 1) := by decide +kernel
theorem dL_undone_138 : decode cL_undone 138 = .ok (.iload 6, 2) := by decide +kernel
theorem dL_undone_140 : decode cL_undone 140 = .ok (.bipush 6, 2) := by decide +kernel
theorem dL_undone_142 : decode cL_undone 142 = .ok (.irem, 1) := by decide +kernel
theorem dL_undone_143 : decode cL_undone 143 = .ok (.invokestatic 371, 3) := by decide +kernel
theorem dL_undone_146 : decode cL_undone 146 = .ok (.istore 7, 2) := by decide +kernel
theorem dL_undone_148 : decode cL_undone 148 = .ok (.goto 224, 3) := by decide +kernel
theorem dL_undone_151 : decode cL_undone 151 = .ok (.aload_n 1, 1) := by decide +kernel
theorem dL_undone_152 : decode cL_undone 152 = .ok (.iload 6, 2) := by decide +kernel
theorem dL_undone_154 : decode cL_undone 154 = .ok (.bipush 13, 2) := by decide +kernel
theorem dL_undone_156 : decode cL_undone 156 = .ok (.irem, 1) := by decide +kernel
theorem dL_undone_157 : decode cL_undone 157 = .ok (.invokestatic 190, 3) := by decide +kernel
theorem dL_undone_160 : decode cL_undone 160 = .ok (.istore 7, 2) := by decide +kernel
theorem dL_undone_162 : decode cL_undone 162 = .ok (.goto 210, 3) := by decide +kernel
theorem dL_undone_165 : decode cL_undone 165 = .ok (.aload_n 1, 1) := by decide +kernel
theorem dL_undone_166 : decode cL_undone 166 = .ok (.iload 6, 2) := by decide +kernel
theorem dL_undone_168 : decode cL_undone 168 = .ok (.bipush 13, 2) := by decide +kernel
theorem dL_undone_170 : decode cL_undone 170 = .ok (.irem, 1) := by decide +kernel
theorem dL_undone_171 : decode cL_undone 171 = .ok (.invokestatic 373, 3) := by decide +kernel
theorem dL_undone_174 : decode cL_undone 174 = .ok (.istore 7, 2) := by decide +kernel
theorem dL_undone_176 : decode cL_undone 176 = .ok (.goto 196, 3) := by decide +kernel
theorem dL_undone_179 : decode cL_undone 179 = .ok (.aload_n 1, 1) := by decide +kernel
theorem dL_undone_180 : decode cL_undone 180 = .ok (.iload 6, 2) := by decide +kernel
theorem dL_undone_182 : decode cL_undone 182 = .ok (.bipush 13, 2) := by decide +kernel
theorem dL_undone_184 : decode cL_undone 184 = .ok (.irem, 1) := by decide +kernel
theorem dL_undone_185 : decode cL_undone 185 = .ok (.invokestatic 195, 3) := by decide +kernel
theorem dL_undone_188 : decode cL_undone 188 = .ok (.istore 7, 2) := by decide +kernel
theorem dL_undone_190 : decode cL_undone 190 = .ok (.goto 182, 3) := by decide +kernel
theorem dL_undone_193 : decode cL_undone 193 = .ok (.aload_n 1, 1) := by decide +kernel
theorem dL_undone_194 : decode cL_undone 194 = .ok (.invokestatic 375, 3) := by decide +kernel
theorem dL_undone_197 : decode cL_undone 197 = .ok (.istore 7, 2) := by decide +kernel
theorem dL_undone_199 : decode cL_undone 199 = .ok (.goto 173, 3) := by decide +kernel
theorem dL_undone_202 : decode cL_undone 202 = .ok (.aload_n 1, 1) := by decide +kernel
theorem dL_undone_203 : decode cL_undone 203 = .ok (.iload 6, 2) := by decide +kernel
theorem dL_undone_205 : decode cL_undone 205 = .ok (.bipush 13, 2) := by decide +kernel
theorem dL_undone_207 : decode cL_undone 207 = .ok (.irem, 1) := by decide +kernel
theorem dL_undone_208 : decode cL_undone 208 = .ok (.iload 6, 2) := by decide +kernel
theorem dL_undone_210 : decode cL_undone 210 = .ok (.iconst 4, 1) := by decide +kernel
theorem dL_undone_211 : decode cL_undone 211 = .ok (.iushr, 1) := by decide +kernel
theorem dL_undone_212 : decode cL_undone 212 = .ok (.bipush 62, 2) := by decide +kernel
theorem dL_undone_214 : decode cL_undone 214 = .ok (.irem, 1) := by decide +kernel
theorem dL_undone_215 : decode cL_undone 215 = .ok (.invokestatic 192, 3) := by decide +kernel
theorem dL_undone_218 : decode cL_undone 218 = .ok (.istore 7, 2) := by decide +kernel
theorem dL_undone_220 : decode cL_undone 220 = .ok (.goto 152, 3) := by decide +kernel
theorem dL_undone_223 : decode cL_undone 223 = .ok (.iload 6, 2) := by decide +kernel
theorem dL_undone_225 : decode cL_undone 225 = .ok (.iconst 2, 1) := by decide +kernel
theorem dL_undone_226 : decode cL_undone 226 = .ok (.irem, 1) := by decide +kernel
theorem dL_undone_227 : decode cL_undone 227 = .ok (.ifCond .ne 16, 3) := by decide +kernel
theorem dL_undone_230 : decode cL_undone 230 = .ok (.aload_n 1, 1) := by decide +kernel
theorem dL_undone_231 : decode cL_undone 231 = .ok (.iload 6, 2) := by decide +kernel
theorem dL_undone_233 : decode cL_undone 233 = .ok (.iconst 1, 1) := by decide +kernel
theorem dL_undone_234 : decode cL_undone 234 = .ok (.iushr, 1) := by decide +kernel
theorem dL_undone_235 : decode cL_undone 235 = .ok (.iconst 5, 1) := by decide +kernel
theorem dL_undone_236 : decode cL_undone 236 = .ok (.irem, 1) := by decide +kernel
theorem dL_undone_237 : decode cL_undone 237 = .ok (.invokestatic 377, 3) := by decide +kernel
theorem dL_undone_240 : decode cL_undone 240 = .ok (.goto 13, 3) := by decide +kernel
theorem dL_undone_243 : decode cL_undone 243 = .ok (.aload_n 1, 1) := by decide +kernel
theorem dL_undone_244 : decode cL_undone 244 = .ok (.iload 6, 2) := by decide +kernel
theorem dL_undone_246 : decode cL_undone 246 = .ok (.iconst 1, 1) := by decide +kernel
theorem dL_undone_247 : decode cL_undone 247 = .ok (.iushr, 1) := by decide +kernel
theorem dL_undone_248 : decode cL_undone 248 = .ok (.iconst 5, 1) := by decide +kernel
theorem dL_undone_249 : decode cL_undone 249 = .ok (.irem, 1) := by decide +kernel
theorem dL_undone_250 : decode cL_undone 250 = .ok (.invokestatic 379, 3) := by decide +kernel
theorem dL_undone_253 : decode cL_undone 253 = .ok (.istore 7, 2) := by decide +kernel
theorem dL_undone_255 : decode cL_undone 255 = .ok (.goto 117, 3) := by decide +kernel
theorem dL_undone_258 : decode cL_undone 258 = .ok (.aload_n 1, 1) := by decide +kernel
theorem dL_undone_259 : decode cL_undone 259 = .ok (.iload 6, 2) := by decide +kernel
theorem dL_undone_261 : decode cL_undone 261 = .ok (.bipush 9, 2) := by decide +kernel
theorem dL_undone_263 : decode cL_undone 263 = .ok (.irem, 1) := by decide +kernel
theorem dL_undone_264 : decode cL_undone 264 = .ok (.iconst 4, 1) := by decide +kernel
theorem dL_undone_265 : decode cL_undone 265 = .ok (.isub, 1) := by decide +kernel
theorem dL_undone_266 : decode cL_undone 266 = .ok (.invokestatic 197, 3) := by decide +kernel
theorem dL_undone_269 : decode cL_undone 269 = .ok (.iconst 3, 1) := by decide +kernel
theorem dL_undone_270 : decode cL_undone 270 = .ok (.iadd, 1) := by decide +kernel
theorem dL_undone_271 : decode cL_undone 271 = .ok (.istore 7, 2) := by decide +kernel
theorem dL_undone_273 : decode cL_undone 273 = .ok (.goto 99, 3) := by decide +kernel
theorem dL_undone_276 : decode cL_undone 276 = .ok (.aload_n 1, 1) := by decide +kernel
theorem dL_undone_277 : decode cL_undone 277 = .ok (.iload 6, 2) := by decide +kernel
theorem dL_undone_279 : decode cL_undone 279 = .ok (.bipush 62, 2) := by decide +kernel
theorem dL_undone_281 : decode cL_undone 281 = .ok (.irem, 1) := by decide +kernel
theorem dL_undone_282 : decode cL_undone 282 = .ok (.invokestatic 187, 3) := by decide +kernel
theorem dL_undone_285 : decode cL_undone 285 = .ok (.istore 7, 2) := by decide +kernel
theorem dL_undone_287 : decode cL_undone 287 = .ok (.goto 85, 3) := by decide +kernel
theorem dL_undone_290 : decode cL_undone 290 = .ok (.aload_n 1, 1) := by decide +kernel
theorem dL_undone_291 : decode cL_undone 291 = .ok (.new 307, 3) := by decide +kernel
theorem dL_undone_294 : decode cL_undone 294 = .ok (.dup, 1) := by decide +kernel
theorem dL_undone_295 : decode cL_undone 295 = .ok (.invokespecial 309, 3) := by decide +kernel
theorem dL_undone_298 : decode cL_undone 298 = .ok (.ldc_w 381, 3) := by decide +kernel
theorem dL_undone_301 : decode cL_undone 301 = .ok (.invokevirtual 310, 3) := by decide +kernel
theorem dL_undone_304 : decode cL_undone 304 = .ok (.iload 6, 2) := by decide +kernel
theorem dL_undone_306 : decode cL_undone 306 = .ok (.iconst 2, 1) := by decide +kernel
theorem dL_undone_307 : decode cL_undone 307 = .ok (.irem, 1) := by decide +kernel
theorem dL_undone_308 : decode cL_undone 308 = .ok (.ifCond .ne 9, 3) := by decide +kernel
theorem dL_undone_311 : decode cL_undone 311 = .ok (.ldc_w 305, 3) := by decide +kernel
theorem dL_undone_314 : decode cL_undone 314 = .ok (.goto 6, 3) := by decide +kernel
theorem dL_undone_317 : decode cL_undone 317 = .ok (.ldc_w 383, 3) := by decide +kernel
theorem dL_undone_320 : decode cL_undone 320 = .ok (.invokevirtual 310, 3) := by decide +kernel
theorem dL_undone_323 : decode cL_undone 323 = .ok (.iload 6, 2) := by decide +kernel
theorem dL_undone_325 : decode cL_undone 325 = .ok (.iconst 1, 1) := by decide +kernel
theorem dL_undone_326 : decode cL_undone 326 = .ok (.iushr, 1) := by decide +kernel
theorem dL_undone_327 : decode cL_undone 327 = .ok (.iconst 5, 1) := by decide +kernel
theorem dL_undone_328 : decode cL_undone 328 = .ok (.irem, 1) := by decide +kernel
theorem dL_undone_329 : decode cL_undone 329 = .ok (.invokevirtual 316, 3) := by decide +kernel
theorem dL_undone_332 : decode cL_undone 332 = .ok (.ldc_w 385, 3) := by decide +kernel
theorem dL_undone_335 : decode cL_undone 335 = .ok (.invokevirtual 310, 3) := by decide +kernel
theorem dL_undone_338 : decode cL_undone 338 = .ok (.iconst 1, 1) := by decide +kernel
theorem dL_undone_339 : decode cL_undone 339 = .ok (.iload 6, 2) := by decide +kernel
theorem dL_undone_341 : decode cL_undone 341 = .ok (.bipush 30, 2) := by decide +kernel
theorem dL_undone_343 : decode cL_undone 343 = .ok (.irem, 1) := by decide +kernel
theorem dL_undone_344 : decode cL_undone 344 = .ok (.iadd, 1) := by decide +kernel
theorem dL_undone_345 : decode cL_undone 345 = .ok (.invokevirtual 316, 3) := by decide +kernel
theorem dL_undone_348 : decode cL_undone 348 = .ok (.ldc_w 387, 3) := by decide +kernel
theorem dL_undone_351 : decode cL_undone 351 = .ok (.invokevirtual 310, 3) := by decide +kernel
theorem dL_undone_354 : decode cL_undone 354 = .ok (.iload 6, 2) := by decide +kernel
theorem dL_undone_356 : decode cL_undone 356 = .ok (.iconst 3, 1) := by decide +kernel
theorem dL_undone_357 : decode cL_undone 357 = .ok (.iushr, 1) := by decide +kernel
theorem dL_undone_358 : decode cL_undone 358 = .ok (.bipush 12, 2) := by decide +kernel
theorem dL_undone_360 : decode cL_undone 360 = .ok (.irem, 1) := by decide +kernel
theorem dL_undone_361 : decode cL_undone 361 = .ok (.invokevirtual 316, 3) := by decide +kernel
theorem dL_undone_364 : decode cL_undone 364 = .ok (.invokevirtual 323, 3) := by decide +kernel
theorem dL_undone_367 : decode cL_undone 367 = .ok (.invokestatic 389, 3) := by decide +kernel
theorem dL_undone_370 : decode cL_undone 370 = .ok (.istore 7, 2) := by decide +kernel
theorem dL_undone_372 : decode cL_undone 372 = .ok (.iload 7, 2) := by decide +kernel
theorem dL_undone_374 : decode cL_undone 374 = .ok (.ifCond .ge 16, 3) := by decide +kernel
theorem dL_undone_377 : decode cL_undone 377 = .ok (.aload_n 1, 1) := by decide +kernel
theorem dL_undone_378 : decode cL_undone 378 = .ok (.invokestatic 367, 3) := by decide +kernel
theorem dL_undone_381 : decode cL_undone 381 = .ok (.aload_n 2, 1) := by decide +kernel
theorem dL_undone_382 : decode cL_undone 382 = .ok (.iload_n 3, 1) := by decide +kernel
theorem dL_undone_383 : decode cL_undone 383 = .ok (.laload, 1) := by decide +kernel
theorem dL_undone_384 : decode cL_undone 384 = .ok (.lcmp, 1) := by decide +kernel
theorem dL_undone_385 : decode cL_undone 385 = .ok (.ifCond .eq 5, 3) := by decide +kernel
theorem dL_undone_388 : decode cL_undone 388 = .ok (.iconst 0, 1) := by decide +kernel
theorem dL_undone_389 : decode cL_undone 389 = .ok (.ireturn, 1) := by decide +kernel
theorem dL_undone_390 : decode cL_undone 390 = .ok (.iload_n 3, 1) := by decide +kernel
theorem dL_undone_391 : decode cL_undone 391 = .ok (.iload 7, 2) := by decide +kernel
theorem dL_undone_393 : decode cL_undone 393 = .ok (.ifCond .ge 7, 3) := by decide +kernel
theorem dL_undone_396 : decode cL_undone 396 = .ok (.iconst 0, 1) := by decide +kernel
theorem dL_undone_397 : decode cL_undone 397 = .ok (.goto 4, 3) := by decide +kernel
theorem dL_undone_400 : decode cL_undone 400 = .ok (.iconst 1, 1) := by decide +kernel
theorem dL_undone_401 : decode cL_undone 401 = .ok (.iadd, 1) := by decide +kernel
theorem dL_undone_402 : decode cL_undone 402 = .ok (.istore_n 3, 1) := by decide +kernel
theorem dL_undone_403 : decode cL_undone 403 = .ok (.iinc 4 1, 3) := by decide +kernel
theorem dL_undone_406 : decode cL_undone 406 = .ok (.goto (-396), 3) := by decide +kernel
theorem dL_undone_409 : decode cL_undone 409 = .ok (.iload_n 3, 1) := by decide +kernel
theorem dL_undone_410 : decode cL_undone 410 = .ok (.iconst 1, 1) := by decide +kernel
theorem dL_undone_411 : decode cL_undone 411 = .ok (.isub, 1) := by decide +kernel
theorem dL_undone_412 : decode cL_undone 412 = .ok (.istore 4, 2) := by decide +kernel
theorem dL_undone_414 : decode cL_undone 414 = .ok (.iload 4, 2) := by decide +kernel
theorem dL_undone_416 : decode cL_undone 416 = .ok (.ifCond .lt 30, 3) := by decide +kernel
theorem dL_undone_419 : decode cL_undone 419 = .ok (.aload_n 1, 1) := by decide +kernel
theorem dL_undone_420 : decode cL_undone 420 = .ok (.invokestatic 392, 3) := by decide +kernel
theorem dL_undone_423 : decode cL_undone 423 = .ok (.ifCond .lt 15, 3) := by decide +kernel
theorem dL_undone_426 : decode cL_undone 426 = .ok (.aload_n 1, 1) := by decide +kernel
theorem dL_undone_427 : decode cL_undone 427 = .ok (.invokestatic 367, 3) := by decide +kernel
theorem dL_undone_430 : decode cL_undone 430 = .ok (.aload_n 2, 1) := by decide +kernel
theorem dL_undone_431 : decode cL_undone 431 = .ok (.iload 4, 2) := by decide +kernel
theorem dL_undone_433 : decode cL_undone 433 = .ok (.laload, 1) := by decide +kernel
theorem dL_undone_434 : decode cL_undone 434 = .ok (.lcmp, 1) := by decide +kernel
theorem dL_undone_435 : decode cL_undone 435 = .ok (.ifCond .eq 5, 3) := by decide +kernel
theorem dL_undone_438 : decode cL_undone 438 = .ok (.iconst 0, 1) := by decide +kernel
theorem dL_undone_439 : decode cL_undone 439 = .ok (.ireturn, 1) := by decide +kernel
theorem dL_undone_440 : decode cL_undone 440 = .ok (.iinc 4 (-1), 3) := by decide +kernel
theorem dL_undone_443 : decode cL_undone 443 = .ok (.goto (-29), 3) := by decide +kernel
theorem dL_undone_446 : decode cL_undone 446 = .ok (.iconst 1, 1) := by decide +kernel
theorem dL_undone_447 : decode cL_undone 447 = .ok (.ireturn, 1) := by decide +kernel
