set_option maxRecDepth 20000 in
theorem ggL_hard_X5_addHardMoon : GoodIn wsL_hard wsX5_addHardMoon := goodIn_ca (goodIn_ca (goodIn_ca (goodIn_r _ [6, 7, 8, 9, 5, 10, 11, 12, 13, 14, 15, 16, 17, 18, 19, 20, 21, 22, 23, 24, 25, 26, 27, 28, 29, 30, 31, 32, 33, 34, 35, 36, 37, 38, 39, 40, 41, 42, 43, 44, 45, 46, 47, 48, 49, 50, 51, 52, 53, 54, 55, 56, 57, 58, 59, 60, 61, 62, 63, 64, 65, 66, 67, 68, 69, 70, 71, 72, 73, 74, 75, 76, 77, 78, 79, 80] (by decide +kernel) (by decide +kernel)) (goodIn_sub (fun _ h => List.mem_cons_of_mem _ (List.mem_append_left _ (List.mem_append_left _ (List.mem_append_right _ h)))) (by decide +kernel))) (goodIn_sub (fun _ h => List.mem_cons_of_mem _ (List.mem_append_left _ (List.mem_append_right _ h))) (by decide +kernel))) (goodIn_sub (fun _ h => List.mem_cons_of_mem _ (List.mem_append_right _ h)) (by decide +kernel))
set_option maxRecDepth 20000 in
theorem gL_hard_X5_addHardMoon : GoodIn wsL_hard (wsV RL 8 RX5 yX5_addHardMoon wsX5_addHardMoon) := goodIn_app (goodIn_of _ (by decide +kernel)) ggL_hard_X5_addHardMoon
theorem dL_hard_0 : decode cL_hard 0 = .ok (.aload_n 0, 1) := by decide +kernel
theorem dL_hard_1 : decode cL_hard 1 = .ok (.iload_n 1, 1) := by decide +kernel
theorem dL_hard_2 : decode cL_hard 2 = .ok (.iload_n 2, 1) := by decide +kernel
theorem dL_hard_3 : decode cL_hard 3 = .ok (.iload_n 3, 1) := by decide +kernel
theorem dL_hard_4 : decode cL_hard 4 = .ok (.invokevirtual 8, 3) := by decide +kernel
theorem dL_hard_7 : decode cL_hard 7 = .ok (.ireturn, 1) := by decide +kernel
theorem dL_hard_8 : decode cL_hard 8 = .ok (.astore 4, 2) := by decide +kernel
theorem dL_hard_10 : decode cL_hard 10 = .ok (.iconst (-1), 1) := by decide +kernel
theorem dL_hard_11 : decode cL_hard 11 = .ok (.ireturn, 1) := by decide +kernel
theorem dL_hard_12 : decode cL_hard 12 = .ok (.astore 4, 2) := by decide +kernel
theorem dL_hard_14 : decode cL_hard 14 = .ok (.bipush (-2), 2) := by decide +kernel
theorem dL_hard_16 : decode cL_hard 16 = .ok (.ireturn, 1) := by decide +kernel
set_option maxRecDepth 20000 in
theorem ggL_soft_X5_addSoftMoon : GoodIn wsL_soft wsX5_addSoftMoon := goodIn_ca (goodIn_ca (goodIn_ca (goodIn_r _ [6, 7, 8, 9, 5, 10, 11, 12, 13, 14, 15, 16, 17, 18, 19, 20, 21, 22, 23, 24, 25, 26, 27, 28, 29, 30, 31, 32, 33, 34, 35, 36, 37, 38, 39, 40, 41, 42, 43, 44, 45, 46, 47, 48, 49, 50, 51, 52, 53, 54, 55, 56, 57, 58, 59, 60, 61, 62, 63, 64, 65, 66, 67, 68, 69, 70, 71, 72, 73, 74, 75, 76, 77, 78, 79, 80] (by decide +kernel) (by decide +kernel)) (goodIn_sub (fun _ h => List.mem_cons_of_mem _ (List.mem_append_left _ (List.mem_append_left _ (List.mem_append_right _ h)))) (by decide +kernel))) (goodIn_sub (fun _ h => List.mem_cons_of_mem _ (List.mem_append_left _ (List.mem_append_right _ h))) (by decide +kernel))) (goodIn_sub (fun _ h => List.mem_cons_of_mem _ (List.mem_append_right _ h)) (by decide +kernel))
set_option maxRecDepth 20000 in
theorem gL_soft_X5_addSoftMoon : GoodIn wsL_soft (wsV RL 18 RX5 yX5_addSoftMoon wsX5_addSoftMoon) := goodIn_app (goodIn_of _ (by decide +kernel)) ggL_soft_X5_addSoftMoon
theorem dL_soft_0 : decode cL_soft 0 = .ok (.aload_n 0, 1) := by decide +kernel
theorem dL_soft_1 : decode cL_soft 1 = .ok (.iload_n 1, 1) := by decide +kernel
theorem dL_soft_2 : decode cL_soft 2 = .ok (.iload_n 2, 1) := by decide +kernel
theorem dL_soft_3 : decode cL_soft 3 = .ok (.iload_n 3, 1) := by decide +kernel
theorem dL_soft_4 : decode cL_soft 4 = .ok (.invokevirtual 18, 3) := by decide +kernel
theorem dL_soft_7 : decode cL_soft 7 = .ok (.ireturn, 1) := by decide +kernel
theorem dL_soft_8 : decode cL_soft 8 = .ok (.astore 4, 2) := by decide +kernel
theorem dL_soft_10 : decode cL_soft 10 = .ok (.iconst (-1), 1) := by decide +kernel
theorem dL_soft_11 : decode cL_soft 11 = .ok (.ireturn, 1) := by decide +kernel
theorem dL_soft_12 : decode cL_soft 12 = .ok (.astore 4, 2) := by decide +kernel
theorem dL_soft_14 : decode cL_soft 14 = .ok (.bipush (-2), 2) := by decide +kernel
theorem dL_soft_16 : decode cL_soft 16 = .ok (.ireturn, 1) := by decide +kernel
set_option maxRecDepth 20000 in
theorem ggL_bubble_X5_addBubbleMoon : GoodIn wsL_bubble wsX5_addBubbleMoon := goodIn_ca (goodIn_ca (goodIn_ca (goodIn_r _ [6, 7, 8, 9, 5, 10, 11, 12, 13, 14, 15, 16, 17, 18, 19, 20, 21, 22, 23, 24, 25, 26, 27, 28, 29, 30, 31, 32, 33, 34, 35, 36, 37, 38, 39, 40, 41, 42, 43, 44, 45, 46, 47, 48, 49, 50, 51, 52, 53, 54, 55, 56, 57, 58, 59, 60, 61, 62, 63, 64, 65, 66, 67, 68, 69, 70, 71, 72, 73, 74, 75, 76, 77, 78, 79, 80] (by decide +kernel) (by decide +kernel)) (goodIn_sub (fun _ h => List.mem_cons_of_mem _ (List.mem_append_left _ (List.mem_append_left _ (List.mem_append_right _ h)))) (by decide +kernel))) (goodIn_sub (fun _ h => List.mem_cons_of_mem _ (List.mem_append_left _ (List.mem_append_right _ h))) (by decide +kernel))) (goodIn_sub (fun _ h => List.mem_cons_of_mem _ (List.mem_append_right _ h)) (by decide +kernel))
set_option maxRecDepth 20000 in
theorem gL_bubble_X5_addBubbleMoon : GoodIn wsL_bubble (wsV RL 21 RX5 yX5_addBubbleMoon wsX5_addBubbleMoon) := goodIn_app (goodIn_of _ (by decide +kernel)) ggL_bubble_X5_addBubbleMoon
theorem dL_bubble_0 : decode cL_bubble 0 = .ok (.aload_n 0, 1) := by decide +kernel
theorem dL_bubble_1 : decode cL_bubble 1 = .ok (.iload_n 1, 1) := by decide +kernel
theorem dL_bubble_2 : decode cL_bubble 2 = .ok (.iload_n 2, 1) := by decide +kernel
theorem dL_bubble_3 : decode cL_bubble 3 = .ok (.iload_n 3, 1) := by decide +kernel
theorem dL_bubble_4 : decode cL_bubble 4 = .ok (.invokevirtual 21, 3) := by decide +kernel
theorem dL_bubble_7 : decode cL_bubble 7 = .ok (.ireturn, 1) := by decide +kernel
theorem dL_bubble_8 : decode cL_bubble 8 = .ok (.astore 4, 2) := by decide +kernel
theorem dL_bubble_10 : decode cL_bubble 10 = .ok (.iconst (-1), 1) := by decide +kernel
theorem dL_bubble_11 : decode cL_bubble 11 = .ok (.ireturn, 1) := by decide +kernel
theorem dL_bubble_12 : decode cL_bubble 12 = .ok (.astore 4, 2) := by decide +kernel
theorem dL_bubble_14 : decode cL_bubble 14 = .ok (.bipush (-2), 2) := by decide +kernel
theorem dL_bubble_16 : decode cL_bubble 16 = .ok (.ireturn, 1) := by decide +kernel
set_option maxRecDepth 20000 in
theorem ggL_removeMoon_X5_removeMoon : GoodIn wsL_removeMoon wsX5_removeMoon := goodIn_ca (goodIn_ca (goodIn_r _ [6, 7, 8, 9, 10, 11, 12, 5, 13, 14, 15, 16, 17, 18, 19, 20, 21, 22, 23, 24, 25, 26, 27, 28, 29, 30, 31, 32, 33, 34, 35, 36, 37, 38, 39, 40, 41, 42, 43, 44, 45, 46, 47, 48, 49, 50, 51, 52, 53, 54, 55, 56, 57, 58, 59, 60, 61, 62, 63, 64, 65, 66, 67, 68, 69, 70, 71, 72, 73] (by decide +kernel) (by decide +kernel)) (goodIn_sub (fun _ h => List.mem_cons_of_mem _ (List.mem_append_left _ (List.mem_append_right _ h))) (by decide +kernel))) (goodIn_sub (fun _ h => List.mem_cons_of_mem _ (List.mem_append_right _ h)) (by decide +kernel))
set_option maxRecDepth 20000 in
theorem gL_removeMoon_X5_removeMoon : GoodIn wsL_removeMoon (wsV RL 24 RX5 yX5_removeMoon wsX5_removeMoon) := goodIn_app (goodIn_of _ (by decide +kernel)) ggL_removeMoon_X5_removeMoon
theorem dL_removeMoon_0 : decode cL_removeMoon 0 = .ok (.aload_n 0, 1) := by decide +kernel
theorem dL_removeMoon_1 : decode cL_removeMoon 1 = .ok (.iload_n 1, 1) := by decide +kernel
theorem dL_removeMoon_2 : decode cL_removeMoon 2 = .ok (.invokevirtual 24, 3) := by decide +kernel
theorem dL_removeMoon_5 : decode cL_removeMoon 5 = .ok (.ireturn, 1) := by decide +kernel
theorem dL_removeMoon_6 : decode cL_removeMoon 6 = .ok (.astore_n 2, 1) := by decide +kernel
theorem dL_removeMoon_7 : decode cL_removeMoon 7 = .ok (.iconst (-1), 1) := by decide +kernel
theorem dL_removeMoon_8 : decode cL_removeMoon 8 = .ok (.ireturn, 1) := by decide +kernel
set_option maxRecDepth 20000 in
theorem ggL_placeToe_X5_placeToe : GoodIn wsL_placeToe wsX5_placeToe := goodIn_ca (goodIn_ca (goodIn_ca (goodIn_r _ [6, 7, 8, 9, 10, 11, 12, 13, 5, 14, 15, 16, 17, 18, 19, 20, 21, 22, 23, 24, 25, 26, 27, 28, 29, 30, 31, 32, 33, 34, 35, 36, 37, 38, 39, 40, 41, 42, 43, 44, 45, 46, 47, 48, 49, 50, 51, 52, 53, 54, 55, 56, 57, 58, 59, 60, 61, 62, 63, 64, 65, 66, 67, 68, 69, 70, 71, 72, 73, 74, 75, 76, 77, 78, 79, 80, 81] (by decide +kernel) (by decide +kernel)) (goodIn_sub (fun _ h => List.mem_cons_of_mem _ (List.mem_append_left _ (List.mem_append_left _ (List.mem_append_right _ h)))) (by decide +kernel))) (goodIn_sub (fun _ h => List.mem_cons_of_mem _ (List.mem_append_left _ (List.mem_append_right _ h))) (by decide +kernel))) (goodIn_sub (fun _ h => List.mem_cons_of_mem _ (List.mem_append_right _ h)) (by decide +kernel))
set_option maxRecDepth 20000 in
theorem gL_placeToe_X5_placeToe : GoodIn wsL_placeToe (wsV RL 30 RX5 yX5_placeToe wsX5_placeToe) := goodIn_app (goodIn_of _ (by decide +kernel)) ggL_placeToe_X5_placeToe
theorem dL_placeToe_0 : decode cL_placeToe 0 = .ok (.aload_n 0, 1) := by decide +kernel
theorem dL_placeToe_1 : decode cL_placeToe 1 = .ok (.iload_n 1, 1) := by decide +kernel
theorem dL_placeToe_2 : decode cL_placeToe 2 = .ok (.invokevirtual 30, 3) := by decide +kernel
theorem dL_placeToe_5 : decode cL_placeToe 5 = .ok (.ireturn, 1) := by decide +kernel
theorem dL_placeToe_6 : decode cL_placeToe 6 = .ok (.astore_n 2, 1) := by decide +kernel
theorem dL_placeToe_7 : decode cL_placeToe 7 = .ok (.iconst (-1), 1) := by decide +kernel
theorem dL_placeToe_8 : decode cL_placeToe 8 = .ok (.ireturn, 1) := by decide +kernel
theorem dL_placeToe_9 : decode cL_placeToe 9 = .ok (.astore_n 2, 1) := by decide +kernel
theorem dL_placeToe_10 : decode cL_placeToe 10 = .ok (.bipush (-2), 2) := by decide +kernel
theorem dL_placeToe_12 : decode cL_placeToe 12 = .ok (.ireturn, 1) := by decide +kernel
set_option maxRecDepth 20000 in
theorem ggL_removeToe_X5_removeToe : GoodIn wsL_removeToe wsX5_removeToe := goodIn_ca (goodIn_ca (goodIn_ca (goodIn_r _ [6, 7, 8, 9, 10, 11, 12, 13, 5, 14, 15, 16, 17, 18, 19, 20, 21, 22, 23, 24, 25, 26, 27, 28, 29, 30, 31, 32, 33, 34, 35, 36, 37, 38, 39, 40, 41, 42, 43, 44, 45, 46, 47, 48, 49, 50, 51, 52, 53, 54, 55, 56, 57, 58, 59, 60, 61, 62, 63, 64, 65, 66, 67, 68, 69, 70, 71, 72, 73, 74, 75, 76, 77] (by decide +kernel) (by decide +kernel)) (goodIn_sub (fun _ h => List.mem_cons_of_mem _ (List.mem_append_left _ (List.mem_append_left _ (List.mem_append_right _ h)))) (by decide +kernel))) (goodIn_sub (fun _ h => List.mem_cons_of_mem _ (List.mem_append_left _ (List.mem_append_right _ h))) (by decide +kernel))) (goodIn_sub (fun _ h => List.mem_cons_of_mem _ (List.mem_append_right _ h)) (by decide +kernel))
set_option maxRecDepth 20000 in
theorem gL_removeToe_X5_removeToe : GoodIn wsL_removeToe (wsV RL 33 RX5 yX5_removeToe wsX5_removeToe) := goodIn_app (goodIn_of _ (by decide +kernel)) ggL_removeToe_X5_removeToe
theorem dL_removeToe_0 : decode cL_removeToe 0 = .ok (.aload_n 0, 1) := by decide +kernel
theorem dL_removeToe_1 : decode cL_removeToe 1 = .ok (.iload_n 1, 1) := by decide +kernel
theorem dL_removeToe_2 : decode cL_removeToe 2 = .ok (.invokevirtual 33, 3) := by decide +kernel
theorem dL_removeToe_5 : decode cL_removeToe 5 = .ok (.ireturn, 1) := by decide +kernel
theorem dL_removeToe_6 : decode cL_removeToe 6 = .ok (.astore_n 2, 1) := by decide +kernel
theorem dL_removeToe_7 : decode cL_removeToe 7 = .ok (.iconst (-1), 1) := by decide +kernel
theorem dL_removeToe_8 : decode cL_removeToe 8 = .ok (.ireturn, 1) := by decide +kernel
theorem dL_removeToe_9 : decode cL_removeToe 9 = .ok (.astore_n 2, 1) := by decide +kernel
theorem dL_removeToe_10 : decode cL_removeToe 10 = .ok (.bipush (-2), 2) := by decide +kernel
theorem dL_removeToe_12 : decode cL_removeToe 12 = .ok (.ireturn, 1) := by decide +kernel
set_option maxRecDepth 20000 in
theorem ggL_insertPlug_X5_insertPlug : GoodIn wsL_insertPlug wsX5_insertPlug := goodIn_ca (goodIn_ca (goodIn_r _ [6, 7, 8, 9, 10, 11, 5, 12, 13, 14, 15, 16, 17, 18, 19, 20, 21, 22, 23, 24, 25, 26, 27, 28, 29, 30, 31, 32, 33, 34, 35, 36, 37, 38, 39, 40, 41, 42, 43, 44, 45, 46, 47, 48, 49, 50, 51, 52, 53, 54, 55, 56, 57, 58, 59, 60, 61, 62, 63, 64, 65, 66, 67, 68, 69, 70] (by decide +kernel) (by decide +kernel)) (goodIn_sub (fun _ h => List.mem_cons_of_mem _ (List.mem_append_left _ (List.mem_append_right _ h))) (by decide +kernel))) (goodIn_sub (fun _ h => List.mem_cons_of_mem _ (List.mem_append_right _ h)) (by decide +kernel))
set_option maxRecDepth 20000 in
theorem gL_insertPlug_X5_insertPlug : GoodIn wsL_insertPlug (wsV RL 36 RX5 yX5_insertPlug wsX5_insertPlug) := goodIn_app (goodIn_of _ (by decide +kernel)) ggL_insertPlug_X5_insertPlug
theorem dL_insertPlug_0 : decode cL_insertPlug 0 = .ok (.aload_n 0, 1) := by decide +kernel
theorem dL_insertPlug_1 : decode cL_insertPlug 1 = .ok (.iload_n 1, 1) := by decide +kernel
theorem dL_insertPlug_2 : decode cL_insertPlug 2 = .ok (.invokevirtual 36, 3) := by decide +kernel
theorem dL_insertPlug_5 : decode cL_insertPlug 5 = .ok (.ifCond .eq 7, 3) := by decide +kernel
theorem dL_insertPlug_8 : decode cL_insertPlug 8 = .ok (.iconst 1, 1) := by decide +kernel
theorem dL_insertPlug_9 : decode cL_insertPlug 9 = .ok (.goto 4, 3) := by decide +kernel
theorem dL_insertPlug_12 : decode cL_insertPlug 12 = .ok (.iconst 0, 1) := by decide +kernel
theorem dL_insertPlug_13 : decode cL_insertPlug 13 = .ok (.ireturn, 1) := by decide +kernel
theorem dL_insertPlug_14 : decode cL_insertPlug 14 = .ok (.astore_n 2, 1) := by decide +kernel
theorem dL_insertPlug_15 : decode cL_insertPlug 15 = .ok (.iconst (-1), 1) := by decide +kernel
theorem dL_insertPlug_16 : decode cL_insertPlug 16 = .ok (.ireturn, 1) := by decide +kernel
set_option maxRecDepth 20000 in
theorem ggL_pullPlug_X5_pullPlug : GoodIn wsL_pullPlug wsX5_pullPlug := goodIn_ca (goodIn_ca (goodIn_r _ [6, 7, 8, 9, 10, 11, 12, 13, 14, 15, 16, 17, 18, 19, 20, 21, 22, 23, 24, 25, 26, 27, 28, 29, 30, 31, 32, 33, 34, 35, 36, 37, 38, 39, 40, 41, 42, 43, 44, 45, 46, 47, 48, 49, 50, 51, 52, 53, 54, 55, 56, 57, 58, 59, 60, 61, 62, 63, 64, 65, 66, 67, 68] (by decide +kernel) (by decide +kernel)) (goodIn_sub (fun _ h => List.mem_cons_of_mem _ (List.mem_append_left _ (List.mem_append_right _ h))) (by decide +kernel))) (goodIn_sub (fun _ h => List.mem_cons_of_mem _ (List.mem_append_right _ h)) (by decide +kernel))
set_option maxRecDepth 20000 in
theorem gL_pullPlug_X5_pullPlug : GoodIn wsL_pullPlug (wsV RL 40 RX5 yX5_pullPlug wsX5_pullPlug) := goodIn_app (goodIn_of _ (by decide +kernel)) ggL_pullPlug_X5_pullPlug
theorem dL_pullPlug_0 : decode cL_pullPlug 0 = .ok (.aload_n 0, 1) := by decide +kernel
theorem dL_pullPlug_1 : decode cL_pullPlug 1 = .ok (.invokevirtual 40, 3) := by decide +kernel
theorem dL_pullPlug_4 : decode cL_pullPlug 4 = .ok (.ireturn, 1) := by decide +kernel
theorem dL_pullPlug_5 : decode cL_pullPlug 5 = .ok (.astore_n 1, 1) := by decide +kernel
theorem dL_pullPlug_6 : decode cL_pullPlug 6 = .ok (.iconst (-1), 1) := by decide +kernel
theorem dL_pullPlug_7 : decode cL_pullPlug 7 = .ok (.ireturn, 1) := by decide +kernel
set_option maxRecDepth 20000 in
theorem ggL_layTowel_X5_layTowel : GoodIn wsL_layTowel wsX5_layTowel := goodIn_ca (goodIn_ca (goodIn_ca (goodIn_ca (goodIn_r _ [6, 7, 8, 9, 10, 11, 12, 13, 14, 15, 5, 16, 17, 18, 19, 20, 21, 22, 23, 24, 25, 26, 27, 28, 29, 30, 31, 32, 33, 34, 35, 36, 37, 38, 39, 40, 41, 42, 43, 44, 45, 46, 47, 48, 49, 50, 51, 52, 53, 54, 55, 56, 57, 58, 59, 60, 61, 62, 63, 64, 65, 66, 67, 68, 69, 70, 71, 72, 73, 74, 75, 76, 77, 78, 79, 80, 81, 82, 83, 84, 85, 86, 87, 88, 89] (by decide +kernel) (by decide +kernel)) (goodIn_sub (fun _ h => List.mem_cons_of_mem _ (List.mem_append_left _ (List.mem_append_left _ (List.mem_append_left _ (List.mem_append_right _ h))))) (by decide +kernel))) (goodIn_sub (fun _ h => List.mem_cons_of_mem _ (List.mem_append_left _ (List.mem_append_left _ (List.mem_append_right _ h)))) (by decide +kernel))) (goodIn_sub (fun _ h => List.mem_cons_of_mem _ (List.mem_append_left _ (List.mem_append_right _ h))) (by decide +kernel))) (goodIn_sub (fun _ h => List.mem_cons_of_mem _ (List.mem_append_right _ h)) (by decide +kernel))
set_option maxRecDepth 20000 in
theorem gL_layTowel_X5_layTowel : GoodIn wsL_layTowel (wsV RL 44 RX5 yX5_layTowel wsX5_layTowel) := goodIn_app (goodIn_of _ (by decide +kernel)) ggL_layTowel_X5_layTowel
theorem dL_layTowel_0 : decode cL_layTowel 0 = .ok (.aload_n 0, 1) := by decide +kernel
theorem dL_layTowel_1 : decode cL_layTowel 1 = .ok (.iload_n 1, 1) := by decide +kernel
theorem dL_layTowel_2 : decode cL_layTowel 2 = .ok (.iload_n 2, 1) := by decide +kernel
theorem dL_layTowel_3 : decode cL_layTowel 3 = .ok (.invokevirtual 44, 3) := by decide +kernel
theorem dL_layTowel_6 : decode cL_layTowel 6 = .ok (.ireturn, 1) := by decide +kernel
theorem dL_layTowel_7 : decode cL_layTowel 7 = .ok (.astore_n 3, 1) := by decide +kernel
theorem dL_layTowel_8 : decode cL_layTowel 8 = .ok (.iconst (-1), 1) := by decide +kernel
theorem dL_layTowel_9 : decode cL_layTowel 9 = .ok (.ireturn, 1) := by decide +kernel
theorem dL_layTowel_10 : decode cL_layTowel 10 = .ok (.astore_n 3, 1) := by decide +kernel
theorem dL_layTowel_11 : decode cL_layTowel 11 = .ok (.bipush (-2), 2) := by decide +kernel
theorem dL_layTowel_13 : decode cL_layTowel 13 = .ok (.ireturn, 1) := by decide +kernel
theorem dL_layTowel_14 : decode cL_layTowel 14 = .ok (.astore_n 3, 1) := by decide +kernel
theorem dL_layTowel_15 : decode cL_layTowel 15 = .ok (.bipush (-3), 2) := by decide +kernel
theorem dL_layTowel_17 : decode cL_layTowel 17 = .ok (.ireturn, 1) := by decide +kernel
set_option maxRecDepth 20000 in
theorem ggL_removeTowel_X5_removeTowel : GoodIn wsL_removeTowel wsX5_removeTowel := goodIn_ca (goodIn_ca (goodIn_r _ [6, 7, 8, 9, 10, 11, 12, 5, 13, 14, 15, 16, 17, 18, 19, 20, 21, 22, 23, 24, 25, 26, 27, 28, 29, 30, 31, 32, 33, 34, 35, 36, 37, 38, 39, 40, 41, 42, 43, 44, 45, 46, 47, 48, 49, 50, 51, 52, 53, 54, 55, 56, 57, 58, 59, 60, 61, 62, 63, 64, 65, 66, 67, 68, 69, 70, 71, 72, 73, 74, 75, 76, 77, 78, 79, 80, 81, 82, 83, 84, 85, 86] (by decide +kernel) (by decide +kernel)) (goodIn_sub (fun _ h => List.mem_cons_of_mem _ (List.mem_append_left _ (List.mem_append_right _ h))) (by decide +kernel))) (goodIn_sub (fun _ h => List.mem_cons_of_mem _ (List.mem_append_right _ h)) (by decide +kernel))
set_option maxRecDepth 20000 in
theorem gL_removeTowel_X5_removeTowel : GoodIn wsL_removeTowel (wsV RL 48 RX5 yX5_removeTowel wsX5_removeTowel) := goodIn_app (goodIn_of _ (by decide +kernel)) ggL_removeTowel_X5_removeTowel
theorem dL_removeTowel_0 : decode cL_removeTowel 0 = .ok (.aload_n 0, 1) := by decide +kernel
theorem dL_removeTowel_1 : decode cL_removeTowel 1 = .ok (.iload_n 1, 1) := by decide +kernel
theorem dL_removeTowel_2 : decode cL_removeTowel 2 = .ok (.invokevirtual 48, 3) := by decide +kernel
theorem dL_removeTowel_5 : decode cL_removeTowel 5 = .ok (.ireturn, 1) := by decide +kernel
theorem dL_removeTowel_6 : decode cL_removeTowel 6 = .ok (.astore_n 2, 1) := by decide +kernel
theorem dL_removeTowel_7 : decode cL_removeTowel 7 = .ok (.iconst (-1), 1) := by decide +kernel
theorem dL_removeTowel_8 : decode cL_removeTowel 8 = .ok (.ireturn, 1) := by decide +kernel
set_option maxRecDepth 20000 in
theorem ggL_wringTowel_X5_wringTowel : GoodIn wsL_wringTowel wsX5_wringTowel := goodIn_ca (goodIn_ca (goodIn_r _ [6, 7, 8, 9, 10, 11, 12, 5, 13, 14, 15, 16, 17, 18, 19, 20, 21, 22, 23, 24, 25, 26, 27, 28, 29, 30, 31, 32, 33, 34, 35, 36, 37, 38, 39, 40, 41, 42, 43, 44, 45, 46, 47, 48, 49, 50, 51, 52, 53, 54, 55, 56, 57, 58, 59, 60, 61, 62, 63, 64, 65, 66, 67, 68, 69, 70, 71, 72, 73, 74, 75, 76, 77, 78, 79, 80, 81] (by decide +kernel) (by decide +kernel)) (goodIn_sub (fun _ h => List.mem_cons_of_mem _ (List.mem_append_left _ (List.mem_append_right _ h))) (by decide +kernel))) (goodIn_sub (fun _ h => List.mem_cons_of_mem _ (List.mem_append_right _ h)) (by decide +kernel))
set_option maxRecDepth 20000 in
theorem gL_wringTowel_X5_wringTowel : GoodIn wsL_wringTowel (wsV RL 51 RX5 yX5_wringTowel wsX5_wringTowel) := goodIn_app (goodIn_of _ (by decide +kernel)) ggL_wringTowel_X5_wringTowel
theorem dL_wringTowel_0 : decode cL_wringTowel 0 = .ok (.aload_n 0, 1) := by decide +kernel
theorem dL_wringTowel_1 : decode cL_wringTowel 1 = .ok (.iload_n 1, 1) := by decide +kernel
theorem dL_wringTowel_2 : decode cL_wringTowel 2 = .ok (.invokevirtual 51, 3) := by decide +kernel
theorem dL_wringTowel_5 : decode cL_wringTowel 5 = .ok (.ireturn, 1) := by decide +kernel
theorem dL_wringTowel_6 : decode cL_wringTowel 6 = .ok (.astore_n 2, 1) := by decide +kernel
theorem dL_wringTowel_7 : decode cL_wringTowel 7 = .ok (.iconst (-1), 1) := by decide +kernel
theorem dL_wringTowel_8 : decode cL_wringTowel 8 = .ok (.ireturn, 1) := by decide +kernel
set_option maxRecDepth 20000 in
theorem ggL_setFlow_X5_setFlow : GoodIn wsL_setFlow wsX5_setFlow := goodIn_ca (goodIn_ca (goodIn_r _ [6, 7, 8, 9, 10, 11, 12, 13, 14, 15, 16, 17, 18, 19, 20, 21, 22, 23, 24, 25, 26, 27, 28, 29, 30, 31, 32, 33, 34, 35, 36, 37, 38, 39, 40, 41, 42, 43, 44, 45, 46, 47, 48, 49, 50, 51, 52, 53, 54, 55, 56, 57, 58, 59, 60, 61, 62, 63] (by decide +kernel) (by decide +kernel)) (goodIn_sub (fun _ h => List.mem_cons_of_mem _ (List.mem_append_left _ (List.mem_append_right _ h))) (by decide +kernel))) (goodIn_sub (fun _ h => List.mem_cons_of_mem _ (List.mem_append_right _ h)) (by decide +kernel))
set_option maxRecDepth 20000 in
theorem gL_setFlow_X5_setFlow : GoodIn wsL_setFlow (wsV RL 54 RX5 yX5_setFlow wsX5_setFlow) := goodIn_app (goodIn_of _ (by decide +kernel)) ggL_setFlow_X5_setFlow
theorem dL_setFlow_0 : decode cL_setFlow 0 = .ok (.aload_n 0, 1) := by decide +kernel
theorem dL_setFlow_1 : decode cL_setFlow 1 = .ok (.iload_n 1, 1) := by decide +kernel
theorem dL_setFlow_2 : decode cL_setFlow 2 = .ok (.invokevirtual 54, 3) := by decide +kernel
theorem dL_setFlow_5 : decode cL_setFlow 5 = .ok (.ireturn, 1) := by decide +kernel
theorem dL_setFlow_6 : decode cL_setFlow 6 = .ok (.astore_n 2, 1) := by decide +kernel
theorem dL_setFlow_7 : decode cL_setFlow 7 = .ok (.bipush (-9), 2) := by decide +kernel
theorem dL_setFlow_9 : decode cL_setFlow 9 = .ok (.ireturn, 1) := by decide +kernel
set_option maxRecDepth 20000 in
theorem ggL_advance_X5_advance : GoodIn wsL_advance wsX5_advance := goodIn_ca (goodIn_ca (goodIn_ca (goodIn_r _ [6, 7, 8, 9, 10, 11, 12, 13, 14, 15, 16, 17, 18, 19, 20, 21, 22, 23, 24, 25, 26, 27, 28, 29, 30, 31, 32, 33, 34, 35, 36, 37, 38, 39, 40, 41, 42, 43, 44, 45, 46, 47, 48, 49, 50, 51, 52, 53, 54, 55, 56, 57, 58, 59, 60, 61, 62, 63, 64, 65, 66, 67, 68, 69, 70, 71, 72, 73, 74, 75, 76, 77, 78, 79, 80, 81, 82, 83, 84, 85, 86, 87, 88, 89, 90, 91, 92, 93, 94, 95, 96, 97, 98, 99, 100, 101, 102, 103, 104, 105, 106, 107, 108, 109, 110, 111, 112, 113, 114, 115, 116, 117, 118, 119, 120, 121, 122, 123, 124, 125, 126, 127, 128, 129, 130, 131, 132, 133, 134, 135, 136, 137, 138, 139, 140, 141, 142, 143, 144, 145, 146, 147, 148] (by decide +kernel) (by decide +kernel)) (goodIn_sub (fun _ h => List.mem_cons_of_mem _ (List.mem_append_left _ (List.mem_append_left _ (List.mem_append_right _ h)))) (by decide +kernel))) (goodIn_sub (fun _ h => List.mem_cons_of_mem _ (List.mem_append_left _ (List.mem_append_right _ h))) (by decide +kernel))) (goodIn_sub (fun _ h => List.mem_cons_of_mem _ (List.mem_append_right _ h)) (by decide +kernel))
set_option maxRecDepth 20000 in
theorem gL_advance_X5_advance : GoodIn wsL_advance (wsV RL 57 RX5 yX5_advance wsX5_advance) := goodIn_app (goodIn_of _ (by decide +kernel)) ggL_advance_X5_advance
theorem dL_advance_0 : decode cL_advance 0 = .ok (.aload_n 0, 1) := by decide +kernel
theorem dL_advance_1 : decode cL_advance 1 = .ok (.iload_n 1, 1) := by decide +kernel
theorem dL_advance_2 : decode cL_advance 2 = .ok (.invokevirtual 57, 3) := by decide +kernel
theorem dL_advance_5 : decode cL_advance 5 = .ok (.ireturn, 1) := by decide +kernel
theorem dL_advance_6 : decode cL_advance 6 = .ok (.astore_n 2, 1) := by decide +kernel
theorem dL_advance_7 : decode cL_advance 7 = .ok (.iconst (-1), 1) := by decide +kernel
theorem dL_advance_8 : decode cL_advance 8 = .ok (.ireturn, 1) := by decide +kernel
set_option maxRecDepth 20000 in
theorem ggL_positionOf_X5_positionOf : GoodIn wsL_positionOf wsX5_positionOf := goodIn_ca (goodIn_ca (goodIn_ca (goodIn_r _ [6, 7, 8, 9, 10, 5, 11, 12, 13, 14, 15, 16, 17, 18, 19, 20, 21, 22, 23, 24, 25, 26, 27, 28, 29, 30, 31, 32, 33, 34, 35, 36, 37, 38, 39, 40, 41, 42, 43, 44, 45, 46, 47, 48, 49, 50, 51, 52, 53] (by decide +kernel) (by decide +kernel)) (goodIn_sub (fun _ h => List.mem_cons_of_mem _ (List.mem_append_left _ (List.mem_append_left _ (List.mem_append_right _ h)))) (by decide +kernel))) (goodIn_sub (fun _ h => List.mem_cons_of_mem _ (List.mem_append_left _ (List.mem_append_right _ h))) (by decide +kernel))) (goodIn_sub (fun _ h => List.mem_cons_of_mem _ (List.mem_append_right _ h)) (by decide +kernel))
set_option maxRecDepth 20000 in
theorem gL_positionOf_X5_positionOf : GoodIn wsL_positionOf (wsV RL 60 RX5 yX5_positionOf wsX5_positionOf) := goodIn_app (goodIn_of _ (by decide +kernel)) ggL_positionOf_X5_positionOf
theorem dL_positionOf_0 : decode cL_positionOf 0 = .ok (.aload_n 0, 1) := by decide +kernel
theorem dL_positionOf_1 : decode cL_positionOf 1 = .ok (.iload_n 1, 1) := by decide +kernel
theorem dL_positionOf_2 : decode cL_positionOf 2 = .ok (.invokevirtual 60, 3) := by decide +kernel
theorem dL_positionOf_5 : decode cL_positionOf 5 = .ok (.ireturn, 1) := by decide +kernel
theorem dL_positionOf_6 : decode cL_positionOf 6 = .ok (.astore_n 2, 1) := by decide +kernel
theorem dL_positionOf_7 : decode cL_positionOf 7 = .ok (.bipush (-11), 2) := by decide +kernel
theorem dL_positionOf_9 : decode cL_positionOf 9 = .ok (.ireturn, 1) := by decide +kernel
set_option maxRecDepth 20000 in
theorem ggL_massOf_X5_massOf : GoodIn wsL_massOf wsX5_massOf := goodIn_ca (goodIn_ca (goodIn_r _ [6, 7, 8, 9, 10, 5, 11, 12, 13, 14, 15, 16, 17, 18, 19, 20, 21, 22, 23, 24, 25, 26, 27, 28, 29, 30, 31, 32, 33, 34, 35, 36, 37, 38, 39, 40, 41, 42, 43, 44, 45, 46, 47, 48, 49, 50, 51, 52, 53, 54, 55, 56, 57, 58, 59, 60, 61] (by decide +kernel) (by decide +kernel)) (goodIn_sub (fun _ h => List.mem_cons_of_mem _ (List.mem_append_left _ (List.mem_append_right _ h))) (by decide +kernel))) (goodIn_sub (fun _ h => List.mem_cons_of_mem _ (List.mem_append_right _ h)) (by decide +kernel))
set_option maxRecDepth 20000 in
theorem gL_massOf_X5_massOf : GoodIn wsL_massOf (wsV RL 63 RX5 yX5_massOf wsX5_massOf) := goodIn_app (goodIn_of _ (by decide +kernel)) ggL_massOf_X5_massOf
theorem dL_massOf_0 : decode cL_massOf 0 = .ok (.aload_n 0, 1) := by decide +kernel
theorem dL_massOf_1 : decode cL_massOf 1 = .ok (.iload_n 1, 1) := by decide +kernel
theorem dL_massOf_2 : decode cL_massOf 2 = .ok (.invokevirtual 63, 3) := by decide +kernel
theorem dL_massOf_5 : decode cL_massOf 5 = .ok (.ireturn, 1) := by decide +kernel
theorem dL_massOf_6 : decode cL_massOf 6 = .ok (.astore_n 2, 1) := by decide +kernel
theorem dL_massOf_7 : decode cL_massOf 7 = .ok (.bipush (-11), 2) := by decide +kernel
theorem dL_massOf_9 : decode cL_massOf 9 = .ok (.ireturn, 1) := by decide +kernel
set_option maxRecDepth 20000 in
theorem ggL_ageOf_X5_ageOf : GoodIn wsL_ageOf wsX5_ageOf := goodIn_ca (goodIn_ca (goodIn_r _ [6, 7, 8, 9, 10, 5, 11, 12, 13, 14, 15, 16, 17, 18, 19, 20, 21, 22, 23, 24, 25, 26, 27, 28, 29, 30, 31, 32, 33, 34, 35, 36, 37, 38, 39, 40, 41, 42, 43, 44, 45] (by decide +kernel) (by decide +kernel)) (goodIn_sub (fun _ h => List.mem_cons_of_mem _ (List.mem_append_left _ (List.mem_append_right _ h))) (by decide +kernel))) (goodIn_sub (fun _ h => List.mem_cons_of_mem _ (List.mem_append_right _ h)) (by decide +kernel))
set_option maxRecDepth 20000 in
theorem gL_ageOf_X5_ageOf : GoodIn wsL_ageOf (wsV RL 66 RX5 yX5_ageOf wsX5_ageOf) := goodIn_app (goodIn_of _ (by decide +kernel)) ggL_ageOf_X5_ageOf
theorem dL_ageOf_0 : decode cL_ageOf 0 = .ok (.aload_n 0, 1) := by decide +kernel
theorem dL_ageOf_1 : decode cL_ageOf 1 = .ok (.iload_n 1, 1) := by decide +kernel
theorem dL_ageOf_2 : decode cL_ageOf 2 = .ok (.invokevirtual 66, 3) := by decide +kernel
theorem dL_ageOf_5 : decode cL_ageOf 5 = .ok (.ireturn, 1) := by decide +kernel
theorem dL_ageOf_6 : decode cL_ageOf 6 = .ok (.astore_n 2, 1) := by decide +kernel
theorem dL_ageOf_7 : decode cL_ageOf 7 = .ok (.bipush (-11), 2) := by decide +kernel
theorem dL_ageOf_9 : decode cL_ageOf 9 = .ok (.ireturn, 1) := by decide +kernel
set_option maxRecDepth 20000 in
theorem ggL_isHard_X5_isHard : GoodIn wsL_isHard wsX5_isHard := goodIn_ca (goodIn_ca (goodIn_r _ [6, 7, 8, 9, 10, 5, 11, 12, 13, 14, 15, 16, 17, 18, 19, 20, 21, 22, 23, 24, 25, 26, 27, 28, 29, 30, 31, 32, 33, 34, 35, 36, 37, 38, 39, 40, 41, 42, 43, 44, 45] (by decide +kernel) (by decide +kernel)) (goodIn_sub (fun _ h => List.mem_cons_of_mem _ (List.mem_append_left _ (List.mem_append_right _ h))) (by decide +kernel))) (goodIn_sub (fun _ h => List.mem_cons_of_mem _ (List.mem_append_right _ h)) (by decide +kernel))
set_option maxRecDepth 20000 in
theorem gL_isHard_X5_isHard : GoodIn wsL_isHard (wsV RL 69 RX5 yX5_isHard wsX5_isHard) := goodIn_app (goodIn_of _ (by decide +kernel)) ggL_isHard_X5_isHard
theorem dL_isHard_0 : decode cL_isHard 0 = .ok (.aload_n 0, 1) := by decide +kernel
theorem dL_isHard_1 : decode cL_isHard 1 = .ok (.iload_n 1, 1) := by decide +kernel
theorem dL_isHard_2 : decode cL_isHard 2 = .ok (.invokevirtual 69, 3) := by decide +kernel
theorem dL_isHard_5 : decode cL_isHard 5 = .ok (.ifCond .eq 7, 3) := by decide +kernel
theorem dL_isHard_8 : decode cL_isHard 8 = .ok (.iconst 1, 1) := by decide +kernel
theorem dL_isHard_9 : decode cL_isHard 9 = .ok (.goto 4, 3) := by decide +kernel
theorem dL_isHard_12 : decode cL_isHard 12 = .ok (.iconst 0, 1) := by decide +kernel
theorem dL_isHard_13 : decode cL_isHard 13 = .ok (.ireturn, 1) := by decide +kernel
theorem dL_isHard_14 : decode cL_isHard 14 = .ok (.astore_n 2, 1) := by decide +kernel
theorem dL_isHard_15 : decode cL_isHard 15 = .ok (.bipush (-11), 2) := by decide +kernel
theorem dL_isHard_17 : decode cL_isHard 17 = .ok (.ireturn, 1) := by decide +kernel
set_option maxRecDepth 20000 in
theorem ggL_isSoft_X5_isSoft : GoodIn wsL_isSoft wsX5_isSoft := goodIn_ca (goodIn_ca (goodIn_r _ [6, 7, 8, 9, 10, 5, 11, 12, 13, 14, 15, 16, 17, 18, 19, 20, 21, 22, 23, 24, 25, 26, 27, 28, 29, 30, 31, 32, 33, 34, 35, 36, 37, 38, 39, 40, 41, 42, 43, 44, 45] (by decide +kernel) (by decide +kernel)) (goodIn_sub (fun _ h => List.mem_cons_of_mem _ (List.mem_append_left _ (List.mem_append_right _ h))) (by decide +kernel))) (goodIn_sub (fun _ h => List.mem_cons_of_mem _ (List.mem_append_right _ h)) (by decide +kernel))
set_option maxRecDepth 20000 in
theorem gL_isSoft_X5_isSoft : GoodIn wsL_isSoft (wsV RL 72 RX5 yX5_isSoft wsX5_isSoft) := goodIn_app (goodIn_of _ (by decide +kernel)) ggL_isSoft_X5_isSoft
theorem dL_isSoft_0 : decode cL_isSoft 0 = .ok (.aload_n 0, 1) := by decide +kernel
theorem dL_isSoft_1 : decode cL_isSoft 1 = .ok (.iload_n 1, 1) := by decide +kernel
theorem dL_isSoft_2 : decode cL_isSoft 2 = .ok (.invokevirtual 72, 3) := by decide +kernel
theorem dL_isSoft_5 : decode cL_isSoft 5 = .ok (.ifCond .eq 7, 3) := by decide +kernel
theorem dL_isSoft_8 : decode cL_isSoft 8 = .ok (.iconst 1, 1) := by decide +kernel
theorem dL_isSoft_9 : decode cL_isSoft 9 = .ok (.goto 4, 3) := by decide +kernel
theorem dL_isSoft_12 : decode cL_isSoft 12 = .ok (.iconst 0, 1) := by decide +kernel
theorem dL_isSoft_13 : decode cL_isSoft 13 = .ok (.ireturn, 1) := by decide +kernel
theorem dL_isSoft_14 : decode cL_isSoft 14 = .ok (.astore_n 2, 1) := by decide +kernel
theorem dL_isSoft_15 : decode cL_isSoft 15 = .ok (.bipush (-11), 2) := by decide +kernel
theorem dL_isSoft_17 : decode cL_isSoft 17 = .ok (.ireturn, 1) := by decide +kernel
set_option maxRecDepth 20000 in
theorem ggL_isEclipsed_X5_isEclipsed : GoodIn wsL_isEclipsed wsX5_isEclipsed := goodIn_ca (goodIn_ca (goodIn_ca (goodIn_r _ [6, 7, 8, 9, 10, 5, 11, 12, 13, 14, 15, 16, 17, 18, 19, 20, 21, 22, 23, 24, 25, 26, 27, 28, 29, 30, 31, 32, 33, 34, 35, 36, 37, 38, 39, 40, 41, 42, 43, 44, 45, 46, 47, 48, 49, 50, 51, 52, 53, 54, 55, 56, 57, 58, 59, 60, 61, 62, 63, 64, 65, 66, 67] (by decide +kernel) (by decide +kernel)) (goodIn_sub (fun _ h => List.mem_cons_of_mem _ (List.mem_append_left _ (List.mem_append_left _ (List.mem_append_right _ h)))) (by decide +kernel))) (goodIn_sub (fun _ h => List.mem_cons_of_mem _ (List.mem_append_left _ (List.mem_append_right _ h))) (by decide +kernel))) (goodIn_sub (fun _ h => List.mem_cons_of_mem _ (List.mem_append_right _ h)) (by decide +kernel))
set_option maxRecDepth 20000 in
theorem gL_isEclipsed_X5_isEclipsed : GoodIn wsL_isEclipsed (wsV RL 75 RX5 yX5_isEclipsed wsX5_isEclipsed) := goodIn_app (goodIn_of _ (by decide +kernel)) ggL_isEclipsed_X5_isEclipsed
theorem dL_isEclipsed_0 : decode cL_isEclipsed 0 = .ok (.aload_n 0, 1) := by decide +kernel
theorem dL_isEclipsed_1 : decode cL_isEclipsed 1 = .ok (.iload_n 1, 1) := by decide +kernel
theorem dL_isEclipsed_2 : decode cL_isEclipsed 2 = .ok (.invokevirtual 75, 3) := by decide +kernel
theorem dL_isEclipsed_5 : decode cL_isEclipsed 5 = .ok (.ifCond .eq 7, 3) := by decide +kernel
theorem dL_isEclipsed_8 : decode cL_isEclipsed 8 = .ok (.iconst 1, 1) := by decide +kernel
theorem dL_isEclipsed_9 : decode cL_isEclipsed 9 = .ok (.goto 4, 3) := by decide +kernel
theorem dL_isEclipsed_12 : decode cL_isEclipsed 12 = .ok (.iconst 0, 1) := by decide +kernel
theorem dL_isEclipsed_13 : decode cL_isEclipsed 13 = .ok (.ireturn, 1) := by decide +kernel
theorem dL_isEclipsed_14 : decode cL_isEclipsed 14 = .ok (.astore_n 2, 1) := by decide +kernel
theorem dL_isEclipsed_15 : decode cL_isEclipsed 15 = .ok (.bipush (-11), 2) := by decide +kernel
theorem dL_isEclipsed_17 : decode cL_isEclipsed 17 = .ok (.ireturn, 1) := by decide +kernel
set_option maxRecDepth 20000 in
theorem ggL_plugPosition_X5_plugPosition : GoodIn wsL_plugPosition wsX5_plugPosition := goodIn_ca (goodIn_ca (goodIn_r _ [6, 7, 8, 9, 10, 5, 11, 12, 13, 14, 15, 16, 17, 18, 19, 20, 21, 22, 23, 24, 25, 26, 27, 28, 29, 30, 31, 32, 33, 34, 35, 36, 37, 38, 39, 40, 41, 42] (by decide +kernel) (by decide +kernel)) (goodIn_sub (fun _ h => List.mem_cons_of_mem _ (List.mem_append_left _ (List.mem_append_right _ h))) (by decide +kernel))) (goodIn_sub (fun _ h => List.mem_cons_of_mem _ (List.mem_append_right _ h)) (by decide +kernel))
set_option maxRecDepth 20000 in
theorem gL_plugPosition_X5_plugPosition : GoodIn wsL_plugPosition (wsV RL 81 RX5 yX5_plugPosition wsX5_plugPosition) := goodIn_app (goodIn_of _ (by decide +kernel)) ggL_plugPosition_X5_plugPosition
theorem dL_plugPosition_0 : decode cL_plugPosition 0 = .ok (.aload_n 0, 1) := by decide +kernel
theorem dL_plugPosition_1 : decode cL_plugPosition 1 = .ok (.invokevirtual 81, 3) := by decide +kernel
theorem dL_plugPosition_4 : decode cL_plugPosition 4 = .ok (.ireturn, 1) := by decide +kernel
theorem dL_plugPosition_5 : decode cL_plugPosition 5 = .ok (.astore_n 1, 1) := by decide +kernel
theorem dL_plugPosition_6 : decode cL_plugPosition 6 = .ok (.bipush (-13), 2) := by decide +kernel
theorem dL_plugPosition_8 : decode cL_plugPosition 8 = .ok (.ireturn, 1) := by decide +kernel
set_option maxRecDepth 20000 in
theorem ggL_tideAt_X5_tideAt : GoodIn wsL_tideAt wsX5_tideAt := goodIn_ca (goodIn_ca (goodIn_ca (goodIn_r _ [6, 7, 8, 9, 5, 10, 11, 12, 13, 14, 15, 16, 17, 18, 19, 20, 21, 22, 23, 24, 25, 26, 27, 28, 29, 30, 31, 32, 33, 34, 35, 36, 37, 38, 39, 40, 41, 42, 43, 44, 45, 46, 47, 48, 49, 50, 51, 52, 53, 54, 55, 56, 57, 58, 59, 60, 61, 62, 63, 64, 65, 66, 67, 68, 69, 70, 71, 72, 73, 74, 75, 76, 77, 78, 79, 80, 81, 82, 83, 84, 85, 86, 87, 88, 89, 90, 91, 92, 93, 94, 95, 96, 97] (by decide +kernel) (by decide +kernel)) (goodIn_sub (fun _ h => List.mem_cons_of_mem _ (List.mem_append_left _ (List.mem_append_left _ (List.mem_append_right _ h)))) (by decide +kernel))) (goodIn_sub (fun _ h => List.mem_cons_of_mem _ (List.mem_append_left _ (List.mem_append_right _ h))) (by decide +kernel))) (goodIn_sub (fun _ h => List.mem_cons_of_mem _ (List.mem_append_right _ h)) (by decide +kernel))
set_option maxRecDepth 20000 in
theorem gL_tideAt_X5_tideAt : GoodIn wsL_tideAt (wsV RL 98 RX5 yX5_tideAt wsX5_tideAt) := goodIn_app (goodIn_of _ (by decide +kernel)) ggL_tideAt_X5_tideAt
theorem dL_tideAt_0 : decode cL_tideAt 0 = .ok (.aload_n 0, 1) := by decide +kernel
theorem dL_tideAt_1 : decode cL_tideAt 1 = .ok (.iload_n 1, 1) := by decide +kernel
theorem dL_tideAt_2 : decode cL_tideAt 2 = .ok (.invokevirtual 98, 3) := by decide +kernel
theorem dL_tideAt_5 : decode cL_tideAt 5 = .ok (.ireturn, 1) := by decide +kernel
theorem dL_tideAt_6 : decode cL_tideAt 6 = .ok (.astore_n 2, 1) := by decide +kernel
theorem dL_tideAt_7 : decode cL_tideAt 7 = .ok (.sipush (-1011), 3) := by decide +kernel
theorem dL_tideAt_10 : decode cL_tideAt 10 = .ok (.ireturn, 1) := by decide +kernel
set_option maxRecDepth 20000 in
theorem ggL_levelAt_X5_levelAt : GoodIn wsL_levelAt wsX5_levelAt := goodIn_ca (goodIn_ca (goodIn_ca (goodIn_r _ [6, 7, 8, 9, 5, 10, 11, 12, 13, 14, 15, 16, 17, 18, 19, 20, 21, 22, 23, 24, 25, 26, 27, 28, 29, 30, 31, 32, 33, 34, 35, 36, 37, 38, 39, 40, 41, 42, 43, 44, 45, 46, 47, 48, 49, 50, 51, 52, 53, 54, 55, 56, 57, 58, 59, 60, 61, 62, 63, 64, 65, 66, 67, 68, 69, 70, 71, 72, 73, 74, 75, 76, 77, 78, 79, 80, 81, 82, 83, 84, 85, 86, 87, 88, 89, 90, 91, 92, 93, 94, 95, 96, 97, 98, 99, 100, 101] (by decide +kernel) (by decide +kernel)) (goodIn_sub (fun _ h => List.mem_cons_of_mem _ (List.mem_append_left _ (List.mem_append_left _ (List.mem_append_right _ h)))) (by decide +kernel))) (goodIn_sub (fun _ h => List.mem_cons_of_mem _ (List.mem_append_left _ (List.mem_append_right _ h))) (by decide +kernel))) (goodIn_sub (fun _ h => List.mem_cons_of_mem _ (List.mem_append_right _ h)) (by decide +kernel))
set_option maxRecDepth 20000 in
theorem gL_levelAt_X5_levelAt : GoodIn wsL_levelAt (wsV RL 101 RX5 yX5_levelAt wsX5_levelAt) := goodIn_app (goodIn_of _ (by decide +kernel)) ggL_levelAt_X5_levelAt
theorem dL_levelAt_0 : decode cL_levelAt 0 = .ok (.aload_n 0, 1) := by decide +kernel
theorem dL_levelAt_1 : decode cL_levelAt 1 = .ok (.iload_n 1, 1) := by decide +kernel
theorem dL_levelAt_2 : decode cL_levelAt 2 = .ok (.invokevirtual 101, 3) := by decide +kernel
theorem dL_levelAt_5 : decode cL_levelAt 5 = .ok (.ireturn, 1) := by decide +kernel
theorem dL_levelAt_6 : decode cL_levelAt 6 = .ok (.astore_n 2, 1) := by decide +kernel
theorem dL_levelAt_7 : decode cL_levelAt 7 = .ok (.sipush (-1011), 3) := by decide +kernel
theorem dL_levelAt_10 : decode cL_levelAt 10 = .ok (.ireturn, 1) := by decide +kernel
set_option maxRecDepth 20000 in
theorem ggL_tideIn_X5_tideIn : GoodIn wsL_tideIn wsX5_tideIn := goodIn_ca (goodIn_ca (goodIn_ca (goodIn_ca (goodIn_r _ [6, 7, 8, 9, 5, 10, 11, 12, 13, 14, 15, 16, 17, 18, 19, 20, 21, 22, 23, 24, 25, 26, 27, 28, 29, 30, 31, 32, 33, 34, 35, 36, 37, 38, 39, 40, 41, 42, 43, 44, 45, 46, 47, 48, 49, 50, 51, 52, 53, 54, 55, 56, 57, 58, 59, 60, 61, 62, 63, 64, 65, 66, 67, 68, 69, 70, 71, 72, 73, 74, 75, 76, 77, 78, 79, 80, 81, 82, 83, 84, 85, 86, 87, 88, 89, 90, 91, 92, 93, 94, 95, 96, 97, 98, 99, 100, 101, 102] (by decide +kernel) (by decide +kernel)) (goodIn_sub (fun _ h => List.mem_cons_of_mem _ (List.mem_append_left _ (List.mem_append_left _ (List.mem_append_left _ (List.mem_append_right _ h))))) (by decide +kernel))) (goodIn_sub (fun _ h => List.mem_cons_of_mem _ (List.mem_append_left _ (List.mem_append_left _ (List.mem_append_right _ h)))) (by decide +kernel))) (goodIn_sub (fun _ h => List.mem_cons_of_mem _ (List.mem_append_left _ (List.mem_append_right _ h))) (by decide +kernel))) (goodIn_sub (fun _ h => List.mem_cons_of_mem _ (List.mem_append_right _ h)) (by decide +kernel))
set_option maxRecDepth 20000 in
theorem gL_tideIn_X5_tideIn : GoodIn wsL_tideIn (wsV RL 104 RX5 yX5_tideIn wsX5_tideIn) := goodIn_app (goodIn_of _ (by decide +kernel)) ggL_tideIn_X5_tideIn
theorem dL_tideIn_0 : decode cL_tideIn 0 = .ok (.aload_n 0, 1) := by decide +kernel
theorem dL_tideIn_1 : decode cL_tideIn 1 = .ok (.iload_n 1, 1) := by decide +kernel
theorem dL_tideIn_2 : decode cL_tideIn 2 = .ok (.iload_n 2, 1) := by decide +kernel
theorem dL_tideIn_3 : decode cL_tideIn 3 = .ok (.invokevirtual 104, 3) := by decide +kernel
theorem dL_tideIn_6 : decode cL_tideIn 6 = .ok (.ireturn, 1) := by decide +kernel
theorem dL_tideIn_7 : decode cL_tideIn 7 = .ok (.astore_n 3, 1) := by decide +kernel
theorem dL_tideIn_8 : decode cL_tideIn 8 = .ok (.sipush (-1011), 3) := by decide +kernel
theorem dL_tideIn_11 : decode cL_tideIn 11 = .ok (.ireturn, 1) := by decide +kernel
theorem dL_tideIn_12 : decode cL_tideIn 12 = .ok (.astore_n 3, 1) := by decide +kernel
theorem dL_tideIn_13 : decode cL_tideIn 13 = .ok (.sipush (-1012), 3) := by decide +kernel
theorem dL_tideIn_16 : decode cL_tideIn 16 = .ok (.ireturn, 1) := by decide +kernel
set_option maxRecDepth 20000 in
theorem ggL_tideBySteps_X5_tideBySteps : GoodIn wsL_tideBySteps wsX5_tideBySteps := goodIn_ca (goodIn_ca (goodIn_ca (goodIn_ca (goodIn_r _ [6, 7, 8, 9, 10, 5, 11, 12, 13, 14, 15, 16, 17, 18, 19, 20, 21, 22, 23, 24, 25, 26, 27, 28, 29, 30, 31, 32, 33, 34, 35, 36, 37, 38, 39, 40, 41, 42, 43, 44, 45, 46, 47, 48, 49, 50, 51, 52, 53, 54, 55, 56, 57, 58, 59, 60, 61, 62, 63, 64, 65, 66, 67, 68, 69, 70, 71, 72, 73, 74, 75, 76, 77, 78, 79, 80, 81, 82, 83, 84, 85, 86, 87, 88, 89, 90, 91, 92, 93, 94, 95, 96, 97, 98, 99, 100, 101, 102, 103, 104, 105, 106, 107, 108, 109, 110, 111, 112, 113, 114, 115, 116, 117, 118, 119, 120, 121, 122, 123, 124, 125, 126, 127, 128, 129] (by decide +kernel) (by decide +kernel)) (goodIn_sub (fun _ h => List.mem_cons_of_mem _ (List.mem_append_left _ (List.mem_append_left _ (List.mem_append_left _ (List.mem_append_right _ h))))) (by decide +kernel))) (goodIn_sub (fun _ h => List.mem_cons_of_mem _ (List.mem_append_left _ (List.mem_append_left _ (List.mem_append_right _ h)))) (by decide +kernel))) (goodIn_sub (fun _ h => List.mem_cons_of_mem _ (List.mem_append_left _ (List.mem_append_right _ h))) (by decide +kernel))) (goodIn_sub (fun _ h => List.mem_cons_of_mem _ (List.mem_append_right _ h)) (by decide +kernel))
set_option maxRecDepth 20000 in
theorem gL_tideBySteps_X5_tideBySteps : GoodIn wsL_tideBySteps (wsV RL 107 RX5 yX5_tideBySteps wsX5_tideBySteps) := goodIn_app (goodIn_of _ (by decide +kernel)) ggL_tideBySteps_X5_tideBySteps
theorem dL_tideBySteps_0 : decode cL_tideBySteps 0 = .ok (.aload_n 0, 1) := by decide +kernel
theorem dL_tideBySteps_1 : decode cL_tideBySteps 1 = .ok (.iload_n 1, 1) := by decide +kernel
theorem dL_tideBySteps_2 : decode cL_tideBySteps 2 = .ok (.iload_n 2, 1) := by decide +kernel
theorem dL_tideBySteps_3 : decode cL_tideBySteps 3 = .ok (.invokevirtual 107, 3) := by decide +kernel
theorem dL_tideBySteps_6 : decode cL_tideBySteps 6 = .ok (.ireturn, 1) := by decide +kernel
theorem dL_tideBySteps_7 : decode cL_tideBySteps 7 = .ok (.astore_n 3, 1) := by decide +kernel
theorem dL_tideBySteps_8 : decode cL_tideBySteps 8 = .ok (.sipush (-1011), 3) := by decide +kernel
theorem dL_tideBySteps_11 : decode cL_tideBySteps 11 = .ok (.ireturn, 1) := by decide +kernel
theorem dL_tideBySteps_12 : decode cL_tideBySteps 12 = .ok (.astore_n 3, 1) := by decide +kernel
theorem dL_tideBySteps_13 : decode cL_tideBySteps 13 = .ok (.sipush (-1012), 3) := by decide +kernel
theorem dL_tideBySteps_16 : decode cL_tideBySteps 16 = .ok (.ireturn, 1) := by decide +kernel
set_option maxRecDepth 20000 in
theorem ggL_highTideIn_X5_highTideIn : GoodIn wsL_highTideIn wsX5_highTideIn := goodIn_ca (goodIn_ca (goodIn_ca (goodIn_r _ [6, 7, 8, 9, 5, 10, 11, 12, 13, 14, 15, 16, 17, 18, 19, 20, 21, 22, 23, 24, 25, 26, 27, 28, 29, 30, 31, 32, 33, 34, 35, 36, 37, 38, 39, 40, 41, 42, 43, 44, 45, 46, 47, 48, 49, 50, 51, 52, 53, 54, 55, 56, 57, 58, 59, 60, 61, 62, 63, 64, 65, 66, 67, 68, 69, 70, 71, 72, 73, 74, 75, 76, 77, 78, 79, 80, 81, 82, 83, 84, 85, 86, 87, 88, 89, 90, 91, 92, 93, 94, 95, 96, 97, 98, 99, 100, 101] (by decide +kernel) (by decide +kernel)) (goodIn_sub (fun _ h => List.mem_cons_of_mem _ (List.mem_append_left _ (List.mem_append_left _ (List.mem_append_right _ h)))) (by decide +kernel))) (goodIn_sub (fun _ h => List.mem_cons_of_mem _ (List.mem_append_left _ (List.mem_append_right _ h))) (by decide +kernel))) (goodIn_sub (fun _ h => List.mem_cons_of_mem _ (List.mem_append_right _ h)) (by decide +kernel))
set_option maxRecDepth 20000 in
theorem gL_highTideIn_X5_highTideIn : GoodIn wsL_highTideIn (wsV RL 110 RX5 yX5_highTideIn wsX5_highTideIn) := goodIn_app (goodIn_of _ (by decide +kernel)) ggL_highTideIn_X5_highTideIn
theorem dL_highTideIn_0 : decode cL_highTideIn 0 = .ok (.aload_n 0, 1) := by decide +kernel
theorem dL_highTideIn_1 : decode cL_highTideIn 1 = .ok (.iload_n 1, 1) := by decide +kernel
theorem dL_highTideIn_2 : decode cL_highTideIn 2 = .ok (.invokevirtual 110, 3) := by decide +kernel
theorem dL_highTideIn_5 : decode cL_highTideIn 5 = .ok (.ireturn, 1) := by decide +kernel
theorem dL_highTideIn_6 : decode cL_highTideIn 6 = .ok (.astore_n 2, 1) := by decide +kernel
theorem dL_highTideIn_7 : decode cL_highTideIn 7 = .ok (.bipush (-11), 2) := by decide +kernel
theorem dL_highTideIn_9 : decode cL_highTideIn 9 = .ok (.ireturn, 1) := by decide +kernel
set_option maxRecDepth 20000 in
theorem ggL_lowTideIn_X5_lowTideIn : GoodIn wsL_lowTideIn wsX5_lowTideIn := goodIn_ca (goodIn_ca (goodIn_ca (goodIn_r _ [6, 7, 8, 9, 5, 10, 11, 12, 13, 14, 15, 16, 17, 18, 19, 20, 21, 22, 23, 24, 25, 26, 27, 28, 29, 30, 31, 32, 33, 34, 35, 36, 37, 38, 39, 40, 41, 42, 43, 44, 45, 46, 47, 48, 49, 50, 51, 52, 53, 54, 55, 56, 57, 58, 59, 60, 61, 62, 63, 64, 65, 66, 67, 68, 69, 70, 71, 72, 73, 74, 75, 76, 77, 78, 79, 80, 81, 82, 83, 84, 85, 86, 87, 88, 89, 90, 91, 92, 93, 94, 95, 96, 97, 98, 99, 100, 101] (by decide +kernel) (by decide +kernel)) (goodIn_sub (fun _ h => List.mem_cons_of_mem _ (List.mem_append_left _ (List.mem_append_left _ (List.mem_append_right _ h)))) (by decide +kernel))) (goodIn_sub (fun _ h => List.mem_cons_of_mem _ (List.mem_append_left _ (List.mem_append_right _ h))) (by decide +kernel))) (goodIn_sub (fun _ h => List.mem_cons_of_mem _ (List.mem_append_right _ h)) (by decide +kernel))
set_option maxRecDepth 20000 in
theorem gL_lowTideIn_X5_lowTideIn : GoodIn wsL_lowTideIn (wsV RL 113 RX5 yX5_lowTideIn wsX5_lowTideIn) := goodIn_app (goodIn_of _ (by decide +kernel)) ggL_lowTideIn_X5_lowTideIn
theorem dL_lowTideIn_0 : decode cL_lowTideIn 0 = .ok (.aload_n 0, 1) := by decide +kernel
theorem dL_lowTideIn_1 : decode cL_lowTideIn 1 = .ok (.iload_n 1, 1) := by decide +kernel
theorem dL_lowTideIn_2 : decode cL_lowTideIn 2 = .ok (.invokevirtual 113, 3) := by decide +kernel
theorem dL_lowTideIn_5 : decode cL_lowTideIn 5 = .ok (.ireturn, 1) := by decide +kernel
theorem dL_lowTideIn_6 : decode cL_lowTideIn 6 = .ok (.astore_n 2, 1) := by decide +kernel
theorem dL_lowTideIn_7 : decode cL_lowTideIn 7 = .ok (.bipush (-11), 2) := by decide +kernel
theorem dL_lowTideIn_9 : decode cL_lowTideIn 9 = .ok (.ireturn, 1) := by decide +kernel
set_option maxRecDepth 20000 in
theorem ggL_eclipseIn_X5_eclipseIn : GoodIn wsL_eclipseIn wsX5_eclipseIn := goodIn_ca (goodIn_ca (goodIn_ca (goodIn_ca (goodIn_r _ [6, 7, 8, 9, 10, 5, 11, 12, 13, 14, 15, 16, 17, 18, 19, 20, 21, 22, 23, 24, 25, 26, 27, 28, 29, 30, 31, 32, 33, 34, 35, 36, 37, 38, 39, 40, 41, 42, 43, 44, 45, 46, 47, 48, 49, 50, 51, 52, 53, 54, 55, 56, 57, 58, 59, 60, 61, 62, 63, 64, 65, 66, 67, 68, 69, 70, 71, 72, 73, 74, 75, 76, 77] (by decide +kernel) (by decide +kernel)) (goodIn_sub (fun _ h => List.mem_cons_of_mem _ (List.mem_append_left _ (List.mem_append_left _ (List.mem_append_left _ (List.mem_append_right _ h))))) (by decide +kernel))) (goodIn_sub (fun _ h => List.mem_cons_of_mem _ (List.mem_append_left _ (List.mem_append_left _ (List.mem_append_right _ h)))) (by decide +kernel))) (goodIn_sub (fun _ h => List.mem_cons_of_mem _ (List.mem_append_left _ (List.mem_append_right _ h))) (by decide +kernel))) (goodIn_sub (fun _ h => List.mem_cons_of_mem _ (List.mem_append_right _ h)) (by decide +kernel))
set_option maxRecDepth 20000 in
theorem gL_eclipseIn_X5_eclipseIn : GoodIn wsL_eclipseIn (wsV RL 116 RX5 yX5_eclipseIn wsX5_eclipseIn) := goodIn_app (goodIn_of _ (by decide +kernel)) ggL_eclipseIn_X5_eclipseIn
theorem dL_eclipseIn_0 : decode cL_eclipseIn 0 = .ok (.aload_n 0, 1) := by decide +kernel
theorem dL_eclipseIn_1 : decode cL_eclipseIn 1 = .ok (.iload_n 1, 1) := by decide +kernel
theorem dL_eclipseIn_2 : decode cL_eclipseIn 2 = .ok (.invokevirtual 116, 3) := by decide +kernel
theorem dL_eclipseIn_5 : decode cL_eclipseIn 5 = .ok (.ireturn, 1) := by decide +kernel
theorem dL_eclipseIn_6 : decode cL_eclipseIn 6 = .ok (.astore_n 2, 1) := by decide +kernel
theorem dL_eclipseIn_7 : decode cL_eclipseIn 7 = .ok (.bipush (-11), 2) := by decide +kernel
theorem dL_eclipseIn_9 : decode cL_eclipseIn 9 = .ok (.ireturn, 1) := by decide +kernel
theorem dL_eclipseIn_10 : decode cL_eclipseIn 10 = .ok (.astore_n 2, 1) := by decide +kernel
theorem dL_eclipseIn_11 : decode cL_eclipseIn 11 = .ok (.bipush (-13), 2) := by decide +kernel
theorem dL_eclipseIn_13 : decode cL_eclipseIn 13 = .ok (.ireturn, 1) := by decide +kernel
set_option maxRecDepth 20000 in
theorem ggL_conjunctionIn_X5_conjunctionIn : GoodIn wsL_conjunctionIn wsX5_conjunctionIn := goodIn_ca (goodIn_ca (goodIn_ca (goodIn_ca (goodIn_r _ [6, 7, 8, 9, 10, 5, 11, 12, 13, 14, 15, 16, 17, 18, 19, 20, 21, 22, 23, 24, 25, 26, 27, 28, 29, 30, 31, 32, 33, 34, 35, 36, 37, 38, 39, 40, 41, 42, 43, 44, 45, 46, 47, 48, 49, 50, 51, 52, 53, 54, 55, 56, 57, 58, 59, 60, 61, 62] (by decide +kernel) (by decide +kernel)) (goodIn_sub (fun _ h => List.mem_cons_of_mem _ (List.mem_append_left _ (List.mem_append_left _ (List.mem_append_left _ (List.mem_append_right _ h))))) (by decide +kernel))) (goodIn_sub (fun _ h => List.mem_cons_of_mem _ (List.mem_append_left _ (List.mem_append_left _ (List.mem_append_right _ h)))) (by decide +kernel))) (goodIn_sub (fun _ h => List.mem_cons_of_mem _ (List.mem_append_left _ (List.mem_append_right _ h))) (by decide +kernel))) (goodIn_sub (fun _ h => List.mem_cons_of_mem _ (List.mem_append_right _ h)) (by decide +kernel))
set_option maxRecDepth 20000 in
theorem gL_conjunctionIn_X5_conjunctionIn : GoodIn wsL_conjunctionIn (wsV RL 119 RX5 yX5_conjunctionIn wsX5_conjunctionIn) := goodIn_app (goodIn_of _ (by decide +kernel)) ggL_conjunctionIn_X5_conjunctionIn
theorem dL_conjunctionIn_0 : decode cL_conjunctionIn 0 = .ok (.aload_n 0, 1) := by decide +kernel
theorem dL_conjunctionIn_1 : decode cL_conjunctionIn 1 = .ok (.iload_n 1, 1) := by decide +kernel
theorem dL_conjunctionIn_2 : decode cL_conjunctionIn 2 = .ok (.iload_n 2, 1) := by decide +kernel
theorem dL_conjunctionIn_3 : decode cL_conjunctionIn 3 = .ok (.invokevirtual 119, 3) := by decide +kernel
theorem dL_conjunctionIn_6 : decode cL_conjunctionIn 6 = .ok (.ireturn, 1) := by decide +kernel
theorem dL_conjunctionIn_7 : decode cL_conjunctionIn 7 = .ok (.astore_n 3, 1) := by decide +kernel
theorem dL_conjunctionIn_8 : decode cL_conjunctionIn 8 = .ok (.bipush (-11), 2) := by decide +kernel
theorem dL_conjunctionIn_10 : decode cL_conjunctionIn 10 = .ok (.ireturn, 1) := by decide +kernel
theorem dL_conjunctionIn_11 : decode cL_conjunctionIn 11 = .ok (.astore_n 3, 1) := by decide +kernel
theorem dL_conjunctionIn_12 : decode cL_conjunctionIn 12 = .ok (.bipush (-13), 2) := by decide +kernel
theorem dL_conjunctionIn_14 : decode cL_conjunctionIn 14 = .ok (.ireturn, 1) := by decide +kernel
set_option maxRecDepth 20000 in
theorem ggL_conjunctionByMoves_X5_conjunctionByMoves : GoodIn wsL_conjunctionByMoves wsX5_conjunctionByMoves := goodIn_ca (goodIn_ca (goodIn_ca (goodIn_ca (goodIn_r _ [6, 7, 8, 9, 10, 5, 11, 12, 13, 14, 15, 16, 17, 18, 19, 20, 21, 22, 23, 24, 25, 26, 27, 28, 29, 30, 31, 32, 33, 34, 35, 36, 37, 38, 39, 40, 41, 42, 43, 44, 45, 46, 47, 48, 49, 50, 51, 52, 53, 54, 55, 56, 57, 58, 59, 60, 61, 62, 63, 64, 65, 66, 67, 68, 69, 70, 71] (by decide +kernel) (by decide +kernel)) (goodIn_sub (fun _ h => List.mem_cons_of_mem _ (List.mem_append_left _ (List.mem_append_left _ (List.mem_append_left _ (List.mem_append_right _ h))))) (by decide +kernel))) (goodIn_sub (fun _ h => List.mem_cons_of_mem _ (List.mem_append_left _ (List.mem_append_left _ (List.mem_append_right _ h)))) (by decide +kernel))) (goodIn_sub (fun _ h => List.mem_cons_of_mem _ (List.mem_append_left _ (List.mem_append_right _ h))) (by decide +kernel))) (goodIn_sub (fun _ h => List.mem_cons_of_mem _ (List.mem_append_right _ h)) (by decide +kernel))
set_option maxRecDepth 20000 in
theorem gL_conjunctionByMoves_X5_conjunctionByMoves : GoodIn wsL_conjunctionByMoves (wsV RL 122 RX5 yX5_conjunctionByMoves wsX5_conjunctionByMoves) := goodIn_app (goodIn_of _ (by decide +kernel)) ggL_conjunctionByMoves_X5_conjunctionByMoves
theorem dL_conjunctionByMoves_0 : decode cL_conjunctionByMoves 0 = .ok (.aload_n 0, 1) := by decide +kernel
theorem dL_conjunctionByMoves_1 : decode cL_conjunctionByMoves 1 = .ok (.iload_n 1, 1) := by decide +kernel
theorem dL_conjunctionByMoves_2 : decode cL_conjunctionByMoves 2 = .ok (.iload_n 2, 1) := by decide +kernel
theorem dL_conjunctionByMoves_3 : decode cL_conjunctionByMoves 3 = .ok (.invokevirtual 122, 3) := by decide +kernel
theorem dL_conjunctionByMoves_6 : decode cL_conjunctionByMoves 6 = .ok (.ireturn, 1) := by decide +kernel
theorem dL_conjunctionByMoves_7 : decode cL_conjunctionByMoves 7 = .ok (.astore_n 3, 1) := by decide +kernel
theorem dL_conjunctionByMoves_8 : decode cL_conjunctionByMoves 8 = .ok (.bipush (-11), 2) := by decide +kernel
theorem dL_conjunctionByMoves_10 : decode cL_conjunctionByMoves 10 = .ok (.ireturn, 1) := by decide +kernel
theorem dL_conjunctionByMoves_11 : decode cL_conjunctionByMoves 11 = .ok (.astore_n 3, 1) := by decide +kernel
theorem dL_conjunctionByMoves_12 : decode cL_conjunctionByMoves 12 = .ok (.bipush (-13), 2) := by decide +kernel
theorem dL_conjunctionByMoves_14 : decode cL_conjunctionByMoves 14 = .ok (.ireturn, 1) := by decide +kernel
set_option maxRecDepth 20000 in
theorem gz0_h : GoodIn wsL_writeMoon [.code yX5_writeMoon cX5_writeMoon 4 (some .int)] := goodIn_r _ [6] (by decide +kernel) (by decide +kernel)
set_option maxRecDepth 20000 in
theorem gz0_0 : GoodIn wsL_writeMoon wsX5_writeMoon_r1 := goodIn_r _ [7, 8, 9, 10, 11, 5, 12, 13, 14, 15, 16, 17, 18, 19, 20, 21, 22, 23, 24, 25, 26, 27, 28, 29] (by decide +kernel) (by decide +kernel)
set_option maxRecDepth 20000 in
theorem gz0_1 : GoodIn wsL_writeMoon wsX5_writeMoon_r2 := goodIn_r _ [30, 31, 32, 33, 34, 35, 36, 37, 38, 39, 40, 41, 42, 43, 44, 45, 46, 47, 48, 49, 50, 51, 52, 53] (by decide +kernel) (by decide +kernel)
set_option maxRecDepth 20000 in
theorem gz0_2 : GoodIn wsL_writeMoon wsX5_writeMoon_r3 := goodIn_r _ [54, 55, 56, 57, 58, 59, 60, 61, 62, 63, 64, 65, 66, 67, 68, 69, 70, 71, 72, 73, 74, 75, 76, 77] (by decide +kernel) (by decide +kernel)
set_option maxRecDepth 20000 in
theorem gz0_3 : GoodIn wsL_writeMoon wsX5_writeMoon_r4 := goodIn_r _ [78, 79, 80, 81, 82, 83, 84, 85, 86, 87, 88, 89, 90, 91, 92, 93, 94, 95, 96, 97, 98, 99, 100, 101] (by decide +kernel) (by decide +kernel)
set_option maxRecDepth 20000 in
theorem gz0_4 : GoodIn wsL_writeMoon wsX5_writeMoon_r5 := goodIn_r _ [102, 103, 104, 105, 106, 107, 108, 109, 110, 111, 112, 113, 114, 115, 116, 117, 118, 119, 120, 121, 122, 123, 124, 125] (by decide +kernel) (by decide +kernel)
set_option maxRecDepth 20000 in
theorem gz0_5 : GoodIn wsL_writeMoon wsX5_writeMoon_r6 := goodIn_r _ [126, 127, 128, 129, 130, 131, 132, 133, 134, 135, 136, 137, 138, 139, 140, 141, 142, 143, 144, 145, 146, 147, 148, 149] (by decide +kernel) (by decide +kernel)
set_option maxRecDepth 20000 in
theorem gz0_6 : GoodIn wsL_writeMoon wsX5_writeMoon_r7 := goodIn_r _ [150, 151, 152, 153, 154, 155, 156, 157, 158, 159, 160, 161, 162, 163, 164, 165, 166, 167, 168, 169, 170, 171, 172, 173] (by decide +kernel) (by decide +kernel)
set_option maxRecDepth 20000 in
theorem gz0_7 : GoodIn wsL_writeMoon wsX5_writeMoon_r8 := goodIn_r _ [174, 175, 176, 177, 178, 179, 180, 181, 182, 183, 184, 185, 186, 187, 188, 189, 190, 191, 192, 193, 194, 195, 196, 197] (by decide +kernel) (by decide +kernel)
set_option maxRecDepth 20000 in
theorem gz0_8 : GoodIn wsL_writeMoon wsX5_writeMoon_r9 := goodIn_r _ [198, 199, 200, 201, 202, 203, 204, 205, 206, 207, 208, 209, 210, 211, 212, 213, 214, 215, 216, 217, 218, 219, 220, 221] (by decide +kernel) (by decide +kernel)
set_option maxRecDepth 20000 in
theorem gz0_9 : GoodIn wsL_writeMoon wsX5_writeMoon_r10 := goodIn_r _ [222, 223, 224, 225, 226, 227, 228, 229, 230, 231, 232, 233, 234, 235, 236, 237, 238, 239, 240, 241, 242, 243, 244, 245] (by decide +kernel) (by decide +kernel)
set_option maxRecDepth 20000 in
theorem gz0_10 : GoodIn wsL_writeMoon wsX5_writeMoon_r11 := goodIn_r _ [246, 247, 248, 249, 250, 251, 252, 253, 254, 255, 256, 257, 258, 259, 260] (by decide +kernel) (by decide +kernel)
set_option maxRecDepth 20000 in
theorem gz0_11 : GoodIn wsL_writeMoon wsX50 := goodIn_r _ [261, 262, 263, 264, 265, 266, 267, 268, 269, 270] (by decide +kernel) (by decide +kernel)
set_option maxRecDepth 20000 in
theorem gz0_12 : GoodIn wsL_writeMoon wsX40 := goodIn_r _ [271] (by decide +kernel) (by decide +kernel)
set_option maxRecDepth 20000 in
theorem gz0_13 : GoodIn wsL_writeMoon wsX20 := goodIn_r _ [272] (by decide +kernel) (by decide +kernel)
set_option maxRecDepth 20000 in
theorem gz0_14 : GoodIn wsL_writeMoon wsJx7c7330 := goodIn_r _ [273, 274, 275, 276, 277, 278] (by decide +kernel) (by decide +kernel)
set_option maxRecDepth 20000 in
theorem gz0_15 : GoodIn wsL_writeMoon wsJ40 := goodIn_r _ [279, 280, 281, 282] (by decide +kernel) (by decide +kernel)
set_option maxRecDepth 20000 in
theorem gz0_16 : GoodIn wsL_writeMoon wsJx000600 := goodIn_r _ [283, 284, 285, 286, 287, 288] (by decide +kernel) (by decide +kernel)
set_option maxRecDepth 20000 in
theorem ggL_writeMoon_X5_writeMoon : GoodIn wsL_writeMoon wsX5_writeMoon := goodIn_ca (goodIn_ca (goodIn_ca (goodIn_app gz0_h (goodIn_app (goodIn_app (goodIn_app (goodIn_app (goodIn_app (goodIn_app (goodIn_app gz0_0 (goodIn_app gz0_1 (goodIn_app gz0_2 (goodIn_app gz0_3 (goodIn_app gz0_4 (goodIn_app gz0_5 (goodIn_app gz0_6 (goodIn_app gz0_7 (goodIn_app gz0_8 (goodIn_app gz0_9 gz0_10)))))))))) gz0_11) gz0_12) gz0_13) gz0_14) gz0_15) gz0_16)) (goodIn_sub (fun _ h => List.mem_cons_of_mem _ (List.mem_append_left _ (List.mem_append_left _ (List.mem_append_right _ h)))) (by decide +kernel))) (goodIn_sub (fun _ h => List.mem_cons_of_mem _ (List.mem_append_left _ (List.mem_append_right _ h))) (by decide +kernel))) (goodIn_sub (fun _ h => List.mem_cons_of_mem _ (List.mem_append_right _ h)) (by decide +kernel))
set_option maxRecDepth 20000 in
theorem gL_writeMoon_X5_writeMoon : GoodIn wsL_writeMoon (wsV RL 125 RX5 yX5_writeMoon wsX5_writeMoon) := goodIn_app (goodIn_of _ (by decide +kernel)) ggL_writeMoon_X5_writeMoon
theorem dL_writeMoon_0 : decode cL_writeMoon 0 = .ok (.aload_n 0, 1) := by decide +kernel
theorem dL_writeMoon_1 : decode cL_writeMoon 1 = .ok (.iload_n 1, 1) := by decide +kernel
theorem dL_writeMoon_2 : decode cL_writeMoon 2 = .ok (.invokevirtual 125, 3) := by decide +kernel
theorem dL_writeMoon_5 : decode cL_writeMoon 5 = .ok (.ireturn, 1) := by decide +kernel
theorem dL_writeMoon_6 : decode cL_writeMoon 6 = .ok (.astore_n 2, 1) := by decide +kernel
theorem dL_writeMoon_7 : decode cL_writeMoon 7 = .ok (.bipush (-11), 2) := by decide +kernel
theorem dL_writeMoon_9 : decode cL_writeMoon 9 = .ok (.ireturn, 1) := by decide +kernel
set_option maxRecDepth 20000 in
theorem ggL_lineAt_X5_lineAt : GoodIn wsL_lineAt wsX5_lineAt := goodIn_ca (goodIn_r _ [6, 7, 8, 9, 10, 11, 12, 13, 14, 15, 16, 17, 18, 19, 20, 21, 22, 23, 24, 25, 26, 27, 28, 29, 30, 31, 32, 33, 34, 35, 36, 37, 38, 39, 40, 41, 42, 43, 44, 45, 46, 47, 48, 49, 50, 51, 52, 53, 54, 55, 56, 57, 58, 59, 60, 61, 62, 63, 64, 65, 66, 67, 68] (by decide +kernel) (by decide +kernel)) (goodIn_sub (fun _ h => List.mem_cons_of_mem _ (List.mem_append_right _ h)) (by decide +kernel))
