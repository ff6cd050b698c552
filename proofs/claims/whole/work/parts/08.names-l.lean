set_option maxRecDepth 20000 in
theorem ggL_addHardMoon_X5_addHardMoon : GoodIn wsL_addHardMoon wsX5_addHardMoon := goodIn_ca (goodIn_ca (goodIn_ca (goodIn_r _ [6, 7, 8, 9, 5, 10, 11, 12, 13, 14, 15, 16, 17, 18, 19, 20, 21, 22, 23, 24, 25, 26, 27, 28, 29, 30, 31, 32, 33, 34, 35, 36, 37, 38, 39, 40, 41, 42, 43, 44, 45, 46, 47, 48, 49, 50, 51, 52, 53, 54, 55, 56, 57, 58, 59, 60, 61, 62, 63, 64, 65, 66, 67, 68, 69, 70, 71, 72, 73, 74, 75, 76, 77, 78, 79, 80] (by decide +kernel) (by decide +kernel)) (goodIn_sub (fun _ h => List.mem_cons_of_mem _ (List.mem_append_left _ (List.mem_append_right _ h))) (by decide +kernel))) (goodIn_sub (fun _ h => List.mem_cons_of_mem _ (List.mem_append_right _ h)) (by decide +kernel))) (goodIn_sub (fun _ h => List.mem_cons_of_mem _ (List.mem_append_left _ (List.mem_append_left _ (List.mem_append_right _ h)))) (by decide +kernel))
set_option maxRecDepth 20000 in
theorem gL_addHardMoon_X5_addHardMoon : GoodIn wsL_addHardMoon (wsV RL 7 RX5 yX5_addHardMoon wsX5_addHardMoon) := goodIn_app (goodIn_of _ (by decide +kernel)) ggL_addHardMoon_X5_addHardMoon
theorem dL_addHardMoon_0 : decode cL_addHardMoon 0 = .ok (.aload 4, 2) := by decide +kernel
theorem dL_addHardMoon_2 : decode cL_addHardMoon 2 = .ok (.iconst 0, 1) := by decide +kernel
theorem dL_addHardMoon_3 : decode cL_addHardMoon 3 = .ok (.aload_n 0, 1) := by decide +kernel
theorem dL_addHardMoon_4 : decode cL_addHardMoon 4 = .ok (.iload_n 1, 1) := by decide +kernel
theorem dL_addHardMoon_5 : decode cL_addHardMoon 5 = .ok (.iload_n 2, 1) := by decide +kernel
theorem dL_addHardMoon_6 : decode cL_addHardMoon 6 = .ok (.iload_n 3, 1) := by decide +kernel
theorem dL_addHardMoon_7 : decode cL_addHardMoon 7 = .ok (.invokevirtual 7, 3) := by decide +kernel
theorem dL_addHardMoon_10 : decode cL_addHardMoon 10 = .ok (.i2l, 1) := by decide +kernel
theorem dL_addHardMoon_11 : decode cL_addHardMoon 11 = .ok (.lastore, 1) := by decide +kernel
theorem dL_addHardMoon_12 : decode cL_addHardMoon 12 = .ok (.goto 11, 3) := by decide +kernel
theorem dL_addHardMoon_15 : decode cL_addHardMoon 15 = .ok (.astore 5, 2) := by decide +kernel
theorem dL_addHardMoon_17 : decode cL_addHardMoon 17 = .ok (.iconst 1, 1) := by decide +kernel
theorem dL_addHardMoon_18 : decode cL_addHardMoon 18 = .ok (.ireturn, 1) := by decide +kernel
theorem dL_addHardMoon_19 : decode cL_addHardMoon 19 = .ok (.astore 5, 2) := by decide +kernel
theorem dL_addHardMoon_21 : decode cL_addHardMoon 21 = .ok (.iconst 2, 1) := by decide +kernel
theorem dL_addHardMoon_22 : decode cL_addHardMoon 22 = .ok (.ireturn, 1) := by decide +kernel
theorem dL_addHardMoon_23 : decode cL_addHardMoon 23 = .ok (.iconst 0, 1) := by decide +kernel
theorem dL_addHardMoon_24 : decode cL_addHardMoon 24 = .ok (.ireturn, 1) := by decide +kernel
set_option maxRecDepth 20000 in
theorem ggL_addSoftMoon_X5_addSoftMoon : GoodIn wsL_addSoftMoon wsX5_addSoftMoon := goodIn_ca (goodIn_ca (goodIn_ca (goodIn_r _ [6, 7, 8, 9, 5, 10, 11, 12, 13, 14, 15, 16, 17, 18, 19, 20, 21, 22, 23, 24, 25, 26, 27, 28, 29, 30, 31, 32, 33, 34, 35, 36, 37, 38, 39, 40, 41, 42, 43, 44, 45, 46, 47, 48, 49, 50, 51, 52, 53, 54, 55, 56, 57, 58, 59, 60, 61, 62, 63, 64, 65, 66, 67, 68, 69, 70, 71, 72, 73, 74, 75, 76, 77, 78, 79, 80] (by decide +kernel) (by decide +kernel)) (goodIn_sub (fun _ h => List.mem_cons_of_mem _ (List.mem_append_left _ (List.mem_append_right _ h))) (by decide +kernel))) (goodIn_sub (fun _ h => List.mem_cons_of_mem _ (List.mem_append_right _ h)) (by decide +kernel))) (goodIn_sub (fun _ h => List.mem_cons_of_mem _ (List.mem_append_left _ (List.mem_append_left _ (List.mem_append_right _ h)))) (by decide +kernel))
set_option maxRecDepth 20000 in
theorem gL_addSoftMoon_X5_addSoftMoon : GoodIn wsL_addSoftMoon (wsV RL 17 RX5 yX5_addSoftMoon wsX5_addSoftMoon) := goodIn_app (goodIn_of _ (by decide +kernel)) ggL_addSoftMoon_X5_addSoftMoon
theorem dL_addSoftMoon_0 : decode cL_addSoftMoon 0 = .ok (.aload 4, 2) := by decide +kernel
theorem dL_addSoftMoon_2 : decode cL_addSoftMoon 2 = .ok (.iconst 0, 1) := by decide +kernel
theorem dL_addSoftMoon_3 : decode cL_addSoftMoon 3 = .ok (.aload_n 0, 1) := by decide +kernel
theorem dL_addSoftMoon_4 : decode cL_addSoftMoon 4 = .ok (.iload_n 1, 1) := by decide +kernel
theorem dL_addSoftMoon_5 : decode cL_addSoftMoon 5 = .ok (.iload_n 2, 1) := by decide +kernel
theorem dL_addSoftMoon_6 : decode cL_addSoftMoon 6 = .ok (.iload_n 3, 1) := by decide +kernel
theorem dL_addSoftMoon_7 : decode cL_addSoftMoon 7 = .ok (.invokevirtual 17, 3) := by decide +kernel
theorem dL_addSoftMoon_10 : decode cL_addSoftMoon 10 = .ok (.i2l, 1) := by decide +kernel
theorem dL_addSoftMoon_11 : decode cL_addSoftMoon 11 = .ok (.lastore, 1) := by decide +kernel
theorem dL_addSoftMoon_12 : decode cL_addSoftMoon 12 = .ok (.goto 11, 3) := by decide +kernel
theorem dL_addSoftMoon_15 : decode cL_addSoftMoon 15 = .ok (.astore 5, 2) := by decide +kernel
theorem dL_addSoftMoon_17 : decode cL_addSoftMoon 17 = .ok (.iconst 1, 1) := by decide +kernel
theorem dL_addSoftMoon_18 : decode cL_addSoftMoon 18 = .ok (.ireturn, 1) := by decide +kernel
theorem dL_addSoftMoon_19 : decode cL_addSoftMoon 19 = .ok (.astore 5, 2) := by decide +kernel
theorem dL_addSoftMoon_21 : decode cL_addSoftMoon 21 = .ok (.iconst 2, 1) := by decide +kernel
theorem dL_addSoftMoon_22 : decode cL_addSoftMoon 22 = .ok (.ireturn, 1) := by decide +kernel
theorem dL_addSoftMoon_23 : decode cL_addSoftMoon 23 = .ok (.iconst 0, 1) := by decide +kernel
theorem dL_addSoftMoon_24 : decode cL_addSoftMoon 24 = .ok (.ireturn, 1) := by decide +kernel
set_option maxRecDepth 20000 in
theorem ggL_addBubbleMoon_X5_addBubbleMoon : GoodIn wsL_addBubbleMoon wsX5_addBubbleMoon := goodIn_ca (goodIn_ca (goodIn_ca (goodIn_r _ [6, 7, 8, 9, 5, 10, 11, 12, 13, 14, 15, 16, 17, 18, 19, 20, 21, 22, 23, 24, 25, 26, 27, 28, 29, 30, 31, 32, 33, 34, 35, 36, 37, 38, 39, 40, 41, 42, 43, 44, 45, 46, 47, 48, 49, 50, 51, 52, 53, 54, 55, 56, 57, 58, 59, 60, 61, 62, 63, 64, 65, 66, 67, 68, 69, 70, 71, 72, 73, 74, 75, 76, 77, 78, 79, 80] (by decide +kernel) (by decide +kernel)) (goodIn_sub (fun _ h => List.mem_cons_of_mem _ (List.mem_append_left _ (List.mem_append_right _ h))) (by decide +kernel))) (goodIn_sub (fun _ h => List.mem_cons_of_mem _ (List.mem_append_right _ h)) (by decide +kernel))) (goodIn_sub (fun _ h => List.mem_cons_of_mem _ (List.mem_append_left _ (List.mem_append_left _ (List.mem_append_right _ h)))) (by decide +kernel))
set_option maxRecDepth 20000 in
theorem gL_addBubbleMoon_X5_addBubbleMoon : GoodIn wsL_addBubbleMoon (wsV RL 20 RX5 yX5_addBubbleMoon wsX5_addBubbleMoon) := goodIn_app (goodIn_of _ (by decide +kernel)) ggL_addBubbleMoon_X5_addBubbleMoon
theorem dL_addBubbleMoon_0 : decode cL_addBubbleMoon 0 = .ok (.aload 4, 2) := by decide +kernel
theorem dL_addBubbleMoon_2 : decode cL_addBubbleMoon 2 = .ok (.iconst 0, 1) := by decide +kernel
theorem dL_addBubbleMoon_3 : decode cL_addBubbleMoon 3 = .ok (.aload_n 0, 1) := by decide +kernel
theorem dL_addBubbleMoon_4 : decode cL_addBubbleMoon 4 = .ok (.iload_n 1, 1) := by decide +kernel
theorem dL_addBubbleMoon_5 : decode cL_addBubbleMoon 5 = .ok (.iload_n 2, 1) := by decide +kernel
theorem dL_addBubbleMoon_6 : decode cL_addBubbleMoon 6 = .ok (.iload_n 3, 1) := by decide +kernel
theorem dL_addBubbleMoon_7 : decode cL_addBubbleMoon 7 = .ok (.invokevirtual 20, 3) := by decide +kernel
theorem dL_addBubbleMoon_10 : decode cL_addBubbleMoon 10 = .ok (.i2l, 1) := by decide +kernel
theorem dL_addBubbleMoon_11 : decode cL_addBubbleMoon 11 = .ok (.lastore, 1) := by decide +kernel
theorem dL_addBubbleMoon_12 : decode cL_addBubbleMoon 12 = .ok (.goto 11, 3) := by decide +kernel
theorem dL_addBubbleMoon_15 : decode cL_addBubbleMoon 15 = .ok (.astore 5, 2) := by decide +kernel
theorem dL_addBubbleMoon_17 : decode cL_addBubbleMoon 17 = .ok (.iconst 1, 1) := by decide +kernel
theorem dL_addBubbleMoon_18 : decode cL_addBubbleMoon 18 = .ok (.ireturn, 1) := by decide +kernel
theorem dL_addBubbleMoon_19 : decode cL_addBubbleMoon 19 = .ok (.astore 5, 2) := by decide +kernel
theorem dL_addBubbleMoon_21 : decode cL_addBubbleMoon 21 = .ok (.iconst 2, 1) := by decide +kernel
theorem dL_addBubbleMoon_22 : decode cL_addBubbleMoon 22 = .ok (.ireturn, 1) := by decide +kernel
theorem dL_addBubbleMoon_23 : decode cL_addBubbleMoon 23 = .ok (.iconst 0, 1) := by decide +kernel
theorem dL_addBubbleMoon_24 : decode cL_addBubbleMoon 24 = .ok (.ireturn, 1) := by decide +kernel
set_option maxRecDepth 20000 in
theorem ggL_removeMoon_X5_removeMoon : GoodIn wsL_removeMoon wsX5_removeMoon := goodIn_ca (goodIn_ca (goodIn_r _ [6, 7, 8, 9, 10, 11, 12, 5, 13, 14, 15, 16, 17, 18, 19, 20, 21, 22, 23, 24, 25, 26, 27, 28, 29, 30, 31, 32, 33, 34, 35, 36, 37, 38, 39, 40, 41, 42, 43, 44, 45, 46, 47, 48, 49, 50, 51, 52, 53, 54, 55, 56, 57, 58, 59, 60, 61, 62, 63, 64, 65, 66, 67, 68, 69, 70, 71, 72, 73] (by decide +kernel) (by decide +kernel)) (goodIn_sub (fun _ h => List.mem_cons_of_mem _ (List.mem_append_right _ h)) (by decide +kernel))) (goodIn_sub (fun _ h => List.mem_cons_of_mem _ (List.mem_append_left _ (List.mem_append_right _ h))) (by decide +kernel))
set_option maxRecDepth 20000 in
theorem gL_removeMoon_X5_removeMoon : GoodIn wsL_removeMoon (wsV RL 23 RX5 yX5_removeMoon wsX5_removeMoon) := goodIn_app (goodIn_of _ (by decide +kernel)) ggL_removeMoon_X5_removeMoon
theorem dL_removeMoon_0 : decode cL_removeMoon 0 = .ok (.aload_n 2, 1) := by decide +kernel
theorem dL_removeMoon_1 : decode cL_removeMoon 1 = .ok (.iconst 0, 1) := by decide +kernel
theorem dL_removeMoon_2 : decode cL_removeMoon 2 = .ok (.aload_n 0, 1) := by decide +kernel
theorem dL_removeMoon_3 : decode cL_removeMoon 3 = .ok (.iload_n 1, 1) := by decide +kernel
theorem dL_removeMoon_4 : decode cL_removeMoon 4 = .ok (.invokevirtual 23, 3) := by decide +kernel
theorem dL_removeMoon_7 : decode cL_removeMoon 7 = .ok (.i2l, 1) := by decide +kernel
theorem dL_removeMoon_8 : decode cL_removeMoon 8 = .ok (.lastore, 1) := by decide +kernel
theorem dL_removeMoon_9 : decode cL_removeMoon 9 = .ok (.goto 6, 3) := by decide +kernel
theorem dL_removeMoon_12 : decode cL_removeMoon 12 = .ok (.astore_n 3, 1) := by decide +kernel
theorem dL_removeMoon_13 : decode cL_removeMoon 13 = .ok (.iconst 1, 1) := by decide +kernel
theorem dL_removeMoon_14 : decode cL_removeMoon 14 = .ok (.ireturn, 1) := by decide +kernel
theorem dL_removeMoon_15 : decode cL_removeMoon 15 = .ok (.iconst 0, 1) := by decide +kernel
theorem dL_removeMoon_16 : decode cL_removeMoon 16 = .ok (.ireturn, 1) := by decide +kernel
set_option maxRecDepth 20000 in
theorem ggL_positionOf_X5_positionOf : GoodIn wsL_positionOf wsX5_positionOf := goodIn_ca (goodIn_ca (goodIn_ca (goodIn_r _ [6, 7, 8, 9, 10, 5, 11, 12, 13, 14, 15, 16, 17, 18, 19, 20, 21, 22, 23, 24, 25, 26, 27, 28, 29, 30, 31, 32, 33, 34, 35, 36, 37, 38, 39, 40, 41, 42, 43, 44, 45, 46, 47, 48, 49, 50, 51, 52, 53] (by decide +kernel) (by decide +kernel)) (goodIn_sub (fun _ h => List.mem_cons_of_mem _ (List.mem_append_left _ (List.mem_append_right _ h))) (by decide +kernel))) (goodIn_sub (fun _ h => List.mem_cons_of_mem _ (List.mem_append_left _ (List.mem_append_left _ (List.mem_append_right _ h)))) (by decide +kernel))) (goodIn_sub (fun _ h => List.mem_cons_of_mem _ (List.mem_append_right _ h)) (by decide +kernel))
set_option maxRecDepth 20000 in
theorem gL_positionOf_X5_positionOf : GoodIn wsL_positionOf (wsV RL 29 RX5 yX5_positionOf wsX5_positionOf) := goodIn_app (goodIn_of _ (by decide +kernel)) ggL_positionOf_X5_positionOf
theorem dL_positionOf_0 : decode cL_positionOf 0 = .ok (.aload_n 2, 1) := by decide +kernel
theorem dL_positionOf_1 : decode cL_positionOf 1 = .ok (.iconst 0, 1) := by decide +kernel
theorem dL_positionOf_2 : decode cL_positionOf 2 = .ok (.aload_n 0, 1) := by decide +kernel
theorem dL_positionOf_3 : decode cL_positionOf 3 = .ok (.iload_n 1, 1) := by decide +kernel
theorem dL_positionOf_4 : decode cL_positionOf 4 = .ok (.invokevirtual 29, 3) := by decide +kernel
theorem dL_positionOf_7 : decode cL_positionOf 7 = .ok (.i2l, 1) := by decide +kernel
theorem dL_positionOf_8 : decode cL_positionOf 8 = .ok (.lastore, 1) := by decide +kernel
theorem dL_positionOf_9 : decode cL_positionOf 9 = .ok (.goto 6, 3) := by decide +kernel
theorem dL_positionOf_12 : decode cL_positionOf 12 = .ok (.astore_n 3, 1) := by decide +kernel
theorem dL_positionOf_13 : decode cL_positionOf 13 = .ok (.iconst 1, 1) := by decide +kernel
theorem dL_positionOf_14 : decode cL_positionOf 14 = .ok (.ireturn, 1) := by decide +kernel
theorem dL_positionOf_15 : decode cL_positionOf 15 = .ok (.iconst 0, 1) := by decide +kernel
theorem dL_positionOf_16 : decode cL_positionOf 16 = .ok (.ireturn, 1) := by decide +kernel
set_option maxRecDepth 20000 in
theorem ggL_massOf_X5_massOf : GoodIn wsL_massOf wsX5_massOf := goodIn_ca (goodIn_ca (goodIn_r _ [6, 7, 8, 9, 10, 5, 11, 12, 13, 14, 15, 16, 17, 18, 19, 20, 21, 22, 23, 24, 25, 26, 27, 28, 29, 30, 31, 32, 33, 34, 35, 36, 37, 38, 39, 40, 41, 42, 43, 44, 45, 46, 47, 48, 49, 50, 51, 52, 53, 54, 55, 56, 57, 58, 59, 60, 61] (by decide +kernel) (by decide +kernel)) (goodIn_sub (fun _ h => List.mem_cons_of_mem _ (List.mem_append_right _ h)) (by decide +kernel))) (goodIn_sub (fun _ h => List.mem_cons_of_mem _ (List.mem_append_left _ (List.mem_append_right _ h))) (by decide +kernel))
set_option maxRecDepth 20000 in
theorem gL_massOf_X5_massOf : GoodIn wsL_massOf (wsV RL 32 RX5 yX5_massOf wsX5_massOf) := goodIn_app (goodIn_of _ (by decide +kernel)) ggL_massOf_X5_massOf
theorem dL_massOf_0 : decode cL_massOf 0 = .ok (.aload_n 2, 1) := by decide +kernel
theorem dL_massOf_1 : decode cL_massOf 1 = .ok (.iconst 0, 1) := by decide +kernel
theorem dL_massOf_2 : decode cL_massOf 2 = .ok (.aload_n 0, 1) := by decide +kernel
theorem dL_massOf_3 : decode cL_massOf 3 = .ok (.iload_n 1, 1) := by decide +kernel
theorem dL_massOf_4 : decode cL_massOf 4 = .ok (.invokevirtual 32, 3) := by decide +kernel
theorem dL_massOf_7 : decode cL_massOf 7 = .ok (.i2l, 1) := by decide +kernel
theorem dL_massOf_8 : decode cL_massOf 8 = .ok (.lastore, 1) := by decide +kernel
theorem dL_massOf_9 : decode cL_massOf 9 = .ok (.goto 6, 3) := by decide +kernel
theorem dL_massOf_12 : decode cL_massOf 12 = .ok (.astore_n 3, 1) := by decide +kernel
theorem dL_massOf_13 : decode cL_massOf 13 = .ok (.iconst 1, 1) := by decide +kernel
theorem dL_massOf_14 : decode cL_massOf 14 = .ok (.ireturn, 1) := by decide +kernel
theorem dL_massOf_15 : decode cL_massOf 15 = .ok (.iconst 0, 1) := by decide +kernel
theorem dL_massOf_16 : decode cL_massOf 16 = .ok (.ireturn, 1) := by decide +kernel
set_option maxRecDepth 20000 in
theorem ggL_ageOf_X5_ageOf : GoodIn wsL_ageOf wsX5_ageOf := goodIn_ca (goodIn_ca (goodIn_r _ [6, 7, 8, 9, 10, 5, 11, 12, 13, 14, 15, 16, 17, 18, 19, 20, 21, 22, 23, 24, 25, 26, 27, 28, 29, 30, 31, 32, 33, 34, 35, 36, 37, 38, 39, 40, 41, 42, 43, 44, 45] (by decide +kernel) (by decide +kernel)) (goodIn_sub (fun _ h => List.mem_cons_of_mem _ (List.mem_append_right _ h)) (by decide +kernel))) (goodIn_sub (fun _ h => List.mem_cons_of_mem _ (List.mem_append_left _ (List.mem_append_right _ h))) (by decide +kernel))
set_option maxRecDepth 20000 in
theorem gL_ageOf_X5_ageOf : GoodIn wsL_ageOf (wsV RL 35 RX5 yX5_ageOf wsX5_ageOf) := goodIn_app (goodIn_of _ (by decide +kernel)) ggL_ageOf_X5_ageOf
theorem dL_ageOf_0 : decode cL_ageOf 0 = .ok (.aload_n 2, 1) := by decide +kernel
theorem dL_ageOf_1 : decode cL_ageOf 1 = .ok (.iconst 0, 1) := by decide +kernel
theorem dL_ageOf_2 : decode cL_ageOf 2 = .ok (.aload_n 0, 1) := by decide +kernel
theorem dL_ageOf_3 : decode cL_ageOf 3 = .ok (.iload_n 1, 1) := by decide +kernel
theorem dL_ageOf_4 : decode cL_ageOf 4 = .ok (.invokevirtual 35, 3) := by decide +kernel
theorem dL_ageOf_7 : decode cL_ageOf 7 = .ok (.i2l, 1) := by decide +kernel
theorem dL_ageOf_8 : decode cL_ageOf 8 = .ok (.lastore, 1) := by decide +kernel
theorem dL_ageOf_9 : decode cL_ageOf 9 = .ok (.goto 6, 3) := by decide +kernel
theorem dL_ageOf_12 : decode cL_ageOf 12 = .ok (.astore_n 3, 1) := by decide +kernel
theorem dL_ageOf_13 : decode cL_ageOf 13 = .ok (.iconst 1, 1) := by decide +kernel
theorem dL_ageOf_14 : decode cL_ageOf 14 = .ok (.ireturn, 1) := by decide +kernel
theorem dL_ageOf_15 : decode cL_ageOf 15 = .ok (.iconst 0, 1) := by decide +kernel
theorem dL_ageOf_16 : decode cL_ageOf 16 = .ok (.ireturn, 1) := by decide +kernel
set_option maxRecDepth 20000 in
theorem ggL_isHard_X5_isHard : GoodIn wsL_isHard wsX5_isHard := goodIn_ca (goodIn_ca (goodIn_r _ [6, 7, 8, 9, 10, 5, 11, 12, 13, 14, 15, 16, 17, 18, 19, 20, 21, 22, 23, 24, 25, 26, 27, 28, 29, 30, 31, 32, 33, 34, 35, 36, 37, 38, 39, 40, 41, 42, 43, 44, 45] (by decide +kernel) (by decide +kernel)) (goodIn_sub (fun _ h => List.mem_cons_of_mem _ (List.mem_append_right _ h)) (by decide +kernel))) (goodIn_sub (fun _ h => List.mem_cons_of_mem _ (List.mem_append_left _ (List.mem_append_right _ h))) (by decide +kernel))
set_option maxRecDepth 20000 in
theorem gL_isHard_X5_isHard : GoodIn wsL_isHard (wsV RL 38 RX5 yX5_isHard wsX5_isHard) := goodIn_app (goodIn_of _ (by decide +kernel)) ggL_isHard_X5_isHard
theorem dL_isHard_0 : decode cL_isHard 0 = .ok (.aload_n 2, 1) := by decide +kernel
theorem dL_isHard_1 : decode cL_isHard 1 = .ok (.iconst 0, 1) := by decide +kernel
theorem dL_isHard_2 : decode cL_isHard 2 = .ok (.aload_n 0, 1) := by decide +kernel
theorem dL_isHard_3 : decode cL_isHard 3 = .ok (.iload_n 1, 1) := by decide +kernel
theorem dL_isHard_4 : decode cL_isHard 4 = .ok (.invokevirtual 38, 3) := by decide +kernel
theorem dL_isHard_7 : decode cL_isHard 7 = .ok (.ifCond .eq 7, 3) := by decide +kernel
theorem dL_isHard_10 : decode cL_isHard 10 = .ok (.lconst 1, 1) := by decide +kernel
theorem dL_isHard_11 : decode cL_isHard 11 = .ok (.goto 4, 3) := by decide +kernel
theorem dL_isHard_14 : decode cL_isHard 14 = .ok (.lconst 0, 1) := by decide +kernel
theorem dL_isHard_15 : decode cL_isHard 15 = .ok (.lastore, 1) := by decide +kernel
theorem dL_isHard_16 : decode cL_isHard 16 = .ok (.goto 6, 3) := by decide +kernel
theorem dL_isHard_19 : decode cL_isHard 19 = .ok (.astore_n 3, 1) := by decide +kernel
theorem dL_isHard_20 : decode cL_isHard 20 = .ok (.iconst 1, 1) := by decide +kernel
theorem dL_isHard_21 : decode cL_isHard 21 = .ok (.ireturn, 1) := by decide +kernel
theorem dL_isHard_22 : decode cL_isHard 22 = .ok (.iconst 0, 1) := by decide +kernel
theorem dL_isHard_23 : decode cL_isHard 23 = .ok (.ireturn, 1) := by decide +kernel
set_option maxRecDepth 20000 in
theorem ggL_isSoft_X5_isSoft : GoodIn wsL_isSoft wsX5_isSoft := goodIn_ca (goodIn_ca (goodIn_r _ [6, 7, 8, 9, 10, 5, 11, 12, 13, 14, 15, 16, 17, 18, 19, 20, 21, 22, 23, 24, 25, 26, 27, 28, 29, 30, 31, 32, 33, 34, 35, 36, 37, 38, 39, 40, 41, 42, 43, 44, 45] (by decide +kernel) (by decide +kernel)) (goodIn_sub (fun _ h => List.mem_cons_of_mem _ (List.mem_append_right _ h)) (by decide +kernel))) (goodIn_sub (fun _ h => List.mem_cons_of_mem _ (List.mem_append_left _ (List.mem_append_right _ h))) (by decide +kernel))
set_option maxRecDepth 20000 in
theorem gL_isSoft_X5_isSoft : GoodIn wsL_isSoft (wsV RL 42 RX5 yX5_isSoft wsX5_isSoft) := goodIn_app (goodIn_of _ (by decide +kernel)) ggL_isSoft_X5_isSoft
theorem dL_isSoft_0 : decode cL_isSoft 0 = .ok (.aload_n 2, 1) := by decide +kernel
theorem dL_isSoft_1 : decode cL_isSoft 1 = .ok (.iconst 0, 1) := by decide +kernel
theorem dL_isSoft_2 : decode cL_isSoft 2 = .ok (.aload_n 0, 1) := by decide +kernel
theorem dL_isSoft_3 : decode cL_isSoft 3 = .ok (.iload_n 1, 1) := by decide +kernel
theorem dL_isSoft_4 : decode cL_isSoft 4 = .ok (.invokevirtual 42, 3) := by decide +kernel
theorem dL_isSoft_7 : decode cL_isSoft 7 = .ok (.ifCond .eq 7, 3) := by decide +kernel
theorem dL_isSoft_10 : decode cL_isSoft 10 = .ok (.lconst 1, 1) := by decide +kernel
theorem dL_isSoft_11 : decode cL_isSoft 11 = .ok (.goto 4, 3) := by decide +kernel
theorem dL_isSoft_14 : decode cL_isSoft 14 = .ok (.lconst 0, 1) := by decide +kernel
theorem dL_isSoft_15 : decode cL_isSoft 15 = .ok (.lastore, 1) := by decide +kernel
theorem dL_isSoft_16 : decode cL_isSoft 16 = .ok (.goto 6, 3) := by decide +kernel
theorem dL_isSoft_19 : decode cL_isSoft 19 = .ok (.astore_n 3, 1) := by decide +kernel
theorem dL_isSoft_20 : decode cL_isSoft 20 = .ok (.iconst 1, 1) := by decide +kernel
theorem dL_isSoft_21 : decode cL_isSoft 21 = .ok (.ireturn, 1) := by decide +kernel
theorem dL_isSoft_22 : decode cL_isSoft 22 = .ok (.iconst 0, 1) := by decide +kernel
theorem dL_isSoft_23 : decode cL_isSoft 23 = .ok (.ireturn, 1) := by decide +kernel
set_option maxRecDepth 20000 in
theorem ggL_isEclipsed_X5_isEclipsed : GoodIn wsL_isEclipsed wsX5_isEclipsed := goodIn_ca (goodIn_ca (goodIn_ca (goodIn_r _ [6, 7, 8, 9, 10, 5, 11, 12, 13, 14, 15, 16, 17, 18, 19, 20, 21, 22, 23, 24, 25, 26, 27, 28, 29, 30, 31, 32, 33, 34, 35, 36, 37, 38, 39, 40, 41, 42, 43, 44, 45, 46, 47, 48, 49, 50, 51, 52, 53, 54, 55, 56, 57, 58, 59, 60, 61, 62, 63, 64, 65, 66, 67] (by decide +kernel) (by decide +kernel)) (goodIn_sub (fun _ h => List.mem_cons_of_mem _ (List.mem_append_left _ (List.mem_append_right _ h))) (by decide +kernel))) (goodIn_sub (fun _ h => List.mem_cons_of_mem _ (List.mem_append_left _ (List.mem_append_left _ (List.mem_append_right _ h)))) (by decide +kernel))) (goodIn_sub (fun _ h => List.mem_cons_of_mem _ (List.mem_append_right _ h)) (by decide +kernel))
set_option maxRecDepth 20000 in
theorem gL_isEclipsed_X5_isEclipsed : GoodIn wsL_isEclipsed (wsV RL 45 RX5 yX5_isEclipsed wsX5_isEclipsed) := goodIn_app (goodIn_of _ (by decide +kernel)) ggL_isEclipsed_X5_isEclipsed
theorem dL_isEclipsed_0 : decode cL_isEclipsed 0 = .ok (.aload_n 2, 1) := by decide +kernel
theorem dL_isEclipsed_1 : decode cL_isEclipsed 1 = .ok (.iconst 0, 1) := by decide +kernel
theorem dL_isEclipsed_2 : decode cL_isEclipsed 2 = .ok (.aload_n 0, 1) := by decide +kernel
theorem dL_isEclipsed_3 : decode cL_isEclipsed 3 = .ok (.iload_n 1, 1) := by decide +kernel
theorem dL_isEclipsed_4 : decode cL_isEclipsed 4 = .ok (.invokevirtual 45, 3) := by decide +kernel
theorem dL_isEclipsed_7 : decode cL_isEclipsed 7 = .ok (.ifCond .eq 7, 3) := by decide +kernel
theorem dL_isEclipsed_10 : decode cL_isEclipsed 10 = .ok (.lconst 1, 1) := by decide +kernel
theorem dL_isEclipsed_11 : decode cL_isEclipsed 11 = .ok (.goto 4, 3) := by decide +kernel
theorem dL_isEclipsed_14 : decode cL_isEclipsed 14 = .ok (.lconst 0, 1) := by decide +kernel
theorem dL_isEclipsed_15 : decode cL_isEclipsed 15 = .ok (.lastore, 1) := by decide +kernel
theorem dL_isEclipsed_16 : decode cL_isEclipsed 16 = .ok (.goto 6, 3) := by decide +kernel
theorem dL_isEclipsed_19 : decode cL_isEclipsed 19 = .ok (.astore_n 3, 1) := by decide +kernel
theorem dL_isEclipsed_20 : decode cL_isEclipsed 20 = .ok (.iconst 1, 1) := by decide +kernel
theorem dL_isEclipsed_21 : decode cL_isEclipsed 21 = .ok (.ireturn, 1) := by decide +kernel
theorem dL_isEclipsed_22 : decode cL_isEclipsed 22 = .ok (.iconst 0, 1) := by decide +kernel
theorem dL_isEclipsed_23 : decode cL_isEclipsed 23 = .ok (.ireturn, 1) := by decide +kernel
set_option maxRecDepth 20000 in
theorem ggL_placeToe_X5_placeToe : GoodIn wsL_placeToe wsX5_placeToe := goodIn_ca (goodIn_ca (goodIn_ca (goodIn_r _ [6, 7, 8, 9, 10, 11, 12, 13, 5, 14, 15, 16, 17, 18, 19, 20, 21, 22, 23, 24, 25, 26, 27, 28, 29, 30, 31, 32, 33, 34, 35, 36, 37, 38, 39, 40, 41, 42, 43, 44, 45, 46, 47, 48, 49, 50, 51, 52, 53, 54, 55, 56, 57, 58, 59, 60, 61, 62, 63, 64, 65, 66, 67, 68, 69, 70, 71, 72, 73, 74, 75, 76, 77, 78, 79, 80, 81] (by decide +kernel) (by decide +kernel)) (goodIn_sub (fun _ h => List.mem_cons_of_mem _ (List.mem_append_left _ (List.mem_append_right _ h))) (by decide +kernel))) (goodIn_sub (fun _ h => List.mem_cons_of_mem _ (List.mem_append_right _ h)) (by decide +kernel))) (goodIn_sub (fun _ h => List.mem_cons_of_mem _ (List.mem_append_left _ (List.mem_append_left _ (List.mem_append_right _ h)))) (by decide +kernel))
set_option maxRecDepth 20000 in
theorem gL_placeToe_X5_placeToe : GoodIn wsL_placeToe (wsV RL 48 RX5 yX5_placeToe wsX5_placeToe) := goodIn_app (goodIn_of _ (by decide +kernel)) ggL_placeToe_X5_placeToe
theorem dL_placeToe_0 : decode cL_placeToe 0 = .ok (.aload_n 2, 1) := by decide +kernel
theorem dL_placeToe_1 : decode cL_placeToe 1 = .ok (.iconst 0, 1) := by decide +kernel
theorem dL_placeToe_2 : decode cL_placeToe 2 = .ok (.aload_n 0, 1) := by decide +kernel
theorem dL_placeToe_3 : decode cL_placeToe 3 = .ok (.iload_n 1, 1) := by decide +kernel
theorem dL_placeToe_4 : decode cL_placeToe 4 = .ok (.invokevirtual 48, 3) := by decide +kernel
theorem dL_placeToe_7 : decode cL_placeToe 7 = .ok (.i2l, 1) := by decide +kernel
theorem dL_placeToe_8 : decode cL_placeToe 8 = .ok (.lastore, 1) := by decide +kernel
theorem dL_placeToe_9 : decode cL_placeToe 9 = .ok (.goto 9, 3) := by decide +kernel
theorem dL_placeToe_12 : decode cL_placeToe 12 = .ok (.astore_n 3, 1) := by decide +kernel
theorem dL_placeToe_13 : decode cL_placeToe 13 = .ok (.iconst 1, 1) := by decide +kernel
theorem dL_placeToe_14 : decode cL_placeToe 14 = .ok (.ireturn, 1) := by decide +kernel
theorem dL_placeToe_15 : decode cL_placeToe 15 = .ok (.astore_n 3, 1) := by decide +kernel
theorem dL_placeToe_16 : decode cL_placeToe 16 = .ok (.iconst 2, 1) := by decide +kernel
theorem dL_placeToe_17 : decode cL_placeToe 17 = .ok (.ireturn, 1) := by decide +kernel
theorem dL_placeToe_18 : decode cL_placeToe 18 = .ok (.iconst 0, 1) := by decide +kernel
theorem dL_placeToe_19 : decode cL_placeToe 19 = .ok (.ireturn, 1) := by decide +kernel
set_option maxRecDepth 20000 in
theorem ggL_removeToe_X5_removeToe : GoodIn wsL_removeToe wsX5_removeToe := goodIn_ca (goodIn_ca (goodIn_ca (goodIn_r _ [6, 7, 8, 9, 10, 11, 12, 13, 5, 14, 15, 16, 17, 18, 19, 20, 21, 22, 23, 24, 25, 26, 27, 28, 29, 30, 31, 32, 33, 34, 35, 36, 37, 38, 39, 40, 41, 42, 43, 44, 45, 46, 47, 48, 49, 50, 51, 52, 53, 54, 55, 56, 57, 58, 59, 60, 61, 62, 63, 64, 65, 66, 67, 68, 69, 70, 71, 72, 73, 74, 75, 76, 77] (by decide +kernel) (by decide +kernel)) (goodIn_sub (fun _ h => List.mem_cons_of_mem _ (List.mem_append_left _ (List.mem_append_right _ h))) (by decide +kernel))) (goodIn_sub (fun _ h => List.mem_cons_of_mem _ (List.mem_append_right _ h)) (by decide +kernel))) (goodIn_sub (fun _ h => List.mem_cons_of_mem _ (List.mem_append_left _ (List.mem_append_left _ (List.mem_append_right _ h)))) (by decide +kernel))
set_option maxRecDepth 20000 in
theorem gL_removeToe_X5_removeToe : GoodIn wsL_removeToe (wsV RL 51 RX5 yX5_removeToe wsX5_removeToe) := goodIn_app (goodIn_of _ (by decide +kernel)) ggL_removeToe_X5_removeToe
theorem dL_removeToe_0 : decode cL_removeToe 0 = .ok (.aload_n 2, 1) := by decide +kernel
theorem dL_removeToe_1 : decode cL_removeToe 1 = .ok (.iconst 0, 1) := by decide +kernel
theorem dL_removeToe_2 : decode cL_removeToe 2 = .ok (.aload_n 0, 1) := by decide +kernel
theorem dL_removeToe_3 : decode cL_removeToe 3 = .ok (.iload_n 1, 1) := by decide +kernel
theorem dL_removeToe_4 : decode cL_removeToe 4 = .ok (.invokevirtual 51, 3) := by decide +kernel
theorem dL_removeToe_7 : decode cL_removeToe 7 = .ok (.i2l, 1) := by decide +kernel
theorem dL_removeToe_8 : decode cL_removeToe 8 = .ok (.lastore, 1) := by decide +kernel
theorem dL_removeToe_9 : decode cL_removeToe 9 = .ok (.goto 9, 3) := by decide +kernel
theorem dL_removeToe_12 : decode cL_removeToe 12 = .ok (.astore_n 3, 1) := by decide +kernel
theorem dL_removeToe_13 : decode cL_removeToe 13 = .ok (.iconst 1, 1) := by decide +kernel
theorem dL_removeToe_14 : decode cL_removeToe 14 = .ok (.ireturn, 1) := by decide +kernel
theorem dL_removeToe_15 : decode cL_removeToe 15 = .ok (.astore_n 3, 1) := by decide +kernel
theorem dL_removeToe_16 : decode cL_removeToe 16 = .ok (.iconst 2, 1) := by decide +kernel
theorem dL_removeToe_17 : decode cL_removeToe 17 = .ok (.ireturn, 1) := by decide +kernel
theorem dL_removeToe_18 : decode cL_removeToe 18 = .ok (.iconst 0, 1) := by decide +kernel
theorem dL_removeToe_19 : decode cL_removeToe 19 = .ok (.ireturn, 1) := by decide +kernel
set_option maxRecDepth 20000 in
theorem ggL_hasToe_X5_hasToe : GoodIn wsL_hasToe wsX5_hasToe := goodIn_ca (goodIn_ca (goodIn_r _ [6, 7, 8, 9, 5, 10, 11, 12, 13, 14, 15, 16, 17, 18, 19, 20, 21, 22, 23, 24, 25, 26, 27, 28, 29, 30, 31, 32, 33, 34, 35, 36, 37, 38, 39, 40] (by decide +kernel) (by decide +kernel)) (goodIn_sub (fun _ h => List.mem_cons_of_mem _ (List.mem_append_right _ h)) (by decide +kernel))) (goodIn_sub (fun _ h => List.mem_cons_of_mem _ (List.mem_append_left _ (List.mem_append_right _ h))) (by decide +kernel))
set_option maxRecDepth 20000 in
theorem gL_hasToe_X5_hasToe : GoodIn wsL_hasToe (wsV RL 54 RX5 yX5_hasToe wsX5_hasToe) := goodIn_app (goodIn_of _ (by decide +kernel)) ggL_hasToe_X5_hasToe
theorem dL_hasToe_0 : decode cL_hasToe 0 = .ok (.aload_n 2, 1) := by decide +kernel
theorem dL_hasToe_1 : decode cL_hasToe 1 = .ok (.iconst 0, 1) := by decide +kernel
theorem dL_hasToe_2 : decode cL_hasToe 2 = .ok (.aload_n 0, 1) := by decide +kernel
theorem dL_hasToe_3 : decode cL_hasToe 3 = .ok (.iload_n 1, 1) := by decide +kernel
theorem dL_hasToe_4 : decode cL_hasToe 4 = .ok (.invokevirtual 54, 3) := by decide +kernel
theorem dL_hasToe_7 : decode cL_hasToe 7 = .ok (.ifCond .eq 7, 3) := by decide +kernel
theorem dL_hasToe_10 : decode cL_hasToe 10 = .ok (.lconst 1, 1) := by decide +kernel
theorem dL_hasToe_11 : decode cL_hasToe 11 = .ok (.goto 4, 3) := by decide +kernel
theorem dL_hasToe_14 : decode cL_hasToe 14 = .ok (.lconst 0, 1) := by decide +kernel
theorem dL_hasToe_15 : decode cL_hasToe 15 = .ok (.lastore, 1) := by decide +kernel
theorem dL_hasToe_16 : decode cL_hasToe 16 = .ok (.goto 6, 3) := by decide +kernel
theorem dL_hasToe_19 : decode cL_hasToe 19 = .ok (.astore_n 3, 1) := by decide +kernel
theorem dL_hasToe_20 : decode cL_hasToe 20 = .ok (.iconst 1, 1) := by decide +kernel
theorem dL_hasToe_21 : decode cL_hasToe 21 = .ok (.ireturn, 1) := by decide +kernel
theorem dL_hasToe_22 : decode cL_hasToe 22 = .ok (.iconst 0, 1) := by decide +kernel
theorem dL_hasToe_23 : decode cL_hasToe 23 = .ok (.ireturn, 1) := by decide +kernel
set_option maxRecDepth 20000 in
theorem ggL_insertPlug_X5_insertPlug : GoodIn wsL_insertPlug wsX5_insertPlug := goodIn_ca (goodIn_ca (goodIn_r _ [6, 7, 8, 9, 10, 11, 5, 12, 13, 14, 15, 16, 17, 18, 19, 20, 21, 22, 23, 24, 25, 26, 27, 28, 29, 30, 31, 32, 33, 34, 35, 36, 37, 38, 39, 40, 41, 42, 43, 44, 45, 46, 47, 48, 49, 50, 51, 52, 53, 54, 55, 56, 57, 58, 59, 60, 61, 62, 63, 64, 65, 66, 67, 68, 69, 70] (by decide +kernel) (by decide +kernel)) (goodIn_sub (fun _ h => List.mem_cons_of_mem _ (List.mem_append_right _ h)) (by decide +kernel))) (goodIn_sub (fun _ h => List.mem_cons_of_mem _ (List.mem_append_left _ (List.mem_append_right _ h))) (by decide +kernel))
set_option maxRecDepth 20000 in
theorem gL_insertPlug_X5_insertPlug : GoodIn wsL_insertPlug (wsV RL 57 RX5 yX5_insertPlug wsX5_insertPlug) := goodIn_app (goodIn_of _ (by decide +kernel)) ggL_insertPlug_X5_insertPlug
theorem dL_insertPlug_0 : decode cL_insertPlug 0 = .ok (.aload_n 2, 1) := by decide +kernel
theorem dL_insertPlug_1 : decode cL_insertPlug 1 = .ok (.iconst 0, 1) := by decide +kernel
theorem dL_insertPlug_2 : decode cL_insertPlug 2 = .ok (.aload_n 0, 1) := by decide +kernel
theorem dL_insertPlug_3 : decode cL_insertPlug 3 = .ok (.iload_n 1, 1) := by decide +kernel
theorem dL_insertPlug_4 : decode cL_insertPlug 4 = .ok (.invokevirtual 57, 3) := by decide +kernel
theorem dL_insertPlug_7 : decode cL_insertPlug 7 = .ok (.ifCond .eq 7, 3) := by decide +kernel
theorem dL_insertPlug_10 : decode cL_insertPlug 10 = .ok (.lconst 1, 1) := by decide +kernel
theorem dL_insertPlug_11 : decode cL_insertPlug 11 = .ok (.goto 4, 3) := by decide +kernel
theorem dL_insertPlug_14 : decode cL_insertPlug 14 = .ok (.lconst 0, 1) := by decide +kernel
theorem dL_insertPlug_15 : decode cL_insertPlug 15 = .ok (.lastore, 1) := by decide +kernel
theorem dL_insertPlug_16 : decode cL_insertPlug 16 = .ok (.goto 6, 3) := by decide +kernel
theorem dL_insertPlug_19 : decode cL_insertPlug 19 = .ok (.astore_n 3, 1) := by decide +kernel
theorem dL_insertPlug_20 : decode cL_insertPlug 20 = .ok (.iconst 1, 1) := by decide +kernel
theorem dL_insertPlug_21 : decode cL_insertPlug 21 = .ok (.ireturn, 1) := by decide +kernel
theorem dL_insertPlug_22 : decode cL_insertPlug 22 = .ok (.iconst 0, 1) := by decide +kernel
theorem dL_insertPlug_23 : decode cL_insertPlug 23 = .ok (.ireturn, 1) := by decide +kernel
set_option maxRecDepth 20000 in
theorem ggL_pullPlug_X5_pullPlug : GoodIn wsL_pullPlug wsX5_pullPlug := goodIn_ca (goodIn_ca (goodIn_r _ [6, 7, 8, 9, 10, 11, 12, 13, 14, 15, 16, 17, 18, 19, 20, 21, 22, 23, 24, 25, 26, 27, 28, 29, 30, 31, 32, 33, 34, 35, 36, 37, 38, 39, 40, 41, 42, 43, 44, 45, 46, 47, 48, 49, 50, 51, 52, 53, 54, 55, 56, 57, 58, 59, 60, 61, 62, 63, 64, 65, 66, 67, 68] (by decide +kernel) (by decide +kernel)) (goodIn_sub (fun _ h => List.mem_cons_of_mem _ (List.mem_append_right _ h)) (by decide +kernel))) (goodIn_sub (fun _ h => List.mem_cons_of_mem _ (List.mem_append_left _ (List.mem_append_right _ h))) (by decide +kernel))
set_option maxRecDepth 20000 in
theorem gL_pullPlug_X5_pullPlug : GoodIn wsL_pullPlug (wsV RL 60 RX5 yX5_pullPlug wsX5_pullPlug) := goodIn_app (goodIn_of _ (by decide +kernel)) ggL_pullPlug_X5_pullPlug
theorem dL_pullPlug_0 : decode cL_pullPlug 0 = .ok (.aload_n 1, 1) := by decide +kernel
theorem dL_pullPlug_1 : decode cL_pullPlug 1 = .ok (.iconst 0, 1) := by decide +kernel
theorem dL_pullPlug_2 : decode cL_pullPlug 2 = .ok (.aload_n 0, 1) := by decide +kernel
theorem dL_pullPlug_3 : decode cL_pullPlug 3 = .ok (.invokevirtual 60, 3) := by decide +kernel
theorem dL_pullPlug_6 : decode cL_pullPlug 6 = .ok (.i2l, 1) := by decide +kernel
theorem dL_pullPlug_7 : decode cL_pullPlug 7 = .ok (.lastore, 1) := by decide +kernel
theorem dL_pullPlug_8 : decode cL_pullPlug 8 = .ok (.goto 6, 3) := by decide +kernel
theorem dL_pullPlug_11 : decode cL_pullPlug 11 = .ok (.astore_n 2, 1) := by decide +kernel
theorem dL_pullPlug_12 : decode cL_pullPlug 12 = .ok (.iconst 1, 1) := by decide +kernel
theorem dL_pullPlug_13 : decode cL_pullPlug 13 = .ok (.ireturn, 1) := by decide +kernel
theorem dL_pullPlug_14 : decode cL_pullPlug 14 = .ok (.iconst 0, 1) := by decide +kernel
theorem dL_pullPlug_15 : decode cL_pullPlug 15 = .ok (.ireturn, 1) := by decide +kernel
set_option maxRecDepth 20000 in
theorem ggL_plugPosition_X5_plugPosition : GoodIn wsL_plugPosition wsX5_plugPosition := goodIn_ca (goodIn_ca (goodIn_r _ [6, 7, 8, 9, 10, 5, 11, 12, 13, 14, 15, 16, 17, 18, 19, 20, 21, 22, 23, 24, 25, 26, 27, 28, 29, 30, 31, 32, 33, 34, 35, 36, 37, 38, 39, 40, 41, 42] (by decide +kernel) (by decide +kernel)) (goodIn_sub (fun _ h => List.mem_cons_of_mem _ (List.mem_append_right _ h)) (by decide +kernel))) (goodIn_sub (fun _ h => List.mem_cons_of_mem _ (List.mem_append_left _ (List.mem_append_right _ h))) (by decide +kernel))
set_option maxRecDepth 20000 in
theorem gL_plugPosition_X5_plugPosition : GoodIn wsL_plugPosition (wsV RL 64 RX5 yX5_plugPosition wsX5_plugPosition) := goodIn_app (goodIn_of _ (by decide +kernel)) ggL_plugPosition_X5_plugPosition
theorem dL_plugPosition_0 : decode cL_plugPosition 0 = .ok (.aload_n 1, 1) := by decide +kernel
theorem dL_plugPosition_1 : decode cL_plugPosition 1 = .ok (.iconst 0, 1) := by decide +kernel
theorem dL_plugPosition_2 : decode cL_plugPosition 2 = .ok (.aload_n 0, 1) := by decide +kernel
theorem dL_plugPosition_3 : decode cL_plugPosition 3 = .ok (.invokevirtual 64, 3) := by decide +kernel
theorem dL_plugPosition_6 : decode cL_plugPosition 6 = .ok (.i2l, 1) := by decide +kernel
theorem dL_plugPosition_7 : decode cL_plugPosition 7 = .ok (.lastore, 1) := by decide +kernel
theorem dL_plugPosition_8 : decode cL_plugPosition 8 = .ok (.goto 6, 3) := by decide +kernel
theorem dL_plugPosition_11 : decode cL_plugPosition 11 = .ok (.astore_n 2, 1) := by decide +kernel
theorem dL_plugPosition_12 : decode cL_plugPosition 12 = .ok (.iconst 1, 1) := by decide +kernel
theorem dL_plugPosition_13 : decode cL_plugPosition 13 = .ok (.ireturn, 1) := by decide +kernel
theorem dL_plugPosition_14 : decode cL_plugPosition 14 = .ok (.iconst 0, 1) := by decide +kernel
theorem dL_plugPosition_15 : decode cL_plugPosition 15 = .ok (.ireturn, 1) := by decide +kernel
set_option maxRecDepth 20000 in
theorem ggL_layTowel_X5_layTowel : GoodIn wsL_layTowel wsX5_layTowel := goodIn_ca (goodIn_ca (goodIn_ca (goodIn_ca (goodIn_r _ [6, 7, 8, 9, 10, 11, 12, 13, 14, 15, 5, 16, 17, 18, 19, 20, 21, 22, 23, 24, 25, 26, 27, 28, 29, 30, 31, 32, 33, 34, 35, 36, 37, 38, 39, 40, 41, 42, 43, 44, 45, 46, 47, 48, 49, 50, 51, 52, 53, 54, 55, 56, 57, 58, 59, 60, 61, 62, 63, 64, 65, 66, 67, 68, 69, 70, 71, 72, 73, 74, 75, 76, 77, 78, 79, 80, 81, 82, 83, 84, 85, 86, 87, 88, 89] (by decide +kernel) (by decide +kernel)) (goodIn_sub (fun _ h => List.mem_cons_of_mem _ (List.mem_append_left _ (List.mem_append_left _ (List.mem_append_right _ h)))) (by decide +kernel))) (goodIn_sub (fun _ h => List.mem_cons_of_mem _ (List.mem_append_left _ (List.mem_append_right _ h))) (by decide +kernel))) (goodIn_sub (fun _ h => List.mem_cons_of_mem _ (List.mem_append_right _ h)) (by decide +kernel))) (goodIn_sub (fun _ h => List.mem_cons_of_mem _ (List.mem_append_left _ (List.mem_append_left _ (List.mem_append_left _ (List.mem_append_right _ h))))) (by decide +kernel))
set_option maxRecDepth 20000 in
theorem gL_layTowel_X5_layTowel : GoodIn wsL_layTowel (wsV RL 69 RX5 yX5_layTowel wsX5_layTowel) := goodIn_app (goodIn_of _ (by decide +kernel)) ggL_layTowel_X5_layTowel
theorem dL_layTowel_0 : decode cL_layTowel 0 = .ok (.aload_n 3, 1) := by decide +kernel
theorem dL_layTowel_1 : decode cL_layTowel 1 = .ok (.iconst 0, 1) := by decide +kernel
theorem dL_layTowel_2 : decode cL_layTowel 2 = .ok (.aload_n 0, 1) := by decide +kernel
theorem dL_layTowel_3 : decode cL_layTowel 3 = .ok (.iload_n 1, 1) := by decide +kernel
theorem dL_layTowel_4 : decode cL_layTowel 4 = .ok (.iload_n 2, 1) := by decide +kernel
theorem dL_layTowel_5 : decode cL_layTowel 5 = .ok (.invokevirtual 69, 3) := by decide +kernel
theorem dL_layTowel_8 : decode cL_layTowel 8 = .ok (.i2l, 1) := by decide +kernel
theorem dL_layTowel_9 : decode cL_layTowel 9 = .ok (.lastore, 1) := by decide +kernel
theorem dL_layTowel_10 : decode cL_layTowel 10 = .ok (.goto 15, 3) := by decide +kernel
theorem dL_layTowel_13 : decode cL_layTowel 13 = .ok (.astore 4, 2) := by decide +kernel
theorem dL_layTowel_15 : decode cL_layTowel 15 = .ok (.iconst 1, 1) := by decide +kernel
theorem dL_layTowel_16 : decode cL_layTowel 16 = .ok (.ireturn, 1) := by decide +kernel
theorem dL_layTowel_17 : decode cL_layTowel 17 = .ok (.astore 4, 2) := by decide +kernel
theorem dL_layTowel_19 : decode cL_layTowel 19 = .ok (.iconst 2, 1) := by decide +kernel
theorem dL_layTowel_20 : decode cL_layTowel 20 = .ok (.ireturn, 1) := by decide +kernel
theorem dL_layTowel_21 : decode cL_layTowel 21 = .ok (.astore 4, 2) := by decide +kernel
theorem dL_layTowel_23 : decode cL_layTowel 23 = .ok (.iconst 3, 1) := by decide +kernel
theorem dL_layTowel_24 : decode cL_layTowel 24 = .ok (.ireturn, 1) := by decide +kernel
theorem dL_layTowel_25 : decode cL_layTowel 25 = .ok (.iconst 0, 1) := by decide +kernel
theorem dL_layTowel_26 : decode cL_layTowel 26 = .ok (.ireturn, 1) := by decide +kernel
set_option maxRecDepth 20000 in
theorem ggL_removeTowel_X5_removeTowel : GoodIn wsL_removeTowel wsX5_removeTowel := goodIn_ca (goodIn_ca (goodIn_r _ [6, 7, 8, 9, 10, 11, 12, 5, 13, 14, 15, 16, 17, 18, 19, 20, 21, 22, 23, 24, 25, 26, 27, 28, 29, 30, 31, 32, 33, 34, 35, 36, 37, 38, 39, 40, 41, 42, 43, 44, 45, 46, 47, 48, 49, 50, 51, 52, 53, 54, 55, 56, 57, 58, 59, 60, 61, 62, 63, 64, 65, 66, 67, 68, 69, 70, 71, 72, 73, 74, 75, 76, 77, 78, 79, 80, 81, 82, 83, 84, 85, 86] (by decide +kernel) (by decide +kernel)) (goodIn_sub (fun _ h => List.mem_cons_of_mem _ (List.mem_append_right _ h)) (by decide +kernel))) (goodIn_sub (fun _ h => List.mem_cons_of_mem _ (List.mem_append_left _ (List.mem_append_right _ h))) (by decide +kernel))
set_option maxRecDepth 20000 in
theorem gL_removeTowel_X5_removeTowel : GoodIn wsL_removeTowel (wsV RL 73 RX5 yX5_removeTowel wsX5_removeTowel) := goodIn_app (goodIn_of _ (by decide +kernel)) ggL_removeTowel_X5_removeTowel
theorem dL_removeTowel_0 : decode cL_removeTowel 0 = .ok (.aload_n 2, 1) := by decide +kernel
theorem dL_removeTowel_1 : decode cL_removeTowel 1 = .ok (.iconst 0, 1) := by decide +kernel
theorem dL_removeTowel_2 : decode cL_removeTowel 2 = .ok (.aload_n 0, 1) := by decide +kernel
theorem dL_removeTowel_3 : decode cL_removeTowel 3 = .ok (.iload_n 1, 1) := by decide +kernel
theorem dL_removeTowel_4 : decode cL_removeTowel 4 = .ok (.invokevirtual 73, 3) := by decide +kernel
theorem dL_removeTowel_7 : decode cL_removeTowel 7 = .ok (.i2l, 1) := by decide +kernel
theorem dL_removeTowel_8 : decode cL_removeTowel 8 = .ok (.lastore, 1) := by decide +kernel
theorem dL_removeTowel_9 : decode cL_removeTowel 9 = .ok (.goto 6, 3) := by decide +kernel
theorem dL_removeTowel_12 : decode cL_removeTowel 12 = .ok (.astore_n 3, 1) := by decide +kernel
theorem dL_removeTowel_13 : decode cL_removeTowel 13 = .ok (.iconst 1, 1) := by decide +kernel
theorem dL_removeTowel_14 : decode cL_removeTowel 14 = .ok (.ireturn, 1) := by decide +kernel
theorem dL_removeTowel_15 : decode cL_removeTowel 15 = .ok (.iconst 0, 1) := by decide +kernel
theorem dL_removeTowel_16 : decode cL_removeTowel 16 = .ok (.ireturn, 1) := by decide +kernel
set_option maxRecDepth 20000 in
theorem ggL_wringTowel_X5_wringTowel : GoodIn wsL_wringTowel wsX5_wringTowel := goodIn_ca (goodIn_ca (goodIn_r _ [6, 7, 8, 9, 10, 11, 12, 5, 13, 14, 15, 16, 17, 18, 19, 20, 21, 22, 23, 24, 25, 26, 27, 28, 29, 30, 31, 32, 33, 34, 35, 36, 37, 38, 39, 40, 41, 42, 43, 44, 45, 46, 47, 48, 49, 50, 51, 52, 53, 54, 55, 56, 57, 58, 59, 60, 61, 62, 63, 64, 65, 66, 67, 68, 69, 70, 71, 72, 73, 74, 75, 76, 77, 78, 79, 80, 81] (by decide +kernel) (by decide +kernel)) (goodIn_sub (fun _ h => List.mem_cons_of_mem _ (List.mem_append_right _ h)) (by decide +kernel))) (goodIn_sub (fun _ h => List.mem_cons_of_mem _ (List.mem_append_left _ (List.mem_append_right _ h))) (by decide +kernel))
set_option maxRecDepth 20000 in
theorem gL_wringTowel_X5_wringTowel : GoodIn wsL_wringTowel (wsV RL 76 RX5 yX5_wringTowel wsX5_wringTowel) := goodIn_app (goodIn_of _ (by decide +kernel)) ggL_wringTowel_X5_wringTowel
theorem dL_wringTowel_0 : decode cL_wringTowel 0 = .ok (.aload_n 2, 1) := by decide +kernel
theorem dL_wringTowel_1 : decode cL_wringTowel 1 = .ok (.iconst 0, 1) := by decide +kernel
theorem dL_wringTowel_2 : decode cL_wringTowel 2 = .ok (.aload_n 0, 1) := by decide +kernel
theorem dL_wringTowel_3 : decode cL_wringTowel 3 = .ok (.iload_n 1, 1) := by decide +kernel
theorem dL_wringTowel_4 : decode cL_wringTowel 4 = .ok (.invokevirtual 76, 3) := by decide +kernel
theorem dL_wringTowel_7 : decode cL_wringTowel 7 = .ok (.i2l, 1) := by decide +kernel
theorem dL_wringTowel_8 : decode cL_wringTowel 8 = .ok (.lastore, 1) := by decide +kernel
theorem dL_wringTowel_9 : decode cL_wringTowel 9 = .ok (.goto 6, 3) := by decide +kernel
theorem dL_wringTowel_12 : decode cL_wringTowel 12 = .ok (.astore_n 3, 1) := by decide +kernel
theorem dL_wringTowel_13 : decode cL_wringTowel 13 = .ok (.iconst 1, 1) := by decide +kernel
theorem dL_wringTowel_14 : decode cL_wringTowel 14 = .ok (.ireturn, 1) := by decide +kernel
theorem dL_wringTowel_15 : decode cL_wringTowel 15 = .ok (.iconst 0, 1) := by decide +kernel
theorem dL_wringTowel_16 : decode cL_wringTowel 16 = .ok (.ireturn, 1) := by decide +kernel
set_option maxRecDepth 20000 in
theorem ggL_shoreOf_X5_shoreOf : GoodIn wsL_shoreOf wsX5_shoreOf := goodIn_ca (goodIn_ca (goodIn_r _ [6, 7, 8, 9, 10, 5, 11, 12, 13, 14, 15, 16, 17, 18, 19, 20, 21, 22, 23, 24, 25, 26, 27, 28, 29, 30, 31, 32, 33, 34, 35, 36, 37, 38, 39, 40, 41, 42, 43, 44, 45] (by decide +kernel) (by decide +kernel)) (goodIn_sub (fun _ h => List.mem_cons_of_mem _ (List.mem_append_right _ h)) (by decide +kernel))) (goodIn_sub (fun _ h => List.mem_cons_of_mem _ (List.mem_append_left _ (List.mem_append_right _ h))) (by decide +kernel))
set_option maxRecDepth 20000 in
theorem gL_shoreOf_X5_shoreOf : GoodIn wsL_shoreOf (wsV RL 79 RX5 yX5_shoreOf wsX5_shoreOf) := goodIn_app (goodIn_of _ (by decide +kernel)) ggL_shoreOf_X5_shoreOf
theorem dL_shoreOf_0 : decode cL_shoreOf 0 = .ok (.aload_n 2, 1) := by decide +kernel
theorem dL_shoreOf_1 : decode cL_shoreOf 1 = .ok (.iconst 0, 1) := by decide +kernel
theorem dL_shoreOf_2 : decode cL_shoreOf 2 = .ok (.aload_n 0, 1) := by decide +kernel
theorem dL_shoreOf_3 : decode cL_shoreOf 3 = .ok (.iload_n 1, 1) := by decide +kernel
theorem dL_shoreOf_4 : decode cL_shoreOf 4 = .ok (.invokevirtual 79, 3) := by decide +kernel
theorem dL_shoreOf_7 : decode cL_shoreOf 7 = .ok (.i2l, 1) := by decide +kernel
theorem dL_shoreOf_8 : decode cL_shoreOf 8 = .ok (.lastore, 1) := by decide +kernel
theorem dL_shoreOf_9 : decode cL_shoreOf 9 = .ok (.goto 6, 3) := by decide +kernel
theorem dL_shoreOf_12 : decode cL_shoreOf 12 = .ok (.astore_n 3, 1) := by decide +kernel
theorem dL_shoreOf_13 : decode cL_shoreOf 13 = .ok (.iconst 1, 1) := by decide +kernel
theorem dL_shoreOf_14 : decode cL_shoreOf 14 = .ok (.ireturn, 1) := by decide +kernel
theorem dL_shoreOf_15 : decode cL_shoreOf 15 = .ok (.iconst 0, 1) := by decide +kernel
theorem dL_shoreOf_16 : decode cL_shoreOf 16 = .ok (.ireturn, 1) := by decide +kernel
set_option maxRecDepth 20000 in
theorem ggL_heightOf_X5_heightOf : GoodIn wsL_heightOf wsX5_heightOf := goodIn_ca (goodIn_ca (goodIn_r _ [6, 7, 8, 9, 10, 5, 11, 12, 13, 14, 15, 16, 17, 18, 19, 20, 21, 22, 23, 24, 25, 26, 27, 28, 29, 30, 31, 32, 33, 34, 35, 36, 37, 38, 39, 40, 41, 42, 43, 44, 45] (by decide +kernel) (by decide +kernel)) (goodIn_sub (fun _ h => List.mem_cons_of_mem _ (List.mem_append_right _ h)) (by decide +kernel))) (goodIn_sub (fun _ h => List.mem_cons_of_mem _ (List.mem_append_left _ (List.mem_append_right _ h))) (by decide +kernel))
set_option maxRecDepth 20000 in
theorem gL_heightOf_X5_heightOf : GoodIn wsL_heightOf (wsV RL 82 RX5 yX5_heightOf wsX5_heightOf) := goodIn_app (goodIn_of _ (by decide +kernel)) ggL_heightOf_X5_heightOf
theorem dL_heightOf_0 : decode cL_heightOf 0 = .ok (.aload_n 2, 1) := by decide +kernel
theorem dL_heightOf_1 : decode cL_heightOf 1 = .ok (.iconst 0, 1) := by decide +kernel
theorem dL_heightOf_2 : decode cL_heightOf 2 = .ok (.aload_n 0, 1) := by decide +kernel
theorem dL_heightOf_3 : decode cL_heightOf 3 = .ok (.iload_n 1, 1) := by decide +kernel
theorem dL_heightOf_4 : decode cL_heightOf 4 = .ok (.invokevirtual 82, 3) := by decide +kernel
theorem dL_heightOf_7 : decode cL_heightOf 7 = .ok (.i2l, 1) := by decide +kernel
theorem dL_heightOf_8 : decode cL_heightOf 8 = .ok (.lastore, 1) := by decide +kernel
theorem dL_heightOf_9 : decode cL_heightOf 9 = .ok (.goto 6, 3) := by decide +kernel
theorem dL_heightOf_12 : decode cL_heightOf 12 = .ok (.astore_n 3, 1) := by decide +kernel
theorem dL_heightOf_13 : decode cL_heightOf 13 = .ok (.iconst 1, 1) := by decide +kernel
theorem dL_heightOf_14 : decode cL_heightOf 14 = .ok (.ireturn, 1) := by decide +kernel
theorem dL_heightOf_15 : decode cL_heightOf 15 = .ok (.iconst 0, 1) := by decide +kernel
theorem dL_heightOf_16 : decode cL_heightOf 16 = .ok (.ireturn, 1) := by decide +kernel
set_option maxRecDepth 20000 in
theorem ggL_absorbedBy_X5_absorbedBy : GoodIn wsL_absorbedBy wsX5_absorbedBy := goodIn_ca (goodIn_ca (goodIn_r _ [6, 7, 8, 9, 10, 5, 11, 12, 13, 14, 15, 16, 17, 18, 19, 20, 21, 22, 23, 24, 25, 26, 27, 28, 29, 30, 31, 32, 33, 34, 35, 36, 37, 38, 39, 40, 41, 42, 43, 44, 45] (by decide +kernel) (by decide +kernel)) (goodIn_sub (fun _ h => List.mem_cons_of_mem _ (List.mem_append_right _ h)) (by decide +kernel))) (goodIn_sub (fun _ h => List.mem_cons_of_mem _ (List.mem_append_left _ (List.mem_append_right _ h))) (by decide +kernel))
set_option maxRecDepth 20000 in
theorem gL_absorbedBy_X5_absorbedBy : GoodIn wsL_absorbedBy (wsV RL 85 RX5 yX5_absorbedBy wsX5_absorbedBy) := goodIn_app (goodIn_of _ (by decide +kernel)) ggL_absorbedBy_X5_absorbedBy
theorem dL_absorbedBy_0 : decode cL_absorbedBy 0 = .ok (.aload_n 2, 1) := by decide +kernel
theorem dL_absorbedBy_1 : decode cL_absorbedBy 1 = .ok (.iconst 0, 1) := by decide +kernel
theorem dL_absorbedBy_2 : decode cL_absorbedBy 2 = .ok (.aload_n 0, 1) := by decide +kernel
theorem dL_absorbedBy_3 : decode cL_absorbedBy 3 = .ok (.iload_n 1, 1) := by decide +kernel
theorem dL_absorbedBy_4 : decode cL_absorbedBy 4 = .ok (.invokevirtual 85, 3) := by decide +kernel
theorem dL_absorbedBy_7 : decode cL_absorbedBy 7 = .ok (.i2l, 1) := by decide +kernel
theorem dL_absorbedBy_8 : decode cL_absorbedBy 8 = .ok (.lastore, 1) := by decide +kernel
theorem dL_absorbedBy_9 : decode cL_absorbedBy 9 = .ok (.goto 6, 3) := by decide +kernel
theorem dL_absorbedBy_12 : decode cL_absorbedBy 12 = .ok (.astore_n 3, 1) := by decide +kernel
theorem dL_absorbedBy_13 : decode cL_absorbedBy 13 = .ok (.iconst 1, 1) := by decide +kernel
theorem dL_absorbedBy_14 : decode cL_absorbedBy 14 = .ok (.ireturn, 1) := by decide +kernel
theorem dL_absorbedBy_15 : decode cL_absorbedBy 15 = .ok (.iconst 0, 1) := by decide +kernel
theorem dL_absorbedBy_16 : decode cL_absorbedBy 16 = .ok (.ireturn, 1) := by decide +kernel
set_option maxRecDepth 20000 in
theorem ggL_floodsOf_X5_floodsOf : GoodIn wsL_floodsOf wsX5_floodsOf := goodIn_ca (goodIn_ca (goodIn_r _ [6, 7, 8, 9, 10, 5, 11, 12, 13, 14, 15, 16, 17, 18, 19, 20, 21, 22, 23, 24, 25, 26, 27, 28, 29, 30, 31, 32, 33, 34, 35, 36, 37, 38, 39, 40, 41, 42, 43, 44, 45] (by decide +kernel) (by decide +kernel)) (goodIn_sub (fun _ h => List.mem_cons_of_mem _ (List.mem_append_right _ h)) (by decide +kernel))) (goodIn_sub (fun _ h => List.mem_cons_of_mem _ (List.mem_append_left _ (List.mem_append_right _ h))) (by decide +kernel))
set_option maxRecDepth 20000 in
theorem gL_floodsOf_X5_floodsOf : GoodIn wsL_floodsOf (wsV RL 88 RX5 yX5_floodsOf wsX5_floodsOf) := goodIn_app (goodIn_of _ (by decide +kernel)) ggL_floodsOf_X5_floodsOf
theorem dL_floodsOf_0 : decode cL_floodsOf 0 = .ok (.aload_n 2, 1) := by decide +kernel
theorem dL_floodsOf_1 : decode cL_floodsOf 1 = .ok (.iconst 0, 1) := by decide +kernel
theorem dL_floodsOf_2 : decode cL_floodsOf 2 = .ok (.aload_n 0, 1) := by decide +kernel
theorem dL_floodsOf_3 : decode cL_floodsOf 3 = .ok (.iload_n 1, 1) := by decide +kernel
theorem dL_floodsOf_4 : decode cL_floodsOf 4 = .ok (.invokevirtual 88, 3) := by decide +kernel
theorem dL_floodsOf_7 : decode cL_floodsOf 7 = .ok (.i2l, 1) := by decide +kernel
theorem dL_floodsOf_8 : decode cL_floodsOf 8 = .ok (.lastore, 1) := by decide +kernel
theorem dL_floodsOf_9 : decode cL_floodsOf 9 = .ok (.goto 6, 3) := by decide +kernel
theorem dL_floodsOf_12 : decode cL_floodsOf 12 = .ok (.astore_n 3, 1) := by decide +kernel
theorem dL_floodsOf_13 : decode cL_floodsOf 13 = .ok (.iconst 1, 1) := by decide +kernel
theorem dL_floodsOf_14 : decode cL_floodsOf 14 = .ok (.ireturn, 1) := by decide +kernel
theorem dL_floodsOf_15 : decode cL_floodsOf 15 = .ok (.iconst 0, 1) := by decide +kernel
theorem dL_floodsOf_16 : decode cL_floodsOf 16 = .ok (.ireturn, 1) := by decide +kernel
set_option maxRecDepth 20000 in
theorem ggL_setFlow_X5_setFlow : GoodIn wsL_setFlow wsX5_setFlow := goodIn_ca (goodIn_ca (goodIn_r _ [6, 7, 8, 9, 10, 11, 12, 13, 14, 15, 16, 17, 18, 19, 20, 21, 22, 23, 24, 25, 26, 27, 28, 29, 30, 31, 32, 33, 34, 35, 36, 37, 38, 39, 40, 41, 42, 43, 44, 45, 46, 47, 48, 49, 50, 51, 52, 53, 54, 55, 56, 57, 58, 59, 60, 61, 62, 63] (by decide +kernel) (by decide +kernel)) (goodIn_sub (fun _ h => List.mem_cons_of_mem _ (List.mem_append_right _ h)) (by decide +kernel))) (goodIn_sub (fun _ h => List.mem_cons_of_mem _ (List.mem_append_left _ (List.mem_append_right _ h))) (by decide +kernel))
set_option maxRecDepth 20000 in
theorem gL_setFlow_X5_setFlow : GoodIn wsL_setFlow (wsV RL 91 RX5 yX5_setFlow wsX5_setFlow) := goodIn_app (goodIn_of _ (by decide +kernel)) ggL_setFlow_X5_setFlow
theorem dL_setFlow_0 : decode cL_setFlow 0 = .ok (.aload_n 2, 1) := by decide +kernel
theorem dL_setFlow_1 : decode cL_setFlow 1 = .ok (.iconst 0, 1) := by decide +kernel
theorem dL_setFlow_2 : decode cL_setFlow 2 = .ok (.aload_n 0, 1) := by decide +kernel
theorem dL_setFlow_3 : decode cL_setFlow 3 = .ok (.iload_n 1, 1) := by decide +kernel
theorem dL_setFlow_4 : decode cL_setFlow 4 = .ok (.invokevirtual 91, 3) := by decide +kernel
theorem dL_setFlow_7 : decode cL_setFlow 7 = .ok (.i2l, 1) := by decide +kernel
theorem dL_setFlow_8 : decode cL_setFlow 8 = .ok (.lastore, 1) := by decide +kernel
theorem dL_setFlow_9 : decode cL_setFlow 9 = .ok (.goto 6, 3) := by decide +kernel
theorem dL_setFlow_12 : decode cL_setFlow 12 = .ok (.astore_n 3, 1) := by decide +kernel
theorem dL_setFlow_13 : decode cL_setFlow 13 = .ok (.iconst 1, 1) := by decide +kernel
theorem dL_setFlow_14 : decode cL_setFlow 14 = .ok (.ireturn, 1) := by decide +kernel
theorem dL_setFlow_15 : decode cL_setFlow 15 = .ok (.iconst 0, 1) := by decide +kernel
theorem dL_setFlow_16 : decode cL_setFlow 16 = .ok (.ireturn, 1) := by decide +kernel
set_option maxRecDepth 20000 in
theorem ggL_advance_X5_advance : GoodIn wsL_advance wsX5_advance := goodIn_ca (goodIn_ca (goodIn_ca (goodIn_r _ [6, 7, 8, 9, 10, 11, 12, 13, 14, 15, 16, 17, 18, 19, 20, 21, 22, 23, 24, 25, 26, 27, 28, 29, 30, 31, 32, 33, 34, 35, 36, 37, 38, 39, 40, 41, 42, 43, 44, 45, 46, 47, 48, 49, 50, 51, 52, 53, 54, 55, 56, 57, 58, 59, 60, 61, 62, 63, 64, 65, 66, 67, 68, 69, 70, 71, 72, 73, 74, 75, 76, 77, 78, 79, 80, 81, 82, 83, 84, 85, 86, 87, 88, 89, 90, 91, 92, 93, 94, 95, 96, 97, 98, 99, 100, 101, 102, 103, 104, 105, 106, 107, 108, 109, 110, 111, 112, 113, 114, 115, 116, 117, 118, 119, 120, 121, 122, 123, 124, 125, 126, 127, 128, 129, 130, 131, 132, 133, 134, 135, 136, 137, 138, 139, 140, 141, 142, 143, 144, 145, 146, 147, 148] (by decide +kernel) (by decide +kernel)) (goodIn_sub (fun _ h => List.mem_cons_of_mem _ (List.mem_append_left _ (List.mem_append_right _ h))) (by decide +kernel))) (goodIn_sub (fun _ h => List.mem_cons_of_mem _ (List.mem_append_left _ (List.mem_append_left _ (List.mem_append_right _ h)))) (by decide +kernel))) (goodIn_sub (fun _ h => List.mem_cons_of_mem _ (List.mem_append_right _ h)) (by decide +kernel))
set_option maxRecDepth 20000 in
theorem gL_advance_X5_advance : GoodIn wsL_advance (wsV RL 94 RX5 yX5_advance wsX5_advance) := goodIn_app (goodIn_of _ (by decide +kernel)) ggL_advance_X5_advance
theorem dL_advance_0 : decode cL_advance 0 = .ok (.aload_n 2, 1) := by decide +kernel
theorem dL_advance_1 : decode cL_advance 1 = .ok (.iconst 0, 1) := by decide +kernel
theorem dL_advance_2 : decode cL_advance 2 = .ok (.aload_n 0, 1) := by decide +kernel
theorem dL_advance_3 : decode cL_advance 3 = .ok (.iload_n 1, 1) := by decide +kernel
theorem dL_advance_4 : decode cL_advance 4 = .ok (.invokevirtual 94, 3) := by decide +kernel
theorem dL_advance_7 : decode cL_advance 7 = .ok (.i2l, 1) := by decide +kernel
theorem dL_advance_8 : decode cL_advance 8 = .ok (.lastore, 1) := by decide +kernel
theorem dL_advance_9 : decode cL_advance 9 = .ok (.goto 6, 3) := by decide +kernel
theorem dL_advance_12 : decode cL_advance 12 = .ok (.astore_n 3, 1) := by decide +kernel
theorem dL_advance_13 : decode cL_advance 13 = .ok (.iconst 1, 1) := by decide +kernel
theorem dL_advance_14 : decode cL_advance 14 = .ok (.ireturn, 1) := by decide +kernel
theorem dL_advance_15 : decode cL_advance 15 = .ok (.iconst 0, 1) := by decide +kernel
theorem dL_advance_16 : decode cL_advance 16 = .ok (.ireturn, 1) := by decide +kernel
set_option maxRecDepth 20000 in
theorem ggL_tideAt_X5_tideAt : GoodIn wsL_tideAt wsX5_tideAt := goodIn_ca (goodIn_ca (goodIn_ca (goodIn_r _ [6, 7, 8, 9, 5, 10, 11, 12, 13, 14, 15, 16, 17, 18, 19, 20, 21, 22, 23, 24, 25, 26, 27, 28, 29, 30, 31, 32, 33, 34, 35, 36, 37, 38, 39, 40, 41, 42, 43, 44, 45, 46, 47, 48, 49, 50, 51, 52, 53, 54, 55, 56, 57, 58, 59, 60, 61, 62, 63, 64, 65, 66, 67, 68, 69, 70, 71, 72, 73, 74, 75, 76, 77, 78, 79, 80, 81, 82, 83, 84, 85, 86, 87, 88, 89, 90, 91, 92, 93, 94, 95, 96, 97] (by decide +kernel) (by decide +kernel)) (goodIn_sub (fun _ h => List.mem_cons_of_mem _ (List.mem_append_left _ (List.mem_append_right _ h))) (by decide +kernel))) (goodIn_sub (fun _ h => List.mem_cons_of_mem _ (List.mem_append_left _ (List.mem_append_left _ (List.mem_append_right _ h)))) (by decide +kernel))) (goodIn_sub (fun _ h => List.mem_cons_of_mem _ (List.mem_append_right _ h)) (by decide +kernel))
set_option maxRecDepth 20000 in
theorem gL_tideAt_X5_tideAt : GoodIn wsL_tideAt (wsV RL 97 RX5 yX5_tideAt wsX5_tideAt) := goodIn_app (goodIn_of _ (by decide +kernel)) ggL_tideAt_X5_tideAt
theorem dL_tideAt_0 : decode cL_tideAt 0 = .ok (.aload_n 2, 1) := by decide +kernel
theorem dL_tideAt_1 : decode cL_tideAt 1 = .ok (.iconst 0, 1) := by decide +kernel
theorem dL_tideAt_2 : decode cL_tideAt 2 = .ok (.aload_n 0, 1) := by decide +kernel
theorem dL_tideAt_3 : decode cL_tideAt 3 = .ok (.iload_n 1, 1) := by decide +kernel
theorem dL_tideAt_4 : decode cL_tideAt 4 = .ok (.invokevirtual 97, 3) := by decide +kernel
theorem dL_tideAt_7 : decode cL_tideAt 7 = .ok (.i2l, 1) := by decide +kernel
theorem dL_tideAt_8 : decode cL_tideAt 8 = .ok (.lastore, 1) := by decide +kernel
theorem dL_tideAt_9 : decode cL_tideAt 9 = .ok (.goto 6, 3) := by decide +kernel
theorem dL_tideAt_12 : decode cL_tideAt 12 = .ok (.astore_n 3, 1) := by decide +kernel
theorem dL_tideAt_13 : decode cL_tideAt 13 = .ok (.iconst 1, 1) := by decide +kernel
theorem dL_tideAt_14 : decode cL_tideAt 14 = .ok (.ireturn, 1) := by decide +kernel
theorem dL_tideAt_15 : decode cL_tideAt 15 = .ok (.iconst 0, 1) := by decide +kernel
theorem dL_tideAt_16 : decode cL_tideAt 16 = .ok (.ireturn, 1) := by decide +kernel
set_option maxRecDepth 20000 in
theorem ggL_levelAt_X5_levelAt : GoodIn wsL_levelAt wsX5_levelAt := goodIn_ca (goodIn_ca (goodIn_ca (goodIn_r _ [6, 7, 8, 9, 5, 10, 11, 12, 13, 14, 15, 16, 17, 18, 19, 20, 21, 22, 23, 24, 25, 26, 27, 28, 29, 30, 31, 32, 33, 34, 35, 36, 37, 38, 39, 40, 41, 42, 43, 44, 45, 46, 47, 48, 49, 50, 51, 52, 53, 54, 55, 56, 57, 58, 59, 60, 61, 62, 63, 64, 65, 66, 67, 68, 69, 70, 71, 72, 73, 74, 75, 76, 77, 78, 79, 80, 81, 82, 83, 84, 85, 86, 87, 88, 89, 90, 91, 92, 93, 94, 95, 96, 97, 98, 99, 100, 101] (by decide +kernel) (by decide +kernel)) (goodIn_sub (fun _ h => List.mem_cons_of_mem _ (List.mem_append_left _ (List.mem_append_right _ h))) (by decide +kernel))) (goodIn_sub (fun _ h => List.mem_cons_of_mem _ (List.mem_append_left _ (List.mem_append_left _ (List.mem_append_right _ h)))) (by decide +kernel))) (goodIn_sub (fun _ h => List.mem_cons_of_mem _ (List.mem_append_right _ h)) (by decide +kernel))
set_option maxRecDepth 20000 in
theorem gL_levelAt_X5_levelAt : GoodIn wsL_levelAt (wsV RL 100 RX5 yX5_levelAt wsX5_levelAt) := goodIn_app (goodIn_of _ (by decide +kernel)) ggL_levelAt_X5_levelAt
theorem dL_levelAt_0 : decode cL_levelAt 0 = .ok (.aload_n 2, 1) := by decide +kernel
theorem dL_levelAt_1 : decode cL_levelAt 1 = .ok (.iconst 0, 1) := by decide +kernel
theorem dL_levelAt_2 : decode cL_levelAt 2 = .ok (.aload_n 0, 1) := by decide +kernel
theorem dL_levelAt_3 : decode cL_levelAt 3 = .ok (.iload_n 1, 1) := by decide +kernel
theorem dL_levelAt_4 : decode cL_levelAt 4 = .ok (.invokevirtual 100, 3) := by decide +kernel
theorem dL_levelAt_7 : decode cL_levelAt 7 = .ok (.i2l, 1) := by decide +kernel
theorem dL_levelAt_8 : decode cL_levelAt 8 = .ok (.lastore, 1) := by decide +kernel
theorem dL_levelAt_9 : decode cL_levelAt 9 = .ok (.goto 6, 3) := by decide +kernel
theorem dL_levelAt_12 : decode cL_levelAt 12 = .ok (.astore_n 3, 1) := by decide +kernel
theorem dL_levelAt_13 : decode cL_levelAt 13 = .ok (.iconst 1, 1) := by decide +kernel
theorem dL_levelAt_14 : decode cL_levelAt 14 = .ok (.ireturn, 1) := by decide +kernel
theorem dL_levelAt_15 : decode cL_levelAt 15 = .ok (.iconst 0, 1) := by decide +kernel
theorem dL_levelAt_16 : decode cL_levelAt 16 = .ok (.ireturn, 1) := by decide +kernel
set_option maxRecDepth 20000 in
theorem ggL_tideIn_X5_tideIn : GoodIn wsL_tideIn wsX5_tideIn := goodIn_ca (goodIn_ca (goodIn_ca (goodIn_ca (goodIn_r _ [6, 7, 8, 9, 5, 10, 11, 12, 13, 14, 15, 16, 17, 18, 19, 20, 21, 22, 23, 24, 25, 26, 27, 28, 29, 30, 31, 32, 33, 34, 35, 36, 37, 38, 39, 40, 41, 42, 43, 44, 45, 46, 47, 48, 49, 50, 51, 52, 53, 54, 55, 56, 57, 58, 59, 60, 61, 62, 63, 64, 65, 66, 67, 68, 69, 70, 71, 72, 73, 74, 75, 76, 77, 78, 79, 80, 81, 82, 83, 84, 85, 86, 87, 88, 89, 90, 91, 92, 93, 94, 95, 96, 97, 98, 99, 100, 101, 102] (by decide +kernel) (by decide +kernel)) (goodIn_sub (fun _ h => List.mem_cons_of_mem _ (List.mem_append_left _ (List.mem_append_left _ (List.mem_append_right _ h)))) (by decide +kernel))) (goodIn_sub (fun _ h => List.mem_cons_of_mem _ (List.mem_append_left _ (List.mem_append_right _ h))) (by decide +kernel))) (goodIn_sub (fun _ h => List.mem_cons_of_mem _ (List.mem_append_left _ (List.mem_append_left _ (List.mem_append_left _ (List.mem_append_right _ h))))) (by decide +kernel))) (goodIn_sub (fun _ h => List.mem_cons_of_mem _ (List.mem_append_right _ h)) (by decide +kernel))
set_option maxRecDepth 20000 in
theorem gL_tideIn_X5_tideIn : GoodIn wsL_tideIn (wsV RL 103 RX5 yX5_tideIn wsX5_tideIn) := goodIn_app (goodIn_of _ (by decide +kernel)) ggL_tideIn_X5_tideIn
theorem dL_tideIn_0 : decode cL_tideIn 0 = .ok (.aload_n 3, 1) := by decide +kernel
theorem dL_tideIn_1 : decode cL_tideIn 1 = .ok (.iconst 0, 1) := by decide +kernel
theorem dL_tideIn_2 : decode cL_tideIn 2 = .ok (.aload_n 0, 1) := by decide +kernel
theorem dL_tideIn_3 : decode cL_tideIn 3 = .ok (.iload_n 1, 1) := by decide +kernel
theorem dL_tideIn_4 : decode cL_tideIn 4 = .ok (.iload_n 2, 1) := by decide +kernel
theorem dL_tideIn_5 : decode cL_tideIn 5 = .ok (.invokevirtual 103, 3) := by decide +kernel
theorem dL_tideIn_8 : decode cL_tideIn 8 = .ok (.i2l, 1) := by decide +kernel
theorem dL_tideIn_9 : decode cL_tideIn 9 = .ok (.lastore, 1) := by decide +kernel
theorem dL_tideIn_10 : decode cL_tideIn 10 = .ok (.goto 11, 3) := by decide +kernel
theorem dL_tideIn_13 : decode cL_tideIn 13 = .ok (.astore 4, 2) := by decide +kernel
theorem dL_tideIn_15 : decode cL_tideIn 15 = .ok (.iconst 1, 1) := by decide +kernel
theorem dL_tideIn_16 : decode cL_tideIn 16 = .ok (.ireturn, 1) := by decide +kernel
theorem dL_tideIn_17 : decode cL_tideIn 17 = .ok (.astore 4, 2) := by decide +kernel
theorem dL_tideIn_19 : decode cL_tideIn 19 = .ok (.iconst 2, 1) := by decide +kernel
theorem dL_tideIn_20 : decode cL_tideIn 20 = .ok (.ireturn, 1) := by decide +kernel
theorem dL_tideIn_21 : decode cL_tideIn 21 = .ok (.iconst 0, 1) := by decide +kernel
theorem dL_tideIn_22 : decode cL_tideIn 22 = .ok (.ireturn, 1) := by decide +kernel
set_option maxRecDepth 20000 in
theorem ggL_tideBySteps_X5_tideBySteps : GoodIn wsL_tideBySteps wsX5_tideBySteps := goodIn_ca (goodIn_ca (goodIn_ca (goodIn_ca (goodIn_r _ [6, 7, 8, 9, 10, 5, 11, 12, 13, 14, 15, 16, 17, 18, 19, 20, 21, 22, 23, 24, 25, 26, 27, 28, 29, 30, 31, 32, 33, 34, 35, 36, 37, 38, 39, 40, 41, 42, 43, 44, 45, 46, 47, 48, 49, 50, 51, 52, 53, 54, 55, 56, 57, 58, 59, 60, 61, 62, 63, 64, 65, 66, 67, 68, 69, 70, 71, 72, 73, 74, 75, 76, 77, 78, 79, 80, 81, 82, 83, 84, 85, 86, 87, 88, 89, 90, 91, 92, 93, 94, 95, 96, 97, 98, 99, 100, 101, 102, 103, 104, 105, 106, 107, 108, 109, 110, 111, 112, 113, 114, 115, 116, 117, 118, 119, 120, 121, 122, 123, 124, 125, 126, 127, 128, 129] (by decide +kernel) (by decide +kernel)) (goodIn_sub (fun _ h => List.mem_cons_of_mem _ (List.mem_append_left _ (List.mem_append_left _ (List.mem_append_right _ h)))) (by decide +kernel))) (goodIn_sub (fun _ h => List.mem_cons_of_mem _ (List.mem_append_left _ (List.mem_append_right _ h))) (by decide +kernel))) (goodIn_sub (fun _ h => List.mem_cons_of_mem _ (List.mem_append_left _ (List.mem_append_left _ (List.mem_append_left _ (List.mem_append_right _ h))))) (by decide +kernel))) (goodIn_sub (fun _ h => List.mem_cons_of_mem _ (List.mem_append_right _ h)) (by decide +kernel))
set_option maxRecDepth 20000 in
theorem gL_tideBySteps_X5_tideBySteps : GoodIn wsL_tideBySteps (wsV RL 106 RX5 yX5_tideBySteps wsX5_tideBySteps) := goodIn_app (goodIn_of _ (by decide +kernel)) ggL_tideBySteps_X5_tideBySteps
theorem dL_tideBySteps_0 : decode cL_tideBySteps 0 = .ok (.aload_n 3, 1) := by decide +kernel
theorem dL_tideBySteps_1 : decode cL_tideBySteps 1 = .ok (.iconst 0, 1) := by decide +kernel
theorem dL_tideBySteps_2 : decode cL_tideBySteps 2 = .ok (.aload_n 0, 1) := by decide +kernel
theorem dL_tideBySteps_3 : decode cL_tideBySteps 3 = .ok (.iload_n 1, 1) := by decide +kernel
theorem dL_tideBySteps_4 : decode cL_tideBySteps 4 = .ok (.iload_n 2, 1) := by decide +kernel
theorem dL_tideBySteps_5 : decode cL_tideBySteps 5 = .ok (.invokevirtual 106, 3) := by decide +kernel
theorem dL_tideBySteps_8 : decode cL_tideBySteps 8 = .ok (.i2l, 1) := by decide +kernel
theorem dL_tideBySteps_9 : decode cL_tideBySteps 9 = .ok (.lastore, 1) := by decide +kernel
theorem dL_tideBySteps_10 : decode cL_tideBySteps 10 = .ok (.goto 11, 3) := by decide +kernel
theorem dL_tideBySteps_13 : decode cL_tideBySteps 13 = .ok (.astore 4, 2) := by decide +kernel
theorem dL_tideBySteps_15 : decode cL_tideBySteps 15 = .ok (.iconst 1, 1) := by decide +kernel
theorem dL_tideBySteps_16 : decode cL_tideBySteps 16 = .ok (.ireturn, 1) := by decide +kernel
theorem dL_tideBySteps_17 : decode cL_tideBySteps 17 = .ok (.astore 4, 2) := by decide +kernel
theorem dL_tideBySteps_19 : decode cL_tideBySteps 19 = .ok (.iconst 2, 1) := by decide +kernel
theorem dL_tideBySteps_20 : decode cL_tideBySteps 20 = .ok (.ireturn, 1) := by decide +kernel
theorem dL_tideBySteps_21 : decode cL_tideBySteps 21 = .ok (.iconst 0, 1) := by decide +kernel
theorem dL_tideBySteps_22 : decode cL_tideBySteps 22 = .ok (.ireturn, 1) := by decide +kernel
set_option maxRecDepth 20000 in
theorem ggL_highTideIn_X5_highTideIn : GoodIn wsL_highTideIn wsX5_highTideIn := goodIn_ca (goodIn_ca (goodIn_ca (goodIn_r _ [6, 7, 8, 9, 5, 10, 11, 12, 13, 14, 15, 16, 17, 18, 19, 20, 21, 22, 23, 24, 25, 26, 27, 28, 29, 30, 31, 32, 33, 34, 35, 36, 37, 38, 39, 40, 41, 42, 43, 44, 45, 46, 47, 48, 49, 50, 51, 52, 53, 54, 55, 56, 57, 58, 59, 60, 61, 62, 63, 64, 65, 66, 67, 68, 69, 70, 71, 72, 73, 74, 75, 76, 77, 78, 79, 80, 81, 82, 83, 84, 85, 86, 87, 88, 89, 90, 91, 92, 93, 94, 95, 96, 97, 98, 99, 100, 101] (by decide +kernel) (by decide +kernel)) (goodIn_sub (fun _ h => List.mem_cons_of_mem _ (List.mem_append_left _ (List.mem_append_right _ h))) (by decide +kernel))) (goodIn_sub (fun _ h => List.mem_cons_of_mem _ (List.mem_append_left _ (List.mem_append_left _ (List.mem_append_right _ h)))) (by decide +kernel))) (goodIn_sub (fun _ h => List.mem_cons_of_mem _ (List.mem_append_right _ h)) (by decide +kernel))
set_option maxRecDepth 20000 in
theorem gL_highTideIn_X5_highTideIn : GoodIn wsL_highTideIn (wsV RL 109 RX5 yX5_highTideIn wsX5_highTideIn) := goodIn_app (goodIn_of _ (by decide +kernel)) ggL_highTideIn_X5_highTideIn
theorem dL_highTideIn_0 : decode cL_highTideIn 0 = .ok (.aload_n 2, 1) := by decide +kernel
theorem dL_highTideIn_1 : decode cL_highTideIn 1 = .ok (.iconst 0, 1) := by decide +kernel
theorem dL_highTideIn_2 : decode cL_highTideIn 2 = .ok (.aload_n 0, 1) := by decide +kernel
theorem dL_highTideIn_3 : decode cL_highTideIn 3 = .ok (.iload_n 1, 1) := by decide +kernel
theorem dL_highTideIn_4 : decode cL_highTideIn 4 = .ok (.invokevirtual 109, 3) := by decide +kernel
theorem dL_highTideIn_7 : decode cL_highTideIn 7 = .ok (.i2l, 1) := by decide +kernel
theorem dL_highTideIn_8 : decode cL_highTideIn 8 = .ok (.lastore, 1) := by decide +kernel
theorem dL_highTideIn_9 : decode cL_highTideIn 9 = .ok (.goto 6, 3) := by decide +kernel
theorem dL_highTideIn_12 : decode cL_highTideIn 12 = .ok (.astore_n 3, 1) := by decide +kernel
theorem dL_highTideIn_13 : decode cL_highTideIn 13 = .ok (.iconst 1, 1) := by decide +kernel
theorem dL_highTideIn_14 : decode cL_highTideIn 14 = .ok (.ireturn, 1) := by decide +kernel
theorem dL_highTideIn_15 : decode cL_highTideIn 15 = .ok (.iconst 0, 1) := by decide +kernel
theorem dL_highTideIn_16 : decode cL_highTideIn 16 = .ok (.ireturn, 1) := by decide +kernel
set_option maxRecDepth 20000 in
theorem ggL_lowTideIn_X5_lowTideIn : GoodIn wsL_lowTideIn wsX5_lowTideIn := goodIn_ca (goodIn_ca (goodIn_ca (goodIn_r _ [6, 7, 8, 9, 5, 10, 11, 12, 13, 14, 15, 16, 17, 18, 19, 20, 21, 22, 23, 24, 25, 26, 27, 28, 29, 30, 31, 32, 33, 34, 35, 36, 37, 38, 39, 40, 41, 42, 43, 44, 45, 46, 47, 48, 49, 50, 51, 52, 53, 54, 55, 56, 57, 58, 59, 60, 61, 62, 63, 64, 65, 66, 67, 68, 69, 70, 71, 72, 73, 74, 75, 76, 77, 78, 79, 80, 81, 82, 83, 84, 85, 86, 87, 88, 89, 90, 91, 92, 93, 94, 95, 96, 97, 98, 99, 100, 101] (by decide +kernel) (by decide +kernel)) (goodIn_sub (fun _ h => List.mem_cons_of_mem _ (List.mem_append_left _ (List.mem_append_right _ h))) (by decide +kernel))) (goodIn_sub (fun _ h => List.mem_cons_of_mem _ (List.mem_append_left _ (List.mem_append_left _ (List.mem_append_right _ h)))) (by decide +kernel))) (goodIn_sub (fun _ h => List.mem_cons_of_mem _ (List.mem_append_right _ h)) (by decide +kernel))
set_option maxRecDepth 20000 in
theorem gL_lowTideIn_X5_lowTideIn : GoodIn wsL_lowTideIn (wsV RL 112 RX5 yX5_lowTideIn wsX5_lowTideIn) := goodIn_app (goodIn_of _ (by decide +kernel)) ggL_lowTideIn_X5_lowTideIn
theorem dL_lowTideIn_0 : decode cL_lowTideIn 0 = .ok (.aload_n 2, 1) := by decide +kernel
theorem dL_lowTideIn_1 : decode cL_lowTideIn 1 = .ok (.iconst 0, 1) := by decide +kernel
theorem dL_lowTideIn_2 : decode cL_lowTideIn 2 = .ok (.aload_n 0, 1) := by decide +kernel
theorem dL_lowTideIn_3 : decode cL_lowTideIn 3 = .ok (.iload_n 1, 1) := by decide +kernel
theorem dL_lowTideIn_4 : decode cL_lowTideIn 4 = .ok (.invokevirtual 112, 3) := by decide +kernel
theorem dL_lowTideIn_7 : decode cL_lowTideIn 7 = .ok (.i2l, 1) := by decide +kernel
theorem dL_lowTideIn_8 : decode cL_lowTideIn 8 = .ok (.lastore, 1) := by decide +kernel
theorem dL_lowTideIn_9 : decode cL_lowTideIn 9 = .ok (.goto 6, 3) := by decide +kernel
theorem dL_lowTideIn_12 : decode cL_lowTideIn 12 = .ok (.astore_n 3, 1) := by decide +kernel
theorem dL_lowTideIn_13 : decode cL_lowTideIn 13 = .ok (.iconst 1, 1) := by decide +kernel
theorem dL_lowTideIn_14 : decode cL_lowTideIn 14 = .ok (.ireturn, 1) := by decide +kernel
theorem dL_lowTideIn_15 : decode cL_lowTideIn 15 = .ok (.iconst 0, 1) := by decide +kernel
theorem dL_lowTideIn_16 : decode cL_lowTideIn 16 = .ok (.ireturn, 1) := by decide +kernel
set_option maxRecDepth 20000 in
theorem ggL_eclipseIn_X5_eclipseIn : GoodIn wsL_eclipseIn wsX5_eclipseIn := goodIn_ca (goodIn_ca (goodIn_ca (goodIn_ca (goodIn_r _ [6, 7, 8, 9, 10, 5, 11, 12, 13, 14, 15, 16, 17, 18, 19, 20, 21, 22, 23, 24, 25, 26, 27, 28, 29, 30, 31, 32, 33, 34, 35, 36, 37, 38, 39, 40, 41, 42, 43, 44, 45, 46, 47, 48, 49, 50, 51, 52, 53, 54, 55, 56, 57, 58, 59, 60, 61, 62, 63, 64, 65, 66, 67, 68, 69, 70, 71, 72, 73, 74, 75, 76, 77] (by decide +kernel) (by decide +kernel)) (goodIn_sub (fun _ h => List.mem_cons_of_mem _ (List.mem_append_left _ (List.mem_append_left _ (List.mem_append_right _ h)))) (by decide +kernel))) (goodIn_sub (fun _ h => List.mem_cons_of_mem _ (List.mem_append_left _ (List.mem_append_left _ (List.mem_append_left _ (List.mem_append_right _ h))))) (by decide +kernel))) (goodIn_sub (fun _ h => List.mem_cons_of_mem _ (List.mem_append_left _ (List.mem_append_right _ h))) (by decide +kernel))) (goodIn_sub (fun _ h => List.mem_cons_of_mem _ (List.mem_append_right _ h)) (by decide +kernel))
set_option maxRecDepth 20000 in
theorem gL_eclipseIn_X5_eclipseIn : GoodIn wsL_eclipseIn (wsV RL 115 RX5 yX5_eclipseIn wsX5_eclipseIn) := goodIn_app (goodIn_of _ (by decide +kernel)) ggL_eclipseIn_X5_eclipseIn
theorem dL_eclipseIn_0 : decode cL_eclipseIn 0 = .ok (.aload_n 2, 1) := by decide +kernel
theorem dL_eclipseIn_1 : decode cL_eclipseIn 1 = .ok (.iconst 0, 1) := by decide +kernel
theorem dL_eclipseIn_2 : decode cL_eclipseIn 2 = .ok (.aload_n 0, 1) := by decide +kernel
theorem dL_eclipseIn_3 : decode cL_eclipseIn 3 = .ok (.iload_n 1, 1) := by decide +kernel
theorem dL_eclipseIn_4 : decode cL_eclipseIn 4 = .ok (.invokevirtual 115, 3) := by decide +kernel
theorem dL_eclipseIn_7 : decode cL_eclipseIn 7 = .ok (.i2l, 1) := by decide +kernel
theorem dL_eclipseIn_8 : decode cL_eclipseIn 8 = .ok (.lastore, 1) := by decide +kernel
theorem dL_eclipseIn_9 : decode cL_eclipseIn 9 = .ok (.goto 9, 3) := by decide +kernel
theorem dL_eclipseIn_12 : decode cL_eclipseIn 12 = .ok (.astore_n 3, 1) := by decide +kernel
theorem dL_eclipseIn_13 : decode cL_eclipseIn 13 = .ok (.iconst 1, 1) := by decide +kernel
theorem dL_eclipseIn_14 : decode cL_eclipseIn 14 = .ok (.ireturn, 1) := by decide +kernel
theorem dL_eclipseIn_15 : decode cL_eclipseIn 15 = .ok (.astore_n 3, 1) := by decide +kernel
theorem dL_eclipseIn_16 : decode cL_eclipseIn 16 = .ok (.iconst 2, 1) := by decide +kernel
theorem dL_eclipseIn_17 : decode cL_eclipseIn 17 = .ok (.ireturn, 1) := by decide +kernel
theorem dL_eclipseIn_18 : decode cL_eclipseIn 18 = .ok (.iconst 0, 1) := by decide +kernel
theorem dL_eclipseIn_19 : decode cL_eclipseIn 19 = .ok (.ireturn, 1) := by decide +kernel
set_option maxRecDepth 20000 in
theorem ggL_conjunctionIn_X5_conjunctionIn : GoodIn wsL_conjunctionIn wsX5_conjunctionIn := goodIn_ca (goodIn_ca (goodIn_ca (goodIn_ca (goodIn_r _ [6, 7, 8, 9, 10, 5, 11, 12, 13, 14, 15, 16, 17, 18, 19, 20, 21, 22, 23, 24, 25, 26, 27, 28, 29, 30, 31, 32, 33, 34, 35, 36, 37, 38, 39, 40, 41, 42, 43, 44, 45, 46, 47, 48, 49, 50, 51, 52, 53, 54, 55, 56, 57, 58, 59, 60, 61, 62] (by decide +kernel) (by decide +kernel)) (goodIn_sub (fun _ h => List.mem_cons_of_mem _ (List.mem_append_left _ (List.mem_append_left _ (List.mem_append_right _ h)))) (by decide +kernel))) (goodIn_sub (fun _ h => List.mem_cons_of_mem _ (List.mem_append_left _ (List.mem_append_left _ (List.mem_append_left _ (List.mem_append_right _ h))))) (by decide +kernel))) (goodIn_sub (fun _ h => List.mem_cons_of_mem _ (List.mem_append_left _ (List.mem_append_right _ h))) (by decide +kernel))) (goodIn_sub (fun _ h => List.mem_cons_of_mem _ (List.mem_append_right _ h)) (by decide +kernel))
set_option maxRecDepth 20000 in
theorem gL_conjunctionIn_X5_conjunctionIn : GoodIn wsL_conjunctionIn (wsV RL 118 RX5 yX5_conjunctionIn wsX5_conjunctionIn) := goodIn_app (goodIn_of _ (by decide +kernel)) ggL_conjunctionIn_X5_conjunctionIn
theorem dL_conjunctionIn_0 : decode cL_conjunctionIn 0 = .ok (.aload_n 3, 1) := by decide +kernel
theorem dL_conjunctionIn_1 : decode cL_conjunctionIn 1 = .ok (.iconst 0, 1) := by decide +kernel
theorem dL_conjunctionIn_2 : decode cL_conjunctionIn 2 = .ok (.aload_n 0, 1) := by decide +kernel
theorem dL_conjunctionIn_3 : decode cL_conjunctionIn 3 = .ok (.iload_n 1, 1) := by decide +kernel
theorem dL_conjunctionIn_4 : decode cL_conjunctionIn 4 = .ok (.iload_n 2, 1) := by decide +kernel
theorem dL_conjunctionIn_5 : decode cL_conjunctionIn 5 = .ok (.invokevirtual 118, 3) := by decide +kernel
theorem dL_conjunctionIn_8 : decode cL_conjunctionIn 8 = .ok (.i2l, 1) := by decide +kernel
theorem dL_conjunctionIn_9 : decode cL_conjunctionIn 9 = .ok (.lastore, 1) := by decide +kernel
theorem dL_conjunctionIn_10 : decode cL_conjunctionIn 10 = .ok (.goto 11, 3) := by decide +kernel
theorem dL_conjunctionIn_13 : decode cL_conjunctionIn 13 = .ok (.astore 4, 2) := by decide +kernel
theorem dL_conjunctionIn_15 : decode cL_conjunctionIn 15 = .ok (.iconst 1, 1) := by decide +kernel
theorem dL_conjunctionIn_16 : decode cL_conjunctionIn 16 = .ok (.ireturn, 1) := by decide +kernel
theorem dL_conjunctionIn_17 : decode cL_conjunctionIn 17 = .ok (.astore 4, 2) := by decide +kernel
theorem dL_conjunctionIn_19 : decode cL_conjunctionIn 19 = .ok (.iconst 2, 1) := by decide +kernel
theorem dL_conjunctionIn_20 : decode cL_conjunctionIn 20 = .ok (.ireturn, 1) := by decide +kernel
theorem dL_conjunctionIn_21 : decode cL_conjunctionIn 21 = .ok (.iconst 0, 1) := by decide +kernel
theorem dL_conjunctionIn_22 : decode cL_conjunctionIn 22 = .ok (.ireturn, 1) := by decide +kernel
set_option maxRecDepth 20000 in
theorem ggL_conjunctionByMoves_X5_conjunctionByMoves : GoodIn wsL_conjunctionByMoves wsX5_conjunctionByMoves := goodIn_ca (goodIn_ca (goodIn_ca (goodIn_ca (goodIn_r _ [6, 7, 8, 9, 10, 5, 11, 12, 13, 14, 15, 16, 17, 18, 19, 20, 21, 22, 23, 24, 25, 26, 27, 28, 29, 30, 31, 32, 33, 34, 35, 36, 37, 38, 39, 40, 41, 42, 43, 44, 45, 46, 47, 48, 49, 50, 51, 52, 53, 54, 55, 56, 57, 58, 59, 60, 61, 62, 63, 64, 65, 66, 67, 68, 69, 70, 71] (by decide +kernel) (by decide +kernel)) (goodIn_sub (fun _ h => List.mem_cons_of_mem _ (List.mem_append_left _ (List.mem_append_left _ (List.mem_append_right _ h)))) (by decide +kernel))) (goodIn_sub (fun _ h => List.mem_cons_of_mem _ (List.mem_append_left _ (List.mem_append_left _ (List.mem_append_left _ (List.mem_append_right _ h))))) (by decide +kernel))) (goodIn_sub (fun _ h => List.mem_cons_of_mem _ (List.mem_append_left _ (List.mem_append_right _ h))) (by decide +kernel))) (goodIn_sub (fun _ h => List.mem_cons_of_mem _ (List.mem_append_right _ h)) (by decide +kernel))
set_option maxRecDepth 20000 in
theorem gL_conjunctionByMoves_X5_conjunctionByMoves : GoodIn wsL_conjunctionByMoves (wsV RL 121 RX5 yX5_conjunctionByMoves wsX5_conjunctionByMoves) := goodIn_app (goodIn_of _ (by decide +kernel)) ggL_conjunctionByMoves_X5_conjunctionByMoves
theorem dL_conjunctionByMoves_0 : decode cL_conjunctionByMoves 0 = .ok (.aload_n 3, 1) := by decide +kernel
theorem dL_conjunctionByMoves_1 : decode cL_conjunctionByMoves 1 = .ok (.iconst 0, 1) := by decide +kernel
theorem dL_conjunctionByMoves_2 : decode cL_conjunctionByMoves 2 = .ok (.aload_n 0, 1) := by decide +kernel
theorem dL_conjunctionByMoves_3 : decode cL_conjunctionByMoves 3 = .ok (.iload_n 1, 1) := by decide +kernel
theorem dL_conjunctionByMoves_4 : decode cL_conjunctionByMoves 4 = .ok (.iload_n 2, 1) := by decide +kernel
theorem dL_conjunctionByMoves_5 : decode cL_conjunctionByMoves 5 = .ok (.invokevirtual 121, 3) := by decide +kernel
theorem dL_conjunctionByMoves_8 : decode cL_conjunctionByMoves 8 = .ok (.i2l, 1) := by decide +kernel
theorem dL_conjunctionByMoves_9 : decode cL_conjunctionByMoves 9 = .ok (.lastore, 1) := by decide +kernel
theorem dL_conjunctionByMoves_10 : decode cL_conjunctionByMoves 10 = .ok (.goto 11, 3) := by decide +kernel
theorem dL_conjunctionByMoves_13 : decode cL_conjunctionByMoves 13 = .ok (.astore 4, 2) := by decide +kernel
theorem dL_conjunctionByMoves_15 : decode cL_conjunctionByMoves 15 = .ok (.iconst 1, 1) := by decide +kernel
theorem dL_conjunctionByMoves_16 : decode cL_conjunctionByMoves 16 = .ok (.ireturn, 1) := by decide +kernel
theorem dL_conjunctionByMoves_17 : decode cL_conjunctionByMoves 17 = .ok (.astore 4, 2) := by decide +kernel
theorem dL_conjunctionByMoves_19 : decode cL_conjunctionByMoves 19 = .ok (.iconst 2, 1) := by decide +kernel
theorem dL_conjunctionByMoves_20 : decode cL_conjunctionByMoves 20 = .ok (.ireturn, 1) := by decide +kernel
theorem dL_conjunctionByMoves_21 : decode cL_conjunctionByMoves 21 = .ok (.iconst 0, 1) := by decide +kernel
theorem dL_conjunctionByMoves_22 : decode cL_conjunctionByMoves 22 = .ok (.ireturn, 1) := by decide +kernel
set_option maxRecDepth 20000 in
theorem ggL_writeMoon_X5_writeMoon : GoodIn wsL_writeMoon wsX5_writeMoon := goodIn_ca (goodIn_ca (goodIn_ca (goodIn_r _ [6, 7, 8, 9, 10, 11, 5, 12, 13, 14, 15, 16, 17, 18, 19, 20, 21, 22, 23, 24, 25, 26, 27, 28, 29, 30, 31, 32, 33, 34, 35, 36, 37, 38, 39, 40, 41, 42, 43, 44, 45, 46, 47, 48, 49, 50, 51, 52, 53, 54, 55, 56, 57, 58, 59, 60, 61, 62, 63, 64, 65, 66, 67, 68, 69, 70, 71, 72, 73, 74, 75, 76, 77, 78, 79, 80, 81, 82, 83, 84, 85, 86, 87, 88, 89, 90, 91, 92, 93, 94, 95, 96, 97, 98, 99, 100, 101, 102, 103, 104, 105, 106, 107, 108, 109, 110, 111, 112, 113, 114, 115, 116, 117, 118, 119, 120, 121, 122, 123, 124, 125, 126, 127, 128, 129, 130, 131, 132, 133, 134, 135, 136, 137, 138, 139, 140, 141, 142, 143, 144, 145, 146, 147, 148, 149, 150, 151, 152, 153, 154, 155, 156, 157, 158, 159, 160, 161, 162, 163, 164, 165, 166, 167, 168, 169, 170, 171, 172, 173, 174, 175, 176, 177, 178, 179, 180, 181, 182, 183, 184, 185, 186, 187, 188, 189, 190, 191, 192, 193, 194, 195, 196, 197, 198, 199, 200, 201, 202, 203, 204, 205, 206, 207, 208, 209, 210, 211, 212, 213, 214, 215, 216, 217, 218, 219, 220, 221, 222, 223, 224, 225, 226, 227, 228, 229, 230, 231, 232, 233, 234, 235, 236, 237, 238, 239, 240, 241, 242, 243, 244, 245, 246, 247, 248, 249, 250, 251, 252, 253, 254, 255, 256, 257, 258, 259, 260, 261, 262, 263, 264, 265, 266, 267, 268, 269, 270, 271, 272, 273, 274, 275, 276, 277, 278, 279, 280, 281, 282, 283, 284, 285, 286, 287, 288] (by decide +kernel) (by decide +kernel)) (goodIn_sub (fun _ h => List.mem_cons_of_mem _ (List.mem_append_left _ (List.mem_append_right _ h))) (by decide +kernel))) (goodIn_sub (fun _ h => List.mem_cons_of_mem _ (List.mem_append_left _ (List.mem_append_left _ (List.mem_append_right _ h)))) (by decide +kernel))) (goodIn_sub (fun _ h => List.mem_cons_of_mem _ (List.mem_append_right _ h)) (by decide +kernel))
set_option maxRecDepth 20000 in
theorem gL_writeMoon_X5_writeMoon : GoodIn wsL_writeMoon (wsV RL 124 RX5 yX5_writeMoon wsX5_writeMoon) := goodIn_app (goodIn_of _ (by decide +kernel)) ggL_writeMoon_X5_writeMoon
theorem dL_writeMoon_0 : decode cL_writeMoon 0 = .ok (.aload_n 2, 1) := by decide +kernel
theorem dL_writeMoon_1 : decode cL_writeMoon 1 = .ok (.iconst 0, 1) := by decide +kernel
theorem dL_writeMoon_2 : decode cL_writeMoon 2 = .ok (.aload_n 0, 1) := by decide +kernel
theorem dL_writeMoon_3 : decode cL_writeMoon 3 = .ok (.iload_n 1, 1) := by decide +kernel
theorem dL_writeMoon_4 : decode cL_writeMoon 4 = .ok (.invokevirtual 124, 3) := by decide +kernel
theorem dL_writeMoon_7 : decode cL_writeMoon 7 = .ok (.i2l, 1) := by decide +kernel
theorem dL_writeMoon_8 : decode cL_writeMoon 8 = .ok (.lastore, 1) := by decide +kernel
theorem dL_writeMoon_9 : decode cL_writeMoon 9 = .ok (.goto 6, 3) := by decide +kernel
theorem dL_writeMoon_12 : decode cL_writeMoon 12 = .ok (.astore_n 3, 1) := by decide +kernel
theorem dL_writeMoon_13 : decode cL_writeMoon 13 = .ok (.iconst 1, 1) := by decide +kernel
theorem dL_writeMoon_14 : decode cL_writeMoon 14 = .ok (.ireturn, 1) := by decide +kernel
theorem dL_writeMoon_15 : decode cL_writeMoon 15 = .ok (.iconst 0, 1) := by decide +kernel
theorem dL_writeMoon_16 : decode cL_writeMoon 16 = .ok (.ireturn, 1) := by decide +kernel
set_option maxRecDepth 20000 in
theorem ggL_lineAt_X5_lineAt : GoodIn wsL_lineAt wsX5_lineAt := goodIn_ca (goodIn_r _ [6, 7, 8, 9, 10, 11, 12, 13, 14, 15, 16, 17, 18, 19, 20, 21, 22, 23, 24, 25, 26, 27, 28, 29, 30, 31, 32, 33, 34, 35, 36, 37, 38, 39, 40, 41, 42, 43, 44, 45, 46, 47, 48, 49, 50, 51, 52, 53, 54, 55, 56, 57, 58, 59, 60, 61, 62, 63, 64, 65, 66, 67, 68] (by decide +kernel) (by decide +kernel)) (goodIn_sub (fun _ h => List.mem_cons_of_mem _ (List.mem_append_right _ h)) (by decide +kernel))
set_option maxRecDepth 20000 in
theorem gL_lineAt_X5_lineAt : GoodIn wsL_lineAt (wsV RL 127 RX5 yX5_lineAt wsX5_lineAt) := goodIn_app (goodIn_of _ (by decide +kernel)) ggL_lineAt_X5_lineAt
theorem dL_lineAt_0 : decode cL_lineAt 0 = .ok (.aload_n 2, 1) := by decide +kernel
theorem dL_lineAt_1 : decode cL_lineAt 1 = .ok (.iconst 0, 1) := by decide +kernel
theorem dL_lineAt_2 : decode cL_lineAt 2 = .ok (.aload_n 0, 1) := by decide +kernel
theorem dL_lineAt_3 : decode cL_lineAt 3 = .ok (.iload_n 1, 1) := by decide +kernel
theorem dL_lineAt_4 : decode cL_lineAt 4 = .ok (.invokevirtual 127, 3) := by decide +kernel
theorem dL_lineAt_7 : decode cL_lineAt 7 = .ok (.i2l, 1) := by decide +kernel
theorem dL_lineAt_8 : decode cL_lineAt 8 = .ok (.lastore, 1) := by decide +kernel
theorem dL_lineAt_9 : decode cL_lineAt 9 = .ok (.goto 6, 3) := by decide +kernel
theorem dL_lineAt_12 : decode cL_lineAt 12 = .ok (.astore_n 3, 1) := by decide +kernel
theorem dL_lineAt_13 : decode cL_lineAt 13 = .ok (.iconst 1, 1) := by decide +kernel
theorem dL_lineAt_14 : decode cL_lineAt 14 = .ok (.ireturn, 1) := by decide +kernel
theorem dL_lineAt_15 : decode cL_lineAt 15 = .ok (.iconst 0, 1) := by decide +kernel
theorem dL_lineAt_16 : decode cL_lineAt 16 = .ok (.ireturn, 1) := by decide +kernel
set_option maxRecDepth 20000 in
theorem ggL_eclipsedShare_X5_eclipsedShare : GoodIn wsL_eclipsedShare wsX5_eclipsedShare := goodIn_ca (goodIn_ca (goodIn_ca (goodIn_r _ [6, 7, 8, 9, 10, 11, 12, 13, 14, 15, 16, 17, 18, 19, 20, 21, 22, 23, 24, 25, 26, 27, 28, 29, 30, 31, 32, 33, 34, 35, 36, 37, 38, 39, 40, 41, 42, 43, 44, 45, 46, 47, 48, 49, 50, 51, 52, 53, 54, 55, 56, 57, 58, 59] (by decide +kernel) (by decide +kernel)) (goodIn_sub (fun _ h => List.mem_cons_of_mem _ (List.mem_append_left _ (List.mem_append_right _ h))) (by decide +kernel))) (goodIn_sub (fun _ h => List.mem_cons_of_mem _ (List.mem_append_left _ (List.mem_append_left _ (List.mem_append_right _ h)))) (by decide +kernel))) (goodIn_sub (fun _ h => List.mem_cons_of_mem _ (List.mem_append_right _ h)) (by decide +kernel))
set_option maxRecDepth 20000 in
theorem gL_eclipsedShare_X5_eclipsedShare : GoodIn wsL_eclipsedShare (wsV RL 131 RX5 yX5_eclipsedShare wsX5_eclipsedShare) := goodIn_app (goodIn_of _ (by decide +kernel)) ggL_eclipsedShare_X5_eclipsedShare
theorem dL_eclipsedShare_0 : decode cL_eclipsedShare 0 = .ok (.aload_n 1, 1) := by decide +kernel
theorem dL_eclipsedShare_1 : decode cL_eclipsedShare 1 = .ok (.iconst 0, 1) := by decide +kernel
theorem dL_eclipsedShare_2 : decode cL_eclipsedShare 2 = .ok (.aload_n 0, 1) := by decide +kernel
theorem dL_eclipsedShare_3 : decode cL_eclipsedShare 3 = .ok (.invokevirtual 131, 3) := by decide +kernel
theorem dL_eclipsedShare_6 : decode cL_eclipsedShare 6 = .ok (.f2d, 1) := by decide +kernel
theorem dL_eclipsedShare_7 : decode cL_eclipsedShare 7 = .ok (.dastore, 1) := by decide +kernel
theorem dL_eclipsedShare_8 : decode cL_eclipsedShare 8 = .ok (.goto 6, 3) := by decide +kernel
theorem dL_eclipsedShare_11 : decode cL_eclipsedShare 11 = .ok (.astore_n 2, 1) := by decide +kernel
theorem dL_eclipsedShare_12 : decode cL_eclipsedShare 12 = .ok (.iconst 1, 1) := by decide +kernel
theorem dL_eclipsedShare_13 : decode cL_eclipsedShare 13 = .ok (.ireturn, 1) := by decide +kernel
theorem dL_eclipsedShare_14 : decode cL_eclipsedShare 14 = .ok (.iconst 0, 1) := by decide +kernel
theorem dL_eclipsedShare_15 : decode cL_eclipsedShare 15 = .ok (.ireturn, 1) := by decide +kernel
set_option maxRecDepth 20000 in
theorem ggL_type_X5_type : GoodIn wsL_type wsX5_type := goodIn_ca (goodIn_ca (goodIn_r _ [6, 7, 8, 9, 10, 11, 12, 13, 14, 15, 16, 17, 18, 19, 20, 21, 22, 23, 24, 25, 26, 27, 28, 29, 30, 31, 32, 33, 34, 35, 36, 37, 38, 39, 40, 41, 42, 43, 44, 45, 46, 47, 48, 49, 50, 51, 52, 53, 54, 55, 56, 57, 58, 59, 60, 61, 62, 63, 64, 65, 66, 67, 68, 69, 70, 71, 72, 73, 74, 75, 76, 77, 78, 79, 80, 81, 82, 83, 84, 85, 86, 87, 88, 89, 90, 91, 92, 93, 94, 95, 96, 97, 98, 99, 100, 101, 102, 103, 104, 105, 106, 107, 108, 109, 110, 111, 112, 113, 114, 115, 116, 117, 118, 119, 120, 121, 122, 123, 124, 125, 126, 127, 128, 129, 130, 131, 132, 133, 134, 135, 136, 137, 138, 139, 140, 141, 142, 143, 144, 145, 146, 147, 148, 149, 150, 151, 152, 153, 154, 155, 156, 157, 158, 159, 160, 161, 162, 163, 164, 165] (by decide +kernel) (by decide +kernel)) (goodIn_sub (fun _ h => List.mem_cons_of_mem _ (List.mem_append_left _ (List.mem_append_right _ h))) (by decide +kernel))) (goodIn_sub (fun _ h => List.mem_cons_of_mem _ (List.mem_append_right _ h)) (by decide +kernel))
set_option maxRecDepth 20000 in
theorem gL_type_X5_type : GoodIn wsL_type (wsV RL 137 RX5 yX5_type wsX5_type) := goodIn_app (goodIn_of _ (by decide +kernel)) ggL_type_X5_type
theorem dL_type_0 : decode cL_type 0 = .ok (.aload_n 2, 1) := by decide +kernel
theorem dL_type_1 : decode cL_type 1 = .ok (.iconst 0, 1) := by decide +kernel
theorem dL_type_2 : decode cL_type 2 = .ok (.aload_n 0, 1) := by decide +kernel
theorem dL_type_3 : decode cL_type 3 = .ok (.iload_n 1, 1) := by decide +kernel
theorem dL_type_4 : decode cL_type 4 = .ok (.invokevirtual 137, 3) := by decide +kernel
theorem dL_type_7 : decode cL_type 7 = .ok (.i2l, 1) := by decide +kernel
theorem dL_type_8 : decode cL_type 8 = .ok (.lastore, 1) := by decide +kernel
theorem dL_type_9 : decode cL_type 9 = .ok (.goto 9, 3) := by decide +kernel
theorem dL_type_12 : decode cL_type 12 = .ok (.astore_n 3, 1) := by decide +kernel
theorem dL_type_13 : decode cL_type 13 = .ok (.iconst 1, 1) := by decide +kernel
theorem dL_type_14 : decode cL_type 14 = .ok (.ireturn, 1) := by decide +kernel
theorem dL_type_15 : decode cL_type 15 = .ok (.astore_n 3, 1) := by decide +kernel
theorem dL_type_16 : decode cL_type 16 = .ok (.iconst 2, 1) := by decide +kernel
theorem dL_type_17 : decode cL_type 17 = .ok (.ireturn, 1) := by decide +kernel
theorem dL_type_18 : decode cL_type 18 = .ok (.iconst 0, 1) := by decide +kernel
theorem dL_type_19 : decode cL_type 19 = .ok (.ireturn, 1) := by decide +kernel
set_option maxRecDepth 20000 in
theorem ggL_execute_X5_execute : GoodIn wsL_execute wsX5_execute := goodIn_ca (goodIn_ca (goodIn_ca (goodIn_ca (goodIn_r _ [6, 7, 8, 9, 10, 11, 12, 13, 14, 15, 16, 17, 18, 19, 20, 21, 22, 23, 24, 25, 26, 27, 28, 29, 30, 31, 32, 33, 34, 35, 36, 37, 38, 39, 40, 41, 42, 43, 44, 45, 46, 47, 48, 49, 50, 51, 52, 53, 54, 55, 56, 57, 58, 59, 60, 61, 62, 63, 64, 65, 66, 67, 68, 69, 70, 71, 72, 73, 74, 75, 76, 77, 78, 79, 80, 81, 82, 83, 84, 85, 86, 87, 88, 89, 90, 91, 92, 93, 94, 95, 96, 97, 98, 99, 100, 101, 102, 103, 104, 105, 106, 107, 108, 109, 110, 111, 112, 113, 114, 115, 116, 117, 118, 119, 120, 121, 122, 123, 124, 125, 126, 127, 128, 129, 130, 131, 132, 133, 134, 135, 136, 137, 138, 139, 140, 141, 142, 143, 144, 145, 146, 147, 148, 149, 150, 151, 152, 153, 154, 155, 156, 157, 158, 159, 160, 161, 162, 163, 164, 165, 166, 167, 168, 169, 170, 171, 172, 173, 174, 175, 176, 177, 178, 179, 180, 181, 182, 183, 184, 185, 186, 187, 188, 189, 190, 191, 192, 193, 194, 195, 196, 197, 198, 199, 200, 201, 202, 203, 204, 205, 206, 207, 208, 209, 210, 211, 212, 213, 214, 215, 216, 217, 218, 219, 220, 221, 222, 223, 224, 225, 226, 227, 228, 229, 230, 231, 232, 233, 234, 235, 236, 237, 238, 239, 240, 241, 242, 243, 244, 245, 246, 247, 248, 249, 250, 251, 252, 253, 254, 255, 256, 257, 258, 259, 260, 261, 262, 263, 264, 265, 266, 267, 268, 269, 270, 271, 272, 273, 274, 275, 276, 277, 278, 279, 280, 281, 282, 283, 284, 285, 286, 287, 288, 289, 290, 291, 292, 293, 294, 295, 296, 297, 298, 299, 300, 301, 302, 303, 304, 305, 306, 307, 308, 309, 310, 311, 312, 313, 314, 315, 316, 317, 318, 319, 320, 321, 322, 323, 324, 325, 326, 327, 328, 329, 330, 331, 332, 333, 334, 335, 336, 337, 338, 339, 340, 341, 342, 343, 344, 345, 346, 347, 348, 349, 350, 351, 352, 353, 354, 355, 356, 357, 358, 359, 360, 361, 362, 363, 364, 365, 366, 367, 368, 369, 370, 371, 372, 373, 374, 375, 376, 377, 378, 379, 380, 381, 382, 383, 384, 385, 386, 387, 388, 389, 390, 391, 392, 393, 394, 395, 396, 397, 398, 399, 400, 401, 402, 403, 404, 405, 406, 407, 408, 409, 410, 411, 412, 413, 414, 415, 416, 417, 418, 419, 420, 421, 422, 423, 424, 425, 426, 427, 428, 429, 430, 431, 432, 433, 434, 435, 436, 437, 438, 439, 440, 441, 442, 443, 444, 445, 446, 447, 448, 449, 450, 451, 452, 453, 454, 455, 456, 457, 458, 459, 460, 461, 462, 463, 464, 465, 466, 467, 468, 469, 470, 471, 472, 473, 474] (by decide +kernel) (by decide +kernel)) (goodIn_sub (fun _ h => List.mem_cons_of_mem _ (List.mem_append_left _ (List.mem_append_left _ (List.mem_append_right _ h)))) (by decide +kernel))) (goodIn_sub (fun _ h => List.mem_cons_of_mem _ (List.mem_append_left _ (List.mem_append_right _ h))) (by decide +kernel))) (goodIn_sub (fun _ h => List.mem_cons_of_mem _ (List.mem_append_left _ (List.mem_append_left _ (List.mem_append_left _ (List.mem_append_right _ h))))) (by decide +kernel))) (goodIn_sub (fun _ h => List.mem_cons_of_mem _ (List.mem_append_right _ h)) (by decide +kernel))
set_option maxRecDepth 20000 in
theorem gL_execute_X5_execute : GoodIn wsL_execute (wsV RL 141 RX5 yX5_execute wsX5_execute) := goodIn_app (goodIn_of _ (by decide +kernel)) ggL_execute_X5_execute
theorem dL_execute_0 : decode cL_execute 0 = .ok (.aload_n 1, 1) := by decide +kernel
theorem dL_execute_1 : decode cL_execute 1 = .ok (.iconst 0, 1) := by decide +kernel
theorem dL_execute_2 : decode cL_execute 2 = .ok (.aload_n 0, 1) := by decide +kernel
theorem dL_execute_3 : decode cL_execute 3 = .ok (.invokevirtual 141, 3) := by decide +kernel
theorem dL_execute_6 : decode cL_execute 6 = .ok (.i2l, 1) := by decide +kernel
theorem dL_execute_7 : decode cL_execute 7 = .ok (.lastore, 1) := by decide +kernel
theorem dL_execute_8 : decode cL_execute 8 = .ok (.goto 9, 3) := by decide +kernel
theorem dL_execute_11 : decode cL_execute 11 = .ok (.astore_n 2, 1) := by decide +kernel
theorem dL_execute_12 : decode cL_execute 12 = .ok (.iconst 1, 1) := by decide +kernel
theorem dL_execute_13 : decode cL_execute 13 = .ok (.ireturn, 1) := by decide +kernel
theorem dL_execute_14 : decode cL_execute 14 = .ok (.astore_n 2, 1) := by decide +kernel
theorem dL_execute_15 : decode cL_execute 15 = .ok (.iconst 2, 1) := by decide +kernel
theorem dL_execute_16 : decode cL_execute 16 = .ok (.ireturn, 1) := by decide +kernel
theorem dL_execute_17 : decode cL_execute 17 = .ok (.iconst 0, 1) := by decide +kernel
theorem dL_execute_18 : decode cL_execute 18 = .ok (.ireturn, 1) := by decide +kernel
set_option maxRecDepth 20000 in
theorem ggL_errorPosition_X5_errorPosition : GoodIn wsL_errorPosition wsX5_errorPosition := goodIn_ca (goodIn_r _ [6, 7, 8, 9, 10, 11, 12, 13, 14, 15, 16, 17, 18, 19] (by decide +kernel) (by decide +kernel)) (goodIn_sub (fun _ h => List.mem_cons_of_mem _ (List.mem_append_right _ h)) (by decide +kernel))
set_option maxRecDepth 20000 in
theorem gL_errorPosition_X5_errorPosition : GoodIn wsL_errorPosition (wsV RL 144 RX5 yX5_errorPosition wsX5_errorPosition) := goodIn_app (goodIn_of _ (by decide +kernel)) ggL_errorPosition_X5_errorPosition
theorem dL_errorPosition_0 : decode cL_errorPosition 0 = .ok (.aload_n 1, 1) := by decide +kernel
theorem dL_errorPosition_1 : decode cL_errorPosition 1 = .ok (.iconst 0, 1) := by decide +kernel
theorem dL_errorPosition_2 : decode cL_errorPosition 2 = .ok (.aload_n 0, 1) := by decide +kernel
theorem dL_errorPosition_3 : decode cL_errorPosition 3 = .ok (.invokevirtual 144, 3) := by decide +kernel
theorem dL_errorPosition_6 : decode cL_errorPosition 6 = .ok (.i2l, 1) := by decide +kernel
theorem dL_errorPosition_7 : decode cL_errorPosition 7 = .ok (.lastore, 1) := by decide +kernel
theorem dL_errorPosition_8 : decode cL_errorPosition 8 = .ok (.goto 6, 3) := by decide +kernel
theorem dL_errorPosition_11 : decode cL_errorPosition 11 = .ok (.astore_n 2, 1) := by decide +kernel
theorem dL_errorPosition_12 : decode cL_errorPosition 12 = .ok (.iconst 1, 1) := by decide +kernel
theorem dL_errorPosition_13 : decode cL_errorPosition 13 = .ok (.ireturn, 1) := by decide +kernel
theorem dL_errorPosition_14 : decode cL_errorPosition 14 = .ok (.iconst 0, 1) := by decide +kernel
theorem dL_errorPosition_15 : decode cL_errorPosition 15 = .ok (.ireturn, 1) := by decide +kernel
set_option maxRecDepth 20000 in
theorem ggL_failedCommand_X5_failedCommand : GoodIn wsL_failedCommand wsX5_failedCommand := goodIn_ca (goodIn_r _ [6, 7, 8, 9, 10, 11, 12, 13, 14, 15, 16, 17, 18, 19] (by decide +kernel) (by decide +kernel)) (goodIn_sub (fun _ h => List.mem_cons_of_mem _ (List.mem_append_right _ h)) (by decide +kernel))
set_option maxRecDepth 20000 in
theorem gL_failedCommand_X5_failedCommand : GoodIn wsL_failedCommand (wsV RL 147 RX5 yX5_failedCommand wsX5_failedCommand) := goodIn_app (goodIn_of _ (by decide +kernel)) ggL_failedCommand_X5_failedCommand
theorem dL_failedCommand_0 : decode cL_failedCommand 0 = .ok (.aload_n 1, 1) := by decide +kernel
theorem dL_failedCommand_1 : decode cL_failedCommand 1 = .ok (.iconst 0, 1) := by decide +kernel
theorem dL_failedCommand_2 : decode cL_failedCommand 2 = .ok (.aload_n 0, 1) := by decide +kernel
theorem dL_failedCommand_3 : decode cL_failedCommand 3 = .ok (.invokevirtual 147, 3) := by decide +kernel
theorem dL_failedCommand_6 : decode cL_failedCommand 6 = .ok (.i2l, 1) := by decide +kernel
theorem dL_failedCommand_7 : decode cL_failedCommand 7 = .ok (.lastore, 1) := by decide +kernel
theorem dL_failedCommand_8 : decode cL_failedCommand 8 = .ok (.goto 6, 3) := by decide +kernel
theorem dL_failedCommand_11 : decode cL_failedCommand 11 = .ok (.astore_n 2, 1) := by decide +kernel
theorem dL_failedCommand_12 : decode cL_failedCommand 12 = .ok (.iconst 1, 1) := by decide +kernel
theorem dL_failedCommand_13 : decode cL_failedCommand 13 = .ok (.ireturn, 1) := by decide +kernel
theorem dL_failedCommand_14 : decode cL_failedCommand 14 = .ok (.iconst 0, 1) := by decide +kernel
theorem dL_failedCommand_15 : decode cL_failedCommand 15 = .ok (.ireturn, 1) := by decide +kernel
set_option maxRecDepth 20000 in
theorem ggL_undo_X5_undo : GoodIn wsL_undo wsX5_undo := goodIn_ca (goodIn_ca (goodIn_r _ [6, 7, 8, 9, 10, 11, 12, 13, 14, 15, 16, 17, 18, 19, 20, 21, 22, 23, 24, 25, 26, 27, 28, 29, 30, 31, 32, 33, 34, 35, 36, 37, 38, 39, 40, 41, 42, 43, 44, 45, 46, 47, 48, 49, 50, 51, 52] (by decide +kernel) (by decide +kernel)) (goodIn_sub (fun _ h => List.mem_cons_of_mem _ (List.mem_append_right _ h)) (by decide +kernel))) (goodIn_sub (fun _ h => List.mem_cons_of_mem _ (List.mem_append_left _ (List.mem_append_right _ h))) (by decide +kernel))
set_option maxRecDepth 20000 in
theorem gL_undo_X5_undo : GoodIn wsL_undo (wsV RL 150 RX5 yX5_undo wsX5_undo) := goodIn_app (goodIn_of _ (by decide +kernel)) ggL_undo_X5_undo
theorem dL_undo_0 : decode cL_undo 0 = .ok (.aload_n 1, 1) := by decide +kernel
theorem dL_undo_1 : decode cL_undo 1 = .ok (.iconst 0, 1) := by decide +kernel
theorem dL_undo_2 : decode cL_undo 2 = .ok (.aload_n 0, 1) := by decide +kernel
theorem dL_undo_3 : decode cL_undo 3 = .ok (.invokevirtual 150, 3) := by decide +kernel
theorem dL_undo_6 : decode cL_undo 6 = .ok (.i2l, 1) := by decide +kernel
theorem dL_undo_7 : decode cL_undo 7 = .ok (.lastore, 1) := by decide +kernel
theorem dL_undo_8 : decode cL_undo 8 = .ok (.goto 6, 3) := by decide +kernel
theorem dL_undo_11 : decode cL_undo 11 = .ok (.astore_n 2, 1) := by decide +kernel
theorem dL_undo_12 : decode cL_undo 12 = .ok (.iconst 1, 1) := by decide +kernel
theorem dL_undo_13 : decode cL_undo 13 = .ok (.ireturn, 1) := by decide +kernel
theorem dL_undo_14 : decode cL_undo 14 = .ok (.iconst 0, 1) := by decide +kernel
theorem dL_undo_15 : decode cL_undo 15 = .ok (.ireturn, 1) := by decide +kernel
set_option maxRecDepth 20000 in
theorem ggL_restore_X5_restore : GoodIn wsL_restore wsX5_restore := goodIn_ca (goodIn_ca (goodIn_r _ [6, 7, 8, 9, 10, 11, 12, 13, 14, 15, 16, 17, 18, 19, 20, 21, 22, 23, 24, 25, 26, 27, 28, 29, 30, 31, 32, 33, 34, 35, 36, 37, 38, 39, 40, 41, 42, 43, 44, 45, 46, 47, 48, 49, 50, 51, 52, 53, 54, 55] (by decide +kernel) (by decide +kernel)) (goodIn_sub (fun _ h => List.mem_cons_of_mem _ (List.mem_append_right _ h)) (by decide +kernel))) (goodIn_sub (fun _ h => List.mem_cons_of_mem _ (List.mem_append_left _ (List.mem_append_right _ h))) (by decide +kernel))
set_option maxRecDepth 20000 in
theorem gL_restore_X5_restore : GoodIn wsL_restore (wsV RL 153 RX5 yX5_restore wsX5_restore) := goodIn_app (goodIn_of _ (by decide +kernel)) ggL_restore_X5_restore
theorem dL_restore_0 : decode cL_restore 0 = .ok (.aload_n 1, 1) := by decide +kernel
theorem dL_restore_1 : decode cL_restore 1 = .ok (.iconst 0, 1) := by decide +kernel
theorem dL_restore_2 : decode cL_restore 2 = .ok (.aload_n 0, 1) := by decide +kernel
theorem dL_restore_3 : decode cL_restore 3 = .ok (.invokevirtual 153, 3) := by decide +kernel
theorem dL_restore_6 : decode cL_restore 6 = .ok (.i2l, 1) := by decide +kernel
theorem dL_restore_7 : decode cL_restore 7 = .ok (.lastore, 1) := by decide +kernel
theorem dL_restore_8 : decode cL_restore 8 = .ok (.goto 6, 3) := by decide +kernel
theorem dL_restore_11 : decode cL_restore 11 = .ok (.astore_n 2, 1) := by decide +kernel
theorem dL_restore_12 : decode cL_restore 12 = .ok (.iconst 1, 1) := by decide +kernel
theorem dL_restore_13 : decode cL_restore 13 = .ok (.ireturn, 1) := by decide +kernel
theorem dL_restore_14 : decode cL_restore 14 = .ok (.iconst 0, 1) := by decide +kernel
theorem dL_restore_15 : decode cL_restore 15 = .ok (.ireturn, 1) := by decide +kernel
set_option maxRecDepth 20000 in
theorem ggL_law_X5_init : GoodIn wsL_law wsX5_init := goodIn_ca (goodIn_r _ [10, 11, 12, 13, 14, 15, 16, 17, 18, 19, 20, 21, 22, 23, 24, 25, 26, 27, 28, 29, 30, 31, 32, 33, 34, 35, 36, 37, 38, 39, 40, 41, 42, 43, 44, 45, 46, 47, 48, 49, 50, 51, 52, 53, 54, 55, 56, 57, 58, 59, 60, 61, 62, 63, 64, 65, 66, 67, 68, 69, 70, 71, 72, 73, 74, 75, 76, 77, 78, 79, 80, 81, 82, 83, 84, 85, 86, 87, 88, 89, 90, 91, 92, 93, 94, 95, 96, 97, 98, 99, 100, 101, 102, 103, 104, 105, 106, 1535, 1508, 1509, 1510, 1511, 1512, 1513, 1514, 1515, 1516, 1517, 1536, 1537, 1538, 1539, 1540, 1541, 1542, 1543, 1544, 1545, 1546, 1547, 1548, 1549, 1550, 1551] (by decide +kernel) (by decide +kernel)) (goodIn_sub (fun _ h => List.mem_append_left _ (List.mem_append_left _ (List.mem_append_left _ (List.mem_append_left _ (List.mem_append_left _ (List.mem_append_left _ (List.mem_append_right _ h))))))) (by decide +kernel))
set_option maxRecDepth 20000 in
theorem gL_law_X5_init : GoodIn wsL_law (wsX5_init) := ggL_law_X5_init
set_option maxRecDepth 20000 in
theorem ggL_law_X6_init : GoodIn wsL_law wsX6_init := goodIn_ca (goodIn_r _ [109, 110, 12, 13, 52, 111, 112, 113, 114, 115, 116, 117, 118, 119, 120, 1518, 1519, 1520, 1521, 1522, 1523, 1524, 1525, 1526, 1527, 1528, 1529, 1530, 1531, 1532, 1533, 1534] (by decide +kernel) (by decide +kernel)) (goodIn_sub (fun _ h => List.mem_append_left _ (List.mem_append_left _ (List.mem_append_left _ (List.mem_append_left _ (List.mem_append_left _ (List.mem_append_left _ (List.mem_append_right _ h))))))) (by decide +kernel))
set_option maxRecDepth 20000 in
theorem gL_law_X6_init : GoodIn wsL_law (wsX6_init) := ggL_law_X6_init
set_option maxRecDepth 20000 in
theorem ggL_law_L_addHardMoon : GoodIn wsL_law wsL_addHardMoon := goodIn_ca (goodIn_ca (goodIn_ca (goodIn_r _ [124, 125, 126, 127, 128, 2, 129, 130, 131, 132, 133, 134, 135, 136, 137, 17, 25, 138, 139, 140, 16, 141, 142, 143, 144, 145, 146, 147, 148, 149, 150, 151, 152, 47, 153, 154, 155, 36, 156, 53, 157, 158, 159, 24, 160, 70, 71, 72, 161, 162, 163, 164, 165, 166, 167, 168, 169, 170, 55, 56, 57, 171, 172, 173, 174, 54, 1508, 1509, 1510, 1511, 1512, 1513, 1514, 1515, 1516, 1517, 1535, 1551, 1539, 1540, 1541] (by decide +kernel) (by decide +kernel)) (goodIn_sub (fun _ h => List.mem_append_left _ (List.mem_append_left _ (List.mem_append_left _ (List.mem_append_left _ (List.mem_append_left _ (List.mem_append_left _ (List.mem_append_right _ h))))))) (by decide +kernel))) (goodIn_sub (fun _ h => List.mem_append_left _ (List.mem_append_left _ (List.mem_append_left _ (List.mem_append_left _ (List.mem_append_left _ (List.mem_append_right _ h)))))) (by decide +kernel))) (goodIn_sub (fun _ h => List.mem_append_left _ (List.mem_append_left _ (List.mem_append_left _ (List.mem_append_left _ (List.mem_append_right _ h))))) (by decide +kernel))
set_option maxRecDepth 20000 in
theorem gL_law_L_addHardMoon : GoodIn wsL_law (va_wsS RL 160 yL_addHardMoon wsL_addHardMoon) := goodIn_app (goodIn_of _ (by decide +kernel)) ggL_law_L_addHardMoon
set_option maxRecDepth 20000 in
theorem ggL_law_X6_addHardMoon : GoodIn wsL_law wsX6_addHardMoon := goodIn_ca (goodIn_r _ [178, 179, 180, 181, 5, 182, 183, 111, 112, 184, 185, 186, 187, 188, 189, 190, 191, 192, 193, 194, 195, 196, 197, 198, 199, 200, 201, 202, 203, 204, 205, 206, 114, 1518, 1519, 1520, 1521, 1522, 1523, 1524, 1525, 1526, 1527, 1528, 1529, 1530, 1531, 1532, 1533, 1534] (by decide +kernel) (by decide +kernel)) (goodIn_sub (fun _ h => List.mem_append_left _ (List.mem_append_left _ (List.mem_append_left _ (List.mem_append_left _ (List.mem_append_left _ (List.mem_append_left _ (List.mem_append_right _ h))))))) (by decide +kernel))
set_option maxRecDepth 20000 in
theorem gL_law_X6_addHardMoon : GoodIn wsL_law (wsV RL 165 RX6 yX6_addHardMoon wsX6_addHardMoon) := goodIn_app (goodIn_of _ (by decide +kernel)) ggL_law_X6_addHardMoon
set_option maxRecDepth 20000 in
theorem ggL_law_X6_thrown : GoodIn wsL_law wsX6_thrown := goodIn_r _ [210, 183, 1518, 1519, 1520, 1521, 1522, 1523, 1524, 1525, 1526, 1527, 1528, 1529, 1530, 1531, 1532, 1533, 1534] (by decide +kernel) (by decide +kernel)
set_option maxRecDepth 20000 in
theorem gL_law_X6_thrown : GoodIn wsL_law (wsV RL 166 RX6 yX6_thrown wsX6_thrown) := goodIn_app (goodIn_of _ (by decide +kernel)) ggL_law_X6_thrown
set_option maxRecDepth 20000 in
theorem ggL_law_L_addSoftMoon : GoodIn wsL_law wsL_addSoftMoon := goodIn_ca (goodIn_ca (goodIn_ca (goodIn_r _ [213, 125, 214, 215, 216, 2, 217, 130, 131, 132, 133, 134, 135, 136, 137, 17, 25, 138, 139, 140, 16, 141, 142, 143, 144, 145, 146, 147, 148, 149, 150, 151, 152, 47, 153, 154, 155, 36, 156, 53, 157, 158, 159, 24, 160, 70, 71, 72, 161, 162, 163, 164, 165, 166, 167, 168, 169, 170, 55, 56, 57, 171, 172, 173, 174, 54, 1508, 1509, 1510, 1511, 1512, 1513, 1514, 1515, 1516, 1517, 1535, 1551, 1539, 1540, 1541] (by decide +kernel) (by decide +kernel)) (goodIn_sub (fun _ h => List.mem_append_left _ (List.mem_append_left _ (List.mem_append_left _ (List.mem_append_left _ (List.mem_append_left _ (List.mem_append_left _ (List.mem_append_right _ h))))))) (by decide +kernel))) (goodIn_sub (fun _ h => List.mem_append_left _ (List.mem_append_left _ (List.mem_append_left _ (List.mem_append_left _ (List.mem_append_left _ (List.mem_append_right _ h)))))) (by decide +kernel))) (goodIn_sub (fun _ h => List.mem_append_left _ (List.mem_append_left _ (List.mem_append_left _ (List.mem_append_left _ (List.mem_append_right _ h))))) (by decide +kernel))
set_option maxRecDepth 20000 in
theorem gL_law_L_addSoftMoon : GoodIn wsL_law (va_wsS RL 169 yL_addSoftMoon wsL_addSoftMoon) := goodIn_app (goodIn_of _ (by decide +kernel)) ggL_law_L_addSoftMoon
set_option maxRecDepth 20000 in
theorem ggL_law_X6_addSoftMoon : GoodIn wsL_law wsX6_addSoftMoon := goodIn_ca (goodIn_r _ [221, 179, 180, 181, 5, 182, 183, 111, 112, 184, 185, 186, 187, 188, 189, 190, 191, 192, 193, 194, 195, 196, 197, 198, 199, 200, 201, 202, 203, 204, 205, 206, 114, 1518, 1519, 1520, 1521, 1522, 1523, 1524, 1525, 1526, 1527, 1528, 1529, 1530, 1531, 1532, 1533, 1534] (by decide +kernel) (by decide +kernel)) (goodIn_sub (fun _ h => List.mem_append_left _ (List.mem_append_left _ (List.mem_append_left _ (List.mem_append_left _ (List.mem_append_left _ (List.mem_append_left _ (List.mem_append_right _ h))))))) (by decide +kernel))
set_option maxRecDepth 20000 in
theorem gL_law_X6_addSoftMoon : GoodIn wsL_law (wsV RL 171 RX6 yX6_addSoftMoon wsX6_addSoftMoon) := goodIn_app (goodIn_of _ (by decide +kernel)) ggL_law_X6_addSoftMoon
set_option maxRecDepth 20000 in
theorem ggL_law_L_addBubbleMoon : GoodIn wsL_law wsL_addBubbleMoon := goodIn_ca (goodIn_ca (goodIn_ca (goodIn_r _ [224, 125, 225, 226, 227, 2, 228, 130, 131, 132, 133, 134, 135, 136, 137, 17, 25, 138, 139, 140, 16, 141, 142, 143, 144, 145, 146, 147, 148, 149, 150, 151, 152, 47, 153, 154, 155, 36, 156, 53, 157, 158, 159, 24, 160, 70, 71, 72, 161, 162, 163, 164, 165, 166, 167, 168, 169, 170, 55, 56, 57, 171, 172, 173, 174, 54, 1508, 1509, 1510, 1511, 1512, 1513, 1514, 1515, 1516, 1517, 1535, 1551, 1539, 1540, 1541] (by decide +kernel) (by decide +kernel)) (goodIn_sub (fun _ h => List.mem_append_left _ (List.mem_append_left _ (List.mem_append_left _ (List.mem_append_left _ (List.mem_append_left _ (List.mem_append_left _ (List.mem_append_right _ h))))))) (by decide +kernel))) (goodIn_sub (fun _ h => List.mem_append_left _ (List.mem_append_left _ (List.mem_append_left _ (List.mem_append_left _ (List.mem_append_left _ (List.mem_append_right _ h)))))) (by decide +kernel))) (goodIn_sub (fun _ h => List.mem_append_left _ (List.mem_append_left _ (List.mem_append_left _ (List.mem_append_left _ (List.mem_append_right _ h))))) (by decide +kernel))
set_option maxRecDepth 20000 in
theorem gL_law_L_addBubbleMoon : GoodIn wsL_law (va_wsS RL 172 yL_addBubbleMoon wsL_addBubbleMoon) := goodIn_app (goodIn_of _ (by decide +kernel)) ggL_law_L_addBubbleMoon
set_option maxRecDepth 20000 in
theorem ggL_law_X6_addBubbleMoon : GoodIn wsL_law wsX6_addBubbleMoon := goodIn_ca (goodIn_r _ [232, 179, 180, 181, 5, 182, 183, 111, 112, 184, 185, 186, 187, 188, 189, 190, 191, 192, 193, 194, 195, 196, 197, 198, 199, 200, 201, 202, 203, 204, 205, 206, 114, 1518, 1519, 1520, 1521, 1522, 1523, 1524, 1525, 1526, 1527, 1528, 1529, 1530, 1531, 1532, 1533, 1534] (by decide +kernel) (by decide +kernel)) (goodIn_sub (fun _ h => List.mem_append_left _ (List.mem_append_left _ (List.mem_append_left _ (List.mem_append_left _ (List.mem_append_left _ (List.mem_append_left _ (List.mem_append_right _ h))))))) (by decide +kernel))
set_option maxRecDepth 20000 in
theorem gL_law_X6_addBubbleMoon : GoodIn wsL_law (wsV RL 174 RX6 yX6_addBubbleMoon wsX6_addBubbleMoon) := goodIn_app (goodIn_of _ (by decide +kernel)) ggL_law_X6_addBubbleMoon
set_option maxRecDepth 20000 in
theorem ggL_law_L_removeMoon : GoodIn wsL_law wsL_removeMoon := goodIn_ca (goodIn_ca (goodIn_r _ [235, 236, 237, 238, 239, 2, 240, 25, 17, 138, 241, 242, 243, 244, 245, 246, 247, 248, 249, 16, 250, 149, 150, 151, 152, 47, 153, 154, 155, 36, 156, 53, 157, 158, 159, 24, 160, 70, 71, 72, 161, 162, 163, 164, 165, 166, 167, 168, 169, 170, 55, 56, 57, 251, 252, 253, 254, 255, 54, 1508, 1509, 1510, 1511, 1512, 1513, 1514, 1515, 1516, 1517, 1535, 1551, 1539, 1540, 1541] (by decide +kernel) (by decide +kernel)) (goodIn_sub (fun _ h => List.mem_append_left _ (List.mem_append_left _ (List.mem_append_left _ (List.mem_append_left _ (List.mem_append_left _ (List.mem_append_left _ (List.mem_append_right _ h))))))) (by decide +kernel))) (goodIn_sub (fun _ h => List.mem_append_left _ (List.mem_append_left _ (List.mem_append_left _ (List.mem_append_right _ h)))) (by decide +kernel))
set_option maxRecDepth 20000 in
theorem gL_law_L_removeMoon : GoodIn wsL_law (va_wsS RL 175 yL_removeMoon wsL_removeMoon) := goodIn_app (goodIn_of _ (by decide +kernel)) ggL_law_L_removeMoon
set_option maxRecDepth 20000 in
theorem ggL_law_X6_removeMoon : GoodIn wsL_law wsX6_removeMoon := goodIn_ca (goodIn_r _ [259, 179, 180, 181, 5, 182, 183, 111, 112, 184, 185, 186, 187, 260, 261, 262, 263, 264, 265, 266, 267, 192, 193, 194, 198, 199, 200, 201, 202, 203, 204, 205, 206, 114, 1518, 1519, 1520, 1521, 1522, 1523, 1524, 1525, 1526, 1527, 1528, 1529, 1530, 1531, 1532, 1533, 1534] (by decide +kernel) (by decide +kernel)) (goodIn_sub (fun _ h => List.mem_append_left _ (List.mem_append_left _ (List.mem_append_left _ (List.mem_append_left _ (List.mem_append_left _ (List.mem_append_left _ (List.mem_append_right _ h))))))) (by decide +kernel))
set_option maxRecDepth 20000 in
theorem gL_law_X6_removeMoon : GoodIn wsL_law (wsV RL 178 RX6 yX6_removeMoon wsX6_removeMoon) := goodIn_app (goodIn_of _ (by decide +kernel)) ggL_law_X6_removeMoon
set_option maxRecDepth 20000 in
theorem ggL_law_X5_moonCount : GoodIn wsL_law wsX5_moonCount := goodIn_ca (goodIn_r _ [271, 17, 272, 150, 151, 16, 152, 47, 153, 154, 155, 36, 156, 53, 1508, 1509, 1510, 1511, 1512, 1513, 1514, 1515, 1516, 1517, 1535, 1551] (by decide +kernel) (by decide +kernel)) (goodIn_sub (fun _ h => List.mem_append_left _ (List.mem_append_left _ (List.mem_append_left _ (List.mem_append_left _ (List.mem_append_left _ (List.mem_append_left _ (List.mem_append_right _ h))))))) (by decide +kernel))
set_option maxRecDepth 20000 in
theorem gL_law_X5_moonCount : GoodIn wsL_law (wsV RL 179 RX5 yX5_moonCount wsX5_moonCount) := goodIn_app (goodIn_of _ (by decide +kernel)) ggL_law_X5_moonCount
set_option maxRecDepth 20000 in
theorem ggL_law_X6_moonCount : GoodIn wsL_law wsX6_moonCount := goodIn_ca (goodIn_r _ [276, 183, 111, 1518, 1519, 1520, 1521, 1522, 1523, 1524, 1525, 1526, 1527, 1528, 1529, 1530, 1531, 1532, 1533, 1534] (by decide +kernel) (by decide +kernel)) (goodIn_sub (fun _ h => List.mem_append_left _ (List.mem_append_left _ (List.mem_append_left _ (List.mem_append_left _ (List.mem_append_left _ (List.mem_append_left _ (List.mem_append_right _ h))))))) (by decide +kernel))
set_option maxRecDepth 20000 in
theorem gL_law_X6_moonCount : GoodIn wsL_law (wsV RL 182 RX6 yX6_moonCount wsX6_moonCount) := goodIn_app (goodIn_of _ (by decide +kernel)) ggL_law_X6_moonCount
set_option maxRecDepth 20000 in
theorem ggL_law_L_positionOf : GoodIn wsL_law wsL_positionOf := goodIn_ca (goodIn_ca (goodIn_ca (goodIn_r _ [279, 236, 280, 281, 282, 2, 283, 17, 241, 242, 243, 244, 245, 246, 247, 248, 249, 16, 250, 149, 150, 151, 152, 47, 153, 154, 155, 36, 156, 53, 284, 285, 286, 287, 288, 289, 290, 291, 292, 293, 294, 295, 1508, 1509, 1510, 1511, 1512, 1513, 1514, 1515, 1516, 1517, 1535, 1551] (by decide +kernel) (by decide +kernel)) (goodIn_sub (fun _ h => List.mem_append_left _ (List.mem_append_left _ (List.mem_append_left _ (List.mem_append_left _ (List.mem_append_left _ (List.mem_append_left _ (List.mem_append_right _ h))))))) (by decide +kernel))) (goodIn_sub (fun _ h => List.mem_append_left _ (List.mem_append_left _ (List.mem_append_left _ (List.mem_append_right _ h)))) (by decide +kernel))) (goodIn_sub (fun _ h => List.mem_append_left _ (List.mem_append_left _ (List.mem_append_right _ h))) (by decide +kernel))
set_option maxRecDepth 20000 in
theorem gL_law_L_positionOf : GoodIn wsL_law (va_wsS RL 183 yL_positionOf wsL_positionOf) := goodIn_app (goodIn_of _ (by decide +kernel)) ggL_law_L_positionOf
set_option maxRecDepth 20000 in
theorem ggL_law_X6_positionOf : GoodIn wsL_law wsX6_positionOf := goodIn_ca (goodIn_ca (goodIn_r _ [299, 264, 265, 266, 5, 267, 111, 192, 193, 194, 300, 301, 302, 303, 183, 304, 305, 306, 307, 308, 309, 310, 311, 312, 313, 314, 315, 1518, 1519, 1520, 1521, 1522, 1523, 1524, 1525, 1526, 1527, 1528, 1529, 1530, 1531, 1532, 1533, 1534] (by decide +kernel) (by decide +kernel)) (goodIn_sub (fun _ h => List.mem_append_left _ (List.mem_append_left _ (List.mem_append_left _ (List.mem_append_left _ (List.mem_append_left _ (List.mem_append_left _ (List.mem_append_right _ h))))))) (by decide +kernel))) (goodIn_sub (fun _ h => List.mem_append_left _ (List.mem_append_left _ (List.mem_append_right _ h))) (by decide +kernel))
set_option maxRecDepth 20000 in
theorem gL_law_X6_positionOf : GoodIn wsL_law (wsV RL 185 RX6 yX6_positionOf wsX6_positionOf) := goodIn_app (goodIn_of _ (by decide +kernel)) ggL_law_X6_positionOf
set_option maxRecDepth 20000 in
theorem ggL_law_L_massOf : GoodIn wsL_law wsL_massOf := goodIn_ca (goodIn_ca (goodIn_r _ [318, 236, 319, 320, 321, 2, 322, 17, 241, 242, 243, 244, 245, 246, 247, 248, 249, 16, 250, 149, 150, 151, 152, 47, 153, 154, 155, 36, 156, 53, 323, 324, 325, 326, 327, 328, 163, 329, 288, 289, 290, 291, 330, 331, 332, 333, 334, 335, 336, 337, 1508, 1509, 1510, 1511, 1512, 1513, 1514, 1515, 1516, 1517, 1535, 1551] (by decide +kernel) (by decide +kernel)) (goodIn_sub (fun _ h => List.mem_append_left _ (List.mem_append_left _ (List.mem_append_left _ (List.mem_append_left _ (List.mem_append_left _ (List.mem_append_left _ (List.mem_append_right _ h))))))) (by decide +kernel))) (goodIn_sub (fun _ h => List.mem_append_left _ (List.mem_append_left _ (List.mem_append_left _ (List.mem_append_right _ h)))) (by decide +kernel))
set_option maxRecDepth 20000 in
theorem gL_law_L_massOf : GoodIn wsL_law (va_wsS RL 186 yL_massOf wsL_massOf) := goodIn_app (goodIn_of _ (by decide +kernel)) ggL_law_L_massOf
set_option maxRecDepth 20000 in
theorem ggL_law_X6_massOf : GoodIn wsL_law wsX6_massOf := goodIn_ca (goodIn_r _ [341, 264, 265, 266, 5, 267, 111, 192, 193, 194, 300, 301, 302, 303, 183, 342, 343, 344, 345, 346, 328, 163, 329, 308, 309, 310, 311, 312, 313, 314, 315, 1518, 1519, 1520, 1521, 1522, 1523, 1524, 1525, 1526, 1527, 1528, 1529, 1530, 1531, 1532, 1533, 1534] (by decide +kernel) (by decide +kernel)) (goodIn_sub (fun _ h => List.mem_append_left _ (List.mem_append_left _ (List.mem_append_left _ (List.mem_append_left _ (List.mem_append_left _ (List.mem_append_left _ (List.mem_append_right _ h))))))) (by decide +kernel))
set_option maxRecDepth 20000 in
theorem gL_law_X6_massOf : GoodIn wsL_law (wsV RL 188 RX6 yX6_massOf wsX6_massOf) := goodIn_app (goodIn_of _ (by decide +kernel)) ggL_law_X6_massOf
set_option maxRecDepth 20000 in
theorem ggL_law_L_ageOf : GoodIn wsL_law wsL_ageOf := goodIn_ca (goodIn_ca (goodIn_r _ [349, 236, 350, 351, 352, 2, 353, 17, 241, 242, 243, 244, 245, 246, 247, 248, 249, 16, 250, 149, 150, 151, 152, 47, 153, 154, 155, 36, 156, 53, 354, 289, 290, 291, 1508, 1509, 1510, 1511, 1512, 1513, 1514, 1515, 1516, 1517, 1535, 1551] (by decide +kernel) (by decide +kernel)) (goodIn_sub (fun _ h => List.mem_append_left _ (List.mem_append_left _ (List.mem_append_left _ (List.mem_append_left _ (List.mem_append_left _ (List.mem_append_left _ (List.mem_append_right _ h))))))) (by decide +kernel))) (goodIn_sub (fun _ h => List.mem_append_left _ (List.mem_append_left _ (List.mem_append_left _ (List.mem_append_right _ h)))) (by decide +kernel))
set_option maxRecDepth 20000 in
theorem gL_law_L_ageOf : GoodIn wsL_law (va_wsS RL 189 yL_ageOf wsL_ageOf) := goodIn_app (goodIn_of _ (by decide +kernel)) ggL_law_L_ageOf
set_option maxRecDepth 20000 in
theorem ggL_law_X6_ageOf : GoodIn wsL_law wsX6_ageOf := goodIn_ca (goodIn_r _ [358, 264, 265, 266, 5, 267, 111, 192, 193, 194, 300, 301, 302, 303, 183, 312, 313, 314, 315, 308, 309, 310, 311, 1518, 1519, 1520, 1521, 1522, 1523, 1524, 1525, 1526, 1527, 1528, 1529, 1530, 1531, 1532, 1533, 1534] (by decide +kernel) (by decide +kernel)) (goodIn_sub (fun _ h => List.mem_append_left _ (List.mem_append_left _ (List.mem_append_left _ (List.mem_append_left _ (List.mem_append_left _ (List.mem_append_left _ (List.mem_append_right _ h))))))) (by decide +kernel))
set_option maxRecDepth 20000 in
theorem gL_law_X6_ageOf : GoodIn wsL_law (wsV RL 191 RX6 yX6_ageOf wsX6_ageOf) := goodIn_app (goodIn_of _ (by decide +kernel)) ggL_law_X6_ageOf
set_option maxRecDepth 20000 in
theorem ggL_law_L_isHard : GoodIn wsL_law wsL_isHard := goodIn_ca (goodIn_ca (goodIn_r _ [361, 236, 362, 363, 364, 2, 365, 17, 241, 242, 243, 244, 245, 246, 247, 248, 249, 16, 250, 149, 150, 151, 152, 47, 153, 154, 155, 36, 156, 53, 366, 335, 336, 337, 1508, 1509, 1510, 1511, 1512, 1513, 1514, 1515, 1516, 1517, 1535, 1551] (by decide +kernel) (by decide +kernel)) (goodIn_sub (fun _ h => List.mem_append_left _ (List.mem_append_left _ (List.mem_append_left _ (List.mem_append_left _ (List.mem_append_left _ (List.mem_append_left _ (List.mem_append_right _ h))))))) (by decide +kernel))) (goodIn_sub (fun _ h => List.mem_append_left _ (List.mem_append_left _ (List.mem_append_left _ (List.mem_append_right _ h)))) (by decide +kernel))
set_option maxRecDepth 20000 in
theorem gL_law_L_isHard : GoodIn wsL_law (va_wsS RL 192 yL_isHard wsL_isHard) := goodIn_app (goodIn_of _ (by decide +kernel)) ggL_law_L_isHard
set_option maxRecDepth 20000 in
theorem ggL_law_X6_isHard : GoodIn wsL_law wsX6_isHard := goodIn_ca (goodIn_r _ [370, 264, 265, 266, 5, 267, 111, 192, 193, 194, 300, 301, 302, 303, 183, 308, 309, 310, 311, 1518, 1519, 1520, 1521, 1522, 1523, 1524, 1525, 1526, 1527, 1528, 1529, 1530, 1531, 1532, 1533, 1534] (by decide +kernel) (by decide +kernel)) (goodIn_sub (fun _ h => List.mem_append_left _ (List.mem_append_left _ (List.mem_append_left _ (List.mem_append_left _ (List.mem_append_left _ (List.mem_append_left _ (List.mem_append_right _ h))))))) (by decide +kernel))
set_option maxRecDepth 20000 in
theorem gL_law_X6_isHard : GoodIn wsL_law (wsV RL 194 RX6 yX6_isHard wsX6_isHard) := goodIn_app (goodIn_of _ (by decide +kernel)) ggL_law_X6_isHard
set_option maxRecDepth 20000 in
theorem ggL_law_L_isSoft : GoodIn wsL_law wsL_isSoft := goodIn_ca (goodIn_ca (goodIn_r _ [373, 236, 374, 375, 376, 2, 377, 17, 241, 242, 243, 244, 245, 246, 247, 248, 249, 16, 250, 149, 150, 151, 152, 47, 153, 154, 155, 36, 156, 53, 366, 335, 336, 337, 1508, 1509, 1510, 1511, 1512, 1513, 1514, 1515, 1516, 1517, 1535, 1551] (by decide +kernel) (by decide +kernel)) (goodIn_sub (fun _ h => List.mem_append_left _ (List.mem_append_left _ (List.mem_append_left _ (List.mem_append_left _ (List.mem_append_left _ (List.mem_append_left _ (List.mem_append_right _ h))))))) (by decide +kernel))) (goodIn_sub (fun _ h => List.mem_append_left _ (List.mem_append_left _ (List.mem_append_left _ (List.mem_append_right _ h)))) (by decide +kernel))
set_option maxRecDepth 20000 in
theorem gL_law_L_isSoft : GoodIn wsL_law (va_wsS RL 195 yL_isSoft wsL_isSoft) := goodIn_app (goodIn_of _ (by decide +kernel)) ggL_law_L_isSoft
set_option maxRecDepth 20000 in
theorem ggL_law_X6_isSoft : GoodIn wsL_law wsX6_isSoft := goodIn_ca (goodIn_r _ [381, 264, 265, 266, 5, 267, 111, 192, 193, 194, 300, 301, 302, 303, 183, 308, 309, 310, 311, 1518, 1519, 1520, 1521, 1522, 1523, 1524, 1525, 1526, 1527, 1528, 1529, 1530, 1531, 1532, 1533, 1534] (by decide +kernel) (by decide +kernel)) (goodIn_sub (fun _ h => List.mem_append_left _ (List.mem_append_left _ (List.mem_append_left _ (List.mem_append_left _ (List.mem_append_left _ (List.mem_append_left _ (List.mem_append_right _ h))))))) (by decide +kernel))
set_option maxRecDepth 20000 in
theorem gL_law_X6_isSoft : GoodIn wsL_law (wsV RL 197 RX6 yX6_isSoft wsX6_isSoft) := goodIn_app (goodIn_of _ (by decide +kernel)) ggL_law_X6_isSoft
set_option maxRecDepth 20000 in
theorem ggL_law_L_isEclipsed : GoodIn wsL_law wsL_isEclipsed := goodIn_ca (goodIn_ca (goodIn_ca (goodIn_r _ [384, 236, 385, 386, 387, 2, 388, 17, 241, 242, 243, 244, 245, 246, 247, 248, 249, 16, 250, 149, 150, 151, 152, 47, 153, 154, 155, 36, 156, 53, 284, 285, 286, 287, 288, 289, 290, 291, 292, 293, 294, 295, 389, 390, 391, 392, 393, 394, 395, 396, 397, 163, 398, 399, 162, 164, 1508, 1509, 1510, 1511, 1512, 1513, 1514, 1515, 1516, 1517, 1535, 1551] (by decide +kernel) (by decide +kernel)) (goodIn_sub (fun _ h => List.mem_append_left _ (List.mem_append_left _ (List.mem_append_left _ (List.mem_append_left _ (List.mem_append_left _ (List.mem_append_left _ (List.mem_append_right _ h))))))) (by decide +kernel))) (goodIn_sub (fun _ h => List.mem_append_left _ (List.mem_append_left _ (List.mem_append_left _ (List.mem_append_right _ h)))) (by decide +kernel))) (goodIn_sub (fun _ h => List.mem_append_left _ (List.mem_append_left _ (List.mem_append_right _ h))) (by decide +kernel))
set_option maxRecDepth 20000 in
theorem gL_law_L_isEclipsed : GoodIn wsL_law (va_wsS RL 198 yL_isEclipsed wsL_isEclipsed) := goodIn_app (goodIn_of _ (by decide +kernel)) ggL_law_L_isEclipsed
set_option maxRecDepth 20000 in
theorem ggL_law_X6_isEclipsed : GoodIn wsL_law wsX6_isEclipsed := goodIn_ca (goodIn_ca (goodIn_r _ [403, 264, 265, 266, 5, 267, 111, 192, 193, 194, 300, 301, 302, 303, 183, 404, 405, 406, 407, 304, 305, 306, 307, 308, 309, 310, 311, 312, 313, 314, 315, 1518, 1519, 1520, 1521, 1522, 1523, 1524, 1525, 1526, 1527, 1528, 1529, 1530, 1531, 1532, 1533, 1534] (by decide +kernel) (by decide +kernel)) (goodIn_sub (fun _ h => List.mem_append_left _ (List.mem_append_left _ (List.mem_append_left _ (List.mem_append_left _ (List.mem_append_left _ (List.mem_append_left _ (List.mem_append_right _ h))))))) (by decide +kernel))) (goodIn_sub (fun _ h => List.mem_append_left _ (List.mem_append_left _ (List.mem_append_right _ h))) (by decide +kernel))
set_option maxRecDepth 20000 in
theorem gL_law_X6_isEclipsed : GoodIn wsL_law (wsV RL 200 RX6 yX6_isEclipsed wsX6_isEclipsed) := goodIn_app (goodIn_of _ (by decide +kernel)) ggL_law_X6_isEclipsed
set_option maxRecDepth 20000 in
theorem ggL_law_L_placeToe : GoodIn wsL_law wsL_placeToe := goodIn_ca (goodIn_ca (goodIn_ca (goodIn_r _ [410, 236, 411, 412, 413, 2, 414, 136, 137, 17, 25, 138, 415, 416, 417, 245, 246, 418, 143, 16, 144, 419, 420, 421, 422, 423, 424, 425, 426, 47, 142, 153, 154, 155, 36, 156, 53, 427, 428, 429, 430, 157, 158, 159, 24, 160, 70, 71, 72, 161, 162, 163, 164, 165, 166, 167, 168, 169, 170, 55, 56, 57, 431, 432, 433, 434, 54, 1508, 1509, 1510, 1511, 1512, 1513, 1514, 1515, 1516, 1517, 1535, 1551, 1539, 1540, 1541] (by decide +kernel) (by decide +kernel)) (goodIn_sub (fun _ h => List.mem_append_left _ (List.mem_append_left _ (List.mem_append_left _ (List.mem_append_left _ (List.mem_append_left _ (List.mem_append_left _ (List.mem_append_right _ h))))))) (by decide +kernel))) (goodIn_sub (fun _ h => List.mem_append_left _ (List.mem_append_left _ (List.mem_append_left _ (List.mem_append_left _ (List.mem_append_right _ h))))) (by decide +kernel))) (goodIn_sub (fun _ h => List.mem_append_left _ (List.mem_append_left _ (List.mem_append_left _ (List.mem_append_right _ h)))) (by decide +kernel))
set_option maxRecDepth 20000 in
theorem gL_law_L_placeToe : GoodIn wsL_law (va_wsS RL 201 yL_placeToe wsL_placeToe) := goodIn_app (goodIn_of _ (by decide +kernel)) ggL_law_L_placeToe
set_option maxRecDepth 20000 in
theorem ggL_law_X6_placeToe : GoodIn wsL_law wsX6_placeToe := goodIn_ca (goodIn_r _ [438, 179, 180, 181, 5, 182, 183, 111, 112, 184, 185, 186, 187, 439, 440, 441, 442, 195, 196, 197, 192, 193, 194, 198, 199, 200, 201, 443, 444, 445, 446, 202, 203, 204, 205, 206, 114, 1518, 1519, 1520, 1521, 1522, 1523, 1524, 1525, 1526, 1527, 1528, 1529, 1530, 1531, 1532, 1533, 1534] (by decide +kernel) (by decide +kernel)) (goodIn_sub (fun _ h => List.mem_append_left _ (List.mem_append_left _ (List.mem_append_left _ (List.mem_append_left _ (List.mem_append_left _ (List.mem_append_left _ (List.mem_append_right _ h))))))) (by decide +kernel))
set_option maxRecDepth 20000 in
theorem gL_law_X6_placeToe : GoodIn wsL_law (wsV RL 203 RX6 yX6_placeToe wsX6_placeToe) := goodIn_app (goodIn_of _ (by decide +kernel)) ggL_law_X6_placeToe
set_option maxRecDepth 20000 in
theorem ggL_law_L_removeToe : GoodIn wsL_law wsL_removeToe := goodIn_ca (goodIn_ca (goodIn_ca (goodIn_r _ [449, 236, 450, 451, 452, 2, 453, 136, 137, 17, 25, 138, 415, 416, 417, 245, 246, 418, 143, 16, 144, 454, 424, 425, 426, 47, 142, 153, 154, 155, 36, 156, 53, 157, 158, 159, 24, 160, 70, 71, 72, 161, 162, 163, 164, 165, 166, 167, 168, 169, 170, 55, 56, 57, 455, 456, 457, 458, 54, 427, 428, 429, 430, 1508, 1509, 1510, 1511, 1512, 1513, 1514, 1515, 1516, 1517, 1535, 1551, 1539, 1540, 1541] (by decide +kernel) (by decide +kernel)) (goodIn_sub (fun _ h => List.mem_append_left _ (List.mem_append_left _ (List.mem_append_left _ (List.mem_append_left _ (List.mem_append_left _ (List.mem_append_left _ (List.mem_append_right _ h))))))) (by decide +kernel))) (goodIn_sub (fun _ h => List.mem_append_left _ (List.mem_append_left _ (List.mem_append_left _ (List.mem_append_left _ (List.mem_append_right _ h))))) (by decide +kernel))) (goodIn_sub (fun _ h => List.mem_append_left _ (List.mem_append_left _ (List.mem_append_left _ (List.mem_append_right _ h)))) (by decide +kernel))
set_option maxRecDepth 20000 in
theorem gL_law_L_removeToe : GoodIn wsL_law (va_wsS RL 204 yL_removeToe wsL_removeToe) := goodIn_app (goodIn_of _ (by decide +kernel)) ggL_law_L_removeToe
set_option maxRecDepth 20000 in
theorem ggL_law_X6_removeToe : GoodIn wsL_law wsX6_removeToe := goodIn_ca (goodIn_r _ [462, 179, 180, 181, 5, 182, 183, 111, 112, 184, 185, 186, 187, 463, 464, 465, 466, 195, 196, 197, 192, 193, 194, 198, 199, 200, 201, 443, 444, 445, 446, 202, 203, 204, 205, 206, 114, 1518, 1519, 1520, 1521, 1522, 1523, 1524, 1525, 1526, 1527, 1528, 1529, 1530, 1531, 1532, 1533, 1534] (by decide +kernel) (by decide +kernel)) (goodIn_sub (fun _ h => List.mem_append_left _ (List.mem_append_left _ (List.mem_append_left _ (List.mem_append_left _ (List.mem_append_left _ (List.mem_append_left _ (List.mem_append_right _ h))))))) (by decide +kernel))
set_option maxRecDepth 20000 in
theorem gL_law_X6_removeToe : GoodIn wsL_law (wsV RL 206 RX6 yX6_removeToe wsX6_removeToe) := goodIn_app (goodIn_of _ (by decide +kernel)) ggL_law_X6_removeToe
set_option maxRecDepth 20000 in
theorem ggL_law_L_hasToe : GoodIn wsL_law wsL_hasToe := goodIn_ca (goodIn_ca (goodIn_r _ [469, 236, 470, 471, 472, 2, 473, 17, 415, 416, 417, 245, 246, 418, 143, 16, 144, 454, 424, 425, 426, 47, 142, 153, 154, 155, 36, 156, 53, 1508, 1509, 1510, 1511, 1512, 1513, 1514, 1515, 1516, 1517, 1535, 1551] (by decide +kernel) (by decide +kernel)) (goodIn_sub (fun _ h => List.mem_append_left _ (List.mem_append_left _ (List.mem_append_left _ (List.mem_append_left _ (List.mem_append_left _ (List.mem_append_left _ (List.mem_append_right _ h))))))) (by decide +kernel))) (goodIn_sub (fun _ h => List.mem_append_left _ (List.mem_append_left _ (List.mem_append_left _ (List.mem_append_right _ h)))) (by decide +kernel))
set_option maxRecDepth 20000 in
theorem gL_law_L_hasToe : GoodIn wsL_law (va_wsS RL 207 yL_hasToe wsL_hasToe) := goodIn_app (goodIn_of _ (by decide +kernel)) ggL_law_L_hasToe
set_option maxRecDepth 20000 in
theorem ggL_law_X6_hasToe : GoodIn wsL_law wsX6_hasToe := goodIn_ca (goodIn_r _ [477, 111, 195, 196, 5, 197, 192, 193, 194, 300, 301, 302, 303, 183, 1518, 1519, 1520, 1521, 1522, 1523, 1524, 1525, 1526, 1527, 1528, 1529, 1530, 1531, 1532, 1533, 1534] (by decide +kernel) (by decide +kernel)) (goodIn_sub (fun _ h => List.mem_append_left _ (List.mem_append_left _ (List.mem_append_left _ (List.mem_append_left _ (List.mem_append_left _ (List.mem_append_left _ (List.mem_append_right _ h))))))) (by decide +kernel))
set_option maxRecDepth 20000 in
theorem gL_law_X6_hasToe : GoodIn wsL_law (wsV RL 209 RX6 yX6_hasToe wsX6_hasToe) := goodIn_app (goodIn_of _ (by decide +kernel)) ggL_law_X6_hasToe
set_option maxRecDepth 20000 in
theorem ggL_law_L_insertPlug : GoodIn wsL_law wsL_insertPlug := goodIn_ca (goodIn_ca (goodIn_r _ [480, 236, 481, 482, 483, 2, 484, 25, 17, 138, 415, 416, 417, 245, 246, 418, 143, 16, 144, 157, 158, 159, 24, 160, 70, 71, 72, 161, 162, 163, 164, 165, 166, 167, 36, 168, 169, 154, 155, 156, 53, 170, 55, 56, 57, 485, 486, 487, 488, 47, 489, 490, 491, 492, 153, 54, 1508, 1509, 1510, 1511, 1512, 1513, 1514, 1515, 1516, 1517, 1535, 1539, 1540, 1541, 1551] (by decide +kernel) (by decide +kernel)) (goodIn_sub (fun _ h => List.mem_append_left _ (List.mem_append_left _ (List.mem_append_left _ (List.mem_append_left _ (List.mem_append_left _ (List.mem_append_left _ (List.mem_append_right _ h))))))) (by decide +kernel))) (goodIn_sub (fun _ h => List.mem_append_left _ (List.mem_append_left _ (List.mem_append_left _ (List.mem_append_right _ h)))) (by decide +kernel))
set_option maxRecDepth 20000 in
theorem gL_law_L_insertPlug : GoodIn wsL_law (va_wsS RL 210 yL_insertPlug wsL_insertPlug) := goodIn_app (goodIn_of _ (by decide +kernel)) ggL_law_L_insertPlug
set_option maxRecDepth 20000 in
theorem ggL_law_X6_insertPlug : GoodIn wsL_law wsX6_insertPlug := goodIn_ca (goodIn_r _ [496, 179, 180, 181, 5, 182, 183, 111, 112, 184, 185, 186, 187, 497, 498, 499, 500, 195, 196, 197, 192, 193, 194, 198, 199, 200, 201, 202, 203, 204, 205, 206, 114, 1518, 1519, 1520, 1521, 1522, 1523, 1524, 1525, 1526, 1527, 1528, 1529, 1530, 1531, 1532, 1533, 1534] (by decide +kernel) (by decide +kernel)) (goodIn_sub (fun _ h => List.mem_append_left _ (List.mem_append_left _ (List.mem_append_left _ (List.mem_append_left _ (List.mem_append_left _ (List.mem_append_left _ (List.mem_append_right _ h))))))) (by decide +kernel))
set_option maxRecDepth 20000 in
theorem gL_law_X6_insertPlug : GoodIn wsL_law (wsV RL 212 RX6 yX6_insertPlug wsX6_insertPlug) := goodIn_app (goodIn_of _ (by decide +kernel)) ggL_law_X6_insertPlug
set_option maxRecDepth 20000 in
theorem ggL_law_L_pullPlug : GoodIn wsL_law wsL_pullPlug := goodIn_ca (goodIn_ca (goodIn_r _ [503, 504, 505, 506, 507, 2, 508, 136, 137, 17, 25, 138, 509, 510, 511, 16, 512, 489, 490, 491, 492, 47, 153, 154, 155, 36, 156, 53, 157, 158, 159, 24, 160, 70, 71, 72, 161, 162, 163, 164, 165, 166, 167, 168, 169, 170, 55, 56, 57, 485, 486, 487, 488, 54, 1508, 1509, 1510, 1511, 1512, 1513, 1514, 1515, 1516, 1517, 1535, 1551, 1539, 1540, 1541] (by decide +kernel) (by decide +kernel)) (goodIn_sub (fun _ h => List.mem_append_left _ (List.mem_append_left _ (List.mem_append_left _ (List.mem_append_left _ (List.mem_append_left _ (List.mem_append_left _ (List.mem_append_right _ h))))))) (by decide +kernel))) (goodIn_sub (fun _ h => List.mem_append_left _ (List.mem_append_left _ (List.mem_append_left _ (List.mem_append_left _ (List.mem_append_right _ h))))) (by decide +kernel))
set_option maxRecDepth 20000 in
theorem gL_law_L_pullPlug : GoodIn wsL_law (va_wsS RL 213 yL_pullPlug wsL_pullPlug) := goodIn_app (goodIn_of _ (by decide +kernel)) ggL_law_L_pullPlug
set_option maxRecDepth 20000 in
theorem ggL_law_X6_pullPlug : GoodIn wsL_law wsX6_pullPlug := goodIn_ca (goodIn_r _ [516, 179, 180, 181, 5, 182, 183, 111, 112, 184, 185, 186, 187, 517, 518, 519, 520, 198, 199, 200, 201, 202, 203, 204, 205, 206, 114, 1518, 1519, 1520, 1521, 1522, 1523, 1524, 1525, 1526, 1527, 1528, 1529, 1530, 1531, 1532, 1533, 1534] (by decide +kernel) (by decide +kernel)) (goodIn_sub (fun _ h => List.mem_append_left _ (List.mem_append_left _ (List.mem_append_left _ (List.mem_append_left _ (List.mem_append_left _ (List.mem_append_left _ (List.mem_append_right _ h))))))) (by decide +kernel))
set_option maxRecDepth 20000 in
theorem gL_law_X6_pullPlug : GoodIn wsL_law (wsV RL 216 RX6 yX6_pullPlug wsX6_pullPlug) := goodIn_app (goodIn_of _ (by decide +kernel)) ggL_law_X6_pullPlug
set_option maxRecDepth 20000 in
theorem ggL_law_L_plugPosition : GoodIn wsL_law wsL_plugPosition := goodIn_ca (goodIn_ca (goodIn_r _ [523, 524, 525, 526, 527, 2, 528, 17, 529, 530, 531, 532, 533, 534, 509, 510, 511, 16, 512, 489, 490, 491, 492, 47, 153, 154, 155, 36, 156, 53, 535, 1508, 1509, 1510, 1511, 1512, 1513, 1514, 1515, 1516, 1517, 1535, 1551] (by decide +kernel) (by decide +kernel)) (goodIn_sub (fun _ h => List.mem_append_left _ (List.mem_append_left _ (List.mem_append_left _ (List.mem_append_left _ (List.mem_append_left _ (List.mem_append_left _ (List.mem_append_right _ h))))))) (by decide +kernel))) (goodIn_sub (fun _ h => List.mem_append_left _ (List.mem_append_right _ h)) (by decide +kernel))
set_option maxRecDepth 20000 in
theorem gL_law_L_plugPosition : GoodIn wsL_law (va_wsS RL 217 yL_plugPosition wsL_plugPosition) := goodIn_app (goodIn_of _ (by decide +kernel)) ggL_law_L_plugPosition
set_option maxRecDepth 20000 in
theorem ggL_law_X6_plugPosition : GoodIn wsL_law wsX6_plugPosition := goodIn_ca (goodIn_r _ [539, 111, 300, 301, 302, 5, 303, 183, 1518, 1519, 1520, 1521, 1522, 1523, 1524, 1525, 1526, 1527, 1528, 1529, 1530, 1531, 1532, 1533, 1534] (by decide +kernel) (by decide +kernel)) (goodIn_sub (fun _ h => List.mem_append_left _ (List.mem_append_left _ (List.mem_append_left _ (List.mem_append_left _ (List.mem_append_left _ (List.mem_append_left _ (List.mem_append_right _ h))))))) (by decide +kernel))
set_option maxRecDepth 20000 in
theorem gL_law_X6_plugPosition : GoodIn wsL_law (wsV RL 219 RX6 yX6_plugPosition wsX6_plugPosition) := goodIn_app (goodIn_of _ (by decide +kernel)) ggL_law_X6_plugPosition
set_option maxRecDepth 20000 in
theorem ggL_law_L_layTowel : GoodIn wsL_law wsL_layTowel := goodIn_ca (goodIn_ca (goodIn_ca (goodIn_ca (goodIn_r _ [542, 236, 543, 544, 545, 2, 546, 134, 135, 136, 137, 17, 25, 138, 415, 416, 417, 245, 246, 418, 143, 16, 144, 547, 548, 549, 550, 551, 552, 553, 554, 555, 556, 557, 558, 559, 560, 561, 47, 153, 154, 155, 36, 156, 53, 562, 563, 564, 565, 157, 158, 159, 24, 160, 70, 71, 72, 161, 162, 163, 164, 165, 166, 167, 168, 169, 170, 55, 56, 57, 566, 567, 568, 569, 54, 1508, 1509, 1510, 1511, 1512, 1513, 1514, 1515, 1516, 1517, 1535, 1551, 1539, 1540, 1541] (by decide +kernel) (by decide +kernel)) (goodIn_sub (fun _ h => List.mem_append_left _ (List.mem_append_left _ (List.mem_append_left _ (List.mem_append_left _ (List.mem_append_left _ (List.mem_append_left _ (List.mem_append_right _ h))))))) (by decide +kernel))) (goodIn_sub (fun _ h => List.mem_append_left _ (List.mem_append_left _ (List.mem_append_left _ (List.mem_append_left _ (List.mem_append_left _ (List.mem_append_right _ h)))))) (by decide +kernel))) (goodIn_sub (fun _ h => List.mem_append_left _ (List.mem_append_left _ (List.mem_append_left _ (List.mem_append_left _ (List.mem_append_right _ h))))) (by decide +kernel))) (goodIn_sub (fun _ h => List.mem_append_left _ (List.mem_append_left _ (List.mem_append_left _ (List.mem_append_right _ h)))) (by decide +kernel))
set_option maxRecDepth 20000 in
theorem gL_law_L_layTowel : GoodIn wsL_law (va_wsS RL 220 yL_layTowel wsL_layTowel) := goodIn_app (goodIn_of _ (by decide +kernel)) ggL_law_L_layTowel
set_option maxRecDepth 20000 in
theorem ggL_law_X6_layTowel : GoodIn wsL_law wsX6_layTowel := goodIn_ca (goodIn_r _ [573, 179, 180, 181, 5, 182, 183, 111, 112, 184, 185, 186, 187, 574, 575, 576, 577, 195, 196, 197, 192, 193, 194, 198, 199, 200, 201, 578, 579, 580, 581, 582, 583, 584, 585, 202, 203, 204, 205, 206, 114, 1518, 1519, 1520, 1521, 1522, 1523, 1524, 1525, 1526, 1527, 1528, 1529, 1530, 1531, 1532, 1533, 1534] (by decide +kernel) (by decide +kernel)) (goodIn_sub (fun _ h => List.mem_append_left _ (List.mem_append_left _ (List.mem_append_left _ (List.mem_append_left _ (List.mem_append_left _ (List.mem_append_left _ (List.mem_append_right _ h))))))) (by decide +kernel))
set_option maxRecDepth 20000 in
theorem gL_law_X6_layTowel : GoodIn wsL_law (wsV RL 223 RX6 yX6_layTowel wsX6_layTowel) := goodIn_app (goodIn_of _ (by decide +kernel)) ggL_law_X6_layTowel
set_option maxRecDepth 20000 in
theorem ggL_law_L_removeTowel : GoodIn wsL_law wsL_removeTowel := goodIn_ca (goodIn_ca (goodIn_r _ [588, 236, 589, 590, 591, 2, 592, 25, 17, 138, 593, 594, 595, 596, 245, 246, 597, 598, 599, 16, 600, 558, 559, 560, 561, 47, 153, 154, 155, 36, 156, 53, 157, 158, 159, 24, 160, 70, 71, 72, 161, 162, 163, 164, 165, 166, 167, 168, 169, 170, 55, 56, 57, 601, 602, 603, 604, 605, 606, 607, 608, 399, 562, 563, 564, 565, 54, 609, 610, 611, 612, 255, 1508, 1509, 1510, 1511, 1512, 1513, 1514, 1515, 1516, 1517, 1535, 1551, 1539, 1540, 1541] (by decide +kernel) (by decide +kernel)) (goodIn_sub (fun _ h => List.mem_append_left _ (List.mem_append_left _ (List.mem_append_left _ (List.mem_append_left _ (List.mem_append_left _ (List.mem_append_left _ (List.mem_append_right _ h))))))) (by decide +kernel))) (goodIn_sub (fun _ h => List.mem_append_left _ (List.mem_append_left _ (List.mem_append_left _ (List.mem_append_right _ h)))) (by decide +kernel))
set_option maxRecDepth 20000 in
theorem gL_law_L_removeTowel : GoodIn wsL_law (va_wsS RL 224 yL_removeTowel wsL_removeTowel) := goodIn_app (goodIn_of _ (by decide +kernel)) ggL_law_L_removeTowel
set_option maxRecDepth 20000 in
theorem ggL_law_X6_removeTowel : GoodIn wsL_law wsX6_removeTowel := goodIn_ca (goodIn_r _ [616, 179, 180, 181, 5, 182, 183, 111, 112, 184, 185, 186, 187, 617, 618, 619, 620, 621, 622, 623, 624, 192, 193, 194, 198, 199, 200, 201, 625, 626, 627, 628, 346, 328, 163, 329, 202, 203, 204, 205, 206, 114, 1518, 1519, 1520, 1521, 1522, 1523, 1524, 1525, 1526, 1527, 1528, 1529, 1530, 1531, 1532, 1533, 1534] (by decide +kernel) (by decide +kernel)) (goodIn_sub (fun _ h => List.mem_append_left _ (List.mem_append_left _ (List.mem_append_left _ (List.mem_append_left _ (List.mem_append_left _ (List.mem_append_left _ (List.mem_append_right _ h))))))) (by decide +kernel))
set_option maxRecDepth 20000 in
theorem gL_law_X6_removeTowel : GoodIn wsL_law (wsV RL 226 RX6 yX6_removeTowel wsX6_removeTowel) := goodIn_app (goodIn_of _ (by decide +kernel)) ggL_law_X6_removeTowel
set_option maxRecDepth 20000 in
theorem ggL_law_L_wringTowel : GoodIn wsL_law wsL_wringTowel := goodIn_ca (goodIn_ca (goodIn_r _ [631, 236, 632, 633, 634, 2, 635, 25, 17, 138, 593, 594, 595, 596, 245, 246, 597, 598, 599, 16, 600, 558, 559, 560, 561, 47, 153, 154, 155, 36, 156, 53, 157, 158, 159, 24, 160, 70, 71, 72, 161, 162, 163, 164, 165, 166, 167, 168, 169, 170, 55, 56, 57, 636, 606, 607, 608, 399, 562, 563, 564, 565, 54, 609, 610, 611, 612, 1508, 1509, 1510, 1511, 1512, 1513, 1514, 1515, 1516, 1517, 1535, 1551, 1539, 1540, 1541] (by decide +kernel) (by decide +kernel)) (goodIn_sub (fun _ h => List.mem_append_left _ (List.mem_append_left _ (List.mem_append_left _ (List.mem_append_left _ (List.mem_append_left _ (List.mem_append_left _ (List.mem_append_right _ h))))))) (by decide +kernel))) (goodIn_sub (fun _ h => List.mem_append_left _ (List.mem_append_left _ (List.mem_append_left _ (List.mem_append_right _ h)))) (by decide +kernel))
set_option maxRecDepth 20000 in
theorem gL_law_L_wringTowel : GoodIn wsL_law (va_wsS RL 227 yL_wringTowel wsL_wringTowel) := goodIn_app (goodIn_of _ (by decide +kernel)) ggL_law_L_wringTowel
set_option maxRecDepth 20000 in
theorem ggL_law_X6_wringTowel : GoodIn wsL_law wsX6_wringTowel := goodIn_ca (goodIn_r _ [640, 179, 180, 181, 5, 182, 183, 111, 112, 184, 185, 186, 187, 641, 642, 643, 644, 621, 622, 623, 624, 192, 193, 194, 625, 626, 627, 628, 346, 328, 163, 329, 198, 199, 200, 201, 202, 203, 204, 205, 206, 114, 1518, 1519, 1520, 1521, 1522, 1523, 1524, 1525, 1526, 1527, 1528, 1529, 1530, 1531, 1532, 1533, 1534] (by decide +kernel) (by decide +kernel)) (goodIn_sub (fun _ h => List.mem_append_left _ (List.mem_append_left _ (List.mem_append_left _ (List.mem_append_left _ (List.mem_append_left _ (List.mem_append_left _ (List.mem_append_right _ h))))))) (by decide +kernel))
set_option maxRecDepth 20000 in
theorem gL_law_X6_wringTowel : GoodIn wsL_law (wsV RL 229 RX6 yX6_wringTowel wsX6_wringTowel) := goodIn_app (goodIn_of _ (by decide +kernel)) ggL_law_X6_wringTowel
set_option maxRecDepth 20000 in
theorem ggL_law_X5_towelCount : GoodIn wsL_law wsX5_towelCount := goodIn_ca (goodIn_r _ [648, 17, 649, 559, 560, 16, 561, 47, 153, 154, 155, 36, 156, 53, 1508, 1509, 1510, 1511, 1512, 1513, 1514, 1515, 1516, 1517, 1535, 1551] (by decide +kernel) (by decide +kernel)) (goodIn_sub (fun _ h => List.mem_append_left _ (List.mem_append_left _ (List.mem_append_left _ (List.mem_append_left _ (List.mem_append_left _ (List.mem_append_left _ (List.mem_append_right _ h))))))) (by decide +kernel))
set_option maxRecDepth 20000 in
theorem gL_law_X5_towelCount : GoodIn wsL_law (wsV RL 230 RX5 yX5_towelCount wsX5_towelCount) := goodIn_app (goodIn_of _ (by decide +kernel)) ggL_law_X5_towelCount
set_option maxRecDepth 20000 in
theorem ggL_law_X6_towelCount : GoodIn wsL_law wsX6_towelCount := goodIn_ca (goodIn_r _ [653, 183, 111, 1518, 1519, 1520, 1521, 1522, 1523, 1524, 1525, 1526, 1527, 1528, 1529, 1530, 1531, 1532, 1533, 1534] (by decide +kernel) (by decide +kernel)) (goodIn_sub (fun _ h => List.mem_append_left _ (List.mem_append_left _ (List.mem_append_left _ (List.mem_append_left _ (List.mem_append_left _ (List.mem_append_left _ (List.mem_append_right _ h))))))) (by decide +kernel))
set_option maxRecDepth 20000 in
theorem gL_law_X6_towelCount : GoodIn wsL_law (wsV RL 233 RX6 yX6_towelCount wsX6_towelCount) := goodIn_app (goodIn_of _ (by decide +kernel)) ggL_law_X6_towelCount
set_option maxRecDepth 20000 in
theorem ggL_law_L_shoreOf : GoodIn wsL_law wsL_shoreOf := goodIn_ca (goodIn_ca (goodIn_r _ [656, 236, 657, 658, 659, 2, 660, 17, 593, 594, 595, 596, 245, 246, 597, 598, 599, 16, 600, 558, 559, 560, 561, 47, 153, 154, 155, 36, 156, 53, 661, 563, 564, 565, 1508, 1509, 1510, 1511, 1512, 1513, 1514, 1515, 1516, 1517, 1535, 1551] (by decide +kernel) (by decide +kernel)) (goodIn_sub (fun _ h => List.mem_append_left _ (List.mem_append_left _ (List.mem_append_left _ (List.mem_append_left _ (List.mem_append_left _ (List.mem_append_left _ (List.mem_append_right _ h))))))) (by decide +kernel))) (goodIn_sub (fun _ h => List.mem_append_left _ (List.mem_append_left _ (List.mem_append_left _ (List.mem_append_right _ h)))) (by decide +kernel))
set_option maxRecDepth 20000 in
theorem gL_law_L_shoreOf : GoodIn wsL_law (va_wsS RL 234 yL_shoreOf wsL_shoreOf) := goodIn_app (goodIn_of _ (by decide +kernel)) ggL_law_L_shoreOf
set_option maxRecDepth 20000 in
theorem ggL_law_X6_shoreOf : GoodIn wsL_law wsX6_shoreOf := goodIn_ca (goodIn_r _ [665, 621, 622, 623, 5, 624, 111, 192, 193, 194, 300, 301, 302, 303, 183, 582, 583, 584, 585, 1518, 1519, 1520, 1521, 1522, 1523, 1524, 1525, 1526, 1527, 1528, 1529, 1530, 1531, 1532, 1533, 1534] (by decide +kernel) (by decide +kernel)) (goodIn_sub (fun _ h => List.mem_append_left _ (List.mem_append_left _ (List.mem_append_left _ (List.mem_append_left _ (List.mem_append_left _ (List.mem_append_left _ (List.mem_append_right _ h))))))) (by decide +kernel))
set_option maxRecDepth 20000 in
theorem gL_law_X6_shoreOf : GoodIn wsL_law (wsV RL 236 RX6 yX6_shoreOf wsX6_shoreOf) := goodIn_app (goodIn_of _ (by decide +kernel)) ggL_law_X6_shoreOf
set_option maxRecDepth 20000 in
theorem ggL_law_L_heightOf : GoodIn wsL_law wsL_heightOf := goodIn_ca (goodIn_ca (goodIn_r _ [668, 236, 669, 670, 671, 2, 672, 17, 593, 594, 595, 596, 245, 246, 597, 598, 599, 16, 600, 558, 559, 560, 561, 47, 153, 154, 155, 36, 156, 53, 661, 563, 564, 565, 1508, 1509, 1510, 1511, 1512, 1513, 1514, 1515, 1516, 1517, 1535, 1551] (by decide +kernel) (by decide +kernel)) (goodIn_sub (fun _ h => List.mem_append_left _ (List.mem_append_left _ (List.mem_append_left _ (List.mem_append_left _ (List.mem_append_left _ (List.mem_append_left _ (List.mem_append_right _ h))))))) (by decide +kernel))) (goodIn_sub (fun _ h => List.mem_append_left _ (List.mem_append_left _ (List.mem_append_left _ (List.mem_append_right _ h)))) (by decide +kernel))
set_option maxRecDepth 20000 in
theorem gL_law_L_heightOf : GoodIn wsL_law (va_wsS RL 237 yL_heightOf wsL_heightOf) := goodIn_app (goodIn_of _ (by decide +kernel)) ggL_law_L_heightOf
set_option maxRecDepth 20000 in
theorem ggL_law_X6_heightOf : GoodIn wsL_law wsX6_heightOf := goodIn_ca (goodIn_r _ [676, 621, 622, 623, 5, 624, 111, 192, 193, 194, 300, 301, 302, 303, 183, 582, 583, 584, 585, 1518, 1519, 1520, 1521, 1522, 1523, 1524, 1525, 1526, 1527, 1528, 1529, 1530, 1531, 1532, 1533, 1534] (by decide +kernel) (by decide +kernel)) (goodIn_sub (fun _ h => List.mem_append_left _ (List.mem_append_left _ (List.mem_append_left _ (List.mem_append_left _ (List.mem_append_left _ (List.mem_append_left _ (List.mem_append_right _ h))))))) (by decide +kernel))
set_option maxRecDepth 20000 in
theorem gL_law_X6_heightOf : GoodIn wsL_law (wsV RL 239 RX6 yX6_heightOf wsX6_heightOf) := goodIn_app (goodIn_of _ (by decide +kernel)) ggL_law_X6_heightOf
set_option maxRecDepth 20000 in
theorem ggL_law_L_absorbedBy : GoodIn wsL_law wsL_absorbedBy := goodIn_ca (goodIn_ca (goodIn_r _ [679, 236, 680, 681, 682, 2, 683, 17, 593, 594, 595, 596, 245, 246, 597, 598, 599, 16, 600, 558, 559, 560, 561, 47, 153, 154, 155, 36, 156, 53, 661, 563, 564, 565, 1508, 1509, 1510, 1511, 1512, 1513, 1514, 1515, 1516, 1517, 1535, 1551] (by decide +kernel) (by decide +kernel)) (goodIn_sub (fun _ h => List.mem_append_left _ (List.mem_append_left _ (List.mem_append_left _ (List.mem_append_left _ (List.mem_append_left _ (List.mem_append_left _ (List.mem_append_right _ h))))))) (by decide +kernel))) (goodIn_sub (fun _ h => List.mem_append_left _ (List.mem_append_left _ (List.mem_append_left _ (List.mem_append_right _ h)))) (by decide +kernel))
set_option maxRecDepth 20000 in
theorem gL_law_L_absorbedBy : GoodIn wsL_law (va_wsS RL 240 yL_absorbedBy wsL_absorbedBy) := goodIn_app (goodIn_of _ (by decide +kernel)) ggL_law_L_absorbedBy
set_option maxRecDepth 20000 in
theorem ggL_law_X6_absorbedBy : GoodIn wsL_law wsX6_absorbedBy := goodIn_ca (goodIn_r _ [687, 621, 622, 623, 5, 624, 111, 192, 193, 194, 300, 301, 302, 303, 183, 582, 583, 584, 585, 1518, 1519, 1520, 1521, 1522, 1523, 1524, 1525, 1526, 1527, 1528, 1529, 1530, 1531, 1532, 1533, 1534] (by decide +kernel) (by decide +kernel)) (goodIn_sub (fun _ h => List.mem_append_left _ (List.mem_append_left _ (List.mem_append_left _ (List.mem_append_left _ (List.mem_append_left _ (List.mem_append_left _ (List.mem_append_right _ h))))))) (by decide +kernel))
set_option maxRecDepth 20000 in
theorem gL_law_X6_absorbedBy : GoodIn wsL_law (wsV RL 242 RX6 yX6_absorbedBy wsX6_absorbedBy) := goodIn_app (goodIn_of _ (by decide +kernel)) ggL_law_X6_absorbedBy
set_option maxRecDepth 20000 in
theorem ggL_law_L_floodsOf : GoodIn wsL_law wsL_floodsOf := goodIn_ca (goodIn_ca (goodIn_r _ [690, 236, 691, 692, 693, 2, 694, 17, 593, 594, 595, 596, 245, 246, 597, 598, 599, 16, 600, 558, 559, 560, 561, 47, 153, 154, 155, 36, 156, 53, 661, 563, 564, 565, 1508, 1509, 1510, 1511, 1512, 1513, 1514, 1515, 1516, 1517, 1535, 1551] (by decide +kernel) (by decide +kernel)) (goodIn_sub (fun _ h => List.mem_append_left _ (List.mem_append_left _ (List.mem_append_left _ (List.mem_append_left _ (List.mem_append_left _ (List.mem_append_left _ (List.mem_append_right _ h))))))) (by decide +kernel))) (goodIn_sub (fun _ h => List.mem_append_left _ (List.mem_append_left _ (List.mem_append_left _ (List.mem_append_right _ h)))) (by decide +kernel))
set_option maxRecDepth 20000 in
theorem gL_law_L_floodsOf : GoodIn wsL_law (va_wsS RL 243 yL_floodsOf wsL_floodsOf) := goodIn_app (goodIn_of _ (by decide +kernel)) ggL_law_L_floodsOf
set_option maxRecDepth 20000 in
theorem ggL_law_X6_floodsOf : GoodIn wsL_law wsX6_floodsOf := goodIn_ca (goodIn_r _ [698, 621, 622, 623, 5, 624, 111, 192, 193, 194, 300, 301, 302, 303, 183, 582, 583, 584, 585, 1518, 1519, 1520, 1521, 1522, 1523, 1524, 1525, 1526, 1527, 1528, 1529, 1530, 1531, 1532, 1533, 1534] (by decide +kernel) (by decide +kernel)) (goodIn_sub (fun _ h => List.mem_append_left _ (List.mem_append_left _ (List.mem_append_left _ (List.mem_append_left _ (List.mem_append_left _ (List.mem_append_left _ (List.mem_append_right _ h))))))) (by decide +kernel))
set_option maxRecDepth 20000 in
theorem gL_law_X6_floodsOf : GoodIn wsL_law (wsV RL 245 RX6 yX6_floodsOf wsX6_floodsOf) := goodIn_app (goodIn_of _ (by decide +kernel)) ggL_law_X6_floodsOf
set_option maxRecDepth 20000 in
theorem ggL_law_L_setFlow : GoodIn wsL_law wsL_setFlow := goodIn_ca (goodIn_ca (goodIn_r _ [701, 125, 702, 703, 704, 2, 705, 134, 135, 25, 17, 138, 706, 707, 16, 708, 157, 158, 159, 24, 160, 70, 71, 72, 161, 162, 163, 164, 165, 166, 167, 36, 168, 169, 154, 155, 156, 53, 170, 55, 56, 57, 709, 710, 711, 712, 47, 153, 54, 1508, 1509, 1510, 1511, 1512, 1513, 1514, 1515, 1516, 1517, 1535, 1539, 1540, 1541, 1551] (by decide +kernel) (by decide +kernel)) (goodIn_sub (fun _ h => List.mem_append_left _ (List.mem_append_left _ (List.mem_append_left _ (List.mem_append_left _ (List.mem_append_left _ (List.mem_append_left _ (List.mem_append_right _ h))))))) (by decide +kernel))) (goodIn_sub (fun _ h => List.mem_append_left _ (List.mem_append_left _ (List.mem_append_left _ (List.mem_append_left _ (List.mem_append_left _ (List.mem_append_right _ h)))))) (by decide +kernel))
set_option maxRecDepth 20000 in
theorem gL_law_L_setFlow : GoodIn wsL_law (va_wsS RL 246 yL_setFlow wsL_setFlow) := goodIn_app (goodIn_of _ (by decide +kernel)) ggL_law_L_setFlow
set_option maxRecDepth 20000 in
theorem ggL_law_X6_setFlow : GoodIn wsL_law wsX6_setFlow := goodIn_ca (goodIn_r _ [716, 179, 180, 181, 5, 182, 183, 111, 112, 184, 185, 186, 187, 717, 718, 719, 720, 192, 193, 194, 198, 199, 200, 201, 202, 203, 204, 205, 206, 114, 1518, 1519, 1520, 1521, 1522, 1523, 1524, 1525, 1526, 1527, 1528, 1529, 1530, 1531, 1532, 1533, 1534] (by decide +kernel) (by decide +kernel)) (goodIn_sub (fun _ h => List.mem_append_left _ (List.mem_append_left _ (List.mem_append_left _ (List.mem_append_left _ (List.mem_append_left _ (List.mem_append_left _ (List.mem_append_right _ h))))))) (by decide +kernel))
set_option maxRecDepth 20000 in
theorem gL_law_X6_setFlow : GoodIn wsL_law (wsV RL 248 RX6 yX6_setFlow wsX6_setFlow) := goodIn_app (goodIn_of _ (by decide +kernel)) ggL_law_X6_setFlow
set_option maxRecDepth 20000 in
theorem ggL_law_L_advance : GoodIn wsL_law wsL_advance := goodIn_ca (goodIn_ca (goodIn_ca (goodIn_r _ [723, 125, 724, 725, 726, 2, 727, 134, 135, 25, 17, 138, 728, 729, 16, 730, 157, 158, 159, 24, 160, 70, 71, 72, 161, 162, 163, 164, 165, 166, 167, 36, 168, 169, 154, 155, 156, 53, 170, 55, 56, 57, 731, 732, 733, 734, 47, 609, 610, 611, 612, 735, 736, 737, 738, 399, 327, 328, 329, 153, 54, 558, 559, 560, 561, 562, 563, 564, 565, 739, 740, 741, 742, 149, 150, 151, 152, 743, 324, 325, 326, 288, 289, 290, 291, 330, 331, 332, 333, 334, 335, 336, 337, 744, 285, 286, 287, 292, 293, 294, 295, 745, 746, 747, 748, 749, 390, 391, 392, 393, 394, 395, 396, 397, 398, 750, 751, 752, 753, 423, 424, 425, 426, 142, 143, 144, 754, 755, 756, 757, 758, 759, 760, 761, 1508, 1509, 1510, 1511, 1512, 1513, 1514, 1515, 1516, 1517, 1535, 1539, 1540, 1541, 1551] (by decide +kernel) (by decide +kernel)) (goodIn_sub (fun _ h => List.mem_append_left _ (List.mem_append_left _ (List.mem_append_left _ (List.mem_append_left _ (List.mem_append_left _ (List.mem_append_left _ (List.mem_append_right _ h))))))) (by decide +kernel))) (goodIn_sub (fun _ h => List.mem_append_left _ (List.mem_append_left _ (List.mem_append_left _ (List.mem_append_left _ (List.mem_append_left _ (List.mem_append_right _ h)))))) (by decide +kernel))) (goodIn_sub (fun _ h => List.mem_append_left _ (List.mem_append_left _ (List.mem_append_right _ h))) (by decide +kernel))
set_option maxRecDepth 20000 in
theorem gL_law_L_advance : GoodIn wsL_law (va_wsS RL 249 yL_advance wsL_advance) := goodIn_app (goodIn_of _ (by decide +kernel)) ggL_law_L_advance
set_option maxRecDepth 20000 in
theorem ggL_law_X6_advance : GoodIn wsL_law wsX6_advance := goodIn_ca (goodIn_ca (goodIn_r _ [765, 179, 180, 181, 5, 182, 183, 111, 112, 184, 185, 186, 187, 766, 767, 768, 769, 192, 193, 194, 198, 199, 200, 201, 770, 771, 772, 773, 774, 162, 163, 164, 346, 328, 329, 775, 776, 777, 778, 779, 780, 781, 782, 342, 343, 344, 345, 308, 309, 310, 311, 312, 313, 314, 315, 304, 305, 306, 307, 783, 784, 785, 786, 397, 398, 404, 405, 406, 407, 202, 203, 204, 205, 206, 114, 1518, 1519, 1520, 1521, 1522, 1523, 1524, 1525, 1526, 1527, 1528, 1529, 1530, 1531, 1532, 1533, 1534] (by decide +kernel) (by decide +kernel)) (goodIn_sub (fun _ h => List.mem_append_left _ (List.mem_append_left _ (List.mem_append_left _ (List.mem_append_left _ (List.mem_append_left _ (List.mem_append_left _ (List.mem_append_right _ h))))))) (by decide +kernel))) (goodIn_sub (fun _ h => List.mem_append_left _ (List.mem_append_left _ (List.mem_append_right _ h))) (by decide +kernel))
set_option maxRecDepth 20000 in
theorem gL_law_X6_advance : GoodIn wsL_law (wsV RL 251 RX6 yX6_advance wsX6_advance) := goodIn_app (goodIn_of _ (by decide +kernel)) ggL_law_X6_advance
set_option maxRecDepth 20000 in
theorem ggL_law_X5_time : GoodIn wsL_law wsX5_time := goodIn_ca (goodIn_r _ [790, 17, 138, 791, 154, 155, 36, 156, 53, 1508, 1509, 1510, 1511, 1512, 1513, 1514, 1515, 1516, 1517, 1535, 1551] (by decide +kernel) (by decide +kernel)) (goodIn_sub (fun _ h => List.mem_append_left _ (List.mem_append_left _ (List.mem_append_left _ (List.mem_append_left _ (List.mem_append_left _ (List.mem_append_left _ (List.mem_append_right _ h))))))) (by decide +kernel))
set_option maxRecDepth 20000 in
theorem gL_law_X5_time : GoodIn wsL_law (wsV RL 252 RX5 yX5_time wsX5_time) := goodIn_app (goodIn_of _ (by decide +kernel)) ggL_law_X5_time
set_option maxRecDepth 20000 in
theorem ggL_law_X6_time : GoodIn wsL_law wsX6_time := goodIn_ca (goodIn_r _ [795, 183, 111, 1518, 1519, 1520, 1521, 1522, 1523, 1524, 1525, 1526, 1527, 1528, 1529, 1530, 1531, 1532, 1533, 1534] (by decide +kernel) (by decide +kernel)) (goodIn_sub (fun _ h => List.mem_append_left _ (List.mem_append_left _ (List.mem_append_left _ (List.mem_append_left _ (List.mem_append_left _ (List.mem_append_left _ (List.mem_append_right _ h))))))) (by decide +kernel))
set_option maxRecDepth 20000 in
theorem gL_law_X6_time : GoodIn wsL_law (wsV RL 255 RX6 yX6_time wsX6_time) := goodIn_app (goodIn_of _ (by decide +kernel)) ggL_law_X6_time
set_option maxRecDepth 20000 in
theorem ggL_law_X5_baseLevel : GoodIn wsL_law wsX5_baseLevel := goodIn_ca (goodIn_r _ [799, 17, 138, 791, 154, 155, 36, 156, 53, 1508, 1509, 1510, 1511, 1512, 1513, 1514, 1515, 1516, 1517, 1535, 1551] (by decide +kernel) (by decide +kernel)) (goodIn_sub (fun _ h => List.mem_append_left _ (List.mem_append_left _ (List.mem_append_left _ (List.mem_append_left _ (List.mem_append_left _ (List.mem_append_left _ (List.mem_append_right _ h))))))) (by decide +kernel))
set_option maxRecDepth 20000 in
theorem gL_law_X5_baseLevel : GoodIn wsL_law (wsV RL 256 RX5 yX5_baseLevel wsX5_baseLevel) := goodIn_app (goodIn_of _ (by decide +kernel)) ggL_law_X5_baseLevel
set_option maxRecDepth 20000 in
theorem ggL_law_X6_baseLevel : GoodIn wsL_law wsX6_baseLevel := goodIn_ca (goodIn_r _ [803, 183, 111, 1518, 1519, 1520, 1521, 1522, 1523, 1524, 1525, 1526, 1527, 1528, 1529, 1530, 1531, 1532, 1533, 1534] (by decide +kernel) (by decide +kernel)) (goodIn_sub (fun _ h => List.mem_append_left _ (List.mem_append_left _ (List.mem_append_left _ (List.mem_append_left _ (List.mem_append_left _ (List.mem_append_left _ (List.mem_append_right _ h))))))) (by decide +kernel))
set_option maxRecDepth 20000 in
theorem gL_law_X6_baseLevel : GoodIn wsL_law (wsV RL 259 RX6 yX6_baseLevel wsX6_baseLevel) := goodIn_app (goodIn_of _ (by decide +kernel)) ggL_law_X6_baseLevel
set_option maxRecDepth 20000 in
theorem ggL_law_X5_flow : GoodIn wsL_law wsX5_flow := goodIn_ca (goodIn_r _ [807, 17, 138, 791, 154, 155, 36, 156, 53, 1508, 1509, 1510, 1511, 1512, 1513, 1514, 1515, 1516, 1517, 1535, 1551] (by decide +kernel) (by decide +kernel)) (goodIn_sub (fun _ h => List.mem_append_left _ (List.mem_append_left _ (List.mem_append_left _ (List.mem_append_left _ (List.mem_append_left _ (List.mem_append_left _ (List.mem_append_right _ h))))))) (by decide +kernel))
set_option maxRecDepth 20000 in
theorem gL_law_X5_flow : GoodIn wsL_law (wsV RL 260 RX5 yX5_flow wsX5_flow) := goodIn_app (goodIn_of _ (by decide +kernel)) ggL_law_X5_flow
set_option maxRecDepth 20000 in
theorem ggL_law_X6_flow : GoodIn wsL_law wsX6_flow := goodIn_ca (goodIn_r _ [811, 183, 111, 1518, 1519, 1520, 1521, 1522, 1523, 1524, 1525, 1526, 1527, 1528, 1529, 1530, 1531, 1532, 1533, 1534] (by decide +kernel) (by decide +kernel)) (goodIn_sub (fun _ h => List.mem_append_left _ (List.mem_append_left _ (List.mem_append_left _ (List.mem_append_left _ (List.mem_append_left _ (List.mem_append_left _ (List.mem_append_right _ h))))))) (by decide +kernel))
set_option maxRecDepth 20000 in
theorem gL_law_X6_flow : GoodIn wsL_law (wsV RL 263 RX6 yX6_flow wsX6_flow) := goodIn_app (goodIn_of _ (by decide +kernel)) ggL_law_X6_flow
set_option maxRecDepth 20000 in
theorem ggL_law_X5_spilled : GoodIn wsL_law wsX5_spilled := goodIn_ca (goodIn_r _ [815, 17, 138, 791, 154, 155, 36, 156, 53, 1508, 1509, 1510, 1511, 1512, 1513, 1514, 1515, 1516, 1517, 1535, 1551] (by decide +kernel) (by decide +kernel)) (goodIn_sub (fun _ h => List.mem_append_left _ (List.mem_append_left _ (List.mem_append_left _ (List.mem_append_left _ (List.mem_append_left _ (List.mem_append_left _ (List.mem_append_right _ h))))))) (by decide +kernel))
set_option maxRecDepth 20000 in
theorem gL_law_X5_spilled : GoodIn wsL_law (wsV RL 264 RX5 yX5_spilled wsX5_spilled) := goodIn_app (goodIn_of _ (by decide +kernel)) ggL_law_X5_spilled
set_option maxRecDepth 20000 in
theorem ggL_law_X6_spilled : GoodIn wsL_law wsX6_spilled := goodIn_ca (goodIn_r _ [819, 183, 111, 1518, 1519, 1520, 1521, 1522, 1523, 1524, 1525, 1526, 1527, 1528, 1529, 1530, 1531, 1532, 1533, 1534] (by decide +kernel) (by decide +kernel)) (goodIn_sub (fun _ h => List.mem_append_left _ (List.mem_append_left _ (List.mem_append_left _ (List.mem_append_left _ (List.mem_append_left _ (List.mem_append_left _ (List.mem_append_right _ h))))))) (by decide +kernel))
set_option maxRecDepth 20000 in
theorem gL_law_X6_spilled : GoodIn wsL_law (wsV RL 267 RX6 yX6_spilled wsX6_spilled) := goodIn_app (goodIn_of _ (by decide +kernel)) ggL_law_X6_spilled
set_option maxRecDepth 20000 in
theorem ggL_law_L_tideAt : GoodIn wsL_law wsL_tideAt := goodIn_ca (goodIn_ca (goodIn_ca (goodIn_r _ [822, 236, 823, 824, 825, 2, 826, 17, 415, 416, 417, 245, 246, 418, 143, 16, 144, 827, 740, 741, 742, 149, 150, 151, 152, 47, 153, 154, 155, 36, 156, 53, 743, 324, 325, 326, 327, 328, 163, 329, 288, 289, 290, 291, 330, 331, 332, 333, 334, 335, 336, 337, 744, 285, 286, 287, 292, 293, 294, 295, 745, 746, 747, 748, 749, 390, 391, 392, 393, 394, 395, 396, 397, 398, 399, 162, 164, 750, 751, 752, 753, 423, 424, 425, 426, 142, 1508, 1509, 1510, 1511, 1512, 1513, 1514, 1515, 1516, 1517, 1535, 1551] (by decide +kernel) (by decide +kernel)) (goodIn_sub (fun _ h => List.mem_append_left _ (List.mem_append_left _ (List.mem_append_left _ (List.mem_append_left _ (List.mem_append_left _ (List.mem_append_left _ (List.mem_append_right _ h))))))) (by decide +kernel))) (goodIn_sub (fun _ h => List.mem_append_left _ (List.mem_append_left _ (List.mem_append_left _ (List.mem_append_right _ h)))) (by decide +kernel))) (goodIn_sub (fun _ h => List.mem_append_left _ (List.mem_append_left _ (List.mem_append_right _ h))) (by decide +kernel))
set_option maxRecDepth 20000 in
theorem gL_law_L_tideAt : GoodIn wsL_law (va_wsS RL 268 yL_tideAt wsL_tideAt) := goodIn_app (goodIn_of _ (by decide +kernel)) ggL_law_L_tideAt
set_option maxRecDepth 20000 in
theorem ggL_law_X6_tideAt : GoodIn wsL_law wsX6_tideAt := goodIn_ca (goodIn_ca (goodIn_r _ [831, 195, 196, 5, 197, 192, 193, 194, 300, 301, 302, 303, 183, 779, 780, 781, 782, 111, 342, 343, 344, 345, 346, 328, 163, 329, 308, 309, 310, 311, 312, 313, 314, 315, 304, 305, 306, 307, 783, 784, 785, 786, 397, 398, 774, 162, 164, 404, 405, 406, 407, 1518, 1519, 1520, 1521, 1522, 1523, 1524, 1525, 1526, 1527, 1528, 1529, 1530, 1531, 1532, 1533, 1534] (by decide +kernel) (by decide +kernel)) (goodIn_sub (fun _ h => List.mem_append_left _ (List.mem_append_left _ (List.mem_append_left _ (List.mem_append_left _ (List.mem_append_left _ (List.mem_append_left _ (List.mem_append_right _ h))))))) (by decide +kernel))) (goodIn_sub (fun _ h => List.mem_append_left _ (List.mem_append_left _ (List.mem_append_right _ h))) (by decide +kernel))
set_option maxRecDepth 20000 in
theorem gL_law_X6_tideAt : GoodIn wsL_law (wsV RL 270 RX6 yX6_tideAt wsX6_tideAt) := goodIn_app (goodIn_of _ (by decide +kernel)) ggL_law_X6_tideAt
set_option maxRecDepth 20000 in
theorem ggL_law_L_levelAt : GoodIn wsL_law wsL_levelAt := goodIn_ca (goodIn_ca (goodIn_ca (goodIn_r _ [834, 236, 835, 836, 837, 2, 838, 17, 415, 416, 417, 245, 246, 418, 143, 16, 144, 839, 840, 841, 842, 47, 327, 328, 163, 329, 153, 154, 155, 36, 156, 53, 739, 740, 741, 742, 149, 150, 151, 152, 743, 324, 325, 326, 288, 289, 290, 291, 330, 331, 332, 333, 334, 335, 336, 337, 744, 285, 286, 287, 292, 293, 294, 295, 745, 746, 747, 748, 749, 390, 391, 392, 393, 394, 395, 396, 397, 398, 399, 162, 164, 750, 751, 752, 753, 423, 424, 425, 426, 142, 1508, 1509, 1510, 1511, 1512, 1513, 1514, 1515, 1516, 1517, 1535, 1551] (by decide +kernel) (by decide +kernel)) (goodIn_sub (fun _ h => List.mem_append_left _ (List.mem_append_left _ (List.mem_append_left _ (List.mem_append_left _ (List.mem_append_left _ (List.mem_append_left _ (List.mem_append_right _ h))))))) (by decide +kernel))) (goodIn_sub (fun _ h => List.mem_append_left _ (List.mem_append_left _ (List.mem_append_left _ (List.mem_append_right _ h)))) (by decide +kernel))) (goodIn_sub (fun _ h => List.mem_append_left _ (List.mem_append_left _ (List.mem_append_right _ h))) (by decide +kernel))
set_option maxRecDepth 20000 in
theorem gL_law_L_levelAt : GoodIn wsL_law (va_wsS RL 271 yL_levelAt wsL_levelAt) := goodIn_app (goodIn_of _ (by decide +kernel)) ggL_law_L_levelAt
set_option maxRecDepth 20000 in
theorem ggL_law_X6_levelAt : GoodIn wsL_law wsX6_levelAt := goodIn_ca (goodIn_ca (goodIn_r _ [846, 195, 196, 5, 197, 192, 193, 194, 300, 301, 302, 303, 183, 775, 776, 777, 778, 111, 346, 328, 163, 329, 779, 780, 781, 782, 342, 343, 344, 345, 308, 309, 310, 311, 312, 313, 314, 315, 304, 305, 306, 307, 783, 784, 785, 786, 397, 398, 774, 162, 164, 404, 405, 406, 407, 1518, 1519, 1520, 1521, 1522, 1523, 1524, 1525, 1526, 1527, 1528, 1529, 1530, 1531, 1532, 1533, 1534] (by decide +kernel) (by decide +kernel)) (goodIn_sub (fun _ h => List.mem_append_left _ (List.mem_append_left _ (List.mem_append_left _ (List.mem_append_left _ (List.mem_append_left _ (List.mem_append_left _ (List.mem_append_right _ h))))))) (by decide +kernel))) (goodIn_sub (fun _ h => List.mem_append_left _ (List.mem_append_left _ (List.mem_append_right _ h))) (by decide +kernel))
set_option maxRecDepth 20000 in
theorem gL_law_X6_levelAt : GoodIn wsL_law (wsV RL 273 RX6 yX6_levelAt wsX6_levelAt) := goodIn_app (goodIn_of _ (by decide +kernel)) ggL_law_X6_levelAt
set_option maxRecDepth 20000 in
theorem ggL_law_X5_highestShore : GoodIn wsL_law wsX5_highestShore := goodIn_ca (goodIn_ca (goodIn_r _ [850, 17, 839, 840, 841, 16, 842, 47, 327, 328, 163, 329, 153, 154, 155, 36, 156, 53, 739, 740, 741, 742, 149, 150, 151, 152, 743, 324, 325, 326, 288, 289, 290, 291, 330, 331, 332, 333, 334, 335, 336, 337, 744, 285, 286, 287, 292, 293, 294, 295, 745, 746, 747, 748, 749, 390, 391, 392, 393, 394, 395, 396, 397, 398, 399, 162, 164, 750, 751, 752, 753, 423, 424, 425, 426, 142, 143, 144, 1508, 1509, 1510, 1511, 1512, 1513, 1514, 1515, 1516, 1517, 1535, 1551] (by decide +kernel) (by decide +kernel)) (goodIn_sub (fun _ h => List.mem_append_left _ (List.mem_append_left _ (List.mem_append_left _ (List.mem_append_left _ (List.mem_append_left _ (List.mem_append_left _ (List.mem_append_right _ h))))))) (by decide +kernel))) (goodIn_sub (fun _ h => List.mem_append_left _ (List.mem_append_left _ (List.mem_append_right _ h))) (by decide +kernel))
set_option maxRecDepth 20000 in
theorem gL_law_X5_highestShore : GoodIn wsL_law (wsV RL 274 RX5 yX5_highestShore wsX5_highestShore) := goodIn_app (goodIn_of _ (by decide +kernel)) ggL_law_X5_highestShore
set_option maxRecDepth 20000 in
theorem ggL_law_X6_highestShore : GoodIn wsL_law wsX6_highestShore := goodIn_ca (goodIn_ca (goodIn_r _ [854, 183, 775, 776, 777, 5, 778, 111, 346, 328, 163, 329, 779, 780, 781, 782, 342, 343, 344, 345, 308, 309, 310, 311, 312, 313, 314, 315, 304, 305, 306, 307, 783, 784, 785, 786, 397, 398, 774, 162, 164, 404, 405, 406, 407, 1518, 1519, 1520, 1521, 1522, 1523, 1524, 1525, 1526, 1527, 1528, 1529, 1530, 1531, 1532, 1533, 1534] (by decide +kernel) (by decide +kernel)) (goodIn_sub (fun _ h => List.mem_append_left _ (List.mem_append_left _ (List.mem_append_left _ (List.mem_append_left _ (List.mem_append_left _ (List.mem_append_left _ (List.mem_append_right _ h))))))) (by decide +kernel))) (goodIn_sub (fun _ h => List.mem_append_left _ (List.mem_append_left _ (List.mem_append_right _ h))) (by decide +kernel))
set_option maxRecDepth 20000 in
theorem gL_law_X6_highestShore : GoodIn wsL_law (wsV RL 277 RX6 yX6_highestShore wsX6_highestShore) := goodIn_app (goodIn_of _ (by decide +kernel)) ggL_law_X6_highestShore
set_option maxRecDepth 20000 in
theorem ggL_law_L_tideIn : GoodIn wsL_law wsL_tideIn := goodIn_ca (goodIn_ca (goodIn_ca (goodIn_ca (goodIn_r _ [857, 236, 858, 859, 860, 2, 861, 17, 415, 416, 417, 245, 246, 418, 143, 16, 144, 862, 863, 864, 134, 135, 827, 740, 741, 742, 149, 150, 151, 152, 47, 153, 154, 155, 36, 156, 53, 743, 324, 325, 326, 327, 328, 163, 329, 288, 289, 290, 291, 330, 331, 332, 333, 334, 335, 336, 337, 744, 285, 286, 287, 292, 293, 294, 295, 745, 746, 747, 748, 749, 390, 391, 392, 393, 394, 395, 396, 397, 398, 399, 162, 164, 750, 751, 752, 753, 423, 424, 425, 426, 142, 1508, 1509, 1510, 1511, 1512, 1513, 1514, 1515, 1516, 1517, 1535, 1551] (by decide +kernel) (by decide +kernel)) (goodIn_sub (fun _ h => List.mem_append_left _ (List.mem_append_left _ (List.mem_append_left _ (List.mem_append_left _ (List.mem_append_left _ (List.mem_append_left _ (List.mem_append_right _ h))))))) (by decide +kernel))) (goodIn_sub (fun _ h => List.mem_append_left _ (List.mem_append_left _ (List.mem_append_left _ (List.mem_append_right _ h)))) (by decide +kernel))) (goodIn_sub (fun _ h => List.mem_append_left _ (List.mem_append_left _ (List.mem_append_left _ (List.mem_append_left _ (List.mem_append_left _ (List.mem_append_right _ h)))))) (by decide +kernel))) (goodIn_sub (fun _ h => List.mem_append_left _ (List.mem_append_left _ (List.mem_append_right _ h))) (by decide +kernel))
set_option maxRecDepth 20000 in
theorem gL_law_L_tideIn : GoodIn wsL_law (va_wsS RL 278 yL_tideIn wsL_tideIn) := goodIn_app (goodIn_of _ (by decide +kernel)) ggL_law_L_tideIn
set_option maxRecDepth 20000 in
theorem ggL_law_X6_tideIn : GoodIn wsL_law wsX6_tideIn := goodIn_ca (goodIn_ca (goodIn_r _ [868, 183, 195, 196, 5, 197, 192, 193, 194, 779, 780, 781, 782, 111, 342, 343, 344, 345, 346, 328, 163, 329, 308, 309, 310, 311, 312, 313, 314, 315, 304, 305, 306, 307, 783, 784, 785, 786, 397, 398, 774, 162, 164, 404, 405, 406, 407, 1518, 1519, 1520, 1521, 1522, 1523, 1524, 1525, 1526, 1527, 1528, 1529, 1530, 1531, 1532, 1533, 1534] (by decide +kernel) (by decide +kernel)) (goodIn_sub (fun _ h => List.mem_append_left _ (List.mem_append_left _ (List.mem_append_left _ (List.mem_append_left _ (List.mem_append_left _ (List.mem_append_left _ (List.mem_append_right _ h))))))) (by decide +kernel))) (goodIn_sub (fun _ h => List.mem_append_left _ (List.mem_append_left _ (List.mem_append_right _ h))) (by decide +kernel))
set_option maxRecDepth 20000 in
theorem gL_law_X6_tideIn : GoodIn wsL_law (wsV RL 280 RX6 yX6_tideIn wsX6_tideIn) := goodIn_app (goodIn_of _ (by decide +kernel)) ggL_law_X6_tideIn
set_option maxRecDepth 20000 in
theorem ggL_law_L_tideBySteps : GoodIn wsL_law wsL_tideBySteps := goodIn_ca (goodIn_ca (goodIn_ca (goodIn_ca (goodIn_r _ [871, 236, 872, 873, 874, 2, 875, 21, 17, 415, 416, 417, 245, 246, 418, 143, 16, 144, 862, 863, 864, 134, 135, 876, 877, 878, 20, 879, 62, 63, 64, 880, 150, 151, 152, 47, 153, 154, 155, 36, 156, 53, 881, 289, 290, 291, 882, 55, 56, 57, 883, 285, 286, 287, 288, 292, 293, 294, 295, 884, 324, 325, 326, 327, 328, 163, 329, 330, 331, 332, 333, 334, 335, 336, 337, 885, 886, 887, 888, 889, 610, 611, 612, 169, 170, 890, 891, 892, 893, 894, 746, 747, 748, 749, 390, 391, 392, 393, 394, 395, 396, 397, 398, 399, 162, 164, 895, 751, 752, 753, 423, 424, 425, 426, 142, 1508, 1509, 1510, 1511, 1512, 1513, 1514, 1515, 1516, 1517, 1536, 1537, 1538, 1535, 1551] (by decide +kernel) (by decide +kernel)) (goodIn_sub (fun _ h => List.mem_append_left _ (List.mem_append_left _ (List.mem_append_left _ (List.mem_append_left _ (List.mem_append_left _ (List.mem_append_left _ (List.mem_append_right _ h))))))) (by decide +kernel))) (goodIn_sub (fun _ h => List.mem_append_left _ (List.mem_append_left _ (List.mem_append_left _ (List.mem_append_right _ h)))) (by decide +kernel))) (goodIn_sub (fun _ h => List.mem_append_left _ (List.mem_append_left _ (List.mem_append_left _ (List.mem_append_left _ (List.mem_append_left _ (List.mem_append_right _ h)))))) (by decide +kernel))) (goodIn_sub (fun _ h => List.mem_append_left _ (List.mem_append_left _ (List.mem_append_right _ h))) (by decide +kernel))
set_option maxRecDepth 20000 in
theorem gL_law_L_tideBySteps : GoodIn wsL_law (va_wsS RL 281 yL_tideBySteps wsL_tideBySteps) := goodIn_app (goodIn_of _ (by decide +kernel)) ggL_law_L_tideBySteps
set_option maxRecDepth 20000 in
theorem ggL_law_X6_tideBySteps : GoodIn wsL_law wsX6_tideBySteps := goodIn_ca (goodIn_ca (goodIn_r _ [899, 900, 866, 867, 5, 868, 183, 195, 196, 197, 192, 193, 194, 779, 780, 781, 782, 111, 342, 343, 344, 345, 346, 328, 163, 329, 308, 309, 310, 311, 312, 313, 314, 315, 304, 305, 306, 307, 783, 784, 785, 786, 397, 398, 774, 162, 164, 404, 405, 406, 407, 1518, 1519, 1520, 1521, 1522, 1523, 1524, 1525, 1526, 1527, 1528, 1529, 1530, 1531, 1532, 1533, 1534] (by decide +kernel) (by decide +kernel)) (goodIn_sub (fun _ h => List.mem_append_left _ (List.mem_append_left _ (List.mem_append_left _ (List.mem_append_left _ (List.mem_append_left _ (List.mem_append_left _ (List.mem_append_right _ h))))))) (by decide +kernel))) (goodIn_sub (fun _ h => List.mem_append_left _ (List.mem_append_left _ (List.mem_append_right _ h))) (by decide +kernel))
set_option maxRecDepth 20000 in
theorem gL_law_X6_tideBySteps : GoodIn wsL_law (wsV RL 283 RX6 yX6_tideBySteps wsX6_tideBySteps) := goodIn_app (goodIn_of _ (by decide +kernel)) ggL_law_X6_tideBySteps
set_option maxRecDepth 20000 in
theorem ggL_law_L_highTideIn : GoodIn wsL_law wsL_highTideIn := goodIn_ca (goodIn_ca (goodIn_ca (goodIn_r _ [903, 236, 904, 905, 906, 2, 907, 17, 415, 416, 417, 245, 246, 418, 143, 16, 144, 908, 909, 20, 910, 911, 740, 741, 742, 149, 150, 151, 152, 47, 153, 154, 155, 36, 156, 53, 743, 324, 325, 326, 327, 328, 163, 329, 288, 289, 290, 291, 330, 331, 332, 333, 334, 335, 336, 337, 744, 285, 286, 287, 292, 293, 294, 295, 745, 746, 747, 748, 749, 390, 391, 392, 393, 394, 395, 396, 397, 398, 399, 162, 164, 750, 751, 752, 753, 423, 424, 425, 426, 142, 1508, 1509, 1510, 1511, 1512, 1513, 1514, 1515, 1516, 1517, 1535, 1551] (by decide +kernel) (by decide +kernel)) (goodIn_sub (fun _ h => List.mem_append_left _ (List.mem_append_left _ (List.mem_append_left _ (List.mem_append_left _ (List.mem_append_left _ (List.mem_append_left _ (List.mem_append_right _ h))))))) (by decide +kernel))) (goodIn_sub (fun _ h => List.mem_append_left _ (List.mem_append_left _ (List.mem_append_left _ (List.mem_append_right _ h)))) (by decide +kernel))) (goodIn_sub (fun _ h => List.mem_append_left _ (List.mem_append_left _ (List.mem_append_right _ h))) (by decide +kernel))
set_option maxRecDepth 20000 in
theorem gL_law_L_highTideIn : GoodIn wsL_law (va_wsS RL 284 yL_highTideIn wsL_highTideIn) := goodIn_app (goodIn_of _ (by decide +kernel)) ggL_law_L_highTideIn
set_option maxRecDepth 20000 in
theorem ggL_law_X6_highTideIn : GoodIn wsL_law wsX6_highTideIn := goodIn_ca (goodIn_ca (goodIn_r _ [915, 916, 917, 918, 5, 919, 195, 196, 197, 192, 193, 194, 300, 301, 302, 303, 183, 779, 780, 781, 782, 111, 342, 343, 344, 345, 346, 328, 163, 329, 308, 309, 310, 311, 312, 313, 314, 315, 304, 305, 306, 307, 783, 784, 785, 786, 397, 398, 774, 162, 164, 404, 405, 406, 407, 1518, 1519, 1520, 1521, 1522, 1523, 1524, 1525, 1526, 1527, 1528, 1529, 1530, 1531, 1532, 1533, 1534] (by decide +kernel) (by decide +kernel)) (goodIn_sub (fun _ h => List.mem_append_left _ (List.mem_append_left _ (List.mem_append_left _ (List.mem_append_left _ (List.mem_append_left _ (List.mem_append_left _ (List.mem_append_right _ h))))))) (by decide +kernel))) (goodIn_sub (fun _ h => List.mem_append_left _ (List.mem_append_left _ (List.mem_append_right _ h))) (by decide +kernel))
set_option maxRecDepth 20000 in
theorem gL_law_X6_highTideIn : GoodIn wsL_law (wsV RL 286 RX6 yX6_highTideIn wsX6_highTideIn) := goodIn_app (goodIn_of _ (by decide +kernel)) ggL_law_X6_highTideIn
set_option maxRecDepth 20000 in
theorem ggL_law_L_lowTideIn : GoodIn wsL_law wsL_lowTideIn := goodIn_ca (goodIn_ca (goodIn_ca (goodIn_r _ [922, 236, 923, 924, 925, 2, 926, 17, 415, 416, 417, 245, 246, 418, 143, 16, 144, 927, 928, 20, 929, 911, 740, 741, 742, 149, 150, 151, 152, 47, 153, 154, 155, 36, 156, 53, 743, 324, 325, 326, 327, 328, 163, 329, 288, 289, 290, 291, 330, 331, 332, 333, 334, 335, 336, 337, 744, 285, 286, 287, 292, 293, 294, 295, 745, 746, 747, 748, 749, 390, 391, 392, 393, 394, 395, 396, 397, 398, 399, 162, 164, 750, 751, 752, 753, 423, 424, 425, 426, 142, 1508, 1509, 1510, 1511, 1512, 1513, 1514, 1515, 1516, 1517, 1535, 1551] (by decide +kernel) (by decide +kernel)) (goodIn_sub (fun _ h => List.mem_append_left _ (List.mem_append_left _ (List.mem_append_left _ (List.mem_append_left _ (List.mem_append_left _ (List.mem_append_left _ (List.mem_append_right _ h))))))) (by decide +kernel))) (goodIn_sub (fun _ h => List.mem_append_left _ (List.mem_append_left _ (List.mem_append_left _ (List.mem_append_right _ h)))) (by decide +kernel))) (goodIn_sub (fun _ h => List.mem_append_left _ (List.mem_append_left _ (List.mem_append_right _ h))) (by decide +kernel))
set_option maxRecDepth 20000 in
theorem gL_law_L_lowTideIn : GoodIn wsL_law (va_wsS RL 287 yL_lowTideIn wsL_lowTideIn) := goodIn_app (goodIn_of _ (by decide +kernel)) ggL_law_L_lowTideIn
set_option maxRecDepth 20000 in
theorem ggL_law_X6_lowTideIn : GoodIn wsL_law wsX6_lowTideIn := goodIn_ca (goodIn_ca (goodIn_r _ [933, 916, 917, 918, 5, 919, 195, 196, 197, 192, 193, 194, 300, 301, 302, 303, 183, 779, 780, 781, 782, 111, 342, 343, 344, 345, 346, 328, 163, 329, 308, 309, 310, 311, 312, 313, 314, 315, 304, 305, 306, 307, 783, 784, 785, 786, 397, 398, 774, 162, 164, 404, 405, 406, 407, 1518, 1519, 1520, 1521, 1522, 1523, 1524, 1525, 1526, 1527, 1528, 1529, 1530, 1531, 1532, 1533, 1534] (by decide +kernel) (by decide +kernel)) (goodIn_sub (fun _ h => List.mem_append_left _ (List.mem_append_left _ (List.mem_append_left _ (List.mem_append_left _ (List.mem_append_left _ (List.mem_append_left _ (List.mem_append_right _ h))))))) (by decide +kernel))) (goodIn_sub (fun _ h => List.mem_append_left _ (List.mem_append_left _ (List.mem_append_right _ h))) (by decide +kernel))
set_option maxRecDepth 20000 in
theorem gL_law_X6_lowTideIn : GoodIn wsL_law (wsV RL 289 RX6 yX6_lowTideIn wsX6_lowTideIn) := goodIn_app (goodIn_of _ (by decide +kernel)) ggL_law_X6_lowTideIn
set_option maxRecDepth 20000 in
theorem ggL_law_L_eclipseIn : GoodIn wsL_law wsL_eclipseIn := goodIn_ca (goodIn_ca (goodIn_ca (goodIn_ca (goodIn_r _ [936, 236, 937, 938, 939, 2, 940, 17, 241, 242, 243, 244, 245, 246, 247, 248, 249, 16, 250, 149, 150, 151, 152, 47, 153, 154, 155, 36, 156, 53, 529, 530, 531, 532, 533, 534, 509, 510, 511, 512, 489, 490, 491, 492, 941, 942, 20, 943, 944, 883, 285, 286, 287, 288, 289, 290, 291, 292, 293, 294, 295, 945, 946, 947, 891, 881, 1508, 1509, 1510, 1511, 1512, 1513, 1514, 1515, 1516, 1517, 1535, 1551] (by decide +kernel) (by decide +kernel)) (goodIn_sub (fun _ h => List.mem_append_left _ (List.mem_append_left _ (List.mem_append_left _ (List.mem_append_left _ (List.mem_append_left _ (List.mem_append_left _ (List.mem_append_right _ h))))))) (by decide +kernel))) (goodIn_sub (fun _ h => List.mem_append_left _ (List.mem_append_left _ (List.mem_append_left _ (List.mem_append_right _ h)))) (by decide +kernel))) (goodIn_sub (fun _ h => List.mem_append_left _ (List.mem_append_right _ h)) (by decide +kernel))) (goodIn_sub (fun _ h => List.mem_append_left _ (List.mem_append_left _ (List.mem_append_right _ h))) (by decide +kernel))
set_option maxRecDepth 20000 in
theorem gL_law_L_eclipseIn : GoodIn wsL_law (va_wsS RL 290 yL_eclipseIn wsL_eclipseIn) := goodIn_app (goodIn_of _ (by decide +kernel)) ggL_law_L_eclipseIn
set_option maxRecDepth 20000 in
theorem ggL_law_X6_eclipseIn : GoodIn wsL_law wsX6_eclipseIn := goodIn_ca (goodIn_ca (goodIn_r _ [951, 111, 183, 264, 265, 266, 5, 267, 192, 193, 194, 404, 405, 406, 407, 304, 305, 306, 307, 308, 309, 310, 311, 312, 313, 314, 315, 1518, 1519, 1520, 1521, 1522, 1523, 1524, 1525, 1526, 1527, 1528, 1529, 1530, 1531, 1532, 1533, 1534] (by decide +kernel) (by decide +kernel)) (goodIn_sub (fun _ h => List.mem_append_left _ (List.mem_append_left _ (List.mem_append_left _ (List.mem_append_left _ (List.mem_append_left _ (List.mem_append_left _ (List.mem_append_right _ h))))))) (by decide +kernel))) (goodIn_sub (fun _ h => List.mem_append_left _ (List.mem_append_left _ (List.mem_append_right _ h))) (by decide +kernel))
set_option maxRecDepth 20000 in
theorem gL_law_X6_eclipseIn : GoodIn wsL_law (wsV RL 292 RX6 yX6_eclipseIn wsX6_eclipseIn) := goodIn_app (goodIn_of _ (by decide +kernel)) ggL_law_X6_eclipseIn
set_option maxRecDepth 20000 in
theorem ggL_law_L_conjunctionIn : GoodIn wsL_law wsL_conjunctionIn := goodIn_ca (goodIn_ca (goodIn_ca (goodIn_ca (goodIn_r _ [954, 236, 955, 956, 957, 2, 958, 17, 241, 242, 243, 244, 245, 246, 247, 248, 249, 16, 250, 149, 150, 151, 152, 47, 153, 154, 155, 36, 156, 53, 959, 960, 20, 961, 883, 285, 286, 287, 288, 289, 290, 291, 292, 293, 294, 295, 962, 963, 964, 533, 534, 1508, 1509, 1510, 1511, 1512, 1513, 1514, 1515, 1516, 1517, 1535, 1551] (by decide +kernel) (by decide +kernel)) (goodIn_sub (fun _ h => List.mem_append_left _ (List.mem_append_left _ (List.mem_append_left _ (List.mem_append_left _ (List.mem_append_left _ (List.mem_append_left _ (List.mem_append_right _ h))))))) (by decide +kernel))) (goodIn_sub (fun _ h => List.mem_append_left _ (List.mem_append_left _ (List.mem_append_left _ (List.mem_append_right _ h)))) (by decide +kernel))) (goodIn_sub (fun _ h => List.mem_append_left _ (List.mem_append_left _ (List.mem_append_right _ h))) (by decide +kernel))) (goodIn_sub (fun _ h => List.mem_append_left _ (List.mem_append_right _ h)) (by decide +kernel))
set_option maxRecDepth 20000 in
theorem gL_law_L_conjunctionIn : GoodIn wsL_law (va_wsS RL 293 yL_conjunctionIn wsL_conjunctionIn) := goodIn_app (goodIn_of _ (by decide +kernel)) ggL_law_L_conjunctionIn
set_option maxRecDepth 20000 in
theorem ggL_law_X6_conjunctionIn : GoodIn wsL_law wsX6_conjunctionIn := goodIn_ca (goodIn_ca (goodIn_r _ [968, 183, 264, 265, 266, 5, 267, 111, 192, 193, 194, 198, 199, 200, 201, 304, 305, 306, 307, 308, 309, 310, 311, 312, 313, 314, 315, 1518, 1519, 1520, 1521, 1522, 1523, 1524, 1525, 1526, 1527, 1528, 1529, 1530, 1531, 1532, 1533, 1534] (by decide +kernel) (by decide +kernel)) (goodIn_sub (fun _ h => List.mem_append_left _ (List.mem_append_left _ (List.mem_append_left _ (List.mem_append_left _ (List.mem_append_left _ (List.mem_append_left _ (List.mem_append_right _ h))))))) (by decide +kernel))) (goodIn_sub (fun _ h => List.mem_append_left _ (List.mem_append_left _ (List.mem_append_right _ h))) (by decide +kernel))
set_option maxRecDepth 20000 in
theorem gL_law_X6_conjunctionIn : GoodIn wsL_law (wsV RL 295 RX6 yX6_conjunctionIn wsX6_conjunctionIn) := goodIn_app (goodIn_of _ (by decide +kernel)) ggL_law_X6_conjunctionIn
set_option maxRecDepth 20000 in
theorem ggL_law_L_conjunctionByMoves : GoodIn wsL_law wsL_conjunctionByMoves := goodIn_ca (goodIn_ca (goodIn_ca (goodIn_ca (goodIn_r _ [971, 236, 972, 973, 974, 2, 975, 17, 241, 242, 243, 244, 245, 246, 247, 248, 249, 16, 250, 149, 150, 151, 152, 47, 153, 154, 155, 36, 156, 53, 976, 977, 20, 978, 979, 162, 163, 164, 883, 285, 286, 287, 288, 289, 290, 291, 292, 293, 294, 295, 945, 946, 947, 891, 881, 962, 963, 964, 533, 534, 1508, 1509, 1510, 1511, 1512, 1513, 1514, 1515, 1516, 1517, 1535, 1551] (by decide +kernel) (by decide +kernel)) (goodIn_sub (fun _ h => List.mem_append_left _ (List.mem_append_left _ (List.mem_append_left _ (List.mem_append_left _ (List.mem_append_left _ (List.mem_append_left _ (List.mem_append_right _ h))))))) (by decide +kernel))) (goodIn_sub (fun _ h => List.mem_append_left _ (List.mem_append_left _ (List.mem_append_left _ (List.mem_append_right _ h)))) (by decide +kernel))) (goodIn_sub (fun _ h => List.mem_append_left _ (List.mem_append_left _ (List.mem_append_right _ h))) (by decide +kernel))) (goodIn_sub (fun _ h => List.mem_append_left _ (List.mem_append_right _ h)) (by decide +kernel))
set_option maxRecDepth 20000 in
theorem gL_law_L_conjunctionByMoves : GoodIn wsL_law (va_wsS RL 296 yL_conjunctionByMoves wsL_conjunctionByMoves) := goodIn_app (goodIn_of _ (by decide +kernel)) ggL_law_L_conjunctionByMoves
set_option maxRecDepth 20000 in
theorem ggL_law_X6_conjunctionByMoves : GoodIn wsL_law wsX6_conjunctionByMoves := goodIn_ca (goodIn_ca (goodIn_r _ [983, 984, 966, 967, 5, 968, 183, 264, 265, 266, 267, 111, 192, 193, 194, 198, 199, 200, 201, 304, 305, 306, 307, 308, 309, 310, 311, 312, 313, 314, 315, 1518, 1519, 1520, 1521, 1522, 1523, 1524, 1525, 1526, 1527, 1528, 1529, 1530, 1531, 1532, 1533, 1534] (by decide +kernel) (by decide +kernel)) (goodIn_sub (fun _ h => List.mem_append_left _ (List.mem_append_left _ (List.mem_append_left _ (List.mem_append_left _ (List.mem_append_left _ (List.mem_append_left _ (List.mem_append_right _ h))))))) (by decide +kernel))) (goodIn_sub (fun _ h => List.mem_append_left _ (List.mem_append_left _ (List.mem_append_right _ h))) (by decide +kernel))
set_option maxRecDepth 20000 in
theorem gL_law_X6_conjunctionByMoves : GoodIn wsL_law (wsV RL 298 RX6 yX6_conjunctionByMoves wsX6_conjunctionByMoves) := goodIn_app (goodIn_of _ (by decide +kernel)) ggL_law_X6_conjunctionByMoves
set_option maxRecDepth 20000 in
theorem ggL_law_X5_writeRim : GoodIn wsL_law wsX5_writeRim := goodIn_ca (goodIn_ca (goodIn_r _ [988, 33, 17, 989, 990, 991, 32, 992, 993, 994, 995, 996, 89, 997, 998, 999, 1000, 1001, 94, 1002, 1003, 1004, 1005, 1006, 1007, 95, 1008, 1009, 1010, 1011, 1012, 1013, 1014, 1015, 1016, 1017, 1018, 328, 163, 329, 1019, 1020, 1021, 1022, 1023, 1024, 1025, 1026, 1027, 1028, 1029, 1030, 1031, 1032, 93, 1033, 162, 164, 1034, 185, 186, 187, 1035, 1036, 1037, 1038, 1039, 92, 1040, 1041, 1042, 1043, 1044, 1045, 1046, 1047, 1048, 1049, 1050, 31, 1051, 1052, 1053, 1054, 1055, 98, 1056, 1057, 1058, 1059, 1060, 1061, 1062, 1063, 1064, 1065, 1066, 1067, 1068, 1069, 1070, 1071, 1072, 1073, 96, 97, 99, 100, 101, 102, 103, 1074, 1075, 1076, 1077, 1078, 1079, 1080, 1081, 1082, 1083, 1084, 1085, 1086, 1087, 1088, 1089, 1090, 1091, 1092, 1093, 1094, 1095, 1096, 1097, 1098, 1099, 1100, 1101, 1102, 1103, 1104, 1105, 1106, 1107, 1108, 1109, 1110, 1111, 1112, 839, 840, 841, 16, 842, 47, 327, 153, 154, 155, 36, 156, 53, 739, 740, 741, 742, 149, 150, 151, 152, 743, 324, 325, 326, 288, 289, 290, 291, 330, 331, 332, 333, 334, 335, 336, 337, 744, 285, 286, 287, 292, 293, 294, 295, 745, 746, 747, 748, 749, 390, 391, 392, 393, 394, 395, 396, 397, 398, 399, 750, 751, 752, 753, 423, 424, 425, 426, 142, 143, 144, 1113, 1114, 1115, 1116, 1117, 1118, 1119, 1120, 1121, 1122, 1123, 1124, 1125, 1126, 1127, 1128, 1129, 1130, 1131, 1132, 1133, 1134, 1135, 1136, 1137, 1138, 1139, 1140, 1141, 1142, 1143, 1144, 1145, 1146, 454, 1147, 1148, 1149, 2, 1150, 535, 490, 491, 492, 1151, 555, 556, 557, 558, 559, 560, 561, 562, 563, 564, 565, 1152, 1153, 1154, 1155, 1156, 1157, 1158, 1159, 1508, 1509, 1510, 1511, 1512, 1513, 1514, 1515, 1516, 1517, 1552, 1553, 1554, 1555, 1556, 1557, 1547, 1548, 1549, 1550, 1558, 1559, 1560, 1561, 1562, 1563, 1535, 1551] (by decide +kernel) (by decide +kernel)) (goodIn_sub (fun _ h => List.mem_append_left _ (List.mem_append_left _ (List.mem_append_left _ (List.mem_append_left _ (List.mem_append_left _ (List.mem_append_left _ (List.mem_append_right _ h))))))) (by decide +kernel))) (goodIn_sub (fun _ h => List.mem_append_left _ (List.mem_append_left _ (List.mem_append_right _ h))) (by decide +kernel))
set_option maxRecDepth 20000 in
theorem gL_law_X5_writeRim : GoodIn wsL_law (wsV RL 299 RX5 yX5_writeRim wsX5_writeRim) := goodIn_app (goodIn_of _ (by decide +kernel)) ggL_law_X5_writeRim
set_option maxRecDepth 20000 in
theorem ggL_law_X6_writeRim : GoodIn wsL_law wsX6_writeRim := goodIn_ca (goodIn_ca (goodIn_r _ [1163, 183, 1164, 111, 1165, 1166, 1167, 5, 1168, 1169, 1170, 1171, 1172, 116, 775, 776, 777, 778, 346, 328, 163, 329, 779, 780, 781, 782, 342, 343, 344, 345, 308, 309, 310, 311, 312, 313, 314, 315, 304, 305, 306, 307, 783, 784, 785, 786, 397, 398, 774, 162, 164, 404, 405, 406, 407, 1173, 1174, 1175, 1176, 578, 579, 580, 581, 582, 583, 584, 585, 1518, 1519, 1520, 1521, 1522, 1523, 1524, 1525, 1526, 1527, 1528, 1529, 1530, 1531, 1532, 1533, 1534] (by decide +kernel) (by decide +kernel)) (goodIn_sub (fun _ h => List.mem_append_left _ (List.mem_append_left _ (List.mem_append_left _ (List.mem_append_left _ (List.mem_append_left _ (List.mem_append_left _ (List.mem_append_right _ h))))))) (by decide +kernel))) (goodIn_sub (fun _ h => List.mem_append_left _ (List.mem_append_left _ (List.mem_append_right _ h))) (by decide +kernel))
set_option maxRecDepth 20000 in
theorem gL_law_X6_writeRim : GoodIn wsL_law (wsV RL 302 RX6 yX6_writeRim wsX6_writeRim) := goodIn_app (goodIn_of _ (by decide +kernel)) ggL_law_X6_writeRim
set_option maxRecDepth 20000 in
theorem ggL_law_L_writeMoon : GoodIn wsL_law wsL_writeMoon := goodIn_ca (goodIn_ca (goodIn_ca (goodIn_r _ [1179, 236, 1180, 1181, 1182, 2, 1183, 17, 33, 241, 242, 243, 244, 245, 246, 247, 248, 249, 16, 250, 149, 150, 151, 152, 47, 153, 154, 155, 36, 156, 53, 366, 335, 336, 337, 284, 285, 286, 287, 288, 289, 290, 291, 292, 293, 294, 295, 989, 990, 991, 32, 992, 993, 994, 995, 996, 89, 997, 998, 999, 1000, 1001, 94, 1002, 1003, 1004, 1005, 1006, 1007, 95, 1008, 1009, 1010, 1011, 1012, 1013, 1014, 1015, 1016, 1017, 1018, 328, 163, 329, 1019, 1020, 1021, 1022, 1023, 1024, 1025, 1026, 1027, 1028, 1029, 1030, 1031, 1032, 93, 1033, 162, 164, 1034, 185, 186, 187, 1035, 1036, 1037, 1038, 1039, 92, 1040, 1041, 1042, 1043, 1044, 1045, 1046, 1047, 1048, 1049, 1050, 31, 1051, 1052, 1053, 1054, 1055, 98, 1056, 1057, 1058, 1059, 1060, 1061, 1062, 1063, 1064, 1065, 1066, 1067, 1068, 1069, 1070, 1071, 1072, 1073, 96, 97, 99, 100, 101, 102, 103, 1074, 1075, 1076, 1077, 1078, 1079, 1080, 1081, 1082, 1083, 1084, 1085, 1086, 1087, 1088, 1089, 1090, 1091, 1092, 1093, 1094, 1095, 1096, 1097, 1098, 1099, 1100, 1101, 1102, 1103, 1104, 1105, 1106, 1107, 1108, 1109, 1110, 1111, 1112, 323, 324, 325, 326, 327, 330, 331, 332, 333, 334, 1113, 1114, 1115, 1116, 1117, 1118, 1119, 1120, 1121, 1122, 1123, 1124, 1125, 1126, 1127, 1128, 1129, 1130, 1131, 1132, 1133, 1134, 1135, 1136, 1137, 1138, 1139, 1140, 1141, 1142, 1143, 1144, 1145, 1146, 389, 390, 391, 392, 393, 394, 395, 396, 397, 398, 399, 1147, 1148, 1149, 1150, 1152, 1153, 1154, 1155, 1156, 1157, 1158, 1159, 1508, 1509, 1510, 1511, 1512, 1513, 1514, 1515, 1516, 1517, 1535, 1551, 1552, 1553, 1554, 1555, 1556, 1557, 1547, 1548, 1549, 1550, 1558, 1559, 1560, 1561, 1562, 1563] (by decide +kernel) (by decide +kernel)) (goodIn_sub (fun _ h => List.mem_append_left _ (List.mem_append_left _ (List.mem_append_left _ (List.mem_append_left _ (List.mem_append_left _ (List.mem_append_left _ (List.mem_append_right _ h))))))) (by decide +kernel))) (goodIn_sub (fun _ h => List.mem_append_left _ (List.mem_append_left _ (List.mem_append_left _ (List.mem_append_right _ h)))) (by decide +kernel))) (goodIn_sub (fun _ h => List.mem_append_left _ (List.mem_append_left _ (List.mem_append_right _ h))) (by decide +kernel))
set_option maxRecDepth 20000 in
theorem gL_law_L_writeMoon : GoodIn wsL_law (va_wsS RL 303 yL_writeMoon wsL_writeMoon) := goodIn_app (goodIn_of _ (by decide +kernel)) ggL_law_L_writeMoon
set_option maxRecDepth 20000 in
theorem ggL_law_X6_writeMoon : GoodIn wsL_law wsX6_writeMoon := goodIn_ca (goodIn_ca (goodIn_r _ [1187, 1164, 264, 265, 266, 5, 267, 111, 192, 193, 194, 300, 301, 302, 303, 183, 308, 309, 310, 311, 1169, 1170, 1171, 1172, 116, 342, 343, 344, 345, 346, 328, 163, 329, 312, 313, 314, 315, 1173, 1174, 1175, 1176, 304, 305, 306, 307, 404, 405, 406, 407, 1165, 1166, 1167, 1168, 1518, 1519, 1520, 1521, 1522, 1523, 1524, 1525, 1526, 1527, 1528, 1529, 1530, 1531, 1532, 1533, 1534] (by decide +kernel) (by decide +kernel)) (goodIn_sub (fun _ h => List.mem_append_left _ (List.mem_append_left _ (List.mem_append_left _ (List.mem_append_left _ (List.mem_append_left _ (List.mem_append_left _ (List.mem_append_right _ h))))))) (by decide +kernel))) (goodIn_sub (fun _ h => List.mem_append_left _ (List.mem_append_left _ (List.mem_append_right _ h))) (by decide +kernel))
set_option maxRecDepth 20000 in
theorem gL_law_X6_writeMoon : GoodIn wsL_law (wsV RL 305 RX6 yX6_writeMoon wsX6_writeMoon) := goodIn_app (goodIn_of _ (by decide +kernel)) ggL_law_X6_writeMoon
set_option maxRecDepth 20000 in
theorem ggL_law_L_lineAt : GoodIn wsL_law wsL_lineAt := goodIn_ca (goodIn_ca (goodIn_r _ [1190, 236, 1191, 1192, 1193, 2, 1194, 245, 246, 33, 1152, 1153, 1154, 32, 1155, 1156, 1157, 995, 1158, 89, 1159, 1001, 1195, 1196, 1197, 1198, 1199, 1200, 1201, 1202, 95, 94, 1203, 162, 163, 164, 1204, 1108, 1088, 1109, 1090, 1110, 1111, 1093, 1112, 1205, 1206, 98, 1207, 1098, 1099, 1100, 1083, 1084, 1085, 1508, 1509, 1510, 1511, 1512, 1513, 1514, 1515, 1516, 1517, 1547, 1548, 1549, 1550] (by decide +kernel) (by decide +kernel)) (goodIn_sub (fun _ h => List.mem_append_left _ (List.mem_append_left _ (List.mem_append_left _ (List.mem_append_left _ (List.mem_append_left _ (List.mem_append_left _ (List.mem_append_right _ h))))))) (by decide +kernel))) (goodIn_sub (fun _ h => List.mem_append_left _ (List.mem_append_left _ (List.mem_append_left _ (List.mem_append_right _ h)))) (by decide +kernel))
set_option maxRecDepth 20000 in
theorem gL_law_L_lineAt : GoodIn wsL_law (va_wsS RL 306 yL_lineAt wsL_lineAt) := goodIn_app (goodIn_of _ (by decide +kernel)) ggL_law_L_lineAt
set_option maxRecDepth 20000 in
theorem ggL_law_X6_lineAt : GoodIn wsL_law wsX6_lineAt := goodIn_ca (goodIn_r _ [1211, 1164, 116, 192, 193, 5, 194, 300, 301, 302, 303, 183, 1518, 1519, 1520, 1521, 1522, 1523, 1524, 1525, 1526, 1527, 1528, 1529, 1530, 1531, 1532, 1533, 1534] (by decide +kernel) (by decide +kernel)) (goodIn_sub (fun _ h => List.mem_append_left _ (List.mem_append_left _ (List.mem_append_left _ (List.mem_append_left _ (List.mem_append_left _ (List.mem_append_left _ (List.mem_append_right _ h))))))) (by decide +kernel))
set_option maxRecDepth 20000 in
theorem gL_law_X6_lineAt : GoodIn wsL_law (wsV RL 308 RX6 yX6_lineAt wsX6_lineAt) := goodIn_app (goodIn_of _ (by decide +kernel)) ggL_law_X6_lineAt
set_option maxRecDepth 20000 in
theorem ggL_law_X5_meanLevel : GoodIn wsL_law wsX5_meanLevel := goodIn_ca (goodIn_ca (goodIn_r _ [1215, 17, 1216, 839, 840, 841, 16, 842, 47, 327, 328, 163, 329, 153, 154, 155, 36, 156, 53, 739, 740, 741, 742, 149, 150, 151, 152, 743, 324, 325, 326, 288, 289, 290, 291, 330, 331, 332, 333, 334, 335, 336, 337, 744, 285, 286, 287, 292, 293, 294, 295, 745, 746, 747, 748, 749, 390, 391, 392, 393, 394, 395, 396, 397, 398, 399, 162, 164, 750, 751, 752, 753, 423, 424, 425, 426, 142, 143, 144, 1508, 1509, 1510, 1511, 1512, 1513, 1514, 1515, 1516, 1517, 1535, 1551] (by decide +kernel) (by decide +kernel)) (goodIn_sub (fun _ h => List.mem_append_left _ (List.mem_append_left _ (List.mem_append_left _ (List.mem_append_left _ (List.mem_append_left _ (List.mem_append_left _ (List.mem_append_right _ h))))))) (by decide +kernel))) (goodIn_sub (fun _ h => List.mem_append_left _ (List.mem_append_left _ (List.mem_append_right _ h))) (by decide +kernel))
set_option maxRecDepth 20000 in
theorem gL_law_X5_meanLevel : GoodIn wsL_law (wsV RL 309 RX5 yX5_meanLevel wsX5_meanLevel) := goodIn_app (goodIn_of _ (by decide +kernel)) ggL_law_X5_meanLevel
set_option maxRecDepth 20000 in
theorem ggL_law_X6_meanLevel : GoodIn wsL_law wsX6_meanLevel := goodIn_ca (goodIn_ca (goodIn_r _ [1220, 183, 1221, 775, 776, 777, 5, 778, 111, 346, 328, 163, 329, 779, 780, 781, 782, 342, 343, 344, 345, 308, 309, 310, 311, 312, 313, 314, 315, 304, 305, 306, 307, 783, 784, 785, 786, 397, 398, 774, 162, 164, 404, 405, 406, 407, 1518, 1519, 1520, 1521, 1522, 1523, 1524, 1525, 1526, 1527, 1528, 1529, 1530, 1531, 1532, 1533, 1534] (by decide +kernel) (by decide +kernel)) (goodIn_sub (fun _ h => List.mem_append_left _ (List.mem_append_left _ (List.mem_append_left _ (List.mem_append_left _ (List.mem_append_left _ (List.mem_append_left _ (List.mem_append_right _ h))))))) (by decide +kernel))) (goodIn_sub (fun _ h => List.mem_append_left _ (List.mem_append_left _ (List.mem_append_right _ h))) (by decide +kernel))
set_option maxRecDepth 20000 in
theorem gL_law_X6_meanLevel : GoodIn wsL_law (wsV RL 313 RX6 yX6_meanLevel wsX6_meanLevel) := goodIn_app (goodIn_of _ (by decide +kernel)) ggL_law_X6_meanLevel
set_option maxRecDepth 20000 in
theorem ggL_law_L_eclipsedShare : GoodIn wsL_law wsL_eclipsedShare := goodIn_ca (goodIn_ca (goodIn_ca (goodIn_r _ [1224, 1225, 1226, 1227, 1228, 2, 1229, 1230, 1231, 17, 272, 150, 151, 16, 152, 47, 153, 154, 155, 36, 156, 53, 284, 285, 286, 287, 288, 289, 290, 291, 292, 293, 294, 295, 389, 390, 391, 392, 393, 394, 395, 396, 397, 163, 398, 399, 162, 164, 1508, 1509, 1510, 1511, 1512, 1513, 1514, 1515, 1516, 1517, 1535, 1551] (by decide +kernel) (by decide +kernel)) (goodIn_sub (fun _ h => List.mem_append_left _ (List.mem_append_left _ (List.mem_append_left _ (List.mem_append_left _ (List.mem_append_left _ (List.mem_append_left _ (List.mem_append_right _ h))))))) (by decide +kernel))) (goodIn_sub (fun _ h => List.mem_append_right _ h) (by decide +kernel))) (goodIn_sub (fun _ h => List.mem_append_left _ (List.mem_append_left _ (List.mem_append_right _ h))) (by decide +kernel))
set_option maxRecDepth 20000 in
theorem gL_law_L_eclipsedShare : GoodIn wsL_law (va_wsS RL 314 yL_eclipsedShare wsL_eclipsedShare) := goodIn_app (goodIn_of _ (by decide +kernel)) ggL_law_L_eclipsedShare
set_option maxRecDepth 20000 in
theorem ggL_law_X6_eclipsedShare : GoodIn wsL_law wsX6_eclipsedShare := goodIn_ca (goodIn_ca (goodIn_r _ [1235, 111, 183, 404, 405, 406, 5, 407, 304, 305, 306, 307, 308, 309, 310, 311, 312, 313, 314, 315, 1518, 1519, 1520, 1521, 1522, 1523, 1524, 1525, 1526, 1527, 1528, 1529, 1530, 1531, 1532, 1533, 1534] (by decide +kernel) (by decide +kernel)) (goodIn_sub (fun _ h => List.mem_append_left _ (List.mem_append_left _ (List.mem_append_left _ (List.mem_append_left _ (List.mem_append_left _ (List.mem_append_left _ (List.mem_append_right _ h))))))) (by decide +kernel))) (goodIn_sub (fun _ h => List.mem_append_left _ (List.mem_append_left _ (List.mem_append_right _ h))) (by decide +kernel))
set_option maxRecDepth 20000 in
theorem gL_law_X6_eclipsedShare : GoodIn wsL_law (wsV RL 317 RX6 yX6_eclipsedShare wsX6_eclipsedShare) := goodIn_app (goodIn_of _ (by decide +kernel)) ggL_law_X6_eclipsedShare
set_option maxRecDepth 20000 in
theorem ggL_law_X5_isBalanced : GoodIn wsL_law wsX5_isBalanced := goodIn_ca (goodIn_ca (goodIn_r _ [1239, 17, 21, 1240, 1241, 1242, 16, 1243, 47, 153, 154, 155, 36, 156, 53, 558, 559, 560, 561, 562, 563, 564, 565, 1244, 1245, 1246, 20, 1247, 911, 740, 741, 742, 149, 150, 151, 152, 743, 324, 325, 326, 327, 328, 163, 329, 288, 289, 290, 291, 330, 331, 332, 333, 334, 335, 336, 337, 744, 285, 286, 287, 292, 293, 294, 295, 745, 746, 747, 748, 749, 390, 391, 392, 393, 394, 395, 396, 397, 398, 399, 162, 164, 750, 751, 752, 753, 423, 424, 425, 426, 142, 143, 144, 1248, 877, 878, 879, 62, 63, 64, 880, 881, 882, 55, 56, 57, 883, 884, 885, 886, 887, 888, 889, 610, 611, 612, 169, 170, 890, 891, 892, 893, 894, 895, 1508, 1509, 1510, 1511, 1512, 1513, 1514, 1515, 1516, 1517, 1535, 1551, 1536, 1537, 1538] (by decide +kernel) (by decide +kernel)) (goodIn_sub (fun _ h => List.mem_append_left _ (List.mem_append_left _ (List.mem_append_left _ (List.mem_append_left _ (List.mem_append_left _ (List.mem_append_left _ (List.mem_append_right _ h))))))) (by decide +kernel))) (goodIn_sub (fun _ h => List.mem_append_left _ (List.mem_append_left _ (List.mem_append_right _ h))) (by decide +kernel))
set_option maxRecDepth 20000 in
theorem gL_law_X5_isBalanced : GoodIn wsL_law (wsV RL 318 RX5 yX5_isBalanced wsX5_isBalanced) := goodIn_app (goodIn_of _ (by decide +kernel)) ggL_law_X5_isBalanced
set_option maxRecDepth 20000 in
theorem ggL_law_X6_isBalanced : GoodIn wsL_law wsX6_isBalanced := goodIn_r _ [1252, 183, 1518, 1519, 1520, 1521, 1522, 1523, 1524, 1525, 1526, 1527, 1528, 1529, 1530, 1531, 1532, 1533, 1534] (by decide +kernel) (by decide +kernel)
set_option maxRecDepth 20000 in
theorem gL_law_X6_isBalanced : GoodIn wsL_law (wsV RL 322 RX6 yX6_isBalanced wsX6_isBalanced) := goodIn_app (goodIn_of _ (by decide +kernel)) ggL_law_X6_isBalanced
set_option maxRecDepth 20000 in
theorem ggL_law_L_type : GoodIn wsL_law wsL_type := goodIn_ca (goodIn_ca (goodIn_ca (goodIn_r _ [1255, 125, 1256, 1257, 1258, 2, 1259, 134, 135, 136, 137, 29, 1260, 1261, 1262, 28, 1263, 78, 1264, 1153, 1154, 32, 1155, 1156, 1157, 995, 1158, 89, 1159, 1001, 1265, 1266, 1267, 1268, 1269, 1059, 1060, 1061, 1062, 1063, 1064, 1065, 94, 1003, 1004, 1005, 1006, 1007, 95, 1008, 1009, 1010, 1011, 1012, 1013, 1014, 1015, 1016, 1017, 1018, 328, 163, 329, 1019, 1020, 1021, 1022, 1023, 1024, 1025, 1026, 1027, 1028, 1029, 1030, 1031, 1032, 93, 1033, 162, 164, 1034, 185, 186, 187, 1035, 1036, 1037, 1038, 1039, 92, 1066, 1067, 1042, 1068, 1069, 1070, 1071, 1072, 1073, 96, 97, 98, 99, 100, 101, 102, 103, 1074, 1075, 1076, 1077, 1078, 1079, 1080, 1081, 1082, 1083, 1084, 1085, 1086, 1087, 1088, 1089, 1090, 1091, 1092, 1093, 1094, 1095, 1096, 1097, 1098, 1099, 1100, 1101, 1102, 1103, 1104, 1105, 1106, 1107, 1108, 1109, 1110, 1111, 1112, 1508, 1509, 1510, 1511, 1512, 1513, 1514, 1515, 1516, 1517, 1542, 1543, 1544, 1545, 1546, 1547, 1548, 1549, 1550] (by decide +kernel) (by decide +kernel)) (goodIn_sub (fun _ h => List.mem_append_left _ (List.mem_append_left _ (List.mem_append_left _ (List.mem_append_left _ (List.mem_append_left _ (List.mem_append_left _ (List.mem_append_right _ h))))))) (by decide +kernel))) (goodIn_sub (fun _ h => List.mem_append_left _ (List.mem_append_left _ (List.mem_append_left _ (List.mem_append_left _ (List.mem_append_left _ (List.mem_append_right _ h)))))) (by decide +kernel))) (goodIn_sub (fun _ h => List.mem_append_left _ (List.mem_append_left _ (List.mem_append_left _ (List.mem_append_left _ (List.mem_append_right _ h))))) (by decide +kernel))
set_option maxRecDepth 20000 in
theorem gL_law_L_type : GoodIn wsL_law (va_wsS RL 323 yL_type wsL_type) := goodIn_app (goodIn_of _ (by decide +kernel)) ggL_law_L_type
set_option maxRecDepth 20000 in
theorem ggL_law_X6_type : GoodIn wsL_law wsX6_type := goodIn_ca (goodIn_r _ [1273, 1274, 183, 117, 192, 193, 5, 194, 1518, 1519, 1520, 1521, 1522, 1523, 1524, 1525, 1526, 1527, 1528, 1529, 1530, 1531, 1532, 1533, 1534] (by decide +kernel) (by decide +kernel)) (goodIn_sub (fun _ h => List.mem_append_left _ (List.mem_append_left _ (List.mem_append_left _ (List.mem_append_left _ (List.mem_append_left _ (List.mem_append_left _ (List.mem_append_right _ h))))))) (by decide +kernel))
set_option maxRecDepth 20000 in
theorem gL_law_X6_type : GoodIn wsL_law (wsV RL 326 RX6 yX6_type wsX6_type) := goodIn_app (goodIn_of _ (by decide +kernel)) ggL_law_X6_type
set_option maxRecDepth 20000 in
theorem ggL_law_L_execute : GoodIn wsL_law wsL_execute := goodIn_ca (goodIn_ca (goodIn_ca (goodIn_ca (goodIn_r _ [1277, 125, 1278, 1279, 1280, 2, 1281, 134, 135, 136, 137, 29, 40, 37, 17, 138, 41, 25, 1282, 1283, 1284, 28, 1285, 81, 82, 78, 1286, 1287, 1288, 1289, 80, 83, 1290, 1291, 1292, 1293, 1294, 328, 163, 329, 1295, 1296, 1297, 1298, 1299, 1300, 1301, 1302, 1303, 1304, 1088, 1305, 1306, 1307, 1308, 1309, 1310, 1311, 1312, 1313, 1314, 1315, 1316, 1264, 1153, 1154, 32, 1155, 1156, 1157, 995, 1158, 89, 1159, 1001, 1317, 1196, 1197, 1198, 1199, 1200, 1201, 1202, 95, 94, 1203, 162, 164, 1204, 1108, 1109, 1090, 1110, 1111, 1093, 1112, 1205, 1206, 98, 1207, 1098, 1099, 1100, 1083, 1084, 1085, 1318, 1319, 1320, 1321, 1322, 1323, 1324, 1325, 1326, 1327, 1042, 1328, 1329, 1330, 1331, 1332, 1104, 1105, 1106, 1107, 1333, 1334, 55, 56, 36, 57, 53, 1335, 1336, 1337, 1338, 1339, 1340, 1341, 1342, 1343, 1344, 1345, 1346, 1347, 1348, 1349, 990, 991, 992, 993, 994, 996, 997, 998, 999, 1000, 1002, 1003, 1004, 1005, 1006, 1007, 1008, 1009, 1010, 1011, 1012, 1013, 1014, 1015, 1016, 1017, 1018, 1019, 1020, 1021, 1022, 1023, 1024, 1025, 1026, 1027, 1028, 1029, 1030, 1031, 1032, 93, 1033, 1034, 185, 186, 187, 1035, 1036, 1037, 1038, 1039, 92, 1040, 1041, 1043, 1044, 1045, 1046, 1047, 1048, 1049, 1050, 31, 1051, 1052, 1053, 1054, 1055, 1056, 1057, 1350, 1351, 1352, 1353, 1354, 166, 167, 168, 169, 154, 155, 156, 170, 1355, 1356, 1357, 1358, 1359, 1360, 1361, 1362, 1363, 1364, 1365, 1366, 1367, 1368, 1369, 1370, 16, 1371, 1372, 140, 141, 142, 143, 144, 1373, 146, 147, 148, 149, 150, 151, 152, 47, 153, 1374, 248, 249, 250, 1375, 420, 421, 422, 423, 424, 425, 426, 427, 428, 429, 430, 1376, 510, 511, 512, 489, 490, 491, 492, 1377, 548, 549, 1378, 551, 552, 553, 554, 555, 556, 557, 558, 559, 560, 561, 562, 563, 564, 565, 1379, 598, 599, 600, 1380, 707, 708, 1381, 729, 730, 1382, 1383, 1384, 1385, 1386, 172, 173, 174, 54, 1387, 252, 253, 254, 255, 1388, 432, 433, 434, 1389, 456, 457, 458, 1390, 486, 487, 488, 1391, 567, 568, 569, 605, 606, 607, 608, 399, 609, 610, 611, 612, 1392, 710, 711, 712, 1393, 732, 733, 734, 735, 736, 737, 738, 327, 739, 740, 741, 742, 743, 324, 325, 326, 288, 289, 290, 291, 330, 331, 332, 333, 334, 335, 336, 337, 744, 285, 286, 287, 292, 293, 294, 295, 745, 746, 747, 748, 749, 390, 391, 392, 393, 394, 395, 396, 397, 398, 750, 751, 752, 753, 754, 755, 756, 757, 758, 759, 760, 761, 157, 158, 159, 24, 160, 70, 71, 72, 161, 165, 1508, 1509, 1510, 1511, 1512, 1513, 1514, 1515, 1516, 1517, 1535, 1542, 1543, 1544, 1545, 1546, 1564, 1565, 1566, 1567, 1547, 1548, 1549, 1550, 1551, 1552, 1553, 1554, 1555, 1556, 1557, 1558, 1559, 1560, 1561, 1562, 1563, 1539, 1540, 1541] (by decide +kernel) (by decide +kernel)) (goodIn_sub (fun _ h => List.mem_append_left _ (List.mem_append_left _ (List.mem_append_left _ (List.mem_append_left _ (List.mem_append_left _ (List.mem_append_left _ (List.mem_append_right _ h))))))) (by decide +kernel))) (goodIn_sub (fun _ h => List.mem_append_left _ (List.mem_append_left _ (List.mem_append_left _ (List.mem_append_left _ (List.mem_append_left _ (List.mem_append_right _ h)))))) (by decide +kernel))) (goodIn_sub (fun _ h => List.mem_append_left _ (List.mem_append_left _ (List.mem_append_left _ (List.mem_append_left _ (List.mem_append_right _ h))))) (by decide +kernel))) (goodIn_sub (fun _ h => List.mem_append_left _ (List.mem_append_left _ (List.mem_append_right _ h))) (by decide +kernel))
set_option maxRecDepth 20000 in
theorem gL_law_L_execute : GoodIn wsL_law (va_wsS RL 327 yL_execute wsL_execute) := goodIn_app (goodIn_of _ (by decide +kernel)) ggL_law_L_execute
set_option maxRecDepth 20000 in
theorem ggL_law_X6_execute : GoodIn wsL_law wsX6_execute := goodIn_ca (goodIn_ca (goodIn_r _ [1397, 1398, 1399, 1400, 1274, 118, 183, 119, 1401, 1402, 1403, 5, 1404, 120, 1405, 1406, 1407, 1408, 1409, 1410, 1411, 1412, 117, 1413, 1414, 1415, 1416, 1417, 1418, 1419, 1420, 1421, 1303, 1304, 1088, 1305, 1306, 1307, 1308, 1309, 1310, 1311, 1312, 1422, 1319, 1320, 1321, 1322, 1323, 1324, 1325, 1326, 1327, 1042, 1328, 1329, 1108, 1109, 1090, 1110, 1111, 1093, 1112, 1330, 1331, 98, 1332, 1104, 1105, 1106, 1083, 1084, 1085, 1107, 1333, 1206, 1207, 1098, 1099, 1100, 1423, 1424, 1425, 1426, 1427, 1428, 1429, 1430, 1431, 1432, 1433, 1434, 192, 193, 194, 1435, 1436, 1437, 1438, 198, 199, 200, 201, 179, 180, 181, 182, 111, 112, 184, 185, 186, 187, 1439, 1440, 1441, 1442, 188, 189, 190, 191, 195, 196, 197, 260, 261, 262, 263, 264, 265, 266, 267, 439, 440, 441, 442, 443, 444, 445, 446, 463, 464, 465, 466, 497, 498, 499, 500, 517, 518, 519, 520, 574, 575, 576, 577, 578, 579, 580, 581, 582, 583, 584, 585, 641, 642, 643, 644, 621, 622, 623, 624, 625, 626, 627, 628, 346, 328, 163, 329, 717, 718, 719, 720, 766, 767, 768, 769, 770, 771, 772, 773, 774, 162, 164, 775, 776, 777, 778, 779, 780, 781, 782, 342, 343, 344, 345, 308, 309, 310, 311, 312, 313, 314, 315, 304, 305, 306, 307, 783, 784, 785, 786, 397, 398, 404, 405, 406, 407, 202, 203, 204, 205, 206, 114, 1518, 1519, 1520, 1521, 1522, 1523, 1524, 1525, 1526, 1527, 1528, 1529, 1530, 1531, 1532, 1533, 1534, 1564, 1565, 1566, 1567] (by decide +kernel) (by decide +kernel)) (goodIn_sub (fun _ h => List.mem_append_left _ (List.mem_append_left _ (List.mem_append_left _ (List.mem_append_left _ (List.mem_append_left _ (List.mem_append_left _ (List.mem_append_right _ h))))))) (by decide +kernel))) (goodIn_sub (fun _ h => List.mem_append_left _ (List.mem_append_left _ (List.mem_append_right _ h))) (by decide +kernel))
set_option maxRecDepth 20000 in
theorem gL_law_X6_execute : GoodIn wsL_law (wsV RL 329 RX6 yX6_execute wsX6_execute) := goodIn_app (goodIn_of _ (by decide +kernel)) ggL_law_X6_execute
set_option maxRecDepth 20000 in
theorem ggL_law_L_errorPosition : GoodIn wsL_law wsL_errorPosition := goodIn_ca (goodIn_ca (goodIn_r _ [1445, 524, 1446, 1447, 1448, 2, 1449, 533, 534, 40, 1508, 1509, 1510, 1511, 1512, 1513, 1514, 1515, 1516, 1517] (by decide +kernel) (by decide +kernel)) (goodIn_sub (fun _ h => List.mem_append_left _ (List.mem_append_left _ (List.mem_append_left _ (List.mem_append_left _ (List.mem_append_left _ (List.mem_append_left _ (List.mem_append_right _ h))))))) (by decide +kernel))) (goodIn_sub (fun _ h => List.mem_append_left _ (List.mem_append_right _ h)) (by decide +kernel))
set_option maxRecDepth 20000 in
theorem gL_law_L_errorPosition : GoodIn wsL_law (va_wsS RL 330 yL_errorPosition wsL_errorPosition) := goodIn_app (goodIn_of _ (by decide +kernel)) ggL_law_L_errorPosition
set_option maxRecDepth 20000 in
theorem ggL_law_X6_errorPosition : GoodIn wsL_law wsX6_errorPosition := goodIn_r _ [1453, 118, 300, 301, 302, 5, 303, 183, 1518, 1519, 1520, 1521, 1522, 1523, 1524, 1525, 1526, 1527, 1528, 1529, 1530, 1531, 1532, 1533, 1534] (by decide +kernel) (by decide +kernel)
set_option maxRecDepth 20000 in
theorem gL_law_X6_errorPosition : GoodIn wsL_law (wsV RL 332 RX6 yX6_errorPosition wsX6_errorPosition) := goodIn_app (goodIn_of _ (by decide +kernel)) ggL_law_X6_errorPosition
set_option maxRecDepth 20000 in
theorem ggL_law_L_failedCommand : GoodIn wsL_law wsL_failedCommand := goodIn_ca (goodIn_ca (goodIn_r _ [1456, 524, 1457, 1458, 1459, 2, 1460, 533, 534, 41, 1508, 1509, 1510, 1511, 1512, 1513, 1514, 1515, 1516, 1517] (by decide +kernel) (by decide +kernel)) (goodIn_sub (fun _ h => List.mem_append_left _ (List.mem_append_left _ (List.mem_append_left _ (List.mem_append_left _ (List.mem_append_left _ (List.mem_append_left _ (List.mem_append_right _ h))))))) (by decide +kernel))) (goodIn_sub (fun _ h => List.mem_append_left _ (List.mem_append_right _ h)) (by decide +kernel))
set_option maxRecDepth 20000 in
theorem gL_law_L_failedCommand : GoodIn wsL_law (va_wsS RL 333 yL_failedCommand wsL_failedCommand) := goodIn_app (goodIn_of _ (by decide +kernel)) ggL_law_L_failedCommand
set_option maxRecDepth 20000 in
theorem ggL_law_X6_failedCommand : GoodIn wsL_law wsX6_failedCommand := goodIn_r _ [1464, 119, 300, 301, 302, 5, 303, 183, 1518, 1519, 1520, 1521, 1522, 1523, 1524, 1525, 1526, 1527, 1528, 1529, 1530, 1531, 1532, 1533, 1534] (by decide +kernel) (by decide +kernel)
set_option maxRecDepth 20000 in
theorem gL_law_X6_failedCommand : GoodIn wsL_law (wsV RL 335 RX6 yX6_failedCommand wsX6_failedCommand) := goodIn_app (goodIn_of _ (by decide +kernel)) ggL_law_X6_failedCommand
set_option maxRecDepth 20000 in
theorem ggL_law_L_undo : GoodIn wsL_law wsL_undo := goodIn_ca (goodIn_ca (goodIn_r _ [1467, 504, 1468, 1469, 1470, 2, 1471, 136, 137, 25, 17, 138, 1472, 1473, 1474, 24, 1475, 72, 1476, 1477, 1478, 1479, 71, 70, 165, 166, 167, 36, 168, 169, 154, 155, 156, 53, 170, 55, 56, 57, 1508, 1509, 1510, 1511, 1512, 1513, 1514, 1515, 1516, 1517, 1535, 1539, 1540, 1541, 1551] (by decide +kernel) (by decide +kernel)) (goodIn_sub (fun _ h => List.mem_append_left _ (List.mem_append_left _ (List.mem_append_left _ (List.mem_append_left _ (List.mem_append_left _ (List.mem_append_left _ (List.mem_append_right _ h))))))) (by decide +kernel))) (goodIn_sub (fun _ h => List.mem_append_left _ (List.mem_append_left _ (List.mem_append_left _ (List.mem_append_left _ (List.mem_append_right _ h))))) (by decide +kernel))
set_option maxRecDepth 20000 in
theorem gL_law_L_undo : GoodIn wsL_law (va_wsS RL 336 yL_undo wsL_undo) := goodIn_app (goodIn_of _ (by decide +kernel)) ggL_law_L_undo
set_option maxRecDepth 20000 in
theorem ggL_law_X6_undo : GoodIn wsL_law wsX6_undo := goodIn_r _ [1483, 206, 183, 114, 111, 184, 185, 186, 187, 1518, 1519, 1520, 1521, 1522, 1523, 1524, 1525, 1526, 1527, 1528, 1529, 1530, 1531, 1532, 1533, 1534] (by decide +kernel) (by decide +kernel)
set_option maxRecDepth 20000 in
theorem gL_law_X6_undo : GoodIn wsL_law (wsV RL 338 RX6 yX6_undo wsX6_undo) := goodIn_app (goodIn_of _ (by decide +kernel)) ggL_law_X6_undo
set_option maxRecDepth 20000 in
theorem ggL_law_X5_save : GoodIn wsL_law wsX5_save := goodIn_ca (goodIn_r _ [1487, 38, 17, 138, 39, 1354, 166, 167, 36, 168, 169, 154, 155, 156, 53, 170, 55, 56, 57, 272, 150, 151, 16, 152, 47, 153, 1508, 1509, 1510, 1511, 1512, 1513, 1514, 1515, 1516, 1517, 1535, 1551] (by decide +kernel) (by decide +kernel)) (goodIn_sub (fun _ h => List.mem_append_left _ (List.mem_append_left _ (List.mem_append_left _ (List.mem_append_left _ (List.mem_append_left _ (List.mem_append_left _ (List.mem_append_right _ h))))))) (by decide +kernel))
set_option maxRecDepth 20000 in
theorem gL_law_X5_save : GoodIn wsL_law (wsV RL 339 RX5 yX5_save wsX5_save) := goodIn_app (goodIn_of _ (by decide +kernel)) ggL_law_X5_save
set_option maxRecDepth 20000 in
theorem ggL_law_X6_save : GoodIn wsL_law wsX6_save := goodIn_ca (goodIn_r _ [1491, 183, 111, 113, 184, 185, 186, 187, 1492, 1518, 1519, 1520, 1521, 1522, 1523, 1524, 1525, 1526, 1527, 1528, 1529, 1530, 1531, 1532, 1533, 1534] (by decide +kernel) (by decide +kernel)) (goodIn_sub (fun _ h => List.mem_append_left _ (List.mem_append_left _ (List.mem_append_left _ (List.mem_append_left _ (List.mem_append_left _ (List.mem_append_left _ (List.mem_append_right _ h))))))) (by decide +kernel))
set_option maxRecDepth 20000 in
theorem gL_law_X6_save : GoodIn wsL_law (wsV RL 342 RX6 yX6_save wsX6_save) := goodIn_app (goodIn_of _ (by decide +kernel)) ggL_law_X6_save
set_option maxRecDepth 20000 in
theorem ggL_law_L_restore : GoodIn wsL_law wsL_restore := goodIn_ca (goodIn_ca (goodIn_r _ [1495, 504, 1496, 1497, 1498, 2, 1499, 136, 137, 39, 17, 138, 38, 25, 1354, 166, 167, 36, 168, 169, 154, 155, 156, 53, 170, 55, 56, 57, 1500, 1501, 1502, 24, 1503, 72, 272, 150, 151, 16, 152, 47, 153, 1508, 1509, 1510, 1511, 1512, 1513, 1514, 1515, 1516, 1517, 1535, 1551, 1539, 1540, 1541] (by decide +kernel) (by decide +kernel)) (goodIn_sub (fun _ h => List.mem_append_left _ (List.mem_append_left _ (List.mem_append_left _ (List.mem_append_left _ (List.mem_append_left _ (List.mem_append_left _ (List.mem_append_right _ h))))))) (by decide +kernel))) (goodIn_sub (fun _ h => List.mem_append_left _ (List.mem_append_left _ (List.mem_append_left _ (List.mem_append_left _ (List.mem_append_right _ h))))) (by decide +kernel))
set_option maxRecDepth 20000 in
theorem gL_law_L_restore : GoodIn wsL_law (va_wsS RL 343 yL_restore wsL_restore) := goodIn_app (goodIn_of _ (by decide +kernel)) ggL_law_L_restore
set_option maxRecDepth 20000 in
theorem ggL_law_X6_restore : GoodIn wsL_law wsX6_restore := goodIn_ca (goodIn_r _ [1507, 1492, 183, 113, 111, 184, 185, 186, 187, 206, 1518, 1519, 1520, 1521, 1522, 1523, 1524, 1525, 1526, 1527, 1528, 1529, 1530, 1531, 1532, 1533, 1534] (by decide +kernel) (by decide +kernel)) (goodIn_sub (fun _ h => List.mem_append_left _ (List.mem_append_left _ (List.mem_append_left _ (List.mem_append_left _ (List.mem_append_left _ (List.mem_append_left _ (List.mem_append_right _ h))))))) (by decide +kernel))
set_option maxRecDepth 20000 in
theorem gL_law_X6_restore : GoodIn wsL_law (wsV RL 345 RX6 yX6_restore wsX6_restore) := goodIn_app (goodIn_of _ (by decide +kernel)) ggL_law_X6_restore
theorem dL_law_0 : decode cL_law 0 = .ok (.new 8, 3) := by decide +kernel
theorem dL_law_3 : decode cL_law 3 = .ok (.dup, 1) := by decide +kernel
theorem dL_law_4 : decode cL_law 4 = .ok (.invokespecial 156, 3) := by decide +kernel
theorem dL_law_7 : decode cL_law 7 = .ok (.astore_n 1, 1) := by decide +kernel
theorem dL_law_8 : decode cL_law 8 = .ok (.new 157, 3) := by decide +kernel
theorem dL_law_11 : decode cL_law 11 = .ok (.dup, 1) := by decide +kernel
theorem dL_law_12 : decode cL_law 12 = .ok (.invokespecial 159, 3) := by decide +kernel
theorem dL_law_15 : decode cL_law 15 = .ok (.astore_n 2, 1) := by decide +kernel
theorem dL_law_16 : decode cL_law 16 = .ok (.iconst 1, 1) := by decide +kernel
theorem dL_law_17 : decode cL_law 17 = .ok (.newarray .long, 2) := by decide +kernel
theorem dL_law_19 : decode cL_law 19 = .ok (.astore_n 3, 1) := by decide +kernel
theorem dL_law_20 : decode cL_law 20 = .ok (.iconst 1, 1) := by decide +kernel
theorem dL_law_21 : decode cL_law 21 = .ok (.newarray .double, 2) := by decide +kernel
theorem dL_law_23 : decode cL_law 23 = .ok (.astore 4, 2) := by decide +kernel
theorem dL_law_25 : decode cL_law 25 = .ok (.iconst 0, 1) := by decide +kernel
theorem dL_law_26 : decode cL_law 26 = .ok (.istore 5, 2) := by decide +kernel
theorem dL_law_28 : decode cL_law 28 = .ok (.iload 5, 2) := by decide +kernel
theorem dL_law_30 : decode cL_law 30 = .ok (.aload_n 0, 1) := by decide +kernel
theorem dL_law_31 : decode cL_law 31 = .ok (.arraylength, 1) := by decide +kernel
theorem dL_law_32 : decode cL_law 32 = .ok (.iconst 4, 1) := by decide +kernel
theorem dL_law_33 : decode cL_law 33 = .ok (.isub, 1) := by decide +kernel
theorem dL_law_34 : decode cL_law 34 = .ok (.if_icmp .gt 2922, 3) := by decide +kernel
theorem dL_law_37 : decode cL_law 37 = .ok (.aload_n 0, 1) := by decide +kernel
theorem dL_law_38 : decode cL_law 38 = .ok (.iload 5, 2) := by decide +kernel
theorem dL_law_40 : decode cL_law 40 = .ok (.iaload, 1) := by decide +kernel
theorem dL_law_41 : decode cL_law 41 = .ok (.bipush 63, 2) := by decide +kernel
theorem dL_law_43 : decode cL_law 43 = .ok (.iand, 1) := by decide +kernel
theorem dL_law_44 : decode cL_law 44 = .ok (.tableswitch 2906 0 53 #[232, 312, 392, 472, 528, 541, 597, 653, 709, 772, 835, 898, 954, 1010, 1073, 1136, 1180, 1224, 1292, 1348, 1404, 1417, 1473, 1529, 1585, 1641, 1697, 1753, 1766, 1779, 1792, 1805, 1861, 1917, 1930, 1998, 2066, 2122, 2178, 2234, 2302, 2370, 2383, 2439, 2495, 2536, 2602, 2615, 2673, 2717, 2761, 2805, 2849, 2862], 232) := by decide +kernel
theorem dL_law_276 : decode cL_law 276 = .ok (.aload_n 1, 1) := by decide +kernel
theorem dL_law_277 : decode cL_law 277 = .ok (.aload_n 0, 1) := by decide +kernel
theorem dL_law_278 : decode cL_law 278 = .ok (.iload 5, 2) := by decide +kernel
theorem dL_law_280 : decode cL_law 280 = .ok (.iconst 1, 1) := by decide +kernel
theorem dL_law_281 : decode cL_law 281 = .ok (.iadd, 1) := by decide +kernel
theorem dL_law_282 : decode cL_law 282 = .ok (.iaload, 1) := by decide +kernel
theorem dL_law_283 : decode cL_law 283 = .ok (.aload_n 0, 1) := by decide +kernel
theorem dL_law_284 : decode cL_law 284 = .ok (.iload 5, 2) := by decide +kernel
theorem dL_law_286 : decode cL_law 286 = .ok (.iconst 2, 1) := by decide +kernel
theorem dL_law_287 : decode cL_law 287 = .ok (.iadd, 1) := by decide +kernel
theorem dL_law_288 : decode cL_law 288 = .ok (.iaload, 1) := by decide +kernel
theorem dL_law_289 : decode cL_law 289 = .ok (.aload_n 0, 1) := by decide +kernel
theorem dL_law_290 : decode cL_law 290 = .ok (.iload 5, 2) := by decide +kernel
theorem dL_law_292 : decode cL_law 292 = .ok (.iconst 3, 1) := by decide +kernel
theorem dL_law_293 : decode cL_law 293 = .ok (.iadd, 1) := by decide +kernel
theorem dL_law_294 : decode cL_law 294 = .ok (.iaload, 1) := by decide +kernel
theorem dL_law_295 : decode cL_law 295 = .ok (.aload_n 3, 1) := by decide +kernel
theorem dL_law_296 : decode cL_law 296 = .ok (.invokestatic 160, 3) := by decide +kernel
theorem dL_law_299 : decode cL_law 299 = .ok (.istore 6, 2) := by decide +kernel
theorem dL_law_301 : decode cL_law 301 = .ok (.aload_n 2, 1) := by decide +kernel
theorem dL_law_302 : decode cL_law 302 = .ok (.aload_n 0, 1) := by decide +kernel
theorem dL_law_303 : decode cL_law 303 = .ok (.iload 5, 2) := by decide +kernel
theorem dL_law_305 : decode cL_law 305 = .ok (.iconst 1, 1) := by decide +kernel
theorem dL_law_306 : decode cL_law 306 = .ok (.iadd, 1) := by decide +kernel
theorem dL_law_307 : decode cL_law 307 = .ok (.iaload, 1) := by decide +kernel
theorem dL_law_308 : decode cL_law 308 = .ok (.aload_n 0, 1) := by decide +kernel
theorem dL_law_309 : decode cL_law 309 = .ok (.iload 5, 2) := by decide +kernel
theorem dL_law_311 : decode cL_law 311 = .ok (.iconst 2, 1) := by decide +kernel
theorem dL_law_312 : decode cL_law 312 = .ok (.iadd, 1) := by decide +kernel
theorem dL_law_313 : decode cL_law 313 = .ok (.iaload, 1) := by decide +kernel
theorem dL_law_314 : decode cL_law 314 = .ok (.aload_n 0, 1) := by decide +kernel
theorem dL_law_315 : decode cL_law 315 = .ok (.iload 5, 2) := by decide +kernel
theorem dL_law_317 : decode cL_law 317 = .ok (.iconst 3, 1) := by decide +kernel
theorem dL_law_318 : decode cL_law 318 = .ok (.iadd, 1) := by decide +kernel
theorem dL_law_319 : decode cL_law 319 = .ok (.iaload, 1) := by decide +kernel
theorem dL_law_320 : decode cL_law 320 = .ok (.invokevirtual 165, 3) := by decide +kernel
theorem dL_law_323 : decode cL_law 323 = .ok (.istore 7, 2) := by decide +kernel
theorem dL_law_325 : decode cL_law 325 = .ok (.aload_n 2, 1) := by decide +kernel
theorem dL_law_326 : decode cL_law 326 = .ok (.invokevirtual 166, 3) := by decide +kernel
theorem dL_law_329 : decode cL_law 329 = .ok (.iload 6, 2) := by decide +kernel
theorem dL_law_331 : decode cL_law 331 = .ok (.if_icmp .eq 5, 3) := by decide +kernel
theorem dL_law_334 : decode cL_law 334 = .ok (.iconst 0, 1) := by decide +kernel
theorem dL_law_335 : decode cL_law 335 = .ok (.ireturn, 1) := by decide +kernel
theorem dL_law_336 : decode cL_law 336 = .ok (.iload 6, 2) := by decide +kernel
theorem dL_law_338 : decode cL_law 338 = .ok (.ifCond .ne 15, 3) := by decide +kernel
theorem dL_law_341 : decode cL_law 341 = .ok (.aload_n 3, 1) := by decide +kernel
theorem dL_law_342 : decode cL_law 342 = .ok (.iconst 0, 1) := by decide +kernel
theorem dL_law_343 : decode cL_law 343 = .ok (.laload, 1) := by decide +kernel
theorem dL_law_344 : decode cL_law 344 = .ok (.iload 7, 2) := by decide +kernel
theorem dL_law_346 : decode cL_law 346 = .ok (.i2l, 1) := by decide +kernel
theorem dL_law_347 : decode cL_law 347 = .ok (.lcmp, 1) := by decide +kernel
theorem dL_law_348 : decode cL_law 348 = .ok (.ifCond .eq 5, 3) := by decide +kernel
theorem dL_law_351 : decode cL_law 351 = .ok (.iconst 0, 1) := by decide +kernel
theorem dL_law_352 : decode cL_law 352 = .ok (.ireturn, 1) := by decide +kernel
theorem dL_law_353 : decode cL_law 353 = .ok (.goto 2597, 3) := by decide +kernel
theorem dL_law_356 : decode cL_law 356 = .ok (.aload_n 1, 1) := by decide +kernel
theorem dL_law_357 : decode cL_law 357 = .ok (.aload_n 0, 1) := by decide +kernel
theorem dL_law_358 : decode cL_law 358 = .ok (.iload 5, 2) := by decide +kernel
theorem dL_law_360 : decode cL_law 360 = .ok (.iconst 1, 1) := by decide +kernel
theorem dL_law_361 : decode cL_law 361 = .ok (.iadd, 1) := by decide +kernel
theorem dL_law_362 : decode cL_law 362 = .ok (.iaload, 1) := by decide +kernel
theorem dL_law_363 : decode cL_law 363 = .ok (.aload_n 0, 1) := by decide +kernel
theorem dL_law_364 : decode cL_law 364 = .ok (.iload 5, 2) := by decide +kernel
theorem dL_law_366 : decode cL_law 366 = .ok (.iconst 2, 1) := by decide +kernel
theorem dL_law_367 : decode cL_law 367 = .ok (.iadd, 1) := by decide +kernel
theorem dL_law_368 : decode cL_law 368 = .ok (.iaload, 1) := by decide +kernel
theorem dL_law_369 : decode cL_law 369 = .ok (.aload_n 0, 1) := by decide +kernel
theorem dL_law_370 : decode cL_law 370 = .ok (.iload 5, 2) := by decide +kernel
theorem dL_law_372 : decode cL_law 372 = .ok (.iconst 3, 1) := by decide +kernel
theorem dL_law_373 : decode cL_law 373 = .ok (.iadd, 1) := by decide +kernel
theorem dL_law_374 : decode cL_law 374 = .ok (.iaload, 1) := by decide +kernel
theorem dL_law_375 : decode cL_law 375 = .ok (.aload_n 3, 1) := by decide +kernel
theorem dL_law_376 : decode cL_law 376 = .ok (.invokestatic 169, 3) := by decide +kernel
theorem dL_law_379 : decode cL_law 379 = .ok (.istore 6, 2) := by decide +kernel
theorem dL_law_381 : decode cL_law 381 = .ok (.aload_n 2, 1) := by decide +kernel
theorem dL_law_382 : decode cL_law 382 = .ok (.aload_n 0, 1) := by decide +kernel
theorem dL_law_383 : decode cL_law 383 = .ok (.iload 5, 2) := by decide +kernel
theorem dL_law_385 : decode cL_law 385 = .ok (.iconst 1, 1) := by decide +kernel
theorem dL_law_386 : decode cL_law 386 = .ok (.iadd, 1) := by decide +kernel
theorem dL_law_387 : decode cL_law 387 = .ok (.iaload, 1) := by decide +kernel
theorem dL_law_388 : decode cL_law 388 = .ok (.aload_n 0, 1) := by decide +kernel
theorem dL_law_389 : decode cL_law 389 = .ok (.iload 5, 2) := by decide +kernel
theorem dL_law_391 : decode cL_law 391 = .ok (.iconst 2, 1) := by decide +kernel
theorem dL_law_392 : decode cL_law 392 = .ok (.iadd, 1) := by decide +kernel
theorem dL_law_393 : decode cL_law 393 = .ok (.iaload, 1) := by decide +kernel
theorem dL_law_394 : decode cL_law 394 = .ok (.aload_n 0, 1) := by decide +kernel
theorem dL_law_395 : decode cL_law 395 = .ok (.iload 5, 2) := by decide +kernel
theorem dL_law_397 : decode cL_law 397 = .ok (.iconst 3, 1) := by decide +kernel
theorem dL_law_398 : decode cL_law 398 = .ok (.iadd, 1) := by decide +kernel
theorem dL_law_399 : decode cL_law 399 = .ok (.iaload, 1) := by decide +kernel
theorem dL_law_400 : decode cL_law 400 = .ok (.invokevirtual 171, 3) := by decide +kernel
theorem dL_law_403 : decode cL_law 403 = .ok (.istore 7, 2) := by decide +kernel
theorem dL_law_405 : decode cL_law 405 = .ok (.aload_n 2, 1) := by decide +kernel
theorem dL_law_406 : decode cL_law 406 = .ok (.invokevirtual 166, 3) := by decide +kernel
theorem dL_law_409 : decode cL_law 409 = .ok (.iload 6, 2) := by decide +kernel
theorem dL_law_411 : decode cL_law 411 = .ok (.if_icmp .eq 5, 3) := by decide +kernel
theorem dL_law_414 : decode cL_law 414 = .ok (.iconst 0, 1) := by decide +kernel
theorem dL_law_415 : decode cL_law 415 = .ok (.ireturn, 1) := by decide +kernel
theorem dL_law_416 : decode cL_law 416 = .ok (.iload 6, 2) := by decide +kernel
theorem dL_law_418 : decode cL_law 418 = .ok (.ifCond .ne 15, 3) := by decide +kernel
theorem dL_law_421 : decode cL_law 421 = .ok (.aload_n 3, 1) := by decide +kernel
theorem dL_law_422 : decode cL_law 422 = .ok (.iconst 0, 1) := by decide +kernel
theorem dL_law_423 : decode cL_law 423 = .ok (.laload, 1) := by decide +kernel
theorem dL_law_424 : decode cL_law 424 = .ok (.iload 7, 2) := by decide +kernel
theorem dL_law_426 : decode cL_law 426 = .ok (.i2l, 1) := by decide +kernel
theorem dL_law_427 : decode cL_law 427 = .ok (.lcmp, 1) := by decide +kernel
theorem dL_law_428 : decode cL_law 428 = .ok (.ifCond .eq 5, 3) := by decide +kernel
theorem dL_law_431 : decode cL_law 431 = .ok (.iconst 0, 1) := by decide +kernel
theorem dL_law_432 : decode cL_law 432 = .ok (.ireturn, 1) := by decide +kernel
theorem dL_law_433 : decode cL_law 433 = .ok (.goto 2517, 3) := by decide +kernel
theorem dL_law_436 : decode cL_law 436 = .ok (.aload_n 1, 1) := by decide +kernel
theorem dL_law_437 : decode cL_law 437 = .ok (.aload_n 0, 1) := by decide +kernel
theorem dL_law_438 : decode cL_law 438 = .ok (.iload 5, 2) := by decide +kernel
theorem dL_law_440 : decode cL_law 440 = .ok (.iconst 1, 1) := by decide +kernel
theorem dL_law_441 : decode cL_law 441 = .ok (.iadd, 1) := by decide +kernel
theorem dL_law_442 : decode cL_law 442 = .ok (.iaload, 1) := by decide +kernel
theorem dL_law_443 : decode cL_law 443 = .ok (.aload_n 0, 1) := by decide +kernel
theorem dL_law_444 : decode cL_law 444 = .ok (.iload 5, 2) := by decide +kernel
theorem dL_law_446 : decode cL_law 446 = .ok (.iconst 2, 1) := by decide +kernel
theorem dL_law_447 : decode cL_law 447 = .ok (.iadd, 1) := by decide +kernel
theorem dL_law_448 : decode cL_law 448 = .ok (.iaload, 1) := by decide +kernel
theorem dL_law_449 : decode cL_law 449 = .ok (.aload_n 0, 1) := by decide +kernel
theorem dL_law_450 : decode cL_law 450 = .ok (.iload 5, 2) := by decide +kernel
theorem dL_law_452 : decode cL_law 452 = .ok (.iconst 3, 1) := by decide +kernel
theorem dL_law_453 : decode cL_law 453 = .ok (.iadd, 1) := by decide +kernel
theorem dL_law_454 : decode cL_law 454 = .ok (.iaload, 1) := by decide +kernel
theorem dL_law_455 : decode cL_law 455 = .ok (.aload_n 3, 1) := by decide +kernel
theorem dL_law_456 : decode cL_law 456 = .ok (.invokestatic 172, 3) := by decide +kernel
theorem dL_law_459 : decode cL_law 459 = .ok (.istore 6, 2) := by decide +kernel
theorem dL_law_461 : decode cL_law 461 = .ok (.aload_n 2, 1) := by decide +kernel
theorem dL_law_462 : decode cL_law 462 = .ok (.aload_n 0, 1) := by decide +kernel
theorem dL_law_463 : decode cL_law 463 = .ok (.iload 5, 2) := by decide +kernel
theorem dL_law_465 : decode cL_law 465 = .ok (.iconst 1, 1) := by decide +kernel
theorem dL_law_466 : decode cL_law 466 = .ok (.iadd, 1) := by decide +kernel
theorem dL_law_467 : decode cL_law 467 = .ok (.iaload, 1) := by decide +kernel
theorem dL_law_468 : decode cL_law 468 = .ok (.aload_n 0, 1) := by decide +kernel
theorem dL_law_469 : decode cL_law 469 = .ok (.iload 5, 2) := by decide +kernel
theorem dL_law_471 : decode cL_law 471 = .ok (.iconst 2, 1) := by decide +kernel
theorem dL_law_472 : decode cL_law 472 = .ok (.iadd, 1) := by decide +kernel
theorem dL_law_473 : decode cL_law 473 = .ok (.iaload, 1) := by decide +kernel
theorem dL_law_474 : decode cL_law 474 = .ok (.aload_n 0, 1) := by decide +kernel
theorem dL_law_475 : decode cL_law 475 = .ok (.iload 5, 2) := by decide +kernel
theorem dL_law_477 : decode cL_law 477 = .ok (.iconst 3, 1) := by decide +kernel
theorem dL_law_478 : decode cL_law 478 = .ok (.iadd, 1) := by decide +kernel
theorem dL_law_479 : decode cL_law 479 = .ok (.iaload, 1) := by decide +kernel
theorem dL_law_480 : decode cL_law 480 = .ok (.invokevirtual 174, 3) := by decide +kernel
theorem dL_law_483 : decode cL_law 483 = .ok (.istore 7, 2) := by decide +kernel
theorem dL_law_485 : decode cL_law 485 = .ok (.aload_n 2, 1) := by decide +kernel
theorem dL_law_486 : decode cL_law 486 = .ok (.invokevirtual 166, 3) := by decide +kernel
theorem dL_law_489 : decode cL_law 489 = .ok (.iload 6, 2) := by decide +kernel
theorem dL_law_491 : decode cL_law 491 = .ok (.if_icmp .eq 5, 3) := by decide +kernel
theorem dL_law_494 : decode cL_law 494 = .ok (.iconst 0, 1) := by decide +kernel
theorem dL_law_495 : decode cL_law 495 = .ok (.ireturn, 1) := by decide +kernel
theorem dL_law_496 : decode cL_law 496 = .ok (.iload 6, 2) := by decide +kernel
theorem dL_law_498 : decode cL_law 498 = .ok (.ifCond .ne 15, 3) := by decide +kernel
theorem dL_law_501 : decode cL_law 501 = .ok (.aload_n 3, 1) := by decide +kernel
theorem dL_law_502 : decode cL_law 502 = .ok (.iconst 0, 1) := by decide +kernel
theorem dL_law_503 : decode cL_law 503 = .ok (.laload, 1) := by decide +kernel
theorem dL_law_504 : decode cL_law 504 = .ok (.iload 7, 2) := by decide +kernel
theorem dL_law_506 : decode cL_law 506 = .ok (.i2l, 1) := by decide +kernel
theorem dL_law_507 : decode cL_law 507 = .ok (.lcmp, 1) := by decide +kernel
theorem dL_law_508 : decode cL_law 508 = .ok (.ifCond .eq 5, 3) := by decide +kernel
theorem dL_law_511 : decode cL_law 511 = .ok (.iconst 0, 1) := by decide +kernel
theorem dL_law_512 : decode cL_law 512 = .ok (.ireturn, 1) := by decide +kernel
theorem dL_law_513 : decode cL_law 513 = .ok (.goto 2437, 3) := by decide +kernel
theorem dL_law_516 : decode cL_law 516 = .ok (.aload_n 1, 1) := by decide +kernel
theorem dL_law_517 : decode cL_law 517 = .ok (.aload_n 0, 1) := by decide +kernel
theorem dL_law_518 : decode cL_law 518 = .ok (.iload 5, 2) := by decide +kernel
theorem dL_law_520 : decode cL_law 520 = .ok (.iconst 1, 1) := by decide +kernel
theorem dL_law_521 : decode cL_law 521 = .ok (.iadd, 1) := by decide +kernel
theorem dL_law_522 : decode cL_law 522 = .ok (.iaload, 1) := by decide +kernel
theorem dL_law_523 : decode cL_law 523 = .ok (.aload_n 3, 1) := by decide +kernel
theorem dL_law_524 : decode cL_law 524 = .ok (.invokestatic 175, 3) := by decide +kernel
theorem dL_law_527 : decode cL_law 527 = .ok (.istore 6, 2) := by decide +kernel
theorem dL_law_529 : decode cL_law 529 = .ok (.aload_n 2, 1) := by decide +kernel
theorem dL_law_530 : decode cL_law 530 = .ok (.aload_n 0, 1) := by decide +kernel
theorem dL_law_531 : decode cL_law 531 = .ok (.iload 5, 2) := by decide +kernel
theorem dL_law_533 : decode cL_law 533 = .ok (.iconst 1, 1) := by decide +kernel
theorem dL_law_534 : decode cL_law 534 = .ok (.iadd, 1) := by decide +kernel
theorem dL_law_535 : decode cL_law 535 = .ok (.iaload, 1) := by decide +kernel
theorem dL_law_536 : decode cL_law 536 = .ok (.invokevirtual 178, 3) := by decide +kernel
theorem dL_law_539 : decode cL_law 539 = .ok (.istore 7, 2) := by decide +kernel
theorem dL_law_541 : decode cL_law 541 = .ok (.aload_n 2, 1) := by decide +kernel
theorem dL_law_542 : decode cL_law 542 = .ok (.invokevirtual 166, 3) := by decide +kernel
theorem dL_law_545 : decode cL_law 545 = .ok (.iload 6, 2) := by decide +kernel
theorem dL_law_547 : decode cL_law 547 = .ok (.if_icmp .eq 5, 3) := by decide +kernel
theorem dL_law_550 : decode cL_law 550 = .ok (.iconst 0, 1) := by decide +kernel
theorem dL_law_551 : decode cL_law 551 = .ok (.ireturn, 1) := by decide +kernel
theorem dL_law_552 : decode cL_law 552 = .ok (.iload 6, 2) := by decide +kernel
theorem dL_law_554 : decode cL_law 554 = .ok (.ifCond .ne 15, 3) := by decide +kernel
theorem dL_law_557 : decode cL_law 557 = .ok (.aload_n 3, 1) := by decide +kernel
theorem dL_law_558 : decode cL_law 558 = .ok (.iconst 0, 1) := by decide +kernel
theorem dL_law_559 : decode cL_law 559 = .ok (.laload, 1) := by decide +kernel
theorem dL_law_560 : decode cL_law 560 = .ok (.iload 7, 2) := by decide +kernel
theorem dL_law_562 : decode cL_law 562 = .ok (.i2l, 1) := by decide +kernel
theorem dL_law_563 : decode cL_law 563 = .ok (.lcmp, 1) := by decide +kernel
theorem dL_law_564 : decode cL_law 564 = .ok (.ifCond .eq 5, 3) := by decide +kernel
theorem dL_law_567 : decode cL_law 567 = .ok (.iconst 0, 1) := by decide +kernel
theorem dL_law_568 : decode cL_law 568 = .ok (.ireturn, 1) := by decide +kernel
theorem dL_law_569 : decode cL_law 569 = .ok (.goto 2381, 3) := by decide +kernel
theorem dL_law_572 : decode cL_law 572 = .ok (.aload_n 1, 1) := by decide +kernel
theorem dL_law_573 : decode cL_law 573 = .ok (.invokevirtual 179, 3) := by decide +kernel
theorem dL_law_576 : decode cL_law 576 = .ok (.aload_n 2, 1) := by decide +kernel
theorem dL_law_577 : decode cL_law 577 = .ok (.invokevirtual 182, 3) := by decide +kernel
theorem dL_law_580 : decode cL_law 580 = .ok (.if_icmp .eq 2370, 3) := by decide +kernel
theorem dL_law_583 : decode cL_law 583 = .ok (.iconst 0, 1) := by decide +kernel
theorem dL_law_584 : decode cL_law 584 = .ok (.ireturn, 1) := by decide +kernel
theorem dL_law_585 : decode cL_law 585 = .ok (.aload_n 1, 1) := by decide +kernel
theorem dL_law_586 : decode cL_law 586 = .ok (.aload_n 0, 1) := by decide +kernel
theorem dL_law_587 : decode cL_law 587 = .ok (.iload 5, 2) := by decide +kernel
theorem dL_law_589 : decode cL_law 589 = .ok (.iconst 1, 1) := by decide +kernel
theorem dL_law_590 : decode cL_law 590 = .ok (.iadd, 1) := by decide +kernel
theorem dL_law_591 : decode cL_law 591 = .ok (.iaload, 1) := by decide +kernel
theorem dL_law_592 : decode cL_law 592 = .ok (.aload_n 3, 1) := by decide +kernel
theorem dL_law_593 : decode cL_law 593 = .ok (.invokestatic 183, 3) := by decide +kernel
theorem dL_law_596 : decode cL_law 596 = .ok (.istore 6, 2) := by decide +kernel
theorem dL_law_598 : decode cL_law 598 = .ok (.aload_n 2, 1) := by decide +kernel
theorem dL_law_599 : decode cL_law 599 = .ok (.aload_n 0, 1) := by decide +kernel
theorem dL_law_600 : decode cL_law 600 = .ok (.iload 5, 2) := by decide +kernel
theorem dL_law_602 : decode cL_law 602 = .ok (.iconst 1, 1) := by decide +kernel
theorem dL_law_603 : decode cL_law 603 = .ok (.iadd, 1) := by decide +kernel
theorem dL_law_604 : decode cL_law 604 = .ok (.iaload, 1) := by decide +kernel
theorem dL_law_605 : decode cL_law 605 = .ok (.invokevirtual 185, 3) := by decide +kernel
theorem dL_law_608 : decode cL_law 608 = .ok (.istore 7, 2) := by decide +kernel
theorem dL_law_610 : decode cL_law 610 = .ok (.aload_n 2, 1) := by decide +kernel
theorem dL_law_611 : decode cL_law 611 = .ok (.invokevirtual 166, 3) := by decide +kernel
theorem dL_law_614 : decode cL_law 614 = .ok (.iload 6, 2) := by decide +kernel
theorem dL_law_616 : decode cL_law 616 = .ok (.if_icmp .eq 5, 3) := by decide +kernel
theorem dL_law_619 : decode cL_law 619 = .ok (.iconst 0, 1) := by decide +kernel
theorem dL_law_620 : decode cL_law 620 = .ok (.ireturn, 1) := by decide +kernel
theorem dL_law_621 : decode cL_law 621 = .ok (.iload 6, 2) := by decide +kernel
theorem dL_law_623 : decode cL_law 623 = .ok (.ifCond .ne 15, 3) := by decide +kernel
theorem dL_law_626 : decode cL_law 626 = .ok (.aload_n 3, 1) := by decide +kernel
theorem dL_law_627 : decode cL_law 627 = .ok (.iconst 0, 1) := by decide +kernel
theorem dL_law_628 : decode cL_law 628 = .ok (.laload, 1) := by decide +kernel
theorem dL_law_629 : decode cL_law 629 = .ok (.iload 7, 2) := by decide +kernel
theorem dL_law_631 : decode cL_law 631 = .ok (.i2l, 1) := by decide +kernel
theorem dL_law_632 : decode cL_law 632 = .ok (.lcmp, 1) := by decide +kernel
theorem dL_law_633 : decode cL_law 633 = .ok (.ifCond .eq 5, 3) := by decide +kernel
theorem dL_law_636 : decode cL_law 636 = .ok (.iconst 0, 1) := by decide +kernel
theorem dL_law_637 : decode cL_law 637 = .ok (.ireturn, 1) := by decide +kernel
theorem dL_law_638 : decode cL_law 638 = .ok (.goto 2312, 3) := by decide +kernel
theorem dL_law_641 : decode cL_law 641 = .ok (.aload_n 1, 1) := by decide +kernel
theorem dL_law_642 : decode cL_law 642 = .ok (.aload_n 0, 1) := by decide +kernel
theorem dL_law_643 : decode cL_law 643 = .ok (.iload 5, 2) := by decide +kernel
theorem dL_law_645 : decode cL_law 645 = .ok (.iconst 1, 1) := by decide +kernel
theorem dL_law_646 : decode cL_law 646 = .ok (.iadd, 1) := by decide +kernel
theorem dL_law_647 : decode cL_law 647 = .ok (.iaload, 1) := by decide +kernel
theorem dL_law_648 : decode cL_law 648 = .ok (.aload_n 3, 1) := by decide +kernel
theorem dL_law_649 : decode cL_law 649 = .ok (.invokestatic 186, 3) := by decide +kernel
theorem dL_law_652 : decode cL_law 652 = .ok (.istore 6, 2) := by decide +kernel
theorem dL_law_654 : decode cL_law 654 = .ok (.aload_n 2, 1) := by decide +kernel
theorem dL_law_655 : decode cL_law 655 = .ok (.aload_n 0, 1) := by decide +kernel
theorem dL_law_656 : decode cL_law 656 = .ok (.iload 5, 2) := by decide +kernel
theorem dL_law_658 : decode cL_law 658 = .ok (.iconst 1, 1) := by decide +kernel
theorem dL_law_659 : decode cL_law 659 = .ok (.iadd, 1) := by decide +kernel
theorem dL_law_660 : decode cL_law 660 = .ok (.iaload, 1) := by decide +kernel
theorem dL_law_661 : decode cL_law 661 = .ok (.invokevirtual 188, 3) := by decide +kernel
theorem dL_law_664 : decode cL_law 664 = .ok (.istore 7, 2) := by decide +kernel
theorem dL_law_666 : decode cL_law 666 = .ok (.aload_n 2, 1) := by decide +kernel
theorem dL_law_667 : decode cL_law 667 = .ok (.invokevirtual 166, 3) := by decide +kernel
theorem dL_law_670 : decode cL_law 670 = .ok (.iload 6, 2) := by decide +kernel
theorem dL_law_672 : decode cL_law 672 = .ok (.if_icmp .eq 5, 3) := by decide +kernel
theorem dL_law_675 : decode cL_law 675 = .ok (.iconst 0, 1) := by decide +kernel
theorem dL_law_676 : decode cL_law 676 = .ok (.ireturn, 1) := by decide +kernel
theorem dL_law_677 : decode cL_law 677 = .ok (.iload 6, 2) := by decide +kernel
theorem dL_law_679 : decode cL_law 679 = .ok (.ifCond .ne 15, 3) := by decide +kernel
theorem dL_law_682 : decode cL_law 682 = .ok (.aload_n 3, 1) := by decide +kernel
theorem dL_law_683 : decode cL_law 683 = .ok (.iconst 0, 1) := by decide +kernel
theorem dL_law_684 : decode cL_law 684 = .ok (.laload, 1) := by decide +kernel
theorem dL_law_685 : decode cL_law 685 = .ok (.iload 7, 2) := by decide +kernel
theorem dL_law_687 : decode cL_law 687 = .ok (.i2l, 1) := by decide +kernel
theorem dL_law_688 : decode cL_law 688 = .ok (.lcmp, 1) := by decide +kernel
theorem dL_law_689 : decode cL_law 689 = .ok (.ifCond .eq 5, 3) := by decide +kernel
theorem dL_law_692 : decode cL_law 692 = .ok (.iconst 0, 1) := by decide +kernel
theorem dL_law_693 : decode cL_law 693 = .ok (.ireturn, 1) := by decide +kernel
theorem dL_law_694 : decode cL_law 694 = .ok (.goto 2256, 3) := by decide +kernel
theorem dL_law_697 : decode cL_law 697 = .ok (.aload_n 1, 1) := by decide +kernel
theorem dL_law_698 : decode cL_law 698 = .ok (.aload_n 0, 1) := by decide +kernel
theorem dL_law_699 : decode cL_law 699 = .ok (.iload 5, 2) := by decide +kernel
theorem dL_law_701 : decode cL_law 701 = .ok (.iconst 1, 1) := by decide +kernel
theorem dL_law_702 : decode cL_law 702 = .ok (.iadd, 1) := by decide +kernel
theorem dL_law_703 : decode cL_law 703 = .ok (.iaload, 1) := by decide +kernel
theorem dL_law_704 : decode cL_law 704 = .ok (.aload_n 3, 1) := by decide +kernel
theorem dL_law_705 : decode cL_law 705 = .ok (.invokestatic 189, 3) := by decide +kernel
theorem dL_law_708 : decode cL_law 708 = .ok (.istore 6, 2) := by decide +kernel
theorem dL_law_710 : decode cL_law 710 = .ok (.aload_n 2, 1) := by decide +kernel
theorem dL_law_711 : decode cL_law 711 = .ok (.aload_n 0, 1) := by decide +kernel
theorem dL_law_712 : decode cL_law 712 = .ok (.iload 5, 2) := by decide +kernel
theorem dL_law_714 : decode cL_law 714 = .ok (.iconst 1, 1) := by decide +kernel
theorem dL_law_715 : decode cL_law 715 = .ok (.iadd, 1) := by decide +kernel
theorem dL_law_716 : decode cL_law 716 = .ok (.iaload, 1) := by decide +kernel
theorem dL_law_717 : decode cL_law 717 = .ok (.invokevirtual 191, 3) := by decide +kernel
theorem dL_law_720 : decode cL_law 720 = .ok (.istore 7, 2) := by decide +kernel
theorem dL_law_722 : decode cL_law 722 = .ok (.aload_n 2, 1) := by decide +kernel
theorem dL_law_723 : decode cL_law 723 = .ok (.invokevirtual 166, 3) := by decide +kernel
theorem dL_law_726 : decode cL_law 726 = .ok (.iload 6, 2) := by decide +kernel
theorem dL_law_728 : decode cL_law 728 = .ok (.if_icmp .eq 5, 3) := by decide +kernel
theorem dL_law_731 : decode cL_law 731 = .ok (.iconst 0, 1) := by decide +kernel
theorem dL_law_732 : decode cL_law 732 = .ok (.ireturn, 1) := by decide +kernel
theorem dL_law_733 : decode cL_law 733 = .ok (.iload 6, 2) := by decide +kernel
theorem dL_law_735 : decode cL_law 735 = .ok (.ifCond .ne 15, 3) := by decide +kernel
theorem dL_law_738 : decode cL_law 738 = .ok (.aload_n 3, 1) := by decide +kernel
theorem dL_law_739 : decode cL_law 739 = .ok (.iconst 0, 1) := by decide +kernel
theorem dL_law_740 : decode cL_law 740 = .ok (.laload, 1) := by decide +kernel
theorem dL_law_741 : decode cL_law 741 = .ok (.iload 7, 2) := by decide +kernel
theorem dL_law_743 : decode cL_law 743 = .ok (.i2l, 1) := by decide +kernel
theorem dL_law_744 : decode cL_law 744 = .ok (.lcmp, 1) := by decide +kernel
theorem dL_law_745 : decode cL_law 745 = .ok (.ifCond .eq 5, 3) := by decide +kernel
theorem dL_law_748 : decode cL_law 748 = .ok (.iconst 0, 1) := by decide +kernel
theorem dL_law_749 : decode cL_law 749 = .ok (.ireturn, 1) := by decide +kernel
theorem dL_law_750 : decode cL_law 750 = .ok (.goto 2200, 3) := by decide +kernel
theorem dL_law_753 : decode cL_law 753 = .ok (.aload_n 1, 1) := by decide +kernel
theorem dL_law_754 : decode cL_law 754 = .ok (.aload_n 0, 1) := by decide +kernel
theorem dL_law_755 : decode cL_law 755 = .ok (.iload 5, 2) := by decide +kernel
theorem dL_law_757 : decode cL_law 757 = .ok (.iconst 1, 1) := by decide +kernel
theorem dL_law_758 : decode cL_law 758 = .ok (.iadd, 1) := by decide +kernel
theorem dL_law_759 : decode cL_law 759 = .ok (.iaload, 1) := by decide +kernel
theorem dL_law_760 : decode cL_law 760 = .ok (.aload_n 3, 1) := by decide +kernel
theorem dL_law_761 : decode cL_law 761 = .ok (.invokestatic 192, 3) := by decide +kernel
theorem dL_law_764 : decode cL_law 764 = .ok (.istore 6, 2) := by decide +kernel
theorem dL_law_766 : decode cL_law 766 = .ok (.aload_n 2, 1) := by decide +kernel
theorem dL_law_767 : decode cL_law 767 = .ok (.aload_n 0, 1) := by decide +kernel
theorem dL_law_768 : decode cL_law 768 = .ok (.iload 5, 2) := by decide +kernel
theorem dL_law_770 : decode cL_law 770 = .ok (.iconst 1, 1) := by decide +kernel
theorem dL_law_771 : decode cL_law 771 = .ok (.iadd, 1) := by decide +kernel
theorem dL_law_772 : decode cL_law 772 = .ok (.iaload, 1) := by decide +kernel
theorem dL_law_773 : decode cL_law 773 = .ok (.invokevirtual 194, 3) := by decide +kernel
theorem dL_law_776 : decode cL_law 776 = .ok (.istore 7, 2) := by decide +kernel
theorem dL_law_778 : decode cL_law 778 = .ok (.aload_n 2, 1) := by decide +kernel
theorem dL_law_779 : decode cL_law 779 = .ok (.invokevirtual 166, 3) := by decide +kernel
theorem dL_law_782 : decode cL_law 782 = .ok (.iload 6, 2) := by decide +kernel
theorem dL_law_784 : decode cL_law 784 = .ok (.if_icmp .eq 5, 3) := by decide +kernel
theorem dL_law_787 : decode cL_law 787 = .ok (.iconst 0, 1) := by decide +kernel
theorem dL_law_788 : decode cL_law 788 = .ok (.ireturn, 1) := by decide +kernel
theorem dL_law_789 : decode cL_law 789 = .ok (.iload 6, 2) := by decide +kernel
theorem dL_law_791 : decode cL_law 791 = .ok (.ifCond .ne 22, 3) := by decide +kernel
theorem dL_law_794 : decode cL_law 794 = .ok (.aload_n 3, 1) := by decide +kernel
theorem dL_law_795 : decode cL_law 795 = .ok (.iconst 0, 1) := by decide +kernel
theorem dL_law_796 : decode cL_law 796 = .ok (.laload, 1) := by decide +kernel
theorem dL_law_797 : decode cL_law 797 = .ok (.iload 7, 2) := by decide +kernel
theorem dL_law_799 : decode cL_law 799 = .ok (.ifCond .eq 7, 3) := by decide +kernel
theorem dL_law_802 : decode cL_law 802 = .ok (.lconst 1, 1) := by decide +kernel
theorem dL_law_803 : decode cL_law 803 = .ok (.goto 4, 3) := by decide +kernel
theorem dL_law_806 : decode cL_law 806 = .ok (.lconst 0, 1) := by decide +kernel
theorem dL_law_807 : decode cL_law 807 = .ok (.lcmp, 1) := by decide +kernel
theorem dL_law_808 : decode cL_law 808 = .ok (.ifCond .eq 5, 3) := by decide +kernel
theorem dL_law_811 : decode cL_law 811 = .ok (.iconst 0, 1) := by decide +kernel
theorem dL_law_812 : decode cL_law 812 = .ok (.ireturn, 1) := by decide +kernel
theorem dL_law_813 : decode cL_law 813 = .ok (.goto 2137, 3) := by decide +kernel
theorem dL_law_816 : decode cL_law 816 = .ok (.aload_n 1, 1) := by decide +kernel
theorem dL_law_817 : decode cL_law 817 = .ok (.aload_n 0, 1) := by decide +kernel
theorem dL_law_818 : decode cL_law 818 = .ok (.iload 5, 2) := by decide +kernel
theorem dL_law_820 : decode cL_law 820 = .ok (.iconst 1, 1) := by decide +kernel
theorem dL_law_821 : decode cL_law 821 = .ok (.iadd, 1) := by decide +kernel
theorem dL_law_822 : decode cL_law 822 = .ok (.iaload, 1) := by decide +kernel
theorem dL_law_823 : decode cL_law 823 = .ok (.aload_n 3, 1) := by decide +kernel
theorem dL_law_824 : decode cL_law 824 = .ok (.invokestatic 195, 3) := by decide +kernel
theorem dL_law_827 : decode cL_law 827 = .ok (.istore 6, 2) := by decide +kernel
theorem dL_law_829 : decode cL_law 829 = .ok (.aload_n 2, 1) := by decide +kernel
theorem dL_law_830 : decode cL_law 830 = .ok (.aload_n 0, 1) := by decide +kernel
theorem dL_law_831 : decode cL_law 831 = .ok (.iload 5, 2) := by decide +kernel
theorem dL_law_833 : decode cL_law 833 = .ok (.iconst 1, 1) := by decide +kernel
theorem dL_law_834 : decode cL_law 834 = .ok (.iadd, 1) := by decide +kernel
theorem dL_law_835 : decode cL_law 835 = .ok (.iaload, 1) := by decide +kernel
theorem dL_law_836 : decode cL_law 836 = .ok (.invokevirtual 197, 3) := by decide +kernel
theorem dL_law_839 : decode cL_law 839 = .ok (.istore 7, 2) := by decide +kernel
theorem dL_law_841 : decode cL_law 841 = .ok (.aload_n 2, 1) := by decide +kernel
theorem dL_law_842 : decode cL_law 842 = .ok (.invokevirtual 166, 3) := by decide +kernel
theorem dL_law_845 : decode cL_law 845 = .ok (.iload 6, 2) := by decide +kernel
theorem dL_law_847 : decode cL_law 847 = .ok (.if_icmp .eq 5, 3) := by decide +kernel
theorem dL_law_850 : decode cL_law 850 = .ok (.iconst 0, 1) := by decide +kernel
theorem dL_law_851 : decode cL_law 851 = .ok (.ireturn, 1) := by decide +kernel
theorem dL_law_852 : decode cL_law 852 = .ok (.iload 6, 2) := by decide +kernel
theorem dL_law_854 : decode cL_law 854 = .ok (.ifCond .ne 22, 3) := by decide +kernel
theorem dL_law_857 : decode cL_law 857 = .ok (.aload_n 3, 1) := by decide +kernel
theorem dL_law_858 : decode cL_law 858 = .ok (.iconst 0, 1) := by decide +kernel
theorem dL_law_859 : decode cL_law 859 = .ok (.laload, 1) := by decide +kernel
theorem dL_law_860 : decode cL_law 860 = .ok (.iload 7, 2) := by decide +kernel
theorem dL_law_862 : decode cL_law 862 = .ok (.ifCond .eq 7, 3) := by decide +kernel
theorem dL_law_865 : decode cL_law 865 = .ok (.lconst 1, 1) := by decide +kernel
theorem dL_law_866 : decode cL_law 866 = .ok (.goto 4, 3) := by decide +kernel
theorem dL_law_869 : decode cL_law 869 = .ok (.lconst 0, 1) := by decide +kernel
theorem dL_law_870 : decode cL_law 870 = .ok (.lcmp, 1) := by decide +kernel
theorem dL_law_871 : decode cL_law 871 = .ok (.ifCond .eq 5, 3) := by decide +kernel
theorem dL_law_874 : decode cL_law 874 = .ok (.iconst 0, 1) := by decide +kernel
theorem dL_law_875 : decode cL_law 875 = .ok (.ireturn, 1) := by decide +kernel
theorem dL_law_876 : decode cL_law 876 = .ok (.goto 2074, 3) := by decide +kernel
theorem dL_law_879 : decode cL_law 879 = .ok (.aload_n 1, 1) := by decide +kernel
theorem dL_law_880 : decode cL_law 880 = .ok (.aload_n 0, 1) := by decide +kernel
theorem dL_law_881 : decode cL_law 881 = .ok (.iload 5, 2) := by decide +kernel
theorem dL_law_883 : decode cL_law 883 = .ok (.iconst 1, 1) := by decide +kernel
theorem dL_law_884 : decode cL_law 884 = .ok (.iadd, 1) := by decide +kernel
theorem dL_law_885 : decode cL_law 885 = .ok (.iaload, 1) := by decide +kernel
theorem dL_law_886 : decode cL_law 886 = .ok (.aload_n 3, 1) := by decide +kernel
theorem dL_law_887 : decode cL_law 887 = .ok (.invokestatic 198, 3) := by decide +kernel
theorem dL_law_890 : decode cL_law 890 = .ok (.istore 6, 2) := by decide +kernel
theorem dL_law_892 : decode cL_law 892 = .ok (.aload_n 2, 1) := by decide +kernel
theorem dL_law_893 : decode cL_law 893 = .ok (.aload_n 0, 1) := by decide +kernel
theorem dL_law_894 : decode cL_law 894 = .ok (.iload 5, 2) := by decide +kernel
theorem dL_law_896 : decode cL_law 896 = .ok (.iconst 1, 1) := by decide +kernel
theorem dL_law_897 : decode cL_law 897 = .ok (.iadd, 1) := by decide +kernel
theorem dL_law_898 : decode cL_law 898 = .ok (.iaload, 1) := by decide +kernel
theorem dL_law_899 : decode cL_law 899 = .ok (.invokevirtual 200, 3) := by decide +kernel
theorem dL_law_902 : decode cL_law 902 = .ok (.istore 7, 2) := by decide +kernel
theorem dL_law_904 : decode cL_law 904 = .ok (.aload_n 2, 1) := by decide +kernel
theorem dL_law_905 : decode cL_law 905 = .ok (.invokevirtual 166, 3) := by decide +kernel
theorem dL_law_908 : decode cL_law 908 = .ok (.iload 6, 2) := by decide +kernel
theorem dL_law_910 : decode cL_law 910 = .ok (.if_icmp .eq 5, 3) := by decide +kernel
theorem dL_law_913 : decode cL_law 913 = .ok (.iconst 0, 1) := by decide +kernel
theorem dL_law_914 : decode cL_law 914 = .ok (.ireturn, 1) := by decide +kernel
theorem dL_law_915 : decode cL_law 915 = .ok (.iload 6, 2) := by decide +kernel
theorem dL_law_917 : decode cL_law 917 = .ok (.ifCond .ne 22, 3) := by decide +kernel
theorem dL_law_920 : decode cL_law 920 = .ok (.aload_n 3, 1) := by decide +kernel
theorem dL_law_921 : decode cL_law 921 = .ok (.iconst 0, 1) := by decide +kernel
theorem dL_law_922 : decode cL_law 922 = .ok (.laload, 1) := by decide +kernel
theorem dL_law_923 : decode cL_law 923 = .ok (.iload 7, 2) := by decide +kernel
theorem dL_law_925 : decode cL_law 925 = .ok (.ifCond .eq 7, 3) := by decide +kernel
theorem dL_law_928 : decode cL_law 928 = .ok (.lconst 1, 1) := by decide +kernel
theorem dL_law_929 : decode cL_law 929 = .ok (.goto 4, 3) := by decide +kernel
theorem dL_law_932 : decode cL_law 932 = .ok (.lconst 0, 1) := by decide +kernel
theorem dL_law_933 : decode cL_law 933 = .ok (.lcmp, 1) := by decide +kernel
theorem dL_law_934 : decode cL_law 934 = .ok (.ifCond .eq 5, 3) := by decide +kernel
theorem dL_law_937 : decode cL_law 937 = .ok (.iconst 0, 1) := by decide +kernel
theorem dL_law_938 : decode cL_law 938 = .ok (.ireturn, 1) := by decide +kernel
theorem dL_law_939 : decode cL_law 939 = .ok (.goto 2011, 3) := by decide +kernel
theorem dL_law_942 : decode cL_law 942 = .ok (.aload_n 1, 1) := by decide +kernel
theorem dL_law_943 : decode cL_law 943 = .ok (.aload_n 0, 1) := by decide +kernel
theorem dL_law_944 : decode cL_law 944 = .ok (.iload 5, 2) := by decide +kernel
theorem dL_law_946 : decode cL_law 946 = .ok (.iconst 1, 1) := by decide +kernel
theorem dL_law_947 : decode cL_law 947 = .ok (.iadd, 1) := by decide +kernel
theorem dL_law_948 : decode cL_law 948 = .ok (.iaload, 1) := by decide +kernel
theorem dL_law_949 : decode cL_law 949 = .ok (.aload_n 3, 1) := by decide +kernel
theorem dL_law_950 : decode cL_law 950 = .ok (.invokestatic 201, 3) := by decide +kernel
theorem dL_law_953 : decode cL_law 953 = .ok (.istore 6, 2) := by decide +kernel
theorem dL_law_955 : decode cL_law 955 = .ok (.aload_n 2, 1) := by decide +kernel
theorem dL_law_956 : decode cL_law 956 = .ok (.aload_n 0, 1) := by decide +kernel
theorem dL_law_957 : decode cL_law 957 = .ok (.iload 5, 2) := by decide +kernel
theorem dL_law_959 : decode cL_law 959 = .ok (.iconst 1, 1) := by decide +kernel
theorem dL_law_960 : decode cL_law 960 = .ok (.iadd, 1) := by decide +kernel
theorem dL_law_961 : decode cL_law 961 = .ok (.iaload, 1) := by decide +kernel
theorem dL_law_962 : decode cL_law 962 = .ok (.invokevirtual 203, 3) := by decide +kernel
theorem dL_law_965 : decode cL_law 965 = .ok (.istore 7, 2) := by decide +kernel
theorem dL_law_967 : decode cL_law 967 = .ok (.aload_n 2, 1) := by decide +kernel
theorem dL_law_968 : decode cL_law 968 = .ok (.invokevirtual 166, 3) := by decide +kernel
theorem dL_law_971 : decode cL_law 971 = .ok (.iload 6, 2) := by decide +kernel
theorem dL_law_973 : decode cL_law 973 = .ok (.if_icmp .eq 5, 3) := by decide +kernel
theorem dL_law_976 : decode cL_law 976 = .ok (.iconst 0, 1) := by decide +kernel
theorem dL_law_977 : decode cL_law 977 = .ok (.ireturn, 1) := by decide +kernel
theorem dL_law_978 : decode cL_law 978 = .ok (.iload 6, 2) := by decide +kernel
theorem dL_law_980 : decode cL_law 980 = .ok (.ifCond .ne 15, 3) := by decide +kernel
theorem dL_law_983 : decode cL_law 983 = .ok (.aload_n 3, 1) := by decide +kernel
theorem dL_law_984 : decode cL_law 984 = .ok (.iconst 0, 1) := by decide +kernel
theorem dL_law_985 : decode cL_law 985 = .ok (.laload, 1) := by decide +kernel
theorem dL_law_986 : decode cL_law 986 = .ok (.iload 7, 2) := by decide +kernel
theorem dL_law_988 : decode cL_law 988 = .ok (.i2l, 1) := by decide +kernel
theorem dL_law_989 : decode cL_law 989 = .ok (.lcmp, 1) := by decide +kernel
theorem dL_law_990 : decode cL_law 990 = .ok (.ifCond .eq 5, 3) := by decide +kernel
theorem dL_law_993 : decode cL_law 993 = .ok (.iconst 0, 1) := by decide +kernel
theorem dL_law_994 : decode cL_law 994 = .ok (.ireturn, 1) := by decide +kernel
theorem dL_law_995 : decode cL_law 995 = .ok (.goto 1955, 3) := by decide +kernel
theorem dL_law_998 : decode cL_law 998 = .ok (.aload_n 1, 1) := by decide +kernel
theorem dL_law_999 : decode cL_law 999 = .ok (.aload_n 0, 1) := by decide +kernel
theorem dL_law_1000 : decode cL_law 1000 = .ok (.iload 5, 2) := by decide +kernel
theorem dL_law_1002 : decode cL_law 1002 = .ok (.iconst 1, 1) := by decide +kernel
theorem dL_law_1003 : decode cL_law 1003 = .ok (.iadd, 1) := by decide +kernel
theorem dL_law_1004 : decode cL_law 1004 = .ok (.iaload, 1) := by decide +kernel
theorem dL_law_1005 : decode cL_law 1005 = .ok (.aload_n 3, 1) := by decide +kernel
theorem dL_law_1006 : decode cL_law 1006 = .ok (.invokestatic 204, 3) := by decide +kernel
theorem dL_law_1009 : decode cL_law 1009 = .ok (.istore 6, 2) := by decide +kernel
theorem dL_law_1011 : decode cL_law 1011 = .ok (.aload_n 2, 1) := by decide +kernel
theorem dL_law_1012 : decode cL_law 1012 = .ok (.aload_n 0, 1) := by decide +kernel
theorem dL_law_1013 : decode cL_law 1013 = .ok (.iload 5, 2) := by decide +kernel
theorem dL_law_1015 : decode cL_law 1015 = .ok (.iconst 1, 1) := by decide +kernel
theorem dL_law_1016 : decode cL_law 1016 = .ok (.iadd, 1) := by decide +kernel
theorem dL_law_1017 : decode cL_law 1017 = .ok (.iaload, 1) := by decide +kernel
theorem dL_law_1018 : decode cL_law 1018 = .ok (.invokevirtual 206, 3) := by decide +kernel
theorem dL_law_1021 : decode cL_law 1021 = .ok (.istore 7, 2) := by decide +kernel
theorem dL_law_1023 : decode cL_law 1023 = .ok (.aload_n 2, 1) := by decide +kernel
theorem dL_law_1024 : decode cL_law 1024 = .ok (.invokevirtual 166, 3) := by decide +kernel
theorem dL_law_1027 : decode cL_law 1027 = .ok (.iload 6, 2) := by decide +kernel
theorem dL_law_1029 : decode cL_law 1029 = .ok (.if_icmp .eq 5, 3) := by decide +kernel
theorem dL_law_1032 : decode cL_law 1032 = .ok (.iconst 0, 1) := by decide +kernel
theorem dL_law_1033 : decode cL_law 1033 = .ok (.ireturn, 1) := by decide +kernel
theorem dL_law_1034 : decode cL_law 1034 = .ok (.iload 6, 2) := by decide +kernel
theorem dL_law_1036 : decode cL_law 1036 = .ok (.ifCond .ne 15, 3) := by decide +kernel
theorem dL_law_1039 : decode cL_law 1039 = .ok (.aload_n 3, 1) := by decide +kernel
theorem dL_law_1040 : decode cL_law 1040 = .ok (.iconst 0, 1) := by decide +kernel
theorem dL_law_1041 : decode cL_law 1041 = .ok (.laload, 1) := by decide +kernel
theorem dL_law_1042 : decode cL_law 1042 = .ok (.iload 7, 2) := by decide +kernel
theorem dL_law_1044 : decode cL_law 1044 = .ok (.i2l, 1) := by decide +kernel
theorem dL_law_1045 : decode cL_law 1045 = .ok (.lcmp, 1) := by decide +kernel
theorem dL_law_1046 : decode cL_law 1046 = .ok (.ifCond .eq 5, 3) := by decide +kernel
theorem dL_law_1049 : decode cL_law 1049 = .ok (.iconst 0, 1) := by decide +kernel
theorem dL_law_1050 : decode cL_law 1050 = .ok (.ireturn, 1) := by decide +kernel
theorem dL_law_1051 : decode cL_law 1051 = .ok (.goto 1899, 3) := by decide +kernel
theorem dL_law_1054 : decode cL_law 1054 = .ok (.aload_n 1, 1) := by decide +kernel
theorem dL_law_1055 : decode cL_law 1055 = .ok (.aload_n 0, 1) := by decide +kernel
theorem dL_law_1056 : decode cL_law 1056 = .ok (.iload 5, 2) := by decide +kernel
theorem dL_law_1058 : decode cL_law 1058 = .ok (.iconst 1, 1) := by decide +kernel
theorem dL_law_1059 : decode cL_law 1059 = .ok (.iadd, 1) := by decide +kernel
theorem dL_law_1060 : decode cL_law 1060 = .ok (.iaload, 1) := by decide +kernel
theorem dL_law_1061 : decode cL_law 1061 = .ok (.aload_n 3, 1) := by decide +kernel
theorem dL_law_1062 : decode cL_law 1062 = .ok (.invokestatic 207, 3) := by decide +kernel
theorem dL_law_1065 : decode cL_law 1065 = .ok (.istore 6, 2) := by decide +kernel
theorem dL_law_1067 : decode cL_law 1067 = .ok (.aload_n 2, 1) := by decide +kernel
theorem dL_law_1068 : decode cL_law 1068 = .ok (.aload_n 0, 1) := by decide +kernel
theorem dL_law_1069 : decode cL_law 1069 = .ok (.iload 5, 2) := by decide +kernel
theorem dL_law_1071 : decode cL_law 1071 = .ok (.iconst 1, 1) := by decide +kernel
theorem dL_law_1072 : decode cL_law 1072 = .ok (.iadd, 1) := by decide +kernel
theorem dL_law_1073 : decode cL_law 1073 = .ok (.iaload, 1) := by decide +kernel
theorem dL_law_1074 : decode cL_law 1074 = .ok (.invokevirtual 209, 3) := by decide +kernel
theorem dL_law_1077 : decode cL_law 1077 = .ok (.istore 7, 2) := by decide +kernel
theorem dL_law_1079 : decode cL_law 1079 = .ok (.aload_n 2, 1) := by decide +kernel
theorem dL_law_1080 : decode cL_law 1080 = .ok (.invokevirtual 166, 3) := by decide +kernel
theorem dL_law_1083 : decode cL_law 1083 = .ok (.iload 6, 2) := by decide +kernel
theorem dL_law_1085 : decode cL_law 1085 = .ok (.if_icmp .eq 5, 3) := by decide +kernel
theorem dL_law_1088 : decode cL_law 1088 = .ok (.iconst 0, 1) := by decide +kernel
theorem dL_law_1089 : decode cL_law 1089 = .ok (.ireturn, 1) := by decide +kernel
theorem dL_law_1090 : decode cL_law 1090 = .ok (.iload 6, 2) := by decide +kernel
theorem dL_law_1092 : decode cL_law 1092 = .ok (.ifCond .ne 22, 3) := by decide +kernel
theorem dL_law_1095 : decode cL_law 1095 = .ok (.aload_n 3, 1) := by decide +kernel
theorem dL_law_1096 : decode cL_law 1096 = .ok (.iconst 0, 1) := by decide +kernel
theorem dL_law_1097 : decode cL_law 1097 = .ok (.laload, 1) := by decide +kernel
theorem dL_law_1098 : decode cL_law 1098 = .ok (.iload 7, 2) := by decide +kernel
theorem dL_law_1100 : decode cL_law 1100 = .ok (.ifCond .eq 7, 3) := by decide +kernel
theorem dL_law_1103 : decode cL_law 1103 = .ok (.lconst 1, 1) := by decide +kernel
theorem dL_law_1104 : decode cL_law 1104 = .ok (.goto 4, 3) := by decide +kernel
theorem dL_law_1107 : decode cL_law 1107 = .ok (.lconst 0, 1) := by decide +kernel
theorem dL_law_1108 : decode cL_law 1108 = .ok (.lcmp, 1) := by decide +kernel
theorem dL_law_1109 : decode cL_law 1109 = .ok (.ifCond .eq 5, 3) := by decide +kernel
theorem dL_law_1112 : decode cL_law 1112 = .ok (.iconst 0, 1) := by decide +kernel
theorem dL_law_1113 : decode cL_law 1113 = .ok (.ireturn, 1) := by decide +kernel
theorem dL_law_1114 : decode cL_law 1114 = .ok (.goto 1836, 3) := by decide +kernel
theorem dL_law_1117 : decode cL_law 1117 = .ok (.aload_n 1, 1) := by decide +kernel
theorem dL_law_1118 : decode cL_law 1118 = .ok (.aload_n 0, 1) := by decide +kernel
theorem dL_law_1119 : decode cL_law 1119 = .ok (.iload 5, 2) := by decide +kernel
theorem dL_law_1121 : decode cL_law 1121 = .ok (.iconst 1, 1) := by decide +kernel
theorem dL_law_1122 : decode cL_law 1122 = .ok (.iadd, 1) := by decide +kernel
theorem dL_law_1123 : decode cL_law 1123 = .ok (.iaload, 1) := by decide +kernel
theorem dL_law_1124 : decode cL_law 1124 = .ok (.aload_n 3, 1) := by decide +kernel
theorem dL_law_1125 : decode cL_law 1125 = .ok (.invokestatic 210, 3) := by decide +kernel
theorem dL_law_1128 : decode cL_law 1128 = .ok (.istore 6, 2) := by decide +kernel
theorem dL_law_1130 : decode cL_law 1130 = .ok (.aload_n 2, 1) := by decide +kernel
theorem dL_law_1131 : decode cL_law 1131 = .ok (.aload_n 0, 1) := by decide +kernel
theorem dL_law_1132 : decode cL_law 1132 = .ok (.iload 5, 2) := by decide +kernel
theorem dL_law_1134 : decode cL_law 1134 = .ok (.iconst 1, 1) := by decide +kernel
theorem dL_law_1135 : decode cL_law 1135 = .ok (.iadd, 1) := by decide +kernel
theorem dL_law_1136 : decode cL_law 1136 = .ok (.iaload, 1) := by decide +kernel
theorem dL_law_1137 : decode cL_law 1137 = .ok (.invokevirtual 212, 3) := by decide +kernel
theorem dL_law_1140 : decode cL_law 1140 = .ok (.istore 7, 2) := by decide +kernel
theorem dL_law_1142 : decode cL_law 1142 = .ok (.aload_n 2, 1) := by decide +kernel
theorem dL_law_1143 : decode cL_law 1143 = .ok (.invokevirtual 166, 3) := by decide +kernel
theorem dL_law_1146 : decode cL_law 1146 = .ok (.iload 6, 2) := by decide +kernel
theorem dL_law_1148 : decode cL_law 1148 = .ok (.if_icmp .eq 5, 3) := by decide +kernel
theorem dL_law_1151 : decode cL_law 1151 = .ok (.iconst 0, 1) := by decide +kernel
theorem dL_law_1152 : decode cL_law 1152 = .ok (.ireturn, 1) := by decide +kernel
theorem dL_law_1153 : decode cL_law 1153 = .ok (.iload 6, 2) := by decide +kernel
theorem dL_law_1155 : decode cL_law 1155 = .ok (.ifCond .ne 22, 3) := by decide +kernel
theorem dL_law_1158 : decode cL_law 1158 = .ok (.aload_n 3, 1) := by decide +kernel
theorem dL_law_1159 : decode cL_law 1159 = .ok (.iconst 0, 1) := by decide +kernel
theorem dL_law_1160 : decode cL_law 1160 = .ok (.laload, 1) := by decide +kernel
theorem dL_law_1161 : decode cL_law 1161 = .ok (.iload 7, 2) := by decide +kernel
theorem dL_law_1163 : decode cL_law 1163 = .ok (.ifCond .eq 7, 3) := by decide +kernel
theorem dL_law_1166 : decode cL_law 1166 = .ok (.lconst 1, 1) := by decide +kernel
theorem dL_law_1167 : decode cL_law 1167 = .ok (.goto 4, 3) := by decide +kernel
theorem dL_law_1170 : decode cL_law 1170 = .ok (.lconst 0, 1) := by decide +kernel
theorem dL_law_1171 : decode cL_law 1171 = .ok (.lcmp, 1) := by decide +kernel
theorem dL_law_1172 : decode cL_law 1172 = .ok (.ifCond .eq 5, 3) := by decide +kernel
theorem dL_law_1175 : decode cL_law 1175 = .ok (.iconst 0, 1) := by decide +kernel
theorem dL_law_1176 : decode cL_law 1176 = .ok (.ireturn, 1) := by decide +kernel
theorem dL_law_1177 : decode cL_law 1177 = .ok (.goto 1773, 3) := by decide +kernel
theorem dL_law_1180 : decode cL_law 1180 = .ok (.aload_n 1, 1) := by decide +kernel
theorem dL_law_1181 : decode cL_law 1181 = .ok (.aload_n 3, 1) := by decide +kernel
theorem dL_law_1182 : decode cL_law 1182 = .ok (.invokestatic 213, 3) := by decide +kernel
theorem dL_law_1185 : decode cL_law 1185 = .ok (.istore 6, 2) := by decide +kernel
theorem dL_law_1187 : decode cL_law 1187 = .ok (.aload_n 2, 1) := by decide +kernel
theorem dL_law_1188 : decode cL_law 1188 = .ok (.invokevirtual 216, 3) := by decide +kernel
theorem dL_law_1191 : decode cL_law 1191 = .ok (.istore 7, 2) := by decide +kernel
theorem dL_law_1193 : decode cL_law 1193 = .ok (.aload_n 2, 1) := by decide +kernel
theorem dL_law_1194 : decode cL_law 1194 = .ok (.invokevirtual 166, 3) := by decide +kernel
theorem dL_law_1197 : decode cL_law 1197 = .ok (.iload 6, 2) := by decide +kernel
theorem dL_law_1199 : decode cL_law 1199 = .ok (.if_icmp .eq 5, 3) := by decide +kernel
theorem dL_law_1202 : decode cL_law 1202 = .ok (.iconst 0, 1) := by decide +kernel
theorem dL_law_1203 : decode cL_law 1203 = .ok (.ireturn, 1) := by decide +kernel
theorem dL_law_1204 : decode cL_law 1204 = .ok (.iload 6, 2) := by decide +kernel
theorem dL_law_1206 : decode cL_law 1206 = .ok (.ifCond .ne 15, 3) := by decide +kernel
theorem dL_law_1209 : decode cL_law 1209 = .ok (.aload_n 3, 1) := by decide +kernel
theorem dL_law_1210 : decode cL_law 1210 = .ok (.iconst 0, 1) := by decide +kernel
theorem dL_law_1211 : decode cL_law 1211 = .ok (.laload, 1) := by decide +kernel
theorem dL_law_1212 : decode cL_law 1212 = .ok (.iload 7, 2) := by decide +kernel
theorem dL_law_1214 : decode cL_law 1214 = .ok (.i2l, 1) := by decide +kernel
theorem dL_law_1215 : decode cL_law 1215 = .ok (.lcmp, 1) := by decide +kernel
theorem dL_law_1216 : decode cL_law 1216 = .ok (.ifCond .eq 5, 3) := by decide +kernel
theorem dL_law_1219 : decode cL_law 1219 = .ok (.iconst 0, 1) := by decide +kernel
theorem dL_law_1220 : decode cL_law 1220 = .ok (.ireturn, 1) := by decide +kernel
theorem dL_law_1221 : decode cL_law 1221 = .ok (.goto 1729, 3) := by decide +kernel
theorem dL_law_1224 : decode cL_law 1224 = .ok (.aload_n 1, 1) := by decide +kernel
theorem dL_law_1225 : decode cL_law 1225 = .ok (.aload_n 3, 1) := by decide +kernel
theorem dL_law_1226 : decode cL_law 1226 = .ok (.invokestatic 217, 3) := by decide +kernel
theorem dL_law_1229 : decode cL_law 1229 = .ok (.istore 6, 2) := by decide +kernel
theorem dL_law_1231 : decode cL_law 1231 = .ok (.aload_n 2, 1) := by decide +kernel
theorem dL_law_1232 : decode cL_law 1232 = .ok (.invokevirtual 219, 3) := by decide +kernel
theorem dL_law_1235 : decode cL_law 1235 = .ok (.istore 7, 2) := by decide +kernel
theorem dL_law_1237 : decode cL_law 1237 = .ok (.aload_n 2, 1) := by decide +kernel
theorem dL_law_1238 : decode cL_law 1238 = .ok (.invokevirtual 166, 3) := by decide +kernel
theorem dL_law_1241 : decode cL_law 1241 = .ok (.iload 6, 2) := by decide +kernel
theorem dL_law_1243 : decode cL_law 1243 = .ok (.if_icmp .eq 5, 3) := by decide +kernel
theorem dL_law_1246 : decode cL_law 1246 = .ok (.iconst 0, 1) := by decide +kernel
theorem dL_law_1247 : decode cL_law 1247 = .ok (.ireturn, 1) := by decide +kernel
theorem dL_law_1248 : decode cL_law 1248 = .ok (.iload 6, 2) := by decide +kernel
theorem dL_law_1250 : decode cL_law 1250 = .ok (.ifCond .ne 15, 3) := by decide +kernel
theorem dL_law_1253 : decode cL_law 1253 = .ok (.aload_n 3, 1) := by decide +kernel
theorem dL_law_1254 : decode cL_law 1254 = .ok (.iconst 0, 1) := by decide +kernel
theorem dL_law_1255 : decode cL_law 1255 = .ok (.laload, 1) := by decide +kernel
theorem dL_law_1256 : decode cL_law 1256 = .ok (.iload 7, 2) := by decide +kernel
theorem dL_law_1258 : decode cL_law 1258 = .ok (.i2l, 1) := by decide +kernel
theorem dL_law_1259 : decode cL_law 1259 = .ok (.lcmp, 1) := by decide +kernel
theorem dL_law_1260 : decode cL_law 1260 = .ok (.ifCond .eq 5, 3) := by decide +kernel
theorem dL_law_1263 : decode cL_law 1263 = .ok (.iconst 0, 1) := by decide +kernel
theorem dL_law_1264 : decode cL_law 1264 = .ok (.ireturn, 1) := by decide +kernel
theorem dL_law_1265 : decode cL_law 1265 = .ok (.goto 1685, 3) := by decide +kernel
theorem dL_law_1268 : decode cL_law 1268 = .ok (.aload_n 1, 1) := by decide +kernel
theorem dL_law_1269 : decode cL_law 1269 = .ok (.aload_n 0, 1) := by decide +kernel
theorem dL_law_1270 : decode cL_law 1270 = .ok (.iload 5, 2) := by decide +kernel
theorem dL_law_1272 : decode cL_law 1272 = .ok (.iconst 1, 1) := by decide +kernel
theorem dL_law_1273 : decode cL_law 1273 = .ok (.iadd, 1) := by decide +kernel
theorem dL_law_1274 : decode cL_law 1274 = .ok (.iaload, 1) := by decide +kernel
theorem dL_law_1275 : decode cL_law 1275 = .ok (.aload_n 0, 1) := by decide +kernel
theorem dL_law_1276 : decode cL_law 1276 = .ok (.iload 5, 2) := by decide +kernel
theorem dL_law_1278 : decode cL_law 1278 = .ok (.iconst 2, 1) := by decide +kernel
theorem dL_law_1279 : decode cL_law 1279 = .ok (.iadd, 1) := by decide +kernel
theorem dL_law_1280 : decode cL_law 1280 = .ok (.iaload, 1) := by decide +kernel
theorem dL_law_1281 : decode cL_law 1281 = .ok (.aload_n 3, 1) := by decide +kernel
theorem dL_law_1282 : decode cL_law 1282 = .ok (.invokestatic 220, 3) := by decide +kernel
theorem dL_law_1285 : decode cL_law 1285 = .ok (.istore 6, 2) := by decide +kernel
theorem dL_law_1287 : decode cL_law 1287 = .ok (.aload_n 2, 1) := by decide +kernel
theorem dL_law_1288 : decode cL_law 1288 = .ok (.aload_n 0, 1) := by decide +kernel
theorem dL_law_1289 : decode cL_law 1289 = .ok (.iload 5, 2) := by decide +kernel
theorem dL_law_1291 : decode cL_law 1291 = .ok (.iconst 1, 1) := by decide +kernel
theorem dL_law_1292 : decode cL_law 1292 = .ok (.iadd, 1) := by decide +kernel
theorem dL_law_1293 : decode cL_law 1293 = .ok (.iaload, 1) := by decide +kernel
theorem dL_law_1294 : decode cL_law 1294 = .ok (.aload_n 0, 1) := by decide +kernel
theorem dL_law_1295 : decode cL_law 1295 = .ok (.iload 5, 2) := by decide +kernel
theorem dL_law_1297 : decode cL_law 1297 = .ok (.iconst 2, 1) := by decide +kernel
theorem dL_law_1298 : decode cL_law 1298 = .ok (.iadd, 1) := by decide +kernel
theorem dL_law_1299 : decode cL_law 1299 = .ok (.iaload, 1) := by decide +kernel
theorem dL_law_1300 : decode cL_law 1300 = .ok (.invokevirtual 223, 3) := by decide +kernel
theorem dL_law_1303 : decode cL_law 1303 = .ok (.istore 7, 2) := by decide +kernel
theorem dL_law_1305 : decode cL_law 1305 = .ok (.aload_n 2, 1) := by decide +kernel
theorem dL_law_1306 : decode cL_law 1306 = .ok (.invokevirtual 166, 3) := by decide +kernel
theorem dL_law_1309 : decode cL_law 1309 = .ok (.iload 6, 2) := by decide +kernel
theorem dL_law_1311 : decode cL_law 1311 = .ok (.if_icmp .eq 5, 3) := by decide +kernel
theorem dL_law_1314 : decode cL_law 1314 = .ok (.iconst 0, 1) := by decide +kernel
theorem dL_law_1315 : decode cL_law 1315 = .ok (.ireturn, 1) := by decide +kernel
theorem dL_law_1316 : decode cL_law 1316 = .ok (.iload 6, 2) := by decide +kernel
theorem dL_law_1318 : decode cL_law 1318 = .ok (.ifCond .ne 15, 3) := by decide +kernel
theorem dL_law_1321 : decode cL_law 1321 = .ok (.aload_n 3, 1) := by decide +kernel
theorem dL_law_1322 : decode cL_law 1322 = .ok (.iconst 0, 1) := by decide +kernel
theorem dL_law_1323 : decode cL_law 1323 = .ok (.laload, 1) := by decide +kernel
theorem dL_law_1324 : decode cL_law 1324 = .ok (.iload 7, 2) := by decide +kernel
theorem dL_law_1326 : decode cL_law 1326 = .ok (.i2l, 1) := by decide +kernel
theorem dL_law_1327 : decode cL_law 1327 = .ok (.lcmp, 1) := by decide +kernel
theorem dL_law_1328 : decode cL_law 1328 = .ok (.ifCond .eq 5, 3) := by decide +kernel
theorem dL_law_1331 : decode cL_law 1331 = .ok (.iconst 0, 1) := by decide +kernel
theorem dL_law_1332 : decode cL_law 1332 = .ok (.ireturn, 1) := by decide +kernel
theorem dL_law_1333 : decode cL_law 1333 = .ok (.goto 1617, 3) := by decide +kernel
theorem dL_law_1336 : decode cL_law 1336 = .ok (.aload_n 1, 1) := by decide +kernel
theorem dL_law_1337 : decode cL_law 1337 = .ok (.aload_n 0, 1) := by decide +kernel
theorem dL_law_1338 : decode cL_law 1338 = .ok (.iload 5, 2) := by decide +kernel
theorem dL_law_1340 : decode cL_law 1340 = .ok (.iconst 1, 1) := by decide +kernel
theorem dL_law_1341 : decode cL_law 1341 = .ok (.iadd, 1) := by decide +kernel
theorem dL_law_1342 : decode cL_law 1342 = .ok (.iaload, 1) := by decide +kernel
theorem dL_law_1343 : decode cL_law 1343 = .ok (.aload_n 3, 1) := by decide +kernel
theorem dL_law_1344 : decode cL_law 1344 = .ok (.invokestatic 224, 3) := by decide +kernel
theorem dL_law_1347 : decode cL_law 1347 = .ok (.istore 6, 2) := by decide +kernel
theorem dL_law_1349 : decode cL_law 1349 = .ok (.aload_n 2, 1) := by decide +kernel
theorem dL_law_1350 : decode cL_law 1350 = .ok (.aload_n 0, 1) := by decide +kernel
theorem dL_law_1351 : decode cL_law 1351 = .ok (.iload 5, 2) := by decide +kernel
theorem dL_law_1353 : decode cL_law 1353 = .ok (.iconst 1, 1) := by decide +kernel
theorem dL_law_1354 : decode cL_law 1354 = .ok (.iadd, 1) := by decide +kernel
theorem dL_law_1355 : decode cL_law 1355 = .ok (.iaload, 1) := by decide +kernel
theorem dL_law_1356 : decode cL_law 1356 = .ok (.invokevirtual 226, 3) := by decide +kernel
theorem dL_law_1359 : decode cL_law 1359 = .ok (.istore 7, 2) := by decide +kernel
theorem dL_law_1361 : decode cL_law 1361 = .ok (.aload_n 2, 1) := by decide +kernel
theorem dL_law_1362 : decode cL_law 1362 = .ok (.invokevirtual 166, 3) := by decide +kernel
theorem dL_law_1365 : decode cL_law 1365 = .ok (.iload 6, 2) := by decide +kernel
theorem dL_law_1367 : decode cL_law 1367 = .ok (.if_icmp .eq 5, 3) := by decide +kernel
theorem dL_law_1370 : decode cL_law 1370 = .ok (.iconst 0, 1) := by decide +kernel
theorem dL_law_1371 : decode cL_law 1371 = .ok (.ireturn, 1) := by decide +kernel
theorem dL_law_1372 : decode cL_law 1372 = .ok (.iload 6, 2) := by decide +kernel
theorem dL_law_1374 : decode cL_law 1374 = .ok (.ifCond .ne 15, 3) := by decide +kernel
theorem dL_law_1377 : decode cL_law 1377 = .ok (.aload_n 3, 1) := by decide +kernel
theorem dL_law_1378 : decode cL_law 1378 = .ok (.iconst 0, 1) := by decide +kernel
theorem dL_law_1379 : decode cL_law 1379 = .ok (.laload, 1) := by decide +kernel
theorem dL_law_1380 : decode cL_law 1380 = .ok (.iload 7, 2) := by decide +kernel
theorem dL_law_1382 : decode cL_law 1382 = .ok (.i2l, 1) := by decide +kernel
theorem dL_law_1383 : decode cL_law 1383 = .ok (.lcmp, 1) := by decide +kernel
theorem dL_law_1384 : decode cL_law 1384 = .ok (.ifCond .eq 5, 3) := by decide +kernel
theorem dL_law_1387 : decode cL_law 1387 = .ok (.iconst 0, 1) := by decide +kernel
theorem dL_law_1388 : decode cL_law 1388 = .ok (.ireturn, 1) := by decide +kernel
theorem dL_law_1389 : decode cL_law 1389 = .ok (.goto 1561, 3) := by decide +kernel
theorem dL_law_1392 : decode cL_law 1392 = .ok (.aload_n 1, 1) := by decide +kernel
theorem dL_law_1393 : decode cL_law 1393 = .ok (.aload_n 0, 1) := by decide +kernel
theorem dL_law_1394 : decode cL_law 1394 = .ok (.iload 5, 2) := by decide +kernel
theorem dL_law_1396 : decode cL_law 1396 = .ok (.iconst 1, 1) := by decide +kernel
theorem dL_law_1397 : decode cL_law 1397 = .ok (.iadd, 1) := by decide +kernel
theorem dL_law_1398 : decode cL_law 1398 = .ok (.iaload, 1) := by decide +kernel
theorem dL_law_1399 : decode cL_law 1399 = .ok (.aload_n 3, 1) := by decide +kernel
theorem dL_law_1400 : decode cL_law 1400 = .ok (.invokestatic 227, 3) := by decide +kernel
theorem dL_law_1403 : decode cL_law 1403 = .ok (.istore 6, 2) := by decide +kernel
theorem dL_law_1405 : decode cL_law 1405 = .ok (.aload_n 2, 1) := by decide +kernel
theorem dL_law_1406 : decode cL_law 1406 = .ok (.aload_n 0, 1) := by decide +kernel
theorem dL_law_1407 : decode cL_law 1407 = .ok (.iload 5, 2) := by decide +kernel
theorem dL_law_1409 : decode cL_law 1409 = .ok (.iconst 1, 1) := by decide +kernel
theorem dL_law_1410 : decode cL_law 1410 = .ok (.iadd, 1) := by decide +kernel
theorem dL_law_1411 : decode cL_law 1411 = .ok (.iaload, 1) := by decide +kernel
theorem dL_law_1412 : decode cL_law 1412 = .ok (.invokevirtual 229, 3) := by decide +kernel
theorem dL_law_1415 : decode cL_law 1415 = .ok (.istore 7, 2) := by decide +kernel
theorem dL_law_1417 : decode cL_law 1417 = .ok (.aload_n 2, 1) := by decide +kernel
theorem dL_law_1418 : decode cL_law 1418 = .ok (.invokevirtual 166, 3) := by decide +kernel
theorem dL_law_1421 : decode cL_law 1421 = .ok (.iload 6, 2) := by decide +kernel
theorem dL_law_1423 : decode cL_law 1423 = .ok (.if_icmp .eq 5, 3) := by decide +kernel
theorem dL_law_1426 : decode cL_law 1426 = .ok (.iconst 0, 1) := by decide +kernel
theorem dL_law_1427 : decode cL_law 1427 = .ok (.ireturn, 1) := by decide +kernel
theorem dL_law_1428 : decode cL_law 1428 = .ok (.iload 6, 2) := by decide +kernel
theorem dL_law_1430 : decode cL_law 1430 = .ok (.ifCond .ne 15, 3) := by decide +kernel
theorem dL_law_1433 : decode cL_law 1433 = .ok (.aload_n 3, 1) := by decide +kernel
theorem dL_law_1434 : decode cL_law 1434 = .ok (.iconst 0, 1) := by decide +kernel
theorem dL_law_1435 : decode cL_law 1435 = .ok (.laload, 1) := by decide +kernel
theorem dL_law_1436 : decode cL_law 1436 = .ok (.iload 7, 2) := by decide +kernel
theorem dL_law_1438 : decode cL_law 1438 = .ok (.i2l, 1) := by decide +kernel
theorem dL_law_1439 : decode cL_law 1439 = .ok (.lcmp, 1) := by decide +kernel
theorem dL_law_1440 : decode cL_law 1440 = .ok (.ifCond .eq 5, 3) := by decide +kernel
theorem dL_law_1443 : decode cL_law 1443 = .ok (.iconst 0, 1) := by decide +kernel
theorem dL_law_1444 : decode cL_law 1444 = .ok (.ireturn, 1) := by decide +kernel
theorem dL_law_1445 : decode cL_law 1445 = .ok (.goto 1505, 3) := by decide +kernel
theorem dL_law_1448 : decode cL_law 1448 = .ok (.aload_n 1, 1) := by decide +kernel
theorem dL_law_1449 : decode cL_law 1449 = .ok (.invokevirtual 230, 3) := by decide +kernel
theorem dL_law_1452 : decode cL_law 1452 = .ok (.aload_n 2, 1) := by decide +kernel
theorem dL_law_1453 : decode cL_law 1453 = .ok (.invokevirtual 233, 3) := by decide +kernel
theorem dL_law_1456 : decode cL_law 1456 = .ok (.if_icmp .eq 1494, 3) := by decide +kernel
theorem dL_law_1459 : decode cL_law 1459 = .ok (.iconst 0, 1) := by decide +kernel
theorem dL_law_1460 : decode cL_law 1460 = .ok (.ireturn, 1) := by decide +kernel
theorem dL_law_1461 : decode cL_law 1461 = .ok (.aload_n 1, 1) := by decide +kernel
theorem dL_law_1462 : decode cL_law 1462 = .ok (.aload_n 0, 1) := by decide +kernel
theorem dL_law_1463 : decode cL_law 1463 = .ok (.iload 5, 2) := by decide +kernel
theorem dL_law_1465 : decode cL_law 1465 = .ok (.iconst 1, 1) := by decide +kernel
theorem dL_law_1466 : decode cL_law 1466 = .ok (.iadd, 1) := by decide +kernel
theorem dL_law_1467 : decode cL_law 1467 = .ok (.iaload, 1) := by decide +kernel
theorem dL_law_1468 : decode cL_law 1468 = .ok (.aload_n 3, 1) := by decide +kernel
theorem dL_law_1469 : decode cL_law 1469 = .ok (.invokestatic 234, 3) := by decide +kernel
theorem dL_law_1472 : decode cL_law 1472 = .ok (.istore 6, 2) := by decide +kernel
theorem dL_law_1474 : decode cL_law 1474 = .ok (.aload_n 2, 1) := by decide +kernel
theorem dL_law_1475 : decode cL_law 1475 = .ok (.aload_n 0, 1) := by decide +kernel
theorem dL_law_1476 : decode cL_law 1476 = .ok (.iload 5, 2) := by decide +kernel
theorem dL_law_1478 : decode cL_law 1478 = .ok (.iconst 1, 1) := by decide +kernel
theorem dL_law_1479 : decode cL_law 1479 = .ok (.iadd, 1) := by decide +kernel
theorem dL_law_1480 : decode cL_law 1480 = .ok (.iaload, 1) := by decide +kernel
theorem dL_law_1481 : decode cL_law 1481 = .ok (.invokevirtual 236, 3) := by decide +kernel
theorem dL_law_1484 : decode cL_law 1484 = .ok (.istore 7, 2) := by decide +kernel
theorem dL_law_1486 : decode cL_law 1486 = .ok (.aload_n 2, 1) := by decide +kernel
theorem dL_law_1487 : decode cL_law 1487 = .ok (.invokevirtual 166, 3) := by decide +kernel
theorem dL_law_1490 : decode cL_law 1490 = .ok (.iload 6, 2) := by decide +kernel
theorem dL_law_1492 : decode cL_law 1492 = .ok (.if_icmp .eq 5, 3) := by decide +kernel
theorem dL_law_1495 : decode cL_law 1495 = .ok (.iconst 0, 1) := by decide +kernel
theorem dL_law_1496 : decode cL_law 1496 = .ok (.ireturn, 1) := by decide +kernel
theorem dL_law_1497 : decode cL_law 1497 = .ok (.iload 6, 2) := by decide +kernel
theorem dL_law_1499 : decode cL_law 1499 = .ok (.ifCond .ne 15, 3) := by decide +kernel
theorem dL_law_1502 : decode cL_law 1502 = .ok (.aload_n 3, 1) := by decide +kernel
theorem dL_law_1503 : decode cL_law 1503 = .ok (.iconst 0, 1) := by decide +kernel
theorem dL_law_1504 : decode cL_law 1504 = .ok (.laload, 1) := by decide +kernel
theorem dL_law_1505 : decode cL_law 1505 = .ok (.iload 7, 2) := by decide +kernel
theorem dL_law_1507 : decode cL_law 1507 = .ok (.i2l, 1) := by decide +kernel
theorem dL_law_1508 : decode cL_law 1508 = .ok (.lcmp, 1) := by decide +kernel
theorem dL_law_1509 : decode cL_law 1509 = .ok (.ifCond .eq 5, 3) := by decide +kernel
theorem dL_law_1512 : decode cL_law 1512 = .ok (.iconst 0, 1) := by decide +kernel
theorem dL_law_1513 : decode cL_law 1513 = .ok (.ireturn, 1) := by decide +kernel
theorem dL_law_1514 : decode cL_law 1514 = .ok (.goto 1436, 3) := by decide +kernel
theorem dL_law_1517 : decode cL_law 1517 = .ok (.aload_n 1, 1) := by decide +kernel
theorem dL_law_1518 : decode cL_law 1518 = .ok (.aload_n 0, 1) := by decide +kernel
theorem dL_law_1519 : decode cL_law 1519 = .ok (.iload 5, 2) := by decide +kernel
theorem dL_law_1521 : decode cL_law 1521 = .ok (.iconst 1, 1) := by decide +kernel
theorem dL_law_1522 : decode cL_law 1522 = .ok (.iadd, 1) := by decide +kernel
theorem dL_law_1523 : decode cL_law 1523 = .ok (.iaload, 1) := by decide +kernel
theorem dL_law_1524 : decode cL_law 1524 = .ok (.aload_n 3, 1) := by decide +kernel
theorem dL_law_1525 : decode cL_law 1525 = .ok (.invokestatic 237, 3) := by decide +kernel
theorem dL_law_1528 : decode cL_law 1528 = .ok (.istore 6, 2) := by decide +kernel
theorem dL_law_1530 : decode cL_law 1530 = .ok (.aload_n 2, 1) := by decide +kernel
theorem dL_law_1531 : decode cL_law 1531 = .ok (.aload_n 0, 1) := by decide +kernel
theorem dL_law_1532 : decode cL_law 1532 = .ok (.iload 5, 2) := by decide +kernel
theorem dL_law_1534 : decode cL_law 1534 = .ok (.iconst 1, 1) := by decide +kernel
theorem dL_law_1535 : decode cL_law 1535 = .ok (.iadd, 1) := by decide +kernel
theorem dL_law_1536 : decode cL_law 1536 = .ok (.iaload, 1) := by decide +kernel
theorem dL_law_1537 : decode cL_law 1537 = .ok (.invokevirtual 239, 3) := by decide +kernel
theorem dL_law_1540 : decode cL_law 1540 = .ok (.istore 7, 2) := by decide +kernel
theorem dL_law_1542 : decode cL_law 1542 = .ok (.aload_n 2, 1) := by decide +kernel
theorem dL_law_1543 : decode cL_law 1543 = .ok (.invokevirtual 166, 3) := by decide +kernel
theorem dL_law_1546 : decode cL_law 1546 = .ok (.iload 6, 2) := by decide +kernel
theorem dL_law_1548 : decode cL_law 1548 = .ok (.if_icmp .eq 5, 3) := by decide +kernel
theorem dL_law_1551 : decode cL_law 1551 = .ok (.iconst 0, 1) := by decide +kernel
theorem dL_law_1552 : decode cL_law 1552 = .ok (.ireturn, 1) := by decide +kernel
theorem dL_law_1553 : decode cL_law 1553 = .ok (.iload 6, 2) := by decide +kernel
theorem dL_law_1555 : decode cL_law 1555 = .ok (.ifCond .ne 15, 3) := by decide +kernel
theorem dL_law_1558 : decode cL_law 1558 = .ok (.aload_n 3, 1) := by decide +kernel
theorem dL_law_1559 : decode cL_law 1559 = .ok (.iconst 0, 1) := by decide +kernel
theorem dL_law_1560 : decode cL_law 1560 = .ok (.laload, 1) := by decide +kernel
theorem dL_law_1561 : decode cL_law 1561 = .ok (.iload 7, 2) := by decide +kernel
theorem dL_law_1563 : decode cL_law 1563 = .ok (.i2l, 1) := by decide +kernel
theorem dL_law_1564 : decode cL_law 1564 = .ok (.lcmp, 1) := by decide +kernel
theorem dL_law_1565 : decode cL_law 1565 = .ok (.ifCond .eq 5, 3) := by decide +kernel
theorem dL_law_1568 : decode cL_law 1568 = .ok (.iconst 0, 1) := by decide +kernel
theorem dL_law_1569 : decode cL_law 1569 = .ok (.ireturn, 1) := by decide +kernel
theorem dL_law_1570 : decode cL_law 1570 = .ok (.goto 1380, 3) := by decide +kernel
theorem dL_law_1573 : decode cL_law 1573 = .ok (.aload_n 1, 1) := by decide +kernel
theorem dL_law_1574 : decode cL_law 1574 = .ok (.aload_n 0, 1) := by decide +kernel
theorem dL_law_1575 : decode cL_law 1575 = .ok (.iload 5, 2) := by decide +kernel
theorem dL_law_1577 : decode cL_law 1577 = .ok (.iconst 1, 1) := by decide +kernel
theorem dL_law_1578 : decode cL_law 1578 = .ok (.iadd, 1) := by decide +kernel
theorem dL_law_1579 : decode cL_law 1579 = .ok (.iaload, 1) := by decide +kernel
theorem dL_law_1580 : decode cL_law 1580 = .ok (.aload_n 3, 1) := by decide +kernel
theorem dL_law_1581 : decode cL_law 1581 = .ok (.invokestatic 240, 3) := by decide +kernel
theorem dL_law_1584 : decode cL_law 1584 = .ok (.istore 6, 2) := by decide +kernel
theorem dL_law_1586 : decode cL_law 1586 = .ok (.aload_n 2, 1) := by decide +kernel
theorem dL_law_1587 : decode cL_law 1587 = .ok (.aload_n 0, 1) := by decide +kernel
theorem dL_law_1588 : decode cL_law 1588 = .ok (.iload 5, 2) := by decide +kernel
theorem dL_law_1590 : decode cL_law 1590 = .ok (.iconst 1, 1) := by decide +kernel
theorem dL_law_1591 : decode cL_law 1591 = .ok (.iadd, 1) := by decide +kernel
theorem dL_law_1592 : decode cL_law 1592 = .ok (.iaload, 1) := by decide +kernel
theorem dL_law_1593 : decode cL_law 1593 = .ok (.invokevirtual 242, 3) := by decide +kernel
theorem dL_law_1596 : decode cL_law 1596 = .ok (.istore 7, 2) := by decide +kernel
theorem dL_law_1598 : decode cL_law 1598 = .ok (.aload_n 2, 1) := by decide +kernel
theorem dL_law_1599 : decode cL_law 1599 = .ok (.invokevirtual 166, 3) := by decide +kernel
theorem dL_law_1602 : decode cL_law 1602 = .ok (.iload 6, 2) := by decide +kernel
theorem dL_law_1604 : decode cL_law 1604 = .ok (.if_icmp .eq 5, 3) := by decide +kernel
theorem dL_law_1607 : decode cL_law 1607 = .ok (.iconst 0, 1) := by decide +kernel
theorem dL_law_1608 : decode cL_law 1608 = .ok (.ireturn, 1) := by decide +kernel
theorem dL_law_1609 : decode cL_law 1609 = .ok (.iload 6, 2) := by decide +kernel
theorem dL_law_1611 : decode cL_law 1611 = .ok (.ifCond .ne 15, 3) := by decide +kernel
theorem dL_law_1614 : decode cL_law 1614 = .ok (.aload_n 3, 1) := by decide +kernel
theorem dL_law_1615 : decode cL_law 1615 = .ok (.iconst 0, 1) := by decide +kernel
theorem dL_law_1616 : decode cL_law 1616 = .ok (.laload, 1) := by decide +kernel
theorem dL_law_1617 : decode cL_law 1617 = .ok (.iload 7, 2) := by decide +kernel
theorem dL_law_1619 : decode cL_law 1619 = .ok (.i2l, 1) := by decide +kernel
theorem dL_law_1620 : decode cL_law 1620 = .ok (.lcmp, 1) := by decide +kernel
theorem dL_law_1621 : decode cL_law 1621 = .ok (.ifCond .eq 5, 3) := by decide +kernel
theorem dL_law_1624 : decode cL_law 1624 = .ok (.iconst 0, 1) := by decide +kernel
theorem dL_law_1625 : decode cL_law 1625 = .ok (.ireturn, 1) := by decide +kernel
theorem dL_law_1626 : decode cL_law 1626 = .ok (.goto 1324, 3) := by decide +kernel
theorem dL_law_1629 : decode cL_law 1629 = .ok (.aload_n 1, 1) := by decide +kernel
theorem dL_law_1630 : decode cL_law 1630 = .ok (.aload_n 0, 1) := by decide +kernel
theorem dL_law_1631 : decode cL_law 1631 = .ok (.iload 5, 2) := by decide +kernel
theorem dL_law_1633 : decode cL_law 1633 = .ok (.iconst 1, 1) := by decide +kernel
theorem dL_law_1634 : decode cL_law 1634 = .ok (.iadd, 1) := by decide +kernel
theorem dL_law_1635 : decode cL_law 1635 = .ok (.iaload, 1) := by decide +kernel
theorem dL_law_1636 : decode cL_law 1636 = .ok (.aload_n 3, 1) := by decide +kernel
theorem dL_law_1637 : decode cL_law 1637 = .ok (.invokestatic 243, 3) := by decide +kernel
theorem dL_law_1640 : decode cL_law 1640 = .ok (.istore 6, 2) := by decide +kernel
theorem dL_law_1642 : decode cL_law 1642 = .ok (.aload_n 2, 1) := by decide +kernel
theorem dL_law_1643 : decode cL_law 1643 = .ok (.aload_n 0, 1) := by decide +kernel
theorem dL_law_1644 : decode cL_law 1644 = .ok (.iload 5, 2) := by decide +kernel
theorem dL_law_1646 : decode cL_law 1646 = .ok (.iconst 1, 1) := by decide +kernel
theorem dL_law_1647 : decode cL_law 1647 = .ok (.iadd, 1) := by decide +kernel
theorem dL_law_1648 : decode cL_law 1648 = .ok (.iaload, 1) := by decide +kernel
theorem dL_law_1649 : decode cL_law 1649 = .ok (.invokevirtual 245, 3) := by decide +kernel
theorem dL_law_1652 : decode cL_law 1652 = .ok (.istore 7, 2) := by decide +kernel
theorem dL_law_1654 : decode cL_law 1654 = .ok (.aload_n 2, 1) := by decide +kernel
theorem dL_law_1655 : decode cL_law 1655 = .ok (.invokevirtual 166, 3) := by decide +kernel
theorem dL_law_1658 : decode cL_law 1658 = .ok (.iload 6, 2) := by decide +kernel
theorem dL_law_1660 : decode cL_law 1660 = .ok (.if_icmp .eq 5, 3) := by decide +kernel
theorem dL_law_1663 : decode cL_law 1663 = .ok (.iconst 0, 1) := by decide +kernel
theorem dL_law_1664 : decode cL_law 1664 = .ok (.ireturn, 1) := by decide +kernel
theorem dL_law_1665 : decode cL_law 1665 = .ok (.iload 6, 2) := by decide +kernel
theorem dL_law_1667 : decode cL_law 1667 = .ok (.ifCond .ne 15, 3) := by decide +kernel
theorem dL_law_1670 : decode cL_law 1670 = .ok (.aload_n 3, 1) := by decide +kernel
theorem dL_law_1671 : decode cL_law 1671 = .ok (.iconst 0, 1) := by decide +kernel
theorem dL_law_1672 : decode cL_law 1672 = .ok (.laload, 1) := by decide +kernel
theorem dL_law_1673 : decode cL_law 1673 = .ok (.iload 7, 2) := by decide +kernel
theorem dL_law_1675 : decode cL_law 1675 = .ok (.i2l, 1) := by decide +kernel
theorem dL_law_1676 : decode cL_law 1676 = .ok (.lcmp, 1) := by decide +kernel
theorem dL_law_1677 : decode cL_law 1677 = .ok (.ifCond .eq 5, 3) := by decide +kernel
theorem dL_law_1680 : decode cL_law 1680 = .ok (.iconst 0, 1) := by decide +kernel
theorem dL_law_1681 : decode cL_law 1681 = .ok (.ireturn, 1) := by decide +kernel
theorem dL_law_1682 : decode cL_law 1682 = .ok (.goto 1268, 3) := by decide +kernel
theorem dL_law_1685 : decode cL_law 1685 = .ok (.aload_n 1, 1) := by decide +kernel
theorem dL_law_1686 : decode cL_law 1686 = .ok (.aload_n 0, 1) := by decide +kernel
theorem dL_law_1687 : decode cL_law 1687 = .ok (.iload 5, 2) := by decide +kernel
theorem dL_law_1689 : decode cL_law 1689 = .ok (.iconst 1, 1) := by decide +kernel
theorem dL_law_1690 : decode cL_law 1690 = .ok (.iadd, 1) := by decide +kernel
theorem dL_law_1691 : decode cL_law 1691 = .ok (.iaload, 1) := by decide +kernel
theorem dL_law_1692 : decode cL_law 1692 = .ok (.aload_n 3, 1) := by decide +kernel
theorem dL_law_1693 : decode cL_law 1693 = .ok (.invokestatic 246, 3) := by decide +kernel
theorem dL_law_1696 : decode cL_law 1696 = .ok (.istore 6, 2) := by decide +kernel
theorem dL_law_1698 : decode cL_law 1698 = .ok (.aload_n 2, 1) := by decide +kernel
theorem dL_law_1699 : decode cL_law 1699 = .ok (.aload_n 0, 1) := by decide +kernel
theorem dL_law_1700 : decode cL_law 1700 = .ok (.iload 5, 2) := by decide +kernel
theorem dL_law_1702 : decode cL_law 1702 = .ok (.iconst 1, 1) := by decide +kernel
theorem dL_law_1703 : decode cL_law 1703 = .ok (.iadd, 1) := by decide +kernel
theorem dL_law_1704 : decode cL_law 1704 = .ok (.iaload, 1) := by decide +kernel
theorem dL_law_1705 : decode cL_law 1705 = .ok (.invokevirtual 248, 3) := by decide +kernel
theorem dL_law_1708 : decode cL_law 1708 = .ok (.istore 7, 2) := by decide +kernel
theorem dL_law_1710 : decode cL_law 1710 = .ok (.aload_n 2, 1) := by decide +kernel
theorem dL_law_1711 : decode cL_law 1711 = .ok (.invokevirtual 166, 3) := by decide +kernel
theorem dL_law_1714 : decode cL_law 1714 = .ok (.iload 6, 2) := by decide +kernel
theorem dL_law_1716 : decode cL_law 1716 = .ok (.if_icmp .eq 5, 3) := by decide +kernel
theorem dL_law_1719 : decode cL_law 1719 = .ok (.iconst 0, 1) := by decide +kernel
theorem dL_law_1720 : decode cL_law 1720 = .ok (.ireturn, 1) := by decide +kernel
theorem dL_law_1721 : decode cL_law 1721 = .ok (.iload 6, 2) := by decide +kernel
theorem dL_law_1723 : decode cL_law 1723 = .ok (.ifCond .ne 15, 3) := by decide +kernel
theorem dL_law_1726 : decode cL_law 1726 = .ok (.aload_n 3, 1) := by decide +kernel
theorem dL_law_1727 : decode cL_law 1727 = .ok (.iconst 0, 1) := by decide +kernel
theorem dL_law_1728 : decode cL_law 1728 = .ok (.laload, 1) := by decide +kernel
theorem dL_law_1729 : decode cL_law 1729 = .ok (.iload 7, 2) := by decide +kernel
theorem dL_law_1731 : decode cL_law 1731 = .ok (.i2l, 1) := by decide +kernel
theorem dL_law_1732 : decode cL_law 1732 = .ok (.lcmp, 1) := by decide +kernel
theorem dL_law_1733 : decode cL_law 1733 = .ok (.ifCond .eq 5, 3) := by decide +kernel
theorem dL_law_1736 : decode cL_law 1736 = .ok (.iconst 0, 1) := by decide +kernel
theorem dL_law_1737 : decode cL_law 1737 = .ok (.ireturn, 1) := by decide +kernel
theorem dL_law_1738 : decode cL_law 1738 = .ok (.goto 1212, 3) := by decide +kernel
theorem dL_law_1741 : decode cL_law 1741 = .ok (.aload_n 1, 1) := by decide +kernel
theorem dL_law_1742 : decode cL_law 1742 = .ok (.aload_n 0, 1) := by decide +kernel
theorem dL_law_1743 : decode cL_law 1743 = .ok (.iload 5, 2) := by decide +kernel
theorem dL_law_1745 : decode cL_law 1745 = .ok (.iconst 1, 1) := by decide +kernel
theorem dL_law_1746 : decode cL_law 1746 = .ok (.iadd, 1) := by decide +kernel
theorem dL_law_1747 : decode cL_law 1747 = .ok (.iaload, 1) := by decide +kernel
theorem dL_law_1748 : decode cL_law 1748 = .ok (.aload_n 3, 1) := by decide +kernel
theorem dL_law_1749 : decode cL_law 1749 = .ok (.invokestatic 249, 3) := by decide +kernel
theorem dL_law_1752 : decode cL_law 1752 = .ok (.istore 6, 2) := by decide +kernel
theorem dL_law_1754 : decode cL_law 1754 = .ok (.aload_n 2, 1) := by decide +kernel
theorem dL_law_1755 : decode cL_law 1755 = .ok (.aload_n 0, 1) := by decide +kernel
theorem dL_law_1756 : decode cL_law 1756 = .ok (.iload 5, 2) := by decide +kernel
theorem dL_law_1758 : decode cL_law 1758 = .ok (.iconst 1, 1) := by decide +kernel
theorem dL_law_1759 : decode cL_law 1759 = .ok (.iadd, 1) := by decide +kernel
theorem dL_law_1760 : decode cL_law 1760 = .ok (.iaload, 1) := by decide +kernel
theorem dL_law_1761 : decode cL_law 1761 = .ok (.invokevirtual 251, 3) := by decide +kernel
theorem dL_law_1764 : decode cL_law 1764 = .ok (.istore 7, 2) := by decide +kernel
theorem dL_law_1766 : decode cL_law 1766 = .ok (.aload_n 2, 1) := by decide +kernel
theorem dL_law_1767 : decode cL_law 1767 = .ok (.invokevirtual 166, 3) := by decide +kernel
theorem dL_law_1770 : decode cL_law 1770 = .ok (.iload 6, 2) := by decide +kernel
theorem dL_law_1772 : decode cL_law 1772 = .ok (.if_icmp .eq 5, 3) := by decide +kernel
theorem dL_law_1775 : decode cL_law 1775 = .ok (.iconst 0, 1) := by decide +kernel
theorem dL_law_1776 : decode cL_law 1776 = .ok (.ireturn, 1) := by decide +kernel
theorem dL_law_1777 : decode cL_law 1777 = .ok (.iload 6, 2) := by decide +kernel
theorem dL_law_1779 : decode cL_law 1779 = .ok (.ifCond .ne 15, 3) := by decide +kernel
theorem dL_law_1782 : decode cL_law 1782 = .ok (.aload_n 3, 1) := by decide +kernel
theorem dL_law_1783 : decode cL_law 1783 = .ok (.iconst 0, 1) := by decide +kernel
theorem dL_law_1784 : decode cL_law 1784 = .ok (.laload, 1) := by decide +kernel
theorem dL_law_1785 : decode cL_law 1785 = .ok (.iload 7, 2) := by decide +kernel
theorem dL_law_1787 : decode cL_law 1787 = .ok (.i2l, 1) := by decide +kernel
theorem dL_law_1788 : decode cL_law 1788 = .ok (.lcmp, 1) := by decide +kernel
theorem dL_law_1789 : decode cL_law 1789 = .ok (.ifCond .eq 5, 3) := by decide +kernel
theorem dL_law_1792 : decode cL_law 1792 = .ok (.iconst 0, 1) := by decide +kernel
theorem dL_law_1793 : decode cL_law 1793 = .ok (.ireturn, 1) := by decide +kernel
theorem dL_law_1794 : decode cL_law 1794 = .ok (.goto 1156, 3) := by decide +kernel
theorem dL_law_1797 : decode cL_law 1797 = .ok (.aload_n 1, 1) := by decide +kernel
theorem dL_law_1798 : decode cL_law 1798 = .ok (.invokevirtual 252, 3) := by decide +kernel
theorem dL_law_1801 : decode cL_law 1801 = .ok (.aload_n 2, 1) := by decide +kernel
theorem dL_law_1802 : decode cL_law 1802 = .ok (.invokevirtual 255, 3) := by decide +kernel
theorem dL_law_1805 : decode cL_law 1805 = .ok (.if_icmp .eq 1145, 3) := by decide +kernel
theorem dL_law_1808 : decode cL_law 1808 = .ok (.iconst 0, 1) := by decide +kernel
theorem dL_law_1809 : decode cL_law 1809 = .ok (.ireturn, 1) := by decide +kernel
theorem dL_law_1810 : decode cL_law 1810 = .ok (.aload_n 1, 1) := by decide +kernel
theorem dL_law_1811 : decode cL_law 1811 = .ok (.invokevirtual 256, 3) := by decide +kernel
theorem dL_law_1814 : decode cL_law 1814 = .ok (.aload_n 2, 1) := by decide +kernel
theorem dL_law_1815 : decode cL_law 1815 = .ok (.invokevirtual 259, 3) := by decide +kernel
theorem dL_law_1818 : decode cL_law 1818 = .ok (.if_icmp .eq 1132, 3) := by decide +kernel
theorem dL_law_1821 : decode cL_law 1821 = .ok (.iconst 0, 1) := by decide +kernel
theorem dL_law_1822 : decode cL_law 1822 = .ok (.ireturn, 1) := by decide +kernel
theorem dL_law_1823 : decode cL_law 1823 = .ok (.aload_n 1, 1) := by decide +kernel
theorem dL_law_1824 : decode cL_law 1824 = .ok (.invokevirtual 260, 3) := by decide +kernel
theorem dL_law_1827 : decode cL_law 1827 = .ok (.aload_n 2, 1) := by decide +kernel
theorem dL_law_1828 : decode cL_law 1828 = .ok (.invokevirtual 263, 3) := by decide +kernel
theorem dL_law_1831 : decode cL_law 1831 = .ok (.if_icmp .eq 1119, 3) := by decide +kernel
theorem dL_law_1834 : decode cL_law 1834 = .ok (.iconst 0, 1) := by decide +kernel
theorem dL_law_1835 : decode cL_law 1835 = .ok (.ireturn, 1) := by decide +kernel
theorem dL_law_1836 : decode cL_law 1836 = .ok (.aload_n 1, 1) := by decide +kernel
theorem dL_law_1837 : decode cL_law 1837 = .ok (.invokevirtual 264, 3) := by decide +kernel
theorem dL_law_1840 : decode cL_law 1840 = .ok (.aload_n 2, 1) := by decide +kernel
theorem dL_law_1841 : decode cL_law 1841 = .ok (.invokevirtual 267, 3) := by decide +kernel
theorem dL_law_1844 : decode cL_law 1844 = .ok (.if_icmp .eq 1106, 3) := by decide +kernel
theorem dL_law_1847 : decode cL_law 1847 = .ok (.iconst 0, 1) := by decide +kernel
theorem dL_law_1848 : decode cL_law 1848 = .ok (.ireturn, 1) := by decide +kernel
theorem dL_law_1849 : decode cL_law 1849 = .ok (.aload_n 1, 1) := by decide +kernel
theorem dL_law_1850 : decode cL_law 1850 = .ok (.aload_n 0, 1) := by decide +kernel
theorem dL_law_1851 : decode cL_law 1851 = .ok (.iload 5, 2) := by decide +kernel
theorem dL_law_1853 : decode cL_law 1853 = .ok (.iconst 1, 1) := by decide +kernel
theorem dL_law_1854 : decode cL_law 1854 = .ok (.iadd, 1) := by decide +kernel
theorem dL_law_1855 : decode cL_law 1855 = .ok (.iaload, 1) := by decide +kernel
theorem dL_law_1856 : decode cL_law 1856 = .ok (.aload_n 3, 1) := by decide +kernel
theorem dL_law_1857 : decode cL_law 1857 = .ok (.invokestatic 268, 3) := by decide +kernel
theorem dL_law_1860 : decode cL_law 1860 = .ok (.istore 6, 2) := by decide +kernel
theorem dL_law_1862 : decode cL_law 1862 = .ok (.aload_n 2, 1) := by decide +kernel
theorem dL_law_1863 : decode cL_law 1863 = .ok (.aload_n 0, 1) := by decide +kernel
theorem dL_law_1864 : decode cL_law 1864 = .ok (.iload 5, 2) := by decide +kernel
theorem dL_law_1866 : decode cL_law 1866 = .ok (.iconst 1, 1) := by decide +kernel
theorem dL_law_1867 : decode cL_law 1867 = .ok (.iadd, 1) := by decide +kernel
theorem dL_law_1868 : decode cL_law 1868 = .ok (.iaload, 1) := by decide +kernel
theorem dL_law_1869 : decode cL_law 1869 = .ok (.invokevirtual 270, 3) := by decide +kernel
theorem dL_law_1872 : decode cL_law 1872 = .ok (.istore 7, 2) := by decide +kernel
theorem dL_law_1874 : decode cL_law 1874 = .ok (.aload_n 2, 1) := by decide +kernel
theorem dL_law_1875 : decode cL_law 1875 = .ok (.invokevirtual 166, 3) := by decide +kernel
theorem dL_law_1878 : decode cL_law 1878 = .ok (.iload 6, 2) := by decide +kernel
theorem dL_law_1880 : decode cL_law 1880 = .ok (.if_icmp .eq 5, 3) := by decide +kernel
theorem dL_law_1883 : decode cL_law 1883 = .ok (.iconst 0, 1) := by decide +kernel
theorem dL_law_1884 : decode cL_law 1884 = .ok (.ireturn, 1) := by decide +kernel
theorem dL_law_1885 : decode cL_law 1885 = .ok (.iload 6, 2) := by decide +kernel
theorem dL_law_1887 : decode cL_law 1887 = .ok (.ifCond .ne 15, 3) := by decide +kernel
theorem dL_law_1890 : decode cL_law 1890 = .ok (.aload_n 3, 1) := by decide +kernel
theorem dL_law_1891 : decode cL_law 1891 = .ok (.iconst 0, 1) := by decide +kernel
theorem dL_law_1892 : decode cL_law 1892 = .ok (.laload, 1) := by decide +kernel
theorem dL_law_1893 : decode cL_law 1893 = .ok (.iload 7, 2) := by decide +kernel
theorem dL_law_1895 : decode cL_law 1895 = .ok (.i2l, 1) := by decide +kernel
theorem dL_law_1896 : decode cL_law 1896 = .ok (.lcmp, 1) := by decide +kernel
theorem dL_law_1897 : decode cL_law 1897 = .ok (.ifCond .eq 5, 3) := by decide +kernel
theorem dL_law_1900 : decode cL_law 1900 = .ok (.iconst 0, 1) := by decide +kernel
theorem dL_law_1901 : decode cL_law 1901 = .ok (.ireturn, 1) := by decide +kernel
theorem dL_law_1902 : decode cL_law 1902 = .ok (.goto 1048, 3) := by decide +kernel
theorem dL_law_1905 : decode cL_law 1905 = .ok (.aload_n 1, 1) := by decide +kernel
theorem dL_law_1906 : decode cL_law 1906 = .ok (.aload_n 0, 1) := by decide +kernel
theorem dL_law_1907 : decode cL_law 1907 = .ok (.iload 5, 2) := by decide +kernel
theorem dL_law_1909 : decode cL_law 1909 = .ok (.iconst 1, 1) := by decide +kernel
theorem dL_law_1910 : decode cL_law 1910 = .ok (.iadd, 1) := by decide +kernel
theorem dL_law_1911 : decode cL_law 1911 = .ok (.iaload, 1) := by decide +kernel
theorem dL_law_1912 : decode cL_law 1912 = .ok (.aload_n 3, 1) := by decide +kernel
theorem dL_law_1913 : decode cL_law 1913 = .ok (.invokestatic 271, 3) := by decide +kernel
theorem dL_law_1916 : decode cL_law 1916 = .ok (.istore 6, 2) := by decide +kernel
theorem dL_law_1918 : decode cL_law 1918 = .ok (.aload_n 2, 1) := by decide +kernel
theorem dL_law_1919 : decode cL_law 1919 = .ok (.aload_n 0, 1) := by decide +kernel
theorem dL_law_1920 : decode cL_law 1920 = .ok (.iload 5, 2) := by decide +kernel
theorem dL_law_1922 : decode cL_law 1922 = .ok (.iconst 1, 1) := by decide +kernel
theorem dL_law_1923 : decode cL_law 1923 = .ok (.iadd, 1) := by decide +kernel
theorem dL_law_1924 : decode cL_law 1924 = .ok (.iaload, 1) := by decide +kernel
theorem dL_law_1925 : decode cL_law 1925 = .ok (.invokevirtual 273, 3) := by decide +kernel
theorem dL_law_1928 : decode cL_law 1928 = .ok (.istore 7, 2) := by decide +kernel
theorem dL_law_1930 : decode cL_law 1930 = .ok (.aload_n 2, 1) := by decide +kernel
theorem dL_law_1931 : decode cL_law 1931 = .ok (.invokevirtual 166, 3) := by decide +kernel
theorem dL_law_1934 : decode cL_law 1934 = .ok (.iload 6, 2) := by decide +kernel
theorem dL_law_1936 : decode cL_law 1936 = .ok (.if_icmp .eq 5, 3) := by decide +kernel
theorem dL_law_1939 : decode cL_law 1939 = .ok (.iconst 0, 1) := by decide +kernel
theorem dL_law_1940 : decode cL_law 1940 = .ok (.ireturn, 1) := by decide +kernel
theorem dL_law_1941 : decode cL_law 1941 = .ok (.iload 6, 2) := by decide +kernel
theorem dL_law_1943 : decode cL_law 1943 = .ok (.ifCond .ne 15, 3) := by decide +kernel
theorem dL_law_1946 : decode cL_law 1946 = .ok (.aload_n 3, 1) := by decide +kernel
theorem dL_law_1947 : decode cL_law 1947 = .ok (.iconst 0, 1) := by decide +kernel
theorem dL_law_1948 : decode cL_law 1948 = .ok (.laload, 1) := by decide +kernel
theorem dL_law_1949 : decode cL_law 1949 = .ok (.iload 7, 2) := by decide +kernel
theorem dL_law_1951 : decode cL_law 1951 = .ok (.i2l, 1) := by decide +kernel
theorem dL_law_1952 : decode cL_law 1952 = .ok (.lcmp, 1) := by decide +kernel
theorem dL_law_1953 : decode cL_law 1953 = .ok (.ifCond .eq 5, 3) := by decide +kernel
theorem dL_law_1956 : decode cL_law 1956 = .ok (.iconst 0, 1) := by decide +kernel
theorem dL_law_1957 : decode cL_law 1957 = .ok (.ireturn, 1) := by decide +kernel
theorem dL_law_1958 : decode cL_law 1958 = .ok (.goto 992, 3) := by decide +kernel
theorem dL_law_1961 : decode cL_law 1961 = .ok (.aload_n 1, 1) := by decide +kernel
theorem dL_law_1962 : decode cL_law 1962 = .ok (.invokevirtual 274, 3) := by decide +kernel
theorem dL_law_1965 : decode cL_law 1965 = .ok (.aload_n 2, 1) := by decide +kernel
theorem dL_law_1966 : decode cL_law 1966 = .ok (.invokevirtual 277, 3) := by decide +kernel
theorem dL_law_1969 : decode cL_law 1969 = .ok (.if_icmp .eq 981, 3) := by decide +kernel
theorem dL_law_1972 : decode cL_law 1972 = .ok (.iconst 0, 1) := by decide +kernel
theorem dL_law_1973 : decode cL_law 1973 = .ok (.ireturn, 1) := by decide +kernel
theorem dL_law_1974 : decode cL_law 1974 = .ok (.aload_n 1, 1) := by decide +kernel
theorem dL_law_1975 : decode cL_law 1975 = .ok (.aload_n 0, 1) := by decide +kernel
theorem dL_law_1976 : decode cL_law 1976 = .ok (.iload 5, 2) := by decide +kernel
theorem dL_law_1978 : decode cL_law 1978 = .ok (.iconst 1, 1) := by decide +kernel
theorem dL_law_1979 : decode cL_law 1979 = .ok (.iadd, 1) := by decide +kernel
theorem dL_law_1980 : decode cL_law 1980 = .ok (.iaload, 1) := by decide +kernel
theorem dL_law_1981 : decode cL_law 1981 = .ok (.aload_n 0, 1) := by decide +kernel
theorem dL_law_1982 : decode cL_law 1982 = .ok (.iload 5, 2) := by decide +kernel
theorem dL_law_1984 : decode cL_law 1984 = .ok (.iconst 2, 1) := by decide +kernel
theorem dL_law_1985 : decode cL_law 1985 = .ok (.iadd, 1) := by decide +kernel
theorem dL_law_1986 : decode cL_law 1986 = .ok (.iaload, 1) := by decide +kernel
theorem dL_law_1987 : decode cL_law 1987 = .ok (.aload_n 3, 1) := by decide +kernel
theorem dL_law_1988 : decode cL_law 1988 = .ok (.invokestatic 278, 3) := by decide +kernel
theorem dL_law_1991 : decode cL_law 1991 = .ok (.istore 6, 2) := by decide +kernel
theorem dL_law_1993 : decode cL_law 1993 = .ok (.aload_n 2, 1) := by decide +kernel
theorem dL_law_1994 : decode cL_law 1994 = .ok (.aload_n 0, 1) := by decide +kernel
theorem dL_law_1995 : decode cL_law 1995 = .ok (.iload 5, 2) := by decide +kernel
theorem dL_law_1997 : decode cL_law 1997 = .ok (.iconst 1, 1) := by decide +kernel
theorem dL_law_1998 : decode cL_law 1998 = .ok (.iadd, 1) := by decide +kernel
theorem dL_law_1999 : decode cL_law 1999 = .ok (.iaload, 1) := by decide +kernel
theorem dL_law_2000 : decode cL_law 2000 = .ok (.aload_n 0, 1) := by decide +kernel
theorem dL_law_2001 : decode cL_law 2001 = .ok (.iload 5, 2) := by decide +kernel
theorem dL_law_2003 : decode cL_law 2003 = .ok (.iconst 2, 1) := by decide +kernel
theorem dL_law_2004 : decode cL_law 2004 = .ok (.iadd, 1) := by decide +kernel
theorem dL_law_2005 : decode cL_law 2005 = .ok (.iaload, 1) := by decide +kernel
theorem dL_law_2006 : decode cL_law 2006 = .ok (.invokevirtual 280, 3) := by decide +kernel
theorem dL_law_2009 : decode cL_law 2009 = .ok (.istore 7, 2) := by decide +kernel
theorem dL_law_2011 : decode cL_law 2011 = .ok (.aload_n 2, 1) := by decide +kernel
theorem dL_law_2012 : decode cL_law 2012 = .ok (.invokevirtual 166, 3) := by decide +kernel
theorem dL_law_2015 : decode cL_law 2015 = .ok (.iload 6, 2) := by decide +kernel
theorem dL_law_2017 : decode cL_law 2017 = .ok (.if_icmp .eq 5, 3) := by decide +kernel
theorem dL_law_2020 : decode cL_law 2020 = .ok (.iconst 0, 1) := by decide +kernel
theorem dL_law_2021 : decode cL_law 2021 = .ok (.ireturn, 1) := by decide +kernel
theorem dL_law_2022 : decode cL_law 2022 = .ok (.iload 6, 2) := by decide +kernel
theorem dL_law_2024 : decode cL_law 2024 = .ok (.ifCond .ne 15, 3) := by decide +kernel
theorem dL_law_2027 : decode cL_law 2027 = .ok (.aload_n 3, 1) := by decide +kernel
theorem dL_law_2028 : decode cL_law 2028 = .ok (.iconst 0, 1) := by decide +kernel
theorem dL_law_2029 : decode cL_law 2029 = .ok (.laload, 1) := by decide +kernel
theorem dL_law_2030 : decode cL_law 2030 = .ok (.iload 7, 2) := by decide +kernel
theorem dL_law_2032 : decode cL_law 2032 = .ok (.i2l, 1) := by decide +kernel
theorem dL_law_2033 : decode cL_law 2033 = .ok (.lcmp, 1) := by decide +kernel
theorem dL_law_2034 : decode cL_law 2034 = .ok (.ifCond .eq 5, 3) := by decide +kernel
theorem dL_law_2037 : decode cL_law 2037 = .ok (.iconst 0, 1) := by decide +kernel
theorem dL_law_2038 : decode cL_law 2038 = .ok (.ireturn, 1) := by decide +kernel
theorem dL_law_2039 : decode cL_law 2039 = .ok (.goto 911, 3) := by decide +kernel
theorem dL_law_2042 : decode cL_law 2042 = .ok (.aload_n 1, 1) := by decide +kernel
theorem dL_law_2043 : decode cL_law 2043 = .ok (.aload_n 0, 1) := by decide +kernel
theorem dL_law_2044 : decode cL_law 2044 = .ok (.iload 5, 2) := by decide +kernel
theorem dL_law_2046 : decode cL_law 2046 = .ok (.iconst 1, 1) := by decide +kernel
theorem dL_law_2047 : decode cL_law 2047 = .ok (.iadd, 1) := by decide +kernel
theorem dL_law_2048 : decode cL_law 2048 = .ok (.iaload, 1) := by decide +kernel
theorem dL_law_2049 : decode cL_law 2049 = .ok (.aload_n 0, 1) := by decide +kernel
theorem dL_law_2050 : decode cL_law 2050 = .ok (.iload 5, 2) := by decide +kernel
theorem dL_law_2052 : decode cL_law 2052 = .ok (.iconst 2, 1) := by decide +kernel
theorem dL_law_2053 : decode cL_law 2053 = .ok (.iadd, 1) := by decide +kernel
theorem dL_law_2054 : decode cL_law 2054 = .ok (.iaload, 1) := by decide +kernel
theorem dL_law_2055 : decode cL_law 2055 = .ok (.aload_n 3, 1) := by decide +kernel
theorem dL_law_2056 : decode cL_law 2056 = .ok (.invokestatic 281, 3) := by decide +kernel
theorem dL_law_2059 : decode cL_law 2059 = .ok (.istore 6, 2) := by decide +kernel
theorem dL_law_2061 : decode cL_law 2061 = .ok (.aload_n 2, 1) := by decide +kernel
theorem dL_law_2062 : decode cL_law 2062 = .ok (.aload_n 0, 1) := by decide +kernel
theorem dL_law_2063 : decode cL_law 2063 = .ok (.iload 5, 2) := by decide +kernel
theorem dL_law_2065 : decode cL_law 2065 = .ok (.iconst 1, 1) := by decide +kernel
theorem dL_law_2066 : decode cL_law 2066 = .ok (.iadd, 1) := by decide +kernel
theorem dL_law_2067 : decode cL_law 2067 = .ok (.iaload, 1) := by decide +kernel
theorem dL_law_2068 : decode cL_law 2068 = .ok (.aload_n 0, 1) := by decide +kernel
theorem dL_law_2069 : decode cL_law 2069 = .ok (.iload 5, 2) := by decide +kernel
theorem dL_law_2071 : decode cL_law 2071 = .ok (.iconst 2, 1) := by decide +kernel
theorem dL_law_2072 : decode cL_law 2072 = .ok (.iadd, 1) := by decide +kernel
theorem dL_law_2073 : decode cL_law 2073 = .ok (.iaload, 1) := by decide +kernel
theorem dL_law_2074 : decode cL_law 2074 = .ok (.invokevirtual 283, 3) := by decide +kernel
theorem dL_law_2077 : decode cL_law 2077 = .ok (.istore 7, 2) := by decide +kernel
theorem dL_law_2079 : decode cL_law 2079 = .ok (.aload_n 2, 1) := by decide +kernel
theorem dL_law_2080 : decode cL_law 2080 = .ok (.invokevirtual 166, 3) := by decide +kernel
theorem dL_law_2083 : decode cL_law 2083 = .ok (.iload 6, 2) := by decide +kernel
theorem dL_law_2085 : decode cL_law 2085 = .ok (.if_icmp .eq 5, 3) := by decide +kernel
theorem dL_law_2088 : decode cL_law 2088 = .ok (.iconst 0, 1) := by decide +kernel
theorem dL_law_2089 : decode cL_law 2089 = .ok (.ireturn, 1) := by decide +kernel
theorem dL_law_2090 : decode cL_law 2090 = .ok (.iload 6, 2) := by decide +kernel
theorem dL_law_2092 : decode cL_law 2092 = .ok (.ifCond .ne 15, 3) := by decide +kernel
theorem dL_law_2095 : decode cL_law 2095 = .ok (.aload_n 3, 1) := by decide +kernel
theorem dL_law_2096 : decode cL_law 2096 = .ok (.iconst 0, 1) := by decide +kernel
theorem dL_law_2097 : decode cL_law 2097 = .ok (.laload, 1) := by decide +kernel
theorem dL_law_2098 : decode cL_law 2098 = .ok (.iload 7, 2) := by decide +kernel
theorem dL_law_2100 : decode cL_law 2100 = .ok (.i2l, 1) := by decide +kernel
theorem dL_law_2101 : decode cL_law 2101 = .ok (.lcmp, 1) := by decide +kernel
theorem dL_law_2102 : decode cL_law 2102 = .ok (.ifCond .eq 5, 3) := by decide +kernel
theorem dL_law_2105 : decode cL_law 2105 = .ok (.iconst 0, 1) := by decide +kernel
theorem dL_law_2106 : decode cL_law 2106 = .ok (.ireturn, 1) := by decide +kernel
theorem dL_law_2107 : decode cL_law 2107 = .ok (.goto 843, 3) := by decide +kernel
theorem dL_law_2110 : decode cL_law 2110 = .ok (.aload_n 1, 1) := by decide +kernel
theorem dL_law_2111 : decode cL_law 2111 = .ok (.aload_n 0, 1) := by decide +kernel
theorem dL_law_2112 : decode cL_law 2112 = .ok (.iload 5, 2) := by decide +kernel
theorem dL_law_2114 : decode cL_law 2114 = .ok (.iconst 1, 1) := by decide +kernel
theorem dL_law_2115 : decode cL_law 2115 = .ok (.iadd, 1) := by decide +kernel
theorem dL_law_2116 : decode cL_law 2116 = .ok (.iaload, 1) := by decide +kernel
theorem dL_law_2117 : decode cL_law 2117 = .ok (.aload_n 3, 1) := by decide +kernel
theorem dL_law_2118 : decode cL_law 2118 = .ok (.invokestatic 284, 3) := by decide +kernel
theorem dL_law_2121 : decode cL_law 2121 = .ok (.istore 6, 2) := by decide +kernel
theorem dL_law_2123 : decode cL_law 2123 = .ok (.aload_n 2, 1) := by decide +kernel
theorem dL_law_2124 : decode cL_law 2124 = .ok (.aload_n 0, 1) := by decide +kernel
theorem dL_law_2125 : decode cL_law 2125 = .ok (.iload 5, 2) := by decide +kernel
theorem dL_law_2127 : decode cL_law 2127 = .ok (.iconst 1, 1) := by decide +kernel
theorem dL_law_2128 : decode cL_law 2128 = .ok (.iadd, 1) := by decide +kernel
theorem dL_law_2129 : decode cL_law 2129 = .ok (.iaload, 1) := by decide +kernel
theorem dL_law_2130 : decode cL_law 2130 = .ok (.invokevirtual 286, 3) := by decide +kernel
theorem dL_law_2133 : decode cL_law 2133 = .ok (.istore 7, 2) := by decide +kernel
theorem dL_law_2135 : decode cL_law 2135 = .ok (.aload_n 2, 1) := by decide +kernel
theorem dL_law_2136 : decode cL_law 2136 = .ok (.invokevirtual 166, 3) := by decide +kernel
theorem dL_law_2139 : decode cL_law 2139 = .ok (.iload 6, 2) := by decide +kernel
theorem dL_law_2141 : decode cL_law 2141 = .ok (.if_icmp .eq 5, 3) := by decide +kernel
theorem dL_law_2144 : decode cL_law 2144 = .ok (.iconst 0, 1) := by decide +kernel
theorem dL_law_2145 : decode cL_law 2145 = .ok (.ireturn, 1) := by decide +kernel
theorem dL_law_2146 : decode cL_law 2146 = .ok (.iload 6, 2) := by decide +kernel
theorem dL_law_2148 : decode cL_law 2148 = .ok (.ifCond .ne 15, 3) := by decide +kernel
theorem dL_law_2151 : decode cL_law 2151 = .ok (.aload_n 3, 1) := by decide +kernel
theorem dL_law_2152 : decode cL_law 2152 = .ok (.iconst 0, 1) := by decide +kernel
theorem dL_law_2153 : decode cL_law 2153 = .ok (.laload, 1) := by decide +kernel
theorem dL_law_2154 : decode cL_law 2154 = .ok (.iload 7, 2) := by decide +kernel
theorem dL_law_2156 : decode cL_law 2156 = .ok (.i2l, 1) := by decide +kernel
theorem dL_law_2157 : decode cL_law 2157 = .ok (.lcmp, 1) := by decide +kernel
theorem dL_law_2158 : decode cL_law 2158 = .ok (.ifCond .eq 5, 3) := by decide +kernel
theorem dL_law_2161 : decode cL_law 2161 = .ok (.iconst 0, 1) := by decide +kernel
theorem dL_law_2162 : decode cL_law 2162 = .ok (.ireturn, 1) := by decide +kernel
theorem dL_law_2163 : decode cL_law 2163 = .ok (.goto 787, 3) := by decide +kernel
theorem dL_law_2166 : decode cL_law 2166 = .ok (.aload_n 1, 1) := by decide +kernel
theorem dL_law_2167 : decode cL_law 2167 = .ok (.aload_n 0, 1) := by decide +kernel
theorem dL_law_2168 : decode cL_law 2168 = .ok (.iload 5, 2) := by decide +kernel
theorem dL_law_2170 : decode cL_law 2170 = .ok (.iconst 1, 1) := by decide +kernel
theorem dL_law_2171 : decode cL_law 2171 = .ok (.iadd, 1) := by decide +kernel
theorem dL_law_2172 : decode cL_law 2172 = .ok (.iaload, 1) := by decide +kernel
theorem dL_law_2173 : decode cL_law 2173 = .ok (.aload_n 3, 1) := by decide +kernel
theorem dL_law_2174 : decode cL_law 2174 = .ok (.invokestatic 287, 3) := by decide +kernel
theorem dL_law_2177 : decode cL_law 2177 = .ok (.istore 6, 2) := by decide +kernel
theorem dL_law_2179 : decode cL_law 2179 = .ok (.aload_n 2, 1) := by decide +kernel
theorem dL_law_2180 : decode cL_law 2180 = .ok (.aload_n 0, 1) := by decide +kernel
theorem dL_law_2181 : decode cL_law 2181 = .ok (.iload 5, 2) := by decide +kernel
theorem dL_law_2183 : decode cL_law 2183 = .ok (.iconst 1, 1) := by decide +kernel
theorem dL_law_2184 : decode cL_law 2184 = .ok (.iadd, 1) := by decide +kernel
theorem dL_law_2185 : decode cL_law 2185 = .ok (.iaload, 1) := by decide +kernel
theorem dL_law_2186 : decode cL_law 2186 = .ok (.invokevirtual 289, 3) := by decide +kernel
theorem dL_law_2189 : decode cL_law 2189 = .ok (.istore 7, 2) := by decide +kernel
theorem dL_law_2191 : decode cL_law 2191 = .ok (.aload_n 2, 1) := by decide +kernel
theorem dL_law_2192 : decode cL_law 2192 = .ok (.invokevirtual 166, 3) := by decide +kernel
theorem dL_law_2195 : decode cL_law 2195 = .ok (.iload 6, 2) := by decide +kernel
theorem dL_law_2197 : decode cL_law 2197 = .ok (.if_icmp .eq 5, 3) := by decide +kernel
theorem dL_law_2200 : decode cL_law 2200 = .ok (.iconst 0, 1) := by decide +kernel
theorem dL_law_2201 : decode cL_law 2201 = .ok (.ireturn, 1) := by decide +kernel
theorem dL_law_2202 : decode cL_law 2202 = .ok (.iload 6, 2) := by decide +kernel
theorem dL_law_2204 : decode cL_law 2204 = .ok (.ifCond .ne 15, 3) := by decide +kernel
theorem dL_law_2207 : decode cL_law 2207 = .ok (.aload_n 3, 1) := by decide +kernel
theorem dL_law_2208 : decode cL_law 2208 = .ok (.iconst 0, 1) := by decide +kernel
theorem dL_law_2209 : decode cL_law 2209 = .ok (.laload, 1) := by decide +kernel
theorem dL_law_2210 : decode cL_law 2210 = .ok (.iload 7, 2) := by decide +kernel
theorem dL_law_2212 : decode cL_law 2212 = .ok (.i2l, 1) := by decide +kernel
theorem dL_law_2213 : decode cL_law 2213 = .ok (.lcmp, 1) := by decide +kernel
theorem dL_law_2214 : decode cL_law 2214 = .ok (.ifCond .eq 5, 3) := by decide +kernel
theorem dL_law_2217 : decode cL_law 2217 = .ok (.iconst 0, 1) := by decide +kernel
theorem dL_law_2218 : decode cL_law 2218 = .ok (.ireturn, 1) := by decide +kernel
theorem dL_law_2219 : decode cL_law 2219 = .ok (.goto 731, 3) := by decide +kernel
theorem dL_law_2222 : decode cL_law 2222 = .ok (.aload_n 1, 1) := by decide +kernel
theorem dL_law_2223 : decode cL_law 2223 = .ok (.aload_n 0, 1) := by decide +kernel
theorem dL_law_2224 : decode cL_law 2224 = .ok (.iload 5, 2) := by decide +kernel
theorem dL_law_2226 : decode cL_law 2226 = .ok (.iconst 1, 1) := by decide +kernel
theorem dL_law_2227 : decode cL_law 2227 = .ok (.iadd, 1) := by decide +kernel
theorem dL_law_2228 : decode cL_law 2228 = .ok (.iaload, 1) := by decide +kernel
theorem dL_law_2229 : decode cL_law 2229 = .ok (.aload_n 3, 1) := by decide +kernel
theorem dL_law_2230 : decode cL_law 2230 = .ok (.invokestatic 290, 3) := by decide +kernel
theorem dL_law_2233 : decode cL_law 2233 = .ok (.istore 6, 2) := by decide +kernel
theorem dL_law_2235 : decode cL_law 2235 = .ok (.aload_n 2, 1) := by decide +kernel
theorem dL_law_2236 : decode cL_law 2236 = .ok (.aload_n 0, 1) := by decide +kernel
theorem dL_law_2237 : decode cL_law 2237 = .ok (.iload 5, 2) := by decide +kernel
theorem dL_law_2239 : decode cL_law 2239 = .ok (.iconst 1, 1) := by decide +kernel
theorem dL_law_2240 : decode cL_law 2240 = .ok (.iadd, 1) := by decide +kernel
theorem dL_law_2241 : decode cL_law 2241 = .ok (.iaload, 1) := by decide +kernel
theorem dL_law_2242 : decode cL_law 2242 = .ok (.invokevirtual 292, 3) := by decide +kernel
theorem dL_law_2245 : decode cL_law 2245 = .ok (.istore 7, 2) := by decide +kernel
theorem dL_law_2247 : decode cL_law 2247 = .ok (.aload_n 2, 1) := by decide +kernel
theorem dL_law_2248 : decode cL_law 2248 = .ok (.invokevirtual 166, 3) := by decide +kernel
theorem dL_law_2251 : decode cL_law 2251 = .ok (.iload 6, 2) := by decide +kernel
theorem dL_law_2253 : decode cL_law 2253 = .ok (.if_icmp .eq 5, 3) := by decide +kernel
theorem dL_law_2256 : decode cL_law 2256 = .ok (.iconst 0, 1) := by decide +kernel
theorem dL_law_2257 : decode cL_law 2257 = .ok (.ireturn, 1) := by decide +kernel
theorem dL_law_2258 : decode cL_law 2258 = .ok (.iload 6, 2) := by decide +kernel
theorem dL_law_2260 : decode cL_law 2260 = .ok (.ifCond .ne 15, 3) := by decide +kernel
theorem dL_law_2263 : decode cL_law 2263 = .ok (.aload_n 3, 1) := by decide +kernel
theorem dL_law_2264 : decode cL_law 2264 = .ok (.iconst 0, 1) := by decide +kernel
theorem dL_law_2265 : decode cL_law 2265 = .ok (.laload, 1) := by decide +kernel
theorem dL_law_2266 : decode cL_law 2266 = .ok (.iload 7, 2) := by decide +kernel
theorem dL_law_2268 : decode cL_law 2268 = .ok (.i2l, 1) := by decide +kernel
theorem dL_law_2269 : decode cL_law 2269 = .ok (.lcmp, 1) := by decide +kernel
theorem dL_law_2270 : decode cL_law 2270 = .ok (.ifCond .eq 5, 3) := by decide +kernel
theorem dL_law_2273 : decode cL_law 2273 = .ok (.iconst 0, 1) := by decide +kernel
theorem dL_law_2274 : decode cL_law 2274 = .ok (.ireturn, 1) := by decide +kernel
theorem dL_law_2275 : decode cL_law 2275 = .ok (.goto 675, 3) := by decide +kernel
theorem dL_law_2278 : decode cL_law 2278 = .ok (.aload_n 1, 1) := by decide +kernel
theorem dL_law_2279 : decode cL_law 2279 = .ok (.aload_n 0, 1) := by decide +kernel
theorem dL_law_2280 : decode cL_law 2280 = .ok (.iload 5, 2) := by decide +kernel
theorem dL_law_2282 : decode cL_law 2282 = .ok (.iconst 1, 1) := by decide +kernel
theorem dL_law_2283 : decode cL_law 2283 = .ok (.iadd, 1) := by decide +kernel
theorem dL_law_2284 : decode cL_law 2284 = .ok (.iaload, 1) := by decide +kernel
theorem dL_law_2285 : decode cL_law 2285 = .ok (.aload_n 0, 1) := by decide +kernel
theorem dL_law_2286 : decode cL_law 2286 = .ok (.iload 5, 2) := by decide +kernel
theorem dL_law_2288 : decode cL_law 2288 = .ok (.iconst 2, 1) := by decide +kernel
theorem dL_law_2289 : decode cL_law 2289 = .ok (.iadd, 1) := by decide +kernel
theorem dL_law_2290 : decode cL_law 2290 = .ok (.iaload, 1) := by decide +kernel
theorem dL_law_2291 : decode cL_law 2291 = .ok (.aload_n 3, 1) := by decide +kernel
theorem dL_law_2292 : decode cL_law 2292 = .ok (.invokestatic 293, 3) := by decide +kernel
theorem dL_law_2295 : decode cL_law 2295 = .ok (.istore 6, 2) := by decide +kernel
theorem dL_law_2297 : decode cL_law 2297 = .ok (.aload_n 2, 1) := by decide +kernel
theorem dL_law_2298 : decode cL_law 2298 = .ok (.aload_n 0, 1) := by decide +kernel
theorem dL_law_2299 : decode cL_law 2299 = .ok (.iload 5, 2) := by decide +kernel
theorem dL_law_2301 : decode cL_law 2301 = .ok (.iconst 1, 1) := by decide +kernel
theorem dL_law_2302 : decode cL_law 2302 = .ok (.iadd, 1) := by decide +kernel
theorem dL_law_2303 : decode cL_law 2303 = .ok (.iaload, 1) := by decide +kernel
theorem dL_law_2304 : decode cL_law 2304 = .ok (.aload_n 0, 1) := by decide +kernel
theorem dL_law_2305 : decode cL_law 2305 = .ok (.iload 5, 2) := by decide +kernel
theorem dL_law_2307 : decode cL_law 2307 = .ok (.iconst 2, 1) := by decide +kernel
theorem dL_law_2308 : decode cL_law 2308 = .ok (.iadd, 1) := by decide +kernel
theorem dL_law_2309 : decode cL_law 2309 = .ok (.iaload, 1) := by decide +kernel
theorem dL_law_2310 : decode cL_law 2310 = .ok (.invokevirtual 295, 3) := by decide +kernel
theorem dL_law_2313 : decode cL_law 2313 = .ok (.istore 7, 2) := by decide +kernel
theorem dL_law_2315 : decode cL_law 2315 = .ok (.aload_n 2, 1) := by decide +kernel
theorem dL_law_2316 : decode cL_law 2316 = .ok (.invokevirtual 166, 3) := by decide +kernel
theorem dL_law_2319 : decode cL_law 2319 = .ok (.iload 6, 2) := by decide +kernel
theorem dL_law_2321 : decode cL_law 2321 = .ok (.if_icmp .eq 5, 3) := by decide +kernel
theorem dL_law_2324 : decode cL_law 2324 = .ok (.iconst 0, 1) := by decide +kernel
theorem dL_law_2325 : decode cL_law 2325 = .ok (.ireturn, 1) := by decide +kernel
theorem dL_law_2326 : decode cL_law 2326 = .ok (.iload 6, 2) := by decide +kernel
theorem dL_law_2328 : decode cL_law 2328 = .ok (.ifCond .ne 15, 3) := by decide +kernel
theorem dL_law_2331 : decode cL_law 2331 = .ok (.aload_n 3, 1) := by decide +kernel
theorem dL_law_2332 : decode cL_law 2332 = .ok (.iconst 0, 1) := by decide +kernel
theorem dL_law_2333 : decode cL_law 2333 = .ok (.laload, 1) := by decide +kernel
theorem dL_law_2334 : decode cL_law 2334 = .ok (.iload 7, 2) := by decide +kernel
theorem dL_law_2336 : decode cL_law 2336 = .ok (.i2l, 1) := by decide +kernel
theorem dL_law_2337 : decode cL_law 2337 = .ok (.lcmp, 1) := by decide +kernel
theorem dL_law_2338 : decode cL_law 2338 = .ok (.ifCond .eq 5, 3) := by decide +kernel
theorem dL_law_2341 : decode cL_law 2341 = .ok (.iconst 0, 1) := by decide +kernel
theorem dL_law_2342 : decode cL_law 2342 = .ok (.ireturn, 1) := by decide +kernel
theorem dL_law_2343 : decode cL_law 2343 = .ok (.goto 607, 3) := by decide +kernel
theorem dL_law_2346 : decode cL_law 2346 = .ok (.aload_n 1, 1) := by decide +kernel
theorem dL_law_2347 : decode cL_law 2347 = .ok (.aload_n 0, 1) := by decide +kernel
theorem dL_law_2348 : decode cL_law 2348 = .ok (.iload 5, 2) := by decide +kernel
theorem dL_law_2350 : decode cL_law 2350 = .ok (.iconst 1, 1) := by decide +kernel
theorem dL_law_2351 : decode cL_law 2351 = .ok (.iadd, 1) := by decide +kernel
theorem dL_law_2352 : decode cL_law 2352 = .ok (.iaload, 1) := by decide +kernel
theorem dL_law_2353 : decode cL_law 2353 = .ok (.aload_n 0, 1) := by decide +kernel
theorem dL_law_2354 : decode cL_law 2354 = .ok (.iload 5, 2) := by decide +kernel
theorem dL_law_2356 : decode cL_law 2356 = .ok (.iconst 2, 1) := by decide +kernel
theorem dL_law_2357 : decode cL_law 2357 = .ok (.iadd, 1) := by decide +kernel
theorem dL_law_2358 : decode cL_law 2358 = .ok (.iaload, 1) := by decide +kernel
theorem dL_law_2359 : decode cL_law 2359 = .ok (.aload_n 3, 1) := by decide +kernel
theorem dL_law_2360 : decode cL_law 2360 = .ok (.invokestatic 296, 3) := by decide +kernel
theorem dL_law_2363 : decode cL_law 2363 = .ok (.istore 6, 2) := by decide +kernel
theorem dL_law_2365 : decode cL_law 2365 = .ok (.aload_n 2, 1) := by decide +kernel
theorem dL_law_2366 : decode cL_law 2366 = .ok (.aload_n 0, 1) := by decide +kernel
theorem dL_law_2367 : decode cL_law 2367 = .ok (.iload 5, 2) := by decide +kernel
theorem dL_law_2369 : decode cL_law 2369 = .ok (.iconst 1, 1) := by decide +kernel
theorem dL_law_2370 : decode cL_law 2370 = .ok (.iadd, 1) := by decide +kernel
theorem dL_law_2371 : decode cL_law 2371 = .ok (.iaload, 1) := by decide +kernel
theorem dL_law_2372 : decode cL_law 2372 = .ok (.aload_n 0, 1) := by decide +kernel
theorem dL_law_2373 : decode cL_law 2373 = .ok (.iload 5, 2) := by decide +kernel
theorem dL_law_2375 : decode cL_law 2375 = .ok (.iconst 2, 1) := by decide +kernel
theorem dL_law_2376 : decode cL_law 2376 = .ok (.iadd, 1) := by decide +kernel
theorem dL_law_2377 : decode cL_law 2377 = .ok (.iaload, 1) := by decide +kernel
theorem dL_law_2378 : decode cL_law 2378 = .ok (.invokevirtual 298, 3) := by decide +kernel
theorem dL_law_2381 : decode cL_law 2381 = .ok (.istore 7, 2) := by decide +kernel
theorem dL_law_2383 : decode cL_law 2383 = .ok (.aload_n 2, 1) := by decide +kernel
theorem dL_law_2384 : decode cL_law 2384 = .ok (.invokevirtual 166, 3) := by decide +kernel
theorem dL_law_2387 : decode cL_law 2387 = .ok (.iload 6, 2) := by decide +kernel
theorem dL_law_2389 : decode cL_law 2389 = .ok (.if_icmp .eq 5, 3) := by decide +kernel
theorem dL_law_2392 : decode cL_law 2392 = .ok (.iconst 0, 1) := by decide +kernel
theorem dL_law_2393 : decode cL_law 2393 = .ok (.ireturn, 1) := by decide +kernel
theorem dL_law_2394 : decode cL_law 2394 = .ok (.iload 6, 2) := by decide +kernel
theorem dL_law_2396 : decode cL_law 2396 = .ok (.ifCond .ne 15, 3) := by decide +kernel
theorem dL_law_2399 : decode cL_law 2399 = .ok (.aload_n 3, 1) := by decide +kernel
theorem dL_law_2400 : decode cL_law 2400 = .ok (.iconst 0, 1) := by decide +kernel
theorem dL_law_2401 : decode cL_law 2401 = .ok (.laload, 1) := by decide +kernel
theorem dL_law_2402 : decode cL_law 2402 = .ok (.iload 7, 2) := by decide +kernel
theorem dL_law_2404 : decode cL_law 2404 = .ok (.i2l, 1) := by decide +kernel
theorem dL_law_2405 : decode cL_law 2405 = .ok (.lcmp, 1) := by decide +kernel
theorem dL_law_2406 : decode cL_law 2406 = .ok (.ifCond .eq 5, 3) := by decide +kernel
theorem dL_law_2409 : decode cL_law 2409 = .ok (.iconst 0, 1) := by decide +kernel
theorem dL_law_2410 : decode cL_law 2410 = .ok (.ireturn, 1) := by decide +kernel
theorem dL_law_2411 : decode cL_law 2411 = .ok (.goto 539, 3) := by decide +kernel
theorem dL_law_2414 : decode cL_law 2414 = .ok (.aload_n 1, 1) := by decide +kernel
theorem dL_law_2415 : decode cL_law 2415 = .ok (.invokevirtual 299, 3) := by decide +kernel
theorem dL_law_2418 : decode cL_law 2418 = .ok (.aload_n 2, 1) := by decide +kernel
theorem dL_law_2419 : decode cL_law 2419 = .ok (.invokevirtual 302, 3) := by decide +kernel
theorem dL_law_2422 : decode cL_law 2422 = .ok (.if_icmp .eq 528, 3) := by decide +kernel
theorem dL_law_2425 : decode cL_law 2425 = .ok (.iconst 0, 1) := by decide +kernel
theorem dL_law_2426 : decode cL_law 2426 = .ok (.ireturn, 1) := by decide +kernel
theorem dL_law_2427 : decode cL_law 2427 = .ok (.aload_n 1, 1) := by decide +kernel
theorem dL_law_2428 : decode cL_law 2428 = .ok (.aload_n 0, 1) := by decide +kernel
theorem dL_law_2429 : decode cL_law 2429 = .ok (.iload 5, 2) := by decide +kernel
theorem dL_law_2431 : decode cL_law 2431 = .ok (.iconst 1, 1) := by decide +kernel
theorem dL_law_2432 : decode cL_law 2432 = .ok (.iadd, 1) := by decide +kernel
theorem dL_law_2433 : decode cL_law 2433 = .ok (.iaload, 1) := by decide +kernel
theorem dL_law_2434 : decode cL_law 2434 = .ok (.aload_n 3, 1) := by decide +kernel
theorem dL_law_2435 : decode cL_law 2435 = .ok (.invokestatic 303, 3) := by decide +kernel
theorem dL_law_2438 : decode cL_law 2438 = .ok (.istore 6, 2) := by decide +kernel
theorem dL_law_2440 : decode cL_law 2440 = .ok (.aload_n 2, 1) := by decide +kernel
theorem dL_law_2441 : decode cL_law 2441 = .ok (.aload_n 0, 1) := by decide +kernel
theorem dL_law_2442 : decode cL_law 2442 = .ok (.iload 5, 2) := by decide +kernel
theorem dL_law_2444 : decode cL_law 2444 = .ok (.iconst 1, 1) := by decide +kernel
theorem dL_law_2445 : decode cL_law 2445 = .ok (.iadd, 1) := by decide +kernel
theorem dL_law_2446 : decode cL_law 2446 = .ok (.iaload, 1) := by decide +kernel
theorem dL_law_2447 : decode cL_law 2447 = .ok (.invokevirtual 305, 3) := by decide +kernel
theorem dL_law_2450 : decode cL_law 2450 = .ok (.istore 7, 2) := by decide +kernel
theorem dL_law_2452 : decode cL_law 2452 = .ok (.aload_n 2, 1) := by decide +kernel
theorem dL_law_2453 : decode cL_law 2453 = .ok (.invokevirtual 166, 3) := by decide +kernel
theorem dL_law_2456 : decode cL_law 2456 = .ok (.iload 6, 2) := by decide +kernel
theorem dL_law_2458 : decode cL_law 2458 = .ok (.if_icmp .eq 5, 3) := by decide +kernel
theorem dL_law_2461 : decode cL_law 2461 = .ok (.iconst 0, 1) := by decide +kernel
theorem dL_law_2462 : decode cL_law 2462 = .ok (.ireturn, 1) := by decide +kernel
theorem dL_law_2463 : decode cL_law 2463 = .ok (.iload 6, 2) := by decide +kernel
theorem dL_law_2465 : decode cL_law 2465 = .ok (.ifCond .ne 15, 3) := by decide +kernel
theorem dL_law_2468 : decode cL_law 2468 = .ok (.aload_n 3, 1) := by decide +kernel
theorem dL_law_2469 : decode cL_law 2469 = .ok (.iconst 0, 1) := by decide +kernel
theorem dL_law_2470 : decode cL_law 2470 = .ok (.laload, 1) := by decide +kernel
theorem dL_law_2471 : decode cL_law 2471 = .ok (.iload 7, 2) := by decide +kernel
theorem dL_law_2473 : decode cL_law 2473 = .ok (.i2l, 1) := by decide +kernel
theorem dL_law_2474 : decode cL_law 2474 = .ok (.lcmp, 1) := by decide +kernel
theorem dL_law_2475 : decode cL_law 2475 = .ok (.ifCond .eq 5, 3) := by decide +kernel
theorem dL_law_2478 : decode cL_law 2478 = .ok (.iconst 0, 1) := by decide +kernel
theorem dL_law_2479 : decode cL_law 2479 = .ok (.ireturn, 1) := by decide +kernel
theorem dL_law_2480 : decode cL_law 2480 = .ok (.goto 470, 3) := by decide +kernel
theorem dL_law_2483 : decode cL_law 2483 = .ok (.aload_n 1, 1) := by decide +kernel
theorem dL_law_2484 : decode cL_law 2484 = .ok (.aload_n 0, 1) := by decide +kernel
theorem dL_law_2485 : decode cL_law 2485 = .ok (.iload 5, 2) := by decide +kernel
theorem dL_law_2487 : decode cL_law 2487 = .ok (.iconst 1, 1) := by decide +kernel
theorem dL_law_2488 : decode cL_law 2488 = .ok (.iadd, 1) := by decide +kernel
theorem dL_law_2489 : decode cL_law 2489 = .ok (.iaload, 1) := by decide +kernel
theorem dL_law_2490 : decode cL_law 2490 = .ok (.aload_n 3, 1) := by decide +kernel
theorem dL_law_2491 : decode cL_law 2491 = .ok (.invokestatic 306, 3) := by decide +kernel
theorem dL_law_2494 : decode cL_law 2494 = .ok (.istore 6, 2) := by decide +kernel
theorem dL_law_2496 : decode cL_law 2496 = .ok (.aload_n 2, 1) := by decide +kernel
theorem dL_law_2497 : decode cL_law 2497 = .ok (.aload_n 0, 1) := by decide +kernel
theorem dL_law_2498 : decode cL_law 2498 = .ok (.iload 5, 2) := by decide +kernel
theorem dL_law_2500 : decode cL_law 2500 = .ok (.iconst 1, 1) := by decide +kernel
theorem dL_law_2501 : decode cL_law 2501 = .ok (.iadd, 1) := by decide +kernel
theorem dL_law_2502 : decode cL_law 2502 = .ok (.iaload, 1) := by decide +kernel
theorem dL_law_2503 : decode cL_law 2503 = .ok (.invokevirtual 308, 3) := by decide +kernel
theorem dL_law_2506 : decode cL_law 2506 = .ok (.istore 7, 2) := by decide +kernel
theorem dL_law_2508 : decode cL_law 2508 = .ok (.aload_n 2, 1) := by decide +kernel
theorem dL_law_2509 : decode cL_law 2509 = .ok (.invokevirtual 166, 3) := by decide +kernel
theorem dL_law_2512 : decode cL_law 2512 = .ok (.iload 6, 2) := by decide +kernel
theorem dL_law_2514 : decode cL_law 2514 = .ok (.if_icmp .eq 5, 3) := by decide +kernel
theorem dL_law_2517 : decode cL_law 2517 = .ok (.iconst 0, 1) := by decide +kernel
theorem dL_law_2518 : decode cL_law 2518 = .ok (.ireturn, 1) := by decide +kernel
theorem dL_law_2519 : decode cL_law 2519 = .ok (.iload 6, 2) := by decide +kernel
theorem dL_law_2521 : decode cL_law 2521 = .ok (.ifCond .ne 15, 3) := by decide +kernel
theorem dL_law_2524 : decode cL_law 2524 = .ok (.aload_n 3, 1) := by decide +kernel
theorem dL_law_2525 : decode cL_law 2525 = .ok (.iconst 0, 1) := by decide +kernel
theorem dL_law_2526 : decode cL_law 2526 = .ok (.laload, 1) := by decide +kernel
theorem dL_law_2527 : decode cL_law 2527 = .ok (.iload 7, 2) := by decide +kernel
theorem dL_law_2529 : decode cL_law 2529 = .ok (.i2l, 1) := by decide +kernel
theorem dL_law_2530 : decode cL_law 2530 = .ok (.lcmp, 1) := by decide +kernel
theorem dL_law_2531 : decode cL_law 2531 = .ok (.ifCond .eq 5, 3) := by decide +kernel
theorem dL_law_2534 : decode cL_law 2534 = .ok (.iconst 0, 1) := by decide +kernel
theorem dL_law_2535 : decode cL_law 2535 = .ok (.ireturn, 1) := by decide +kernel
theorem dL_law_2536 : decode cL_law 2536 = .ok (.goto 414, 3) := by decide +kernel
theorem dL_law_2539 : decode cL_law 2539 = .ok (.aload_n 1, 1) := by decide +kernel
theorem dL_law_2540 : decode cL_law 2540 = .ok (.invokevirtual 309, 3) := by decide +kernel
theorem dL_law_2543 : decode cL_law 2543 = .ok (.dstore 6, 2) := by decide +kernel
theorem dL_law_2545 : decode cL_law 2545 = .ok (.aload_n 2, 1) := by decide +kernel
theorem dL_law_2546 : decode cL_law 2546 = .ok (.invokevirtual 313, 3) := by decide +kernel
theorem dL_law_2549 : decode cL_law 2549 = .ok (.dstore 8, 2) := by decide +kernel
theorem dL_law_2551 : decode cL_law 2551 = .ok (.dload 6, 2) := by decide +kernel
theorem dL_law_2553 : decode cL_law 2553 = .ok (.dload 8, 2) := by decide +kernel
theorem dL_law_2555 : decode cL_law 2555 = .ok (.dcmp .l, 1) := by decide +kernel
theorem dL_law_2556 : decode cL_law 2556 = .ok (.ifCond .eq 21, 3) := by decide +kernel
theorem dL_law_2559 : decode cL_law 2559 = .ok (.dload 6, 2) := by decide +kernel
theorem dL_law_2561 : decode cL_law 2561 = .ok (.dload 6, 2) := by decide +kernel
theorem dL_law_2563 : decode cL_law 2563 = .ok (.dcmp .l, 1) := by decide +kernel
theorem dL_law_2564 : decode cL_law 2564 = .ok (.ifCond .eq 11, 3) := by decide +kernel
theorem dL_law_2567 : decode cL_law 2567 = .ok (.dload 8, 2) := by decide +kernel
theorem dL_law_2569 : decode cL_law 2569 = .ok (.dload 8, 2) := by decide +kernel
theorem dL_law_2571 : decode cL_law 2571 = .ok (.dcmp .l, 1) := by decide +kernel
theorem dL_law_2572 : decode cL_law 2572 = .ok (.ifCond .ne 5, 3) := by decide +kernel
theorem dL_law_2575 : decode cL_law 2575 = .ok (.iconst 0, 1) := by decide +kernel
theorem dL_law_2576 : decode cL_law 2576 = .ok (.ireturn, 1) := by decide +kernel
theorem dL_law_2577 : decode cL_law 2577 = .ok (.goto 373, 3) := by decide +kernel
theorem dL_law_2580 : decode cL_law 2580 = .ok (.aload_n 1, 1) := by decide +kernel
theorem dL_law_2581 : decode cL_law 2581 = .ok (.aload 4, 2) := by decide +kernel
theorem dL_law_2583 : decode cL_law 2583 = .ok (.invokestatic 314, 3) := by decide +kernel
theorem dL_law_2586 : decode cL_law 2586 = .ok (.istore 6, 2) := by decide +kernel
theorem dL_law_2588 : decode cL_law 2588 = .ok (.aload_n 2, 1) := by decide +kernel
theorem dL_law_2589 : decode cL_law 2589 = .ok (.invokevirtual 317, 3) := by decide +kernel
theorem dL_law_2592 : decode cL_law 2592 = .ok (.fstore 7, 2) := by decide +kernel
theorem dL_law_2594 : decode cL_law 2594 = .ok (.aload_n 2, 1) := by decide +kernel
theorem dL_law_2595 : decode cL_law 2595 = .ok (.invokevirtual 166, 3) := by decide +kernel
theorem dL_law_2598 : decode cL_law 2598 = .ok (.iload 6, 2) := by decide +kernel
theorem dL_law_2600 : decode cL_law 2600 = .ok (.if_icmp .eq 5, 3) := by decide +kernel
theorem dL_law_2603 : decode cL_law 2603 = .ok (.iconst 0, 1) := by decide +kernel
theorem dL_law_2604 : decode cL_law 2604 = .ok (.ireturn, 1) := by decide +kernel
theorem dL_law_2605 : decode cL_law 2605 = .ok (.iload 6, 2) := by decide +kernel
theorem dL_law_2607 : decode cL_law 2607 = .ok (.ifCond .ne 36, 3) := by decide +kernel
theorem dL_law_2610 : decode cL_law 2610 = .ok (.aload 4, 2) := by decide +kernel
theorem dL_law_2612 : decode cL_law 2612 = .ok (.iconst 0, 1) := by decide +kernel
theorem dL_law_2613 : decode cL_law 2613 = .ok (.daload, 1) := by decide +kernel
theorem dL_law_2614 : decode cL_law 2614 = .ok (.fload 7, 2) := by decide +kernel
theorem dL_law_2616 : decode cL_law 2616 = .ok (.f2d, 1) := by decide +kernel
theorem dL_law_2617 : decode cL_law 2617 = .ok (.dcmp .l, 1) := by decide +kernel
theorem dL_law_2618 : decode cL_law 2618 = .ok (.ifCond .eq 25, 3) := by decide +kernel
theorem dL_law_2621 : decode cL_law 2621 = .ok (.aload 4, 2) := by decide +kernel
theorem dL_law_2623 : decode cL_law 2623 = .ok (.iconst 0, 1) := by decide +kernel
theorem dL_law_2624 : decode cL_law 2624 = .ok (.daload, 1) := by decide +kernel
theorem dL_law_2625 : decode cL_law 2625 = .ok (.aload 4, 2) := by decide +kernel
theorem dL_law_2627 : decode cL_law 2627 = .ok (.iconst 0, 1) := by decide +kernel
theorem dL_law_2628 : decode cL_law 2628 = .ok (.daload, 1) := by decide +kernel
theorem dL_law_2629 : decode cL_law 2629 = .ok (.dcmp .l, 1) := by decide +kernel
theorem dL_law_2630 : decode cL_law 2630 = .ok (.ifCond .eq 11, 3) := by decide +kernel
theorem dL_law_2633 : decode cL_law 2633 = .ok (.fload 7, 2) := by decide +kernel
theorem dL_law_2635 : decode cL_law 2635 = .ok (.fload 7, 2) := by decide +kernel
theorem dL_law_2637 : decode cL_law 2637 = .ok (.fcmp .l, 1) := by decide +kernel
theorem dL_law_2638 : decode cL_law 2638 = .ok (.ifCond .ne 5, 3) := by decide +kernel
theorem dL_law_2641 : decode cL_law 2641 = .ok (.iconst 0, 1) := by decide +kernel
theorem dL_law_2642 : decode cL_law 2642 = .ok (.ireturn, 1) := by decide +kernel
theorem dL_law_2643 : decode cL_law 2643 = .ok (.goto 307, 3) := by decide +kernel
theorem dL_law_2646 : decode cL_law 2646 = .ok (.aload_n 1, 1) := by decide +kernel
theorem dL_law_2647 : decode cL_law 2647 = .ok (.invokevirtual 318, 3) := by decide +kernel
theorem dL_law_2650 : decode cL_law 2650 = .ok (.aload_n 2, 1) := by decide +kernel
theorem dL_law_2651 : decode cL_law 2651 = .ok (.invokevirtual 322, 3) := by decide +kernel
theorem dL_law_2654 : decode cL_law 2654 = .ok (.if_icmp .eq 296, 3) := by decide +kernel
theorem dL_law_2657 : decode cL_law 2657 = .ok (.iconst 0, 1) := by decide +kernel
theorem dL_law_2658 : decode cL_law 2658 = .ok (.ireturn, 1) := by decide +kernel
theorem dL_law_2659 : decode cL_law 2659 = .ok (.aload_n 1, 1) := by decide +kernel
theorem dL_law_2660 : decode cL_law 2660 = .ok (.aload_n 0, 1) := by decide +kernel
theorem dL_law_2661 : decode cL_law 2661 = .ok (.iload 5, 2) := by decide +kernel
theorem dL_law_2663 : decode cL_law 2663 = .ok (.iconst 1, 1) := by decide +kernel
theorem dL_law_2664 : decode cL_law 2664 = .ok (.iadd, 1) := by decide +kernel
theorem dL_law_2665 : decode cL_law 2665 = .ok (.iaload, 1) := by decide +kernel
theorem dL_law_2666 : decode cL_law 2666 = .ok (.i2c, 1) := by decide +kernel
theorem dL_law_2667 : decode cL_law 2667 = .ok (.aload_n 3, 1) := by decide +kernel
theorem dL_law_2668 : decode cL_law 2668 = .ok (.invokestatic 323, 3) := by decide +kernel
theorem dL_law_2671 : decode cL_law 2671 = .ok (.istore 6, 2) := by decide +kernel
theorem dL_law_2673 : decode cL_law 2673 = .ok (.aload_n 2, 1) := by decide +kernel
theorem dL_law_2674 : decode cL_law 2674 = .ok (.aload_n 0, 1) := by decide +kernel
theorem dL_law_2675 : decode cL_law 2675 = .ok (.iload 5, 2) := by decide +kernel
theorem dL_law_2677 : decode cL_law 2677 = .ok (.iconst 1, 1) := by decide +kernel
theorem dL_law_2678 : decode cL_law 2678 = .ok (.iadd, 1) := by decide +kernel
theorem dL_law_2679 : decode cL_law 2679 = .ok (.iaload, 1) := by decide +kernel
theorem dL_law_2680 : decode cL_law 2680 = .ok (.i2c, 1) := by decide +kernel
theorem dL_law_2681 : decode cL_law 2681 = .ok (.invokevirtual 326, 3) := by decide +kernel
theorem dL_law_2684 : decode cL_law 2684 = .ok (.istore 7, 2) := by decide +kernel
theorem dL_law_2686 : decode cL_law 2686 = .ok (.aload_n 2, 1) := by decide +kernel
theorem dL_law_2687 : decode cL_law 2687 = .ok (.invokevirtual 166, 3) := by decide +kernel
theorem dL_law_2690 : decode cL_law 2690 = .ok (.iload 6, 2) := by decide +kernel
theorem dL_law_2692 : decode cL_law 2692 = .ok (.if_icmp .eq 5, 3) := by decide +kernel
theorem dL_law_2695 : decode cL_law 2695 = .ok (.iconst 0, 1) := by decide +kernel
theorem dL_law_2696 : decode cL_law 2696 = .ok (.ireturn, 1) := by decide +kernel
theorem dL_law_2697 : decode cL_law 2697 = .ok (.iload 6, 2) := by decide +kernel
theorem dL_law_2699 : decode cL_law 2699 = .ok (.ifCond .ne 15, 3) := by decide +kernel
theorem dL_law_2702 : decode cL_law 2702 = .ok (.aload_n 3, 1) := by decide +kernel
theorem dL_law_2703 : decode cL_law 2703 = .ok (.iconst 0, 1) := by decide +kernel
theorem dL_law_2704 : decode cL_law 2704 = .ok (.laload, 1) := by decide +kernel
theorem dL_law_2705 : decode cL_law 2705 = .ok (.iload 7, 2) := by decide +kernel
theorem dL_law_2707 : decode cL_law 2707 = .ok (.i2l, 1) := by decide +kernel
theorem dL_law_2708 : decode cL_law 2708 = .ok (.lcmp, 1) := by decide +kernel
theorem dL_law_2709 : decode cL_law 2709 = .ok (.ifCond .eq 5, 3) := by decide +kernel
theorem dL_law_2712 : decode cL_law 2712 = .ok (.iconst 0, 1) := by decide +kernel
theorem dL_law_2713 : decode cL_law 2713 = .ok (.ireturn, 1) := by decide +kernel
theorem dL_law_2714 : decode cL_law 2714 = .ok (.goto 236, 3) := by decide +kernel
theorem dL_law_2717 : decode cL_law 2717 = .ok (.aload_n 1, 1) := by decide +kernel
theorem dL_law_2718 : decode cL_law 2718 = .ok (.aload_n 3, 1) := by decide +kernel
theorem dL_law_2719 : decode cL_law 2719 = .ok (.invokestatic 327, 3) := by decide +kernel
theorem dL_law_2722 : decode cL_law 2722 = .ok (.istore 6, 2) := by decide +kernel
theorem dL_law_2724 : decode cL_law 2724 = .ok (.aload_n 2, 1) := by decide +kernel
theorem dL_law_2725 : decode cL_law 2725 = .ok (.invokevirtual 329, 3) := by decide +kernel
theorem dL_law_2728 : decode cL_law 2728 = .ok (.istore 7, 2) := by decide +kernel
theorem dL_law_2730 : decode cL_law 2730 = .ok (.aload_n 2, 1) := by decide +kernel
theorem dL_law_2731 : decode cL_law 2731 = .ok (.invokevirtual 166, 3) := by decide +kernel
theorem dL_law_2734 : decode cL_law 2734 = .ok (.iload 6, 2) := by decide +kernel
theorem dL_law_2736 : decode cL_law 2736 = .ok (.if_icmp .eq 5, 3) := by decide +kernel
theorem dL_law_2739 : decode cL_law 2739 = .ok (.iconst 0, 1) := by decide +kernel
theorem dL_law_2740 : decode cL_law 2740 = .ok (.ireturn, 1) := by decide +kernel
theorem dL_law_2741 : decode cL_law 2741 = .ok (.iload 6, 2) := by decide +kernel
theorem dL_law_2743 : decode cL_law 2743 = .ok (.ifCond .ne 15, 3) := by decide +kernel
theorem dL_law_2746 : decode cL_law 2746 = .ok (.aload_n 3, 1) := by decide +kernel
theorem dL_law_2747 : decode cL_law 2747 = .ok (.iconst 0, 1) := by decide +kernel
theorem dL_law_2748 : decode cL_law 2748 = .ok (.laload, 1) := by decide +kernel
theorem dL_law_2749 : decode cL_law 2749 = .ok (.iload 7, 2) := by decide +kernel
theorem dL_law_2751 : decode cL_law 2751 = .ok (.i2l, 1) := by decide +kernel
theorem dL_law_2752 : decode cL_law 2752 = .ok (.lcmp, 1) := by decide +kernel
theorem dL_law_2753 : decode cL_law 2753 = .ok (.ifCond .eq 5, 3) := by decide +kernel
theorem dL_law_2756 : decode cL_law 2756 = .ok (.iconst 0, 1) := by decide +kernel
theorem dL_law_2757 : decode cL_law 2757 = .ok (.ireturn, 1) := by decide +kernel
theorem dL_law_2758 : decode cL_law 2758 = .ok (.goto 192, 3) := by decide +kernel
theorem dL_law_2761 : decode cL_law 2761 = .ok (.aload_n 1, 1) := by decide +kernel
theorem dL_law_2762 : decode cL_law 2762 = .ok (.aload_n 3, 1) := by decide +kernel
theorem dL_law_2763 : decode cL_law 2763 = .ok (.invokestatic 330, 3) := by decide +kernel
theorem dL_law_2766 : decode cL_law 2766 = .ok (.istore 6, 2) := by decide +kernel
theorem dL_law_2768 : decode cL_law 2768 = .ok (.aload_n 2, 1) := by decide +kernel
theorem dL_law_2769 : decode cL_law 2769 = .ok (.invokevirtual 332, 3) := by decide +kernel
theorem dL_law_2772 : decode cL_law 2772 = .ok (.istore 7, 2) := by decide +kernel
theorem dL_law_2774 : decode cL_law 2774 = .ok (.aload_n 2, 1) := by decide +kernel
theorem dL_law_2775 : decode cL_law 2775 = .ok (.invokevirtual 166, 3) := by decide +kernel
theorem dL_law_2778 : decode cL_law 2778 = .ok (.iload 6, 2) := by decide +kernel
theorem dL_law_2780 : decode cL_law 2780 = .ok (.if_icmp .eq 5, 3) := by decide +kernel
theorem dL_law_2783 : decode cL_law 2783 = .ok (.iconst 0, 1) := by decide +kernel
theorem dL_law_2784 : decode cL_law 2784 = .ok (.ireturn, 1) := by decide +kernel
theorem dL_law_2785 : decode cL_law 2785 = .ok (.iload 6, 2) := by decide +kernel
theorem dL_law_2787 : decode cL_law 2787 = .ok (.ifCond .ne 15, 3) := by decide +kernel
theorem dL_law_2790 : decode cL_law 2790 = .ok (.aload_n 3, 1) := by decide +kernel
theorem dL_law_2791 : decode cL_law 2791 = .ok (.iconst 0, 1) := by decide +kernel
theorem dL_law_2792 : decode cL_law 2792 = .ok (.laload, 1) := by decide +kernel
theorem dL_law_2793 : decode cL_law 2793 = .ok (.iload 7, 2) := by decide +kernel
theorem dL_law_2795 : decode cL_law 2795 = .ok (.i2l, 1) := by decide +kernel
theorem dL_law_2796 : decode cL_law 2796 = .ok (.lcmp, 1) := by decide +kernel
theorem dL_law_2797 : decode cL_law 2797 = .ok (.ifCond .eq 5, 3) := by decide +kernel
theorem dL_law_2800 : decode cL_law 2800 = .ok (.iconst 0, 1) := by decide +kernel
theorem dL_law_2801 : decode cL_law 2801 = .ok (.ireturn, 1) := by decide +kernel
theorem dL_law_2802 : decode cL_law 2802 = .ok (.goto 148, 3) := by decide +kernel
theorem dL_law_2805 : decode cL_law 2805 = .ok (.aload_n 1, 1) := by decide +kernel
theorem dL_law_2806 : decode cL_law 2806 = .ok (.aload_n 3, 1) := by decide +kernel
theorem dL_law_2807 : decode cL_law 2807 = .ok (.invokestatic 333, 3) := by decide +kernel
theorem dL_law_2810 : decode cL_law 2810 = .ok (.istore 6, 2) := by decide +kernel
theorem dL_law_2812 : decode cL_law 2812 = .ok (.aload_n 2, 1) := by decide +kernel
theorem dL_law_2813 : decode cL_law 2813 = .ok (.invokevirtual 335, 3) := by decide +kernel
theorem dL_law_2816 : decode cL_law 2816 = .ok (.istore 7, 2) := by decide +kernel
theorem dL_law_2818 : decode cL_law 2818 = .ok (.aload_n 2, 1) := by decide +kernel
theorem dL_law_2819 : decode cL_law 2819 = .ok (.invokevirtual 166, 3) := by decide +kernel
theorem dL_law_2822 : decode cL_law 2822 = .ok (.iload 6, 2) := by decide +kernel
theorem dL_law_2824 : decode cL_law 2824 = .ok (.if_icmp .eq 5, 3) := by decide +kernel
theorem dL_law_2827 : decode cL_law 2827 = .ok (.iconst 0, 1) := by decide +kernel
theorem dL_law_2828 : decode cL_law 2828 = .ok (.ireturn, 1) := by decide +kernel
theorem dL_law_2829 : decode cL_law 2829 = .ok (.iload 6, 2) := by decide +kernel
theorem dL_law_2831 : decode cL_law 2831 = .ok (.ifCond .ne 15, 3) := by decide +kernel
theorem dL_law_2834 : decode cL_law 2834 = .ok (.aload_n 3, 1) := by decide +kernel
theorem dL_law_2835 : decode cL_law 2835 = .ok (.iconst 0, 1) := by decide +kernel
theorem dL_law_2836 : decode cL_law 2836 = .ok (.laload, 1) := by decide +kernel
theorem dL_law_2837 : decode cL_law 2837 = .ok (.iload 7, 2) := by decide +kernel
theorem dL_law_2839 : decode cL_law 2839 = .ok (.i2l, 1) := by decide +kernel
theorem dL_law_2840 : decode cL_law 2840 = .ok (.lcmp, 1) := by decide +kernel
theorem dL_law_2841 : decode cL_law 2841 = .ok (.ifCond .eq 5, 3) := by decide +kernel
theorem dL_law_2844 : decode cL_law 2844 = .ok (.iconst 0, 1) := by decide +kernel
theorem dL_law_2845 : decode cL_law 2845 = .ok (.ireturn, 1) := by decide +kernel
theorem dL_law_2846 : decode cL_law 2846 = .ok (.goto 104, 3) := by decide +kernel
theorem dL_law_2849 : decode cL_law 2849 = .ok (.aload_n 1, 1) := by decide +kernel
theorem dL_law_2850 : decode cL_law 2850 = .ok (.aload_n 3, 1) := by decide +kernel
theorem dL_law_2851 : decode cL_law 2851 = .ok (.invokestatic 336, 3) := by decide +kernel
theorem dL_law_2854 : decode cL_law 2854 = .ok (.istore 6, 2) := by decide +kernel
theorem dL_law_2856 : decode cL_law 2856 = .ok (.aload_n 2, 1) := by decide +kernel
theorem dL_law_2857 : decode cL_law 2857 = .ok (.invokevirtual 338, 3) := by decide +kernel
theorem dL_law_2860 : decode cL_law 2860 = .ok (.istore 7, 2) := by decide +kernel
theorem dL_law_2862 : decode cL_law 2862 = .ok (.aload_n 2, 1) := by decide +kernel
theorem dL_law_2863 : decode cL_law 2863 = .ok (.invokevirtual 166, 3) := by decide +kernel
theorem dL_law_2866 : decode cL_law 2866 = .ok (.iload 6, 2) := by decide +kernel
theorem dL_law_2868 : decode cL_law 2868 = .ok (.if_icmp .eq 5, 3) := by decide +kernel
theorem dL_law_2871 : decode cL_law 2871 = .ok (.iconst 0, 1) := by decide +kernel
theorem dL_law_2872 : decode cL_law 2872 = .ok (.ireturn, 1) := by decide +kernel
theorem dL_law_2873 : decode cL_law 2873 = .ok (.iload 6, 2) := by decide +kernel
theorem dL_law_2875 : decode cL_law 2875 = .ok (.ifCond .ne 15, 3) := by decide +kernel
theorem dL_law_2878 : decode cL_law 2878 = .ok (.aload_n 3, 1) := by decide +kernel
theorem dL_law_2879 : decode cL_law 2879 = .ok (.iconst 0, 1) := by decide +kernel
theorem dL_law_2880 : decode cL_law 2880 = .ok (.laload, 1) := by decide +kernel
theorem dL_law_2881 : decode cL_law 2881 = .ok (.iload 7, 2) := by decide +kernel
theorem dL_law_2883 : decode cL_law 2883 = .ok (.i2l, 1) := by decide +kernel
theorem dL_law_2884 : decode cL_law 2884 = .ok (.lcmp, 1) := by decide +kernel
theorem dL_law_2885 : decode cL_law 2885 = .ok (.ifCond .eq 5, 3) := by decide +kernel
theorem dL_law_2888 : decode cL_law 2888 = .ok (.iconst 0, 1) := by decide +kernel
theorem dL_law_2889 : decode cL_law 2889 = .ok (.ireturn, 1) := by decide +kernel
theorem dL_law_2890 : decode cL_law 2890 = .ok (.goto 60, 3) := by decide +kernel
theorem dL_law_2893 : decode cL_law 2893 = .ok (.aload_n 1, 1) := by decide +kernel
theorem dL_law_2894 : decode cL_law 2894 = .ok (.invokevirtual 339, 3) := by decide +kernel
theorem dL_law_2897 : decode cL_law 2897 = .ok (.aload_n 2, 1) := by decide +kernel
theorem dL_law_2898 : decode cL_law 2898 = .ok (.invokevirtual 342, 3) := by decide +kernel
theorem dL_law_2901 : decode cL_law 2901 = .ok (.if_icmp .eq 49, 3) := by decide +kernel
theorem dL_law_2904 : decode cL_law 2904 = .ok (.iconst 0, 1) := by decide +kernel
theorem dL_law_2905 : decode cL_law 2905 = .ok (.ireturn, 1) := by decide +kernel
theorem dL_law_2906 : decode cL_law 2906 = .ok (.aload_n 1, 1) := by decide +kernel
theorem dL_law_2907 : decode cL_law 2907 = .ok (.aload_n 3, 1) := by decide +kernel
theorem dL_law_2908 : decode cL_law 2908 = .ok (.invokestatic 343, 3) := by decide +kernel
theorem dL_law_2911 : decode cL_law 2911 = .ok (.istore 6, 2) := by decide +kernel
theorem dL_law_2913 : decode cL_law 2913 = .ok (.aload_n 2, 1) := by decide +kernel
theorem dL_law_2914 : decode cL_law 2914 = .ok (.invokevirtual 345, 3) := by decide +kernel
theorem dL_law_2917 : decode cL_law 2917 = .ok (.istore 7, 2) := by decide +kernel
theorem dL_law_2919 : decode cL_law 2919 = .ok (.aload_n 2, 1) := by decide +kernel
theorem dL_law_2920 : decode cL_law 2920 = .ok (.invokevirtual 166, 3) := by decide +kernel
theorem dL_law_2923 : decode cL_law 2923 = .ok (.iload 6, 2) := by decide +kernel
theorem dL_law_2925 : decode cL_law 2925 = .ok (.if_icmp .eq 5, 3) := by decide +kernel
theorem dL_law_2928 : decode cL_law 2928 = .ok (.iconst 0, 1) := by decide +kernel
theorem dL_law_2929 : decode cL_law 2929 = .ok (.ireturn, 1) := by decide +kernel
theorem dL_law_2930 : decode cL_law 2930 = .ok (.iload 6, 2) := by decide +kernel
theorem dL_law_2932 : decode cL_law 2932 = .ok (.ifCond .ne 15, 3) := by decide +kernel
theorem dL_law_2935 : decode cL_law 2935 = .ok (.aload_n 3, 1) := by decide +kernel
theorem dL_law_2936 : decode cL_law 2936 = .ok (.iconst 0, 1) := by decide +kernel
theorem dL_law_2937 : decode cL_law 2937 = .ok (.laload, 1) := by decide +kernel
theorem dL_law_2938 : decode cL_law 2938 = .ok (.iload 7, 2) := by decide +kernel
theorem dL_law_2940 : decode cL_law 2940 = .ok (.i2l, 1) := by decide +kernel
theorem dL_law_2941 : decode cL_law 2941 = .ok (.lcmp, 1) := by decide +kernel
theorem dL_law_2942 : decode cL_law 2942 = .ok (.ifCond .eq 5, 3) := by decide +kernel
theorem dL_law_2945 : decode cL_law 2945 = .ok (.iconst 0, 1) := by decide +kernel
theorem dL_law_2946 : decode cL_law 2946 = .ok (.ireturn, 1) := by decide +kernel
theorem dL_law_2947 : decode cL_law 2947 = .ok (.goto 3, 3) := by decide +kernel
theorem dL_law_2950 : decode cL_law 2950 = .ok (.iinc 5 4, 3) := by decide +kernel
theorem dL_law_2953 : decode cL_law 2953 = .ok (.goto (-2925), 3) := by decide +kernel
theorem dL_law_2956 : decode cL_law 2956 = .ok (.iconst 1, 1) := by decide +kernel
theorem dL_law_2957 : decode cL_law 2957 = .ok (.ireturn, 1) := by decide +kernel
abbrev vwCl : List vw_C := [(RJ0, TJ0, 4), (RJ4, TJ4, 4), (RJx00060, TJx00060, 6), (RJx7c733, TJx7c733, 6), (RX0, TX0, 3), (RX1, TX1, 3), (RX2, TX2, 1), (RX3, TX3, 5), (RX4, TX4, 1), (RX5, TX5, 10), (RX6, TX6, 17)]
