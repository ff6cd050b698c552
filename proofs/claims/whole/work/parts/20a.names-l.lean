set_option maxRecDepth 20000 in
theorem ggL_addHardMoon_X5_addHardMoon : GoodIn wsL_addHardMoon wsX5_addHardMoon := goodIn_ca (goodIn_ca (goodIn_ca (goodIn_r _ [6, 7, 8, 9, 5, 10, 11, 12, 13, 14, 15, 16, 17, 18, 19, 20, 21, 22, 23, 24, 25, 26, 27, 28, 29, 30, 31, 32, 33, 34, 35, 36, 37, 38, 39, 40, 41, 42, 43, 44, 45, 46, 47, 48, 49, 50, 51, 52, 53, 54, 55, 56, 57, 58, 59, 60, 61, 62, 63, 64, 65, 66, 67, 68, 69, 70, 71, 72, 73, 74, 75, 76, 77, 78, 79, 80] (by decide +kernel) (by decide +kernel)) (goodIn_sub (fun _ h => List.mem_cons_of_mem _ (List.mem_append_left _ (List.mem_append_right _ h))) (by decide +kernel))) (goodIn_sub (fun _ h => List.mem_cons_of_mem _ (List.mem_append_right _ h)) (by decide +kernel))) (goodIn_sub (fun _ h => List.mem_cons_of_mem _ (List.mem_append_left _ (List.mem_append_left _ (List.mem_append_right _ h)))) (by decide +kernel))
set_option maxRecDepth 20000 in
theorem gL_addHardMoon_X5_addHardMoon : GoodIn wsL_addHardMoon (wsV RL 7 RX5 yX5_addHardMoon wsX5_addHardMoon) := goodIn_app (goodIn_of _ (by decide +kernel)) ggL_addHardMoon_X5_addHardMoon
theorem dL_addHardMoon_0 : decode cL_addHardMoon 0 = .ok (.aload 4, 2) := by decide +kernel
theorem dL_addHardMoon_2 : decode cL_addHardMoon 2 = .ok (.iconst 0, 1) := by decide +kernel
theorem dL_addHardMoon_3 : decode cL_addHardMoon 3 = .ok (.aload_n 0, 1) := by decide +kernel
theorem dL_addHardMoon_4 : decode cL_addHardMoon 4 = .ok (.iload_n 1, 1) := by decide +kernel
theorem dL_addHardMoon_5 : decode cL_addHardMoon 5 = .ok (.iload_n 2, 1) := by decide +kernel
theorem dL_addHardMoon_6 : decode cL_addHardMoon 6 = .ok (.iload_n 3, 1) := by decide +kernel
theorem dL_addHardMoon_7 : decode cL_addHardMoon 7 = .ok (.invokevirtual 7, 3) := by decide +kernel
theorem dL_addHardMoon_10 : decode cL_addHardMoon 10 = .ok (.i2l, 1) := by decide +kernel
theorem dL_addHardMoon_11 : decode cL_addHardMoon 11 = .ok (.lastore, 1) := by decide +kernel
theorem dL_addHardMoon_12 : decode cL_addHardMoon 12 = .ok (.goto 11, 3) := by decide +kernel
theorem dL_addHardMoon_15 : decode cL_addHardMoon 15 = .ok (.astore 5, 2) := by decide +kernel
theorem dL_addHardMoon_17 : decode cL_addHardMoon 17 = .ok (.iconst 1, 1) := by decide +kernel
theorem dL_addHardMoon_18 : decode cL_addHardMoon 18 = .ok (.ireturn, 1) := by decide +kernel
theorem dL_addHardMoon_19 : decode cL_addHardMoon 19 = .ok (.astore 5, 2) := by decide +kernel
theorem dL_addHardMoon_21 : decode cL_addHardMoon 21 = .ok (.iconst 2, 1) := by decide +kernel
theorem dL_addHardMoon_22 : decode cL_addHardMoon 22 = .ok (.ireturn, 1) := by decide +kernel
theorem dL_addHardMoon_23 : decode cL_addHardMoon 23 = .ok (.iconst 0, 1) := by decide +kernel
theorem dL_addHardMoon_24 : decode cL_addHardMoon 24 = .ok (.ireturn, 1) := by decide +kernel
set_option maxRecDepth 20000 in
theorem ggL_addSoftMoon_X5_addSoftMoon : GoodIn wsL_addSoftMoon wsX5_addSoftMoon := goodIn_ca (goodIn_ca (goodIn_ca (goodIn_r _ [6, 7, 8, 9, 5, 10, 11, 12, 13, 14, 15, 16, 17, 18, 19, 20, 21, 22, 23, 24, 25, 26, 27, 28, 29, 30, 31, 32, 33, 34, 35, 36, 37, 38, 39, 40, 41, 42, 43, 44, 45, 46, 47, 48, 49, 50, 51, 52, 53, 54, 55, 56, 57, 58, 59, 60, 61, 62, 63, 64, 65, 66, 67, 68, 69, 70, 71, 72, 73, 74, 75, 76, 77, 78, 79, 80] (by decide +kernel) (by decide +kernel)) (goodIn_sub (fun _ h => List.mem_cons_of_mem _ (List.mem_append_left _ (List.mem_append_right _ h))) (by decide +kernel))) (goodIn_sub (fun _ h => List.mem_cons_of_mem _ (List.mem_append_right _ h)) (by decide +kernel))) (goodIn_sub (fun _ h => List.mem_cons_of_mem _ (List.mem_append_left _ (List.mem_append_left _ (List.mem_append_right _ h)))) (by decide +kernel))
set_option maxRecDepth 20000 in
theorem gL_addSoftMoon_X5_addSoftMoon : GoodIn wsL_addSoftMoon (wsV RL 17 RX5 yX5_addSoftMoon wsX5_addSoftMoon) := goodIn_app (goodIn_of _ (by decide +kernel)) ggL_addSoftMoon_X5_addSoftMoon
theorem dL_addSoftMoon_0 : decode cL_addSoftMoon 0 = .ok (.aload 4, 2) := by decide +kernel
theorem dL_addSoftMoon_2 : decode cL_addSoftMoon 2 = .ok (.iconst 0, 1) := by decide +kernel
theorem dL_addSoftMoon_3 : decode cL_addSoftMoon 3 = .ok (.aload_n 0, 1) := by decide +kernel
theorem dL_addSoftMoon_4 : decode cL_addSoftMoon 4 = .ok (.iload_n 1, 1) := by decide +kernel
theorem dL_addSoftMoon_5 : decode cL_addSoftMoon 5 = .ok (.iload_n 2, 1) := by decide +kernel
theorem dL_addSoftMoon_6 : decode cL_addSoftMoon 6 = .ok (.iload_n 3, 1) := by decide +kernel
theorem dL_addSoftMoon_7 : decode cL_addSoftMoon 7 = .ok (.invokevirtual 17, 3) := by decide +kernel
theorem dL_addSoftMoon_10 : decode cL_addSoftMoon 10 = .ok (.i2l, 1) := by decide +kernel
theorem dL_addSoftMoon_11 : decode cL_addSoftMoon 11 = .ok (.lastore, 1) := by decide +kernel
theorem dL_addSoftMoon_12 : decode cL_addSoftMoon 12 = .ok (.goto 11, 3) := by decide +kernel
theorem dL_addSoftMoon_15 : decode cL_addSoftMoon 15 = .ok (.astore 5, 2) := by decide +kernel
theorem dL_addSoftMoon_17 : decode cL_addSoftMoon 17 = .ok (.iconst 1, 1) := by decide +kernel
theorem dL_addSoftMoon_18 : decode cL_addSoftMoon 18 = .ok (.ireturn, 1) := by decide +kernel
theorem dL_addSoftMoon_19 : decode cL_addSoftMoon 19 = .ok (.astore 5, 2) := by decide +kernel
theorem dL_addSoftMoon_21 : decode cL_addSoftMoon 21 = .ok (.iconst 2, 1) := by decide +kernel
theorem dL_addSoftMoon_22 : decode cL_addSoftMoon 22 = .ok (.ireturn, 1) := by decide +kernel
theorem dL_addSoftMoon_23 : decode cL_addSoftMoon 23 = .ok (.iconst 0, 1) := by decide +kernel
theorem dL_addSoftMoon_24 : decode cL_addSoftMoon 24 = .ok (.ireturn, 1) := by decide +kernel
set_option maxRecDepth 20000 in
theorem ggL_addBubbleMoon_X5_addBubbleMoon : GoodIn wsL_addBubbleMoon wsX5_addBubbleMoon := goodIn_ca (goodIn_ca (goodIn_ca (goodIn_r _ [6, 7, 8, 9, 5, 10, 11, 12, 13, 14, 15, 16, 17, 18, 19, 20, 21, 22, 23, 24, 25, 26, 27, 28, 29, 30, 31, 32, 33, 34, 35, 36, 37, 38, 39, 40, 41, 42, 43, 44, 45, 46, 47, 48, 49, 50, 51, 52, 53, 54, 55, 56, 57, 58, 59, 60, 61, 62, 63, 64, 65, 66, 67, 68, 69, 70, 71, 72, 73, 74, 75, 76, 77, 78, 79, 80] (by decide +kernel) (by decide +kernel)) (goodIn_sub (fun _ h => List.mem_cons_of_mem _ (List.mem_append_left _ (List.mem_append_right _ h))) (by decide +kernel))) (goodIn_sub (fun _ h => List.mem_cons_of_mem _ (List.mem_append_right _ h)) (by decide +kernel))) (goodIn_sub (fun _ h => List.mem_cons_of_mem _ (List.mem_append_left _ (List.mem_append_left _ (List.mem_append_right _ h)))) (by decide +kernel))
set_option maxRecDepth 20000 in
theorem gL_addBubbleMoon_X5_addBubbleMoon : GoodIn wsL_addBubbleMoon (wsV RL 20 RX5 yX5_addBubbleMoon wsX5_addBubbleMoon) := goodIn_app (goodIn_of _ (by decide +kernel)) ggL_addBubbleMoon_X5_addBubbleMoon
theorem dL_addBubbleMoon_0 : decode cL_addBubbleMoon 0 = .ok (.aload 4, 2) := by decide +kernel
theorem dL_addBubbleMoon_2 : decode cL_addBubbleMoon 2 = .ok (.iconst 0, 1) := by decide +kernel
theorem dL_addBubbleMoon_3 : decode cL_addBubbleMoon 3 = .ok (.aload_n 0, 1) := by decide +kernel
theorem dL_addBubbleMoon_4 : decode cL_addBubbleMoon 4 = .ok (.iload_n 1, 1) := by decide +kernel
theorem dL_addBubbleMoon_5 : decode cL_addBubbleMoon 5 = .ok (.iload_n 2, 1) := by decide +kernel
theorem dL_addBubbleMoon_6 : decode cL_addBubbleMoon 6 = .ok (.iload_n 3, 1) := by decide +kernel
theorem dL_addBubbleMoon_7 : decode cL_addBubbleMoon 7 = .ok (.invokevirtual 20, 3) := by decide +kernel
theorem dL_addBubbleMoon_10 : decode cL_addBubbleMoon 10 = .ok (.i2l, 1) := by decide +kernel
theorem dL_addBubbleMoon_11 : decode cL_addBubbleMoon 11 = .ok (.lastore, 1) := by decide +kernel
theorem dL_addBubbleMoon_12 : decode cL_addBubbleMoon 12 = .ok (.goto 11, 3) := by decide +kernel
theorem dL_addBubbleMoon_15 : decode cL_addBubbleMoon 15 = .ok (.astore 5, 2) := by decide +kernel
theorem dL_addBubbleMoon_17 : decode cL_addBubbleMoon 17 = .ok (.iconst 1, 1) := by decide +kernel
theorem dL_addBubbleMoon_18 : decode cL_addBubbleMoon 18 = .ok (.ireturn, 1) := by decide +kernel
theorem dL_addBubbleMoon_19 : decode cL_addBubbleMoon 19 = .ok (.astore 5, 2) := by decide +kernel
theorem dL_addBubbleMoon_21 : decode cL_addBubbleMoon 21 = .ok (.iconst 2, 1) := by decide +kernel
theorem dL_addBubbleMoon_22 : decode cL_addBubbleMoon 22 = .ok (.ireturn, 1) := by decide +kernel
theorem dL_addBubbleMoon_23 : decode cL_addBubbleMoon 23 = .ok (.iconst 0, 1) := by decide +kernel
theorem dL_addBubbleMoon_24 : decode cL_addBubbleMoon 24 = .ok (.ireturn, 1) := by decide +kernel
set_option maxRecDepth 20000 in
theorem ggL_removeMoon_X5_removeMoon : GoodIn wsL_removeMoon wsX5_removeMoon := goodIn_ca (goodIn_ca (goodIn_r _ [6, 7, 8, 9, 10, 11, 12, 5, 13, 14, 15, 16, 17, 18, 19, 20, 21, 22, 23, 24, 25, 26, 27, 28, 29, 30, 31, 32, 33, 34, 35, 36, 37, 38, 39, 40, 41, 42, 43, 44, 45, 46, 47, 48, 49, 50, 51, 52, 53, 54, 55, 56, 57, 58, 59, 60, 61, 62, 63, 64, 65, 66, 67, 68, 69, 70, 71, 72, 73] (by decide +kernel) (by decide +kernel)) (goodIn_sub (fun _ h => List.mem_cons_of_mem _ (List.mem_append_right _ h)) (by decide +kernel))) (goodIn_sub (fun _ h => List.mem_cons_of_mem _ (List.mem_append_left _ (List.mem_append_right _ h))) (by decide +kernel))
set_option maxRecDepth 20000 in
theorem gL_removeMoon_X5_removeMoon : GoodIn wsL_removeMoon (wsV RL 23 RX5 yX5_removeMoon wsX5_removeMoon) := goodIn_app (goodIn_of _ (by decide +kernel)) ggL_removeMoon_X5_removeMoon
theorem dL_removeMoon_0 : decode cL_removeMoon 0 = .ok (.aload_n 2, 1) := by decide +kernel
theorem dL_removeMoon_1 : decode cL_removeMoon 1 = .ok (.iconst 0, 1) := by decide +kernel
theorem dL_removeMoon_2 : decode cL_removeMoon 2 = .ok (.aload_n 0, 1) := by decide +kernel
theorem dL_removeMoon_3 : decode cL_removeMoon 3 = .ok (.iload_n 1, 1) := by decide +kernel
theorem dL_removeMoon_4 : decode cL_removeMoon 4 = .ok (.invokevirtual 23, 3) := by decide +kernel
theorem dL_removeMoon_7 : decode cL_removeMoon 7 = .ok (.i2l, 1) := by decide +kernel
theorem dL_removeMoon_8 : decode cL_removeMoon 8 = .ok (.lastore, 1) := by decide +kernel
theorem dL_removeMoon_9 : decode cL_removeMoon 9 = .ok (.goto 6, 3) := by decide +kernel
theorem dL_removeMoon_12 : decode cL_removeMoon 12 = .ok (.astore_n 3, 1) := by decide +kernel
theorem dL_removeMoon_13 : decode cL_removeMoon 13 = .ok (.iconst 1, 1) := by decide +kernel
theorem dL_removeMoon_14 : decode cL_removeMoon 14 = .ok (.ireturn, 1) := by decide +kernel
theorem dL_removeMoon_15 : decode cL_removeMoon 15 = .ok (.iconst 0, 1) := by decide +kernel
theorem dL_removeMoon_16 : decode cL_removeMoon 16 = .ok (.ireturn, 1) := by decide +kernel
set_option maxRecDepth 20000 in
theorem ggL_positionOf_X5_positionOf : GoodIn wsL_positionOf wsX5_positionOf := goodIn_ca (goodIn_ca (goodIn_ca (goodIn_r _ [6, 7, 8, 9, 10, 5, 11, 12, 13, 14, 15, 16, 17, 18, 19, 20, 21, 22, 23, 24, 25, 26, 27, 28, 29, 30, 31, 32, 33, 34, 35, 36, 37, 38, 39, 40, 41, 42, 43, 44, 45, 46, 47, 48, 49, 50, 51, 52, 53] (by decide +kernel) (by decide +kernel)) (goodIn_sub (fun _ h => List.mem_cons_of_mem _ (List.mem_append_left _ (List.mem_append_right _ h))) (by decide +kernel))) (goodIn_sub (fun _ h => List.mem_cons_of_mem _ (List.mem_append_left _ (List.mem_append_left _ (List.mem_append_right _ h)))) (by decide +kernel))) (goodIn_sub (fun _ h => List.mem_cons_of_mem _ (List.mem_append_right _ h)) (by decide +kernel))
set_option maxRecDepth 20000 in
theorem gL_positionOf_X5_positionOf : GoodIn wsL_positionOf (wsV RL 29 RX5 yX5_positionOf wsX5_positionOf) := goodIn_app (goodIn_of _ (by decide +kernel)) ggL_positionOf_X5_positionOf
theorem dL_positionOf_0 : decode cL_positionOf 0 = .ok (.aload_n 2, 1) := by decide +kernel
theorem dL_positionOf_1 : decode cL_positionOf 1 = .ok (.iconst 0, 1) := by decide +kernel
theorem dL_positionOf_2 : decode cL_positionOf 2 = .ok (.aload_n 0, 1) := by decide +kernel
theorem dL_positionOf_3 : decode cL_positionOf 3 = .ok (.iload_n 1, 1) := by decide +kernel
theorem dL_positionOf_4 : decode cL_positionOf 4 = .ok (.invokevirtual 29, 3) := by decide +kernel
theorem dL_positionOf_7 : decode cL_positionOf 7 = .ok (.i2l, 1) := by decide +kernel
theorem dL_positionOf_8 : decode cL_positionOf 8 = .ok (.lastore, 1) := by decide +kernel
theorem dL_positionOf_9 : decode cL_positionOf 9 = .ok (.goto 6, 3) := by decide +kernel
theorem dL_positionOf_12 : decode cL_positionOf 12 = .ok (.astore_n 3, 1) := by decide +kernel
theorem dL_positionOf_13 : decode cL_positionOf 13 = .ok (.iconst 1, 1) := by decide +kernel
theorem dL_positionOf_14 : decode cL_positionOf 14 = .ok (.ireturn, 1) := by decide +kernel
theorem dL_positionOf_15 : decode cL_positionOf 15 = .ok (.iconst 0, 1) := by decide +kernel
theorem dL_positionOf_16 : decode cL_positionOf 16 = .ok (.ireturn, 1) := by decide +kernel
set_option maxRecDepth 20000 in
theorem ggL_massOf_X5_massOf : GoodIn wsL_massOf wsX5_massOf := goodIn_ca (goodIn_ca (goodIn_r _ [6, 7, 8, 9, 10, 5, 11, 12, 13, 14, 15, 16, 17, 18, 19, 20, 21, 22, 23, 24, 25, 26, 27, 28, 29, 30, 31, 32, 33, 34, 35, 36, 37, 38, 39, 40, 41, 42, 43, 44, 45, 46, 47, 48, 49, 50, 51, 52, 53, 54, 55, 56, 57, 58, 59, 60, 61] (by decide +kernel) (by decide +kernel)) (goodIn_sub (fun _ h => List.mem_cons_of_mem _ (List.mem_append_right _ h)) (by decide +kernel))) (goodIn_sub (fun _ h => List.mem_cons_of_mem _ (List.mem_append_left _ (List.mem_append_right _ h))) (by decide +kernel))
set_option maxRecDepth 20000 in
theorem gL_massOf_X5_massOf : GoodIn wsL_massOf (wsV RL 32 RX5 yX5_massOf wsX5_massOf) := goodIn_app (goodIn_of _ (by decide +kernel)) ggL_massOf_X5_massOf
theorem dL_massOf_0 : decode cL_massOf 0 = .ok (.aload_n 2, 1) := by decide +kernel
theorem dL_massOf_1 : decode cL_massOf 1 = .ok (.iconst 0, 1) := by decide +kernel
theorem dL_massOf_2 : decode cL_massOf 2 = .ok (.aload_n 0, 1) := by decide +kernel
theorem dL_massOf_3 : decode cL_massOf 3 = .ok (.iload_n 1, 1) := by decide +kernel
theorem dL_massOf_4 : decode cL_massOf 4 = .ok (.invokevirtual 32, 3) := by decide +kernel
theorem dL_massOf_7 : decode cL_massOf 7 = .ok (.i2l, 1) := by decide +kernel
theorem dL_massOf_8 : decode cL_massOf 8 = .ok (.lastore, 1) := by decide +kernel
theorem dL_massOf_9 : decode cL_massOf 9 = .ok (.goto 6, 3) := by decide +kernel
theorem dL_massOf_12 : decode cL_massOf 12 = .ok (.astore_n 3, 1) := by decide +kernel
theorem dL_massOf_13 : decode cL_massOf 13 = .ok (.iconst 1, 1) := by decide +kernel
theorem dL_massOf_14 : decode cL_massOf 14 = .ok (.ireturn, 1) := by decide +kernel
theorem dL_massOf_15 : decode cL_massOf 15 = .ok (.iconst 0, 1) := by decide +kernel
theorem dL_massOf_16 : decode cL_massOf 16 = .ok (.ireturn, 1) := by decide +kernel
set_option maxRecDepth 20000 in
theorem ggL_ageOf_X5_ageOf : GoodIn wsL_ageOf wsX5_ageOf := goodIn_ca (goodIn_ca (goodIn_r _ [6, 7, 8, 9, 10, 5, 11, 12, 13, 14, 15, 16, 17, 18, 19, 20, 21, 22, 23, 24, 25, 26, 27, 28, 29, 30, 31, 32, 33, 34, 35, 36, 37, 38, 39, 40, 41, 42, 43, 44, 45] (by decide +kernel) (by decide +kernel)) (goodIn_sub (fun _ h => List.mem_cons_of_mem _ (List.mem_append_right _ h)) (by decide +kernel))) (goodIn_sub (fun _ h => List.mem_cons_of_mem _ (List.mem_append_left _ (List.mem_append_right _ h))) (by decide +kernel))
set_option maxRecDepth 20000 in
theorem gL_ageOf_X5_ageOf : GoodIn wsL_ageOf (wsV RL 35 RX5 yX5_ageOf wsX5_ageOf) := goodIn_app (goodIn_of _ (by decide +kernel)) ggL_ageOf_X5_ageOf
theorem dL_ageOf_0 : decode cL_ageOf 0 = .ok (.aload_n 2, 1) := by decide +kernel
theorem dL_ageOf_1 : decode cL_ageOf 1 = .ok (.iconst 0, 1) := by decide +kernel
theorem dL_ageOf_2 : decode cL_ageOf 2 = .ok (.aload_n 0, 1) := by decide +kernel
theorem dL_ageOf_3 : decode cL_ageOf 3 = .ok (.iload_n 1, 1) := by decide +kernel
theorem dL_ageOf_4 : decode cL_ageOf 4 = .ok (.invokevirtual 35, 3) := by decide +kernel
theorem dL_ageOf_7 : decode cL_ageOf 7 = .ok (.i2l, 1) := by decide +kernel
theorem dL_ageOf_8 : decode cL_ageOf 8 = .ok (.lastore, 1) := by decide +kernel
theorem dL_ageOf_9 : decode cL_ageOf 9 = .ok (.goto 6, 3) := by decide +kernel
theorem dL_ageOf_12 : decode cL_ageOf 12 = .ok (.astore_n 3, 1) := by decide +kernel
theorem dL_ageOf_13 : decode cL_ageOf 13 = .ok (.iconst 1, 1) := by decide +kernel
theorem dL_ageOf_14 : decode cL_ageOf 14 = .ok (.ireturn, 1) := by decide +kernel
theorem dL_ageOf_15 : decode cL_ageOf 15 = .ok (.iconst 0, 1) := by decide +kernel
theorem dL_ageOf_16 : decode cL_ageOf 16 = .ok (.ireturn, 1) := by decide +kernel
set_option maxRecDepth 20000 in
theorem ggL_isHard_X5_isHard : GoodIn wsL_isHard wsX5_isHard := goodIn_ca (goodIn_ca (goodIn_r _ [6, 7, 8, 9, 10, 5, 11, 12, 13, 14, 15, 16, 17, 18, 19, 20, 21, 22, 23, 24, 25, 26, 27, 28, 29, 30, 31, 32, 33, 34, 35, 36, 37, 38, 39, 40, 41, 42, 43, 44, 45] (by decide +kernel) (by decide +kernel)) (goodIn_sub (fun _ h => List.mem_cons_of_mem _ (List.mem_append_right _ h)) (by decide +kernel))) (goodIn_sub (fun _ h => List.mem_cons_of_mem _ (List.mem_append_left _ (List.mem_append_right _ h))) (by decide +kernel))
set_option maxRecDepth 20000 in
theorem gL_isHard_X5_isHard : GoodIn wsL_isHard (wsV RL 38 RX5 yX5_isHard wsX5_isHard) := goodIn_app (goodIn_of _ (by decide +kernel)) ggL_isHard_X5_isHard
theorem dL_isHard_0 : decode cL_isHard 0 = .ok (.aload_n 2, 1) := by decide +kernel
theorem dL_isHard_1 : decode cL_isHard 1 = .ok (.iconst 0, 1) := by decide +kernel
theorem dL_isHard_2 : decode cL_isHard 2 = .ok (.aload_n 0, 1) := by decide +kernel
theorem dL_isHard_3 : decode cL_isHard 3 = .ok (.iload_n 1, 1) := by decide +kernel
theorem dL_isHard_4 : decode cL_isHard 4 = .ok (.invokevirtual 38, 3) := by decide +kernel
theorem dL_isHard_7 : decode cL_isHard 7 = .ok (.ifCond .eq 7, 3) := by decide +kernel
theorem dL_isHard_10 : decode cL_isHard 10 = .ok (.lconst 1, 1) := by decide +kernel
theorem dL_isHard_11 : decode cL_isHard 11 = .ok (.goto 4, 3) := by decide +kernel
theorem dL_isHard_14 : decode cL_isHard 14 = .ok (.lconst 0, 1) := by decide +kernel
theorem dL_isHard_15 : decode cL_isHard 15 = .ok (.lastore, 1) := by decide +kernel
theorem dL_isHard_16 : decode cL_isHard 16 = .ok (.goto 6, 3) := by decide +kernel
theorem dL_isHard_19 : decode cL_isHard 19 = .ok (.astore_n 3, 1) := by decide +kernel
theorem dL_isHard_20 : decode cL_isHard 20 = .ok (.iconst 1, 1) := by decide +kernel
theorem dL_isHard_21 : decode cL_isHard 21 = .ok (.ireturn, 1) := by decide +kernel
theorem dL_isHard_22 : decode cL_isHard 22 = .ok (.iconst 0, 1) := by decide +kernel
theorem dL_isHard_23 : decode cL_isHard 23 = .ok (.ireturn, 1) := by decide +kernel
set_option maxRecDepth 20000 in
theorem ggL_isSoft_X5_isSoft : GoodIn wsL_isSoft wsX5_isSoft := goodIn_ca (goodIn_ca (goodIn_r _ [6, 7, 8, 9, 10, 5, 11, 12, 13, 14, 15, 16, 17, 18, 19, 20, 21, 22, 23, 24, 25, 26, 27, 28, 29, 30, 31, 32, 33, 34, 35, 36, 37, 38, 39, 40, 41, 42, 43, 44, 45] (by decide +kernel) (by decide +kernel)) (goodIn_sub (fun _ h => List.mem_cons_of_mem _ (List.mem_append_right _ h)) (by decide +kernel))) (goodIn_sub (fun _ h => List.mem_cons_of_mem _ (List.mem_append_left _ (List.mem_append_right _ h))) (by decide +kernel))
set_option maxRecDepth 20000 in
theorem gL_isSoft_X5_isSoft : GoodIn wsL_isSoft (wsV RL 42 RX5 yX5_isSoft wsX5_isSoft) := goodIn_app (goodIn_of _ (by decide +kernel)) ggL_isSoft_X5_isSoft
theorem dL_isSoft_0 : decode cL_isSoft 0 = .ok (.aload_n 2, 1) := by decide +kernel
theorem dL_isSoft_1 : decode cL_isSoft 1 = .ok (.iconst 0, 1) := by decide +kernel
theorem dL_isSoft_2 : decode cL_isSoft 2 = .ok (.aload_n 0, 1) := by decide +kernel
theorem dL_isSoft_3 : decode cL_isSoft 3 = .ok (.iload_n 1, 1) := by decide +kernel
theorem dL_isSoft_4 : decode cL_isSoft 4 = .ok (.invokevirtual 42, 3) := by decide +kernel
theorem dL_isSoft_7 : decode cL_isSoft 7 = .ok (.ifCond .eq 7, 3) := by decide +kernel
theorem dL_isSoft_10 : decode cL_isSoft 10 = .ok (.lconst 1, 1) := by decide +kernel
theorem dL_isSoft_11 : decode cL_isSoft 11 = .ok (.goto 4, 3) := by decide +kernel
theorem dL_isSoft_14 : decode cL_isSoft 14 = .ok (.lconst 0, 1) := by decide +kernel
theorem dL_isSoft_15 : decode cL_isSoft 15 = .ok (.lastore, 1) := by decide +kernel
theorem dL_isSoft_16 : decode cL_isSoft 16 = .ok (.goto 6, 3) := by decide +kernel
theorem dL_isSoft_19 : decode cL_isSoft 19 = .ok (.astore_n 3, 1) := by decide +kernel
theorem dL_isSoft_20 : decode cL_isSoft 20 = .ok (.iconst 1, 1) := by decide +kernel
theorem dL_isSoft_21 : decode cL_isSoft 21 = .ok (.ireturn, 1) := by decide +kernel
theorem dL_isSoft_22 : decode cL_isSoft 22 = .ok (.iconst 0, 1) := by decide +kernel
theorem dL_isSoft_23 : decode cL_isSoft 23 = .ok (.ireturn, 1) := by decide +kernel
set_option maxRecDepth 20000 in
theorem ggL_isEclipsed_X5_isEclipsed : GoodIn wsL_isEclipsed wsX5_isEclipsed := goodIn_ca (goodIn_ca (goodIn_ca (goodIn_r _ [6, 7, 8, 9, 10, 5, 11, 12, 13, 14, 15, 16, 17, 18, 19, 20, 21, 22, 23, 24, 25, 26, 27, 28, 29, 30, 31, 32, 33, 34, 35, 36, 37, 38, 39, 40, 41, 42, 43, 44, 45, 46, 47, 48, 49, 50, 51, 52, 53, 54, 55, 56, 57, 58, 59, 60, 61, 62, 63, 64, 65, 66, 67] (by decide +kernel) (by decide +kernel)) (goodIn_sub (fun _ h => List.mem_cons_of_mem _ (List.mem_append_left _ (List.mem_append_right _ h))) (by decide +kernel))) (goodIn_sub (fun _ h => List.mem_cons_of_mem _ (List.mem_append_left _ (List.mem_append_left _ (List.mem_append_right _ h)))) (by decide +kernel))) (goodIn_sub (fun _ h => List.mem_cons_of_mem _ (List.mem_append_right _ h)) (by decide +kernel))
set_option maxRecDepth 20000 in
theorem gL_isEclipsed_X5_isEclipsed : GoodIn wsL_isEclipsed (wsV RL 45 RX5 yX5_isEclipsed wsX5_isEclipsed) := goodIn_app (goodIn_of _ (by decide +kernel)) ggL_isEclipsed_X5_isEclipsed
theorem dL_isEclipsed_0 : decode cL_isEclipsed 0 = .ok (.aload_n 2, 1) := by decide +kernel
theorem dL_isEclipsed_1 : decode cL_isEclipsed 1 = .ok (.iconst 0, 1) := by decide +kernel
theorem dL_isEclipsed_2 : decode cL_isEclipsed 2 = .ok (.aload_n 0, 1) := by decide +kernel
theorem dL_isEclipsed_3 : decode cL_isEclipsed 3 = .ok (.iload_n 1, 1) := by decide +kernel
theorem dL_isEclipsed_4 : decode cL_isEclipsed 4 = .ok (.invokevirtual 45, 3) := by decide +kernel
theorem dL_isEclipsed_7 : decode cL_isEclipsed 7 = .ok (.ifCond .eq 7, 3) := by decide +kernel
theorem dL_isEclipsed_10 : decode cL_isEclipsed 10 = .ok (.lconst 1, 1) := by decide +kernel
theorem dL_isEclipsed_11 : decode cL_isEclipsed 11 = .ok (.goto 4, 3) := by decide +kernel
theorem dL_isEclipsed_14 : decode cL_isEclipsed 14 = .ok (.lconst 0, 1) := by decide +kernel
theorem dL_isEclipsed_15 : decode cL_isEclipsed 15 = .ok (.lastore, 1) := by decide +kernel
theorem dL_isEclipsed_16 : decode cL_isEclipsed 16 = .ok (.goto 6, 3) := by decide +kernel
theorem dL_isEclipsed_19 : decode cL_isEclipsed 19 = .ok (.astore_n 3, 1) := by decide +kernel
theorem dL_isEclipsed_20 : decode cL_isEclipsed 20 = .ok (.iconst 1, 1) := by decide +kernel
theorem dL_isEclipsed_21 : decode cL_isEclipsed 21 = .ok (.ireturn, 1) := by decide +kernel
theorem dL_isEclipsed_22 : decode cL_isEclipsed 22 = .ok (.iconst 0, 1) := by decide +kernel
theorem dL_isEclipsed_23 : decode cL_isEclipsed 23 = .ok (.ireturn, 1) := by decide +kernel
set_option maxRecDepth 20000 in
theorem ggL_placeToe_X5_placeToe : GoodIn wsL_placeToe wsX5_placeToe := goodIn_ca (goodIn_ca (goodIn_ca (goodIn_r _ [6, 7, 8, 9, 10, 11, 12, 13, 5, 14, 15, 16, 17, 18, 19, 20, 21, 22, 23, 24, 25, 26, 27, 28, 29, 30, 31, 32, 33, 34, 35, 36, 37, 38, 39, 40, 41, 42, 43, 44, 45, 46, 47, 48, 49, 50, 51, 52, 53, 54, 55, 56, 57, 58, 59, 60, 61, 62, 63, 64, 65, 66, 67, 68, 69, 70, 71, 72, 73, 74, 75, 76, 77, 78, 79, 80, 81] (by decide +kernel) (by decide +kernel)) (goodIn_sub (fun _ h => List.mem_cons_of_mem _ (List.mem_append_left _ (List.mem_append_right _ h))) (by decide +kernel))) (goodIn_sub (fun _ h => List.mem_cons_of_mem _ (List.mem_append_right _ h)) (by decide +kernel))) (goodIn_sub (fun _ h => List.mem_cons_of_mem _ (List.mem_append_left _ (List.mem_append_left _ (List.mem_append_right _ h)))) (by decide +kernel))
set_option maxRecDepth 20000 in
theorem gL_placeToe_X5_placeToe : GoodIn wsL_placeToe (wsV RL 48 RX5 yX5_placeToe wsX5_placeToe) := goodIn_app (goodIn_of _ (by decide +kernel)) ggL_placeToe_X5_placeToe
theorem dL_placeToe_0 : decode cL_placeToe 0 = .ok (.aload_n 2, 1) := by decide +kernel
theorem dL_placeToe_1 : decode cL_placeToe 1 = .ok (.iconst 0, 1) := by decide +kernel
theorem dL_placeToe_2 : decode cL_placeToe 2 = .ok (.aload_n 0, 1) := by decide +kernel
theorem dL_placeToe_3 : decode cL_placeToe 3 = .ok (.iload_n 1, 1) := by decide +kernel
theorem dL_placeToe_4 : decode cL_placeToe 4 = .ok (.invokevirtual 48, 3) := by decide +kernel
theorem dL_placeToe_7 : decode cL_placeToe 7 = .ok (.i2l, 1) := by decide +kernel
theorem dL_placeToe_8 : decode cL_placeToe 8 = .ok (.lastore, 1) := by decide +kernel
theorem dL_placeToe_9 : decode cL_placeToe 9 = .ok (.goto 9, 3) := by decide +kernel
theorem dL_placeToe_12 : decode cL_placeToe 12 = .ok (.astore_n 3, 1) := by decide +kernel
theorem dL_placeToe_13 : decode cL_placeToe 13 = .ok (.iconst 1, 1) := by decide +kernel
theorem dL_placeToe_14 : decode cL_placeToe 14 = .ok (.ireturn, 1) := by decide +kernel
theorem dL_placeToe_15 : decode cL_placeToe 15 = .ok (.astore_n 3, 1) := by decide +kernel
theorem dL_placeToe_16 : decode cL_placeToe 16 = .ok (.iconst 2, 1) := by decide +kernel
theorem dL_placeToe_17 : decode cL_placeToe 17 = .ok (.ireturn, 1) := by decide +kernel
theorem dL_placeToe_18 : decode cL_placeToe 18 = .ok (.iconst 0, 1) := by decide +kernel
theorem dL_placeToe_19 : decode cL_placeToe 19 = .ok (.ireturn, 1) := by decide +kernel
set_option maxRecDepth 20000 in
theorem ggL_removeToe_X5_removeToe : GoodIn wsL_removeToe wsX5_removeToe := goodIn_ca (goodIn_ca (goodIn_ca (goodIn_r _ [6, 7, 8, 9, 10, 11, 12, 13, 5, 14, 15, 16, 17, 18, 19, 20, 21, 22, 23, 24, 25, 26, 27, 28, 29, 30, 31, 32, 33, 34, 35, 36, 37, 38, 39, 40, 41, 42, 43, 44, 45, 46, 47, 48, 49, 50, 51, 52, 53, 54, 55, 56, 57, 58, 59, 60, 61, 62, 63, 64, 65, 66, 67, 68, 69, 70, 71, 72, 73, 74, 75, 76, 77] (by decide +kernel) (by decide +kernel)) (goodIn_sub (fun _ h => List.mem_cons_of_mem _ (List.mem_append_left _ (List.mem_append_right _ h))) (by decide +kernel))) (goodIn_sub (fun _ h => List.mem_cons_of_mem _ (List.mem_append_right _ h)) (by decide +kernel))) (goodIn_sub (fun _ h => List.mem_cons_of_mem _ (List.mem_append_left _ (List.mem_append_left _ (List.mem_append_right _ h)))) (by decide +kernel))
set_option maxRecDepth 20000 in
theorem gL_removeToe_X5_removeToe : GoodIn wsL_removeToe (wsV RL 51 RX5 yX5_removeToe wsX5_removeToe) := goodIn_app (goodIn_of _ (by decide +kernel)) ggL_removeToe_X5_removeToe
theorem dL_removeToe_0 : decode cL_removeToe 0 = .ok (.aload_n 2, 1) := by decide +kernel
theorem dL_removeToe_1 : decode cL_removeToe 1 = .ok (.iconst 0, 1) := by decide +kernel
theorem dL_removeToe_2 : decode cL_removeToe 2 = .ok (.aload_n 0, 1) := by decide +kernel
theorem dL_removeToe_3 : decode cL_removeToe 3 = .ok (.iload_n 1, 1) := by decide +kernel
theorem dL_removeToe_4 : decode cL_removeToe 4 = .ok (.invokevirtual 51, 3) := by decide +kernel
theorem dL_removeToe_7 : decode cL_removeToe 7 = .ok (.i2l, 1) := by decide +kernel
theorem dL_removeToe_8 : decode cL_removeToe 8 = .ok (.lastore, 1) := by decide +kernel
theorem dL_removeToe_9 : decode cL_removeToe 9 = .ok (.goto 9, 3) := by decide +kernel
theorem dL_removeToe_12 : decode cL_removeToe 12 = .ok (.astore_n 3, 1) := by decide +kernel
theorem dL_removeToe_13 : decode cL_removeToe 13 = .ok (.iconst 1, 1) := by decide +kernel
theorem dL_removeToe_14 : decode cL_removeToe 14 = .ok (.ireturn, 1) := by decide +kernel
theorem dL_removeToe_15 : decode cL_removeToe 15 = .ok (.astore_n 3, 1) := by decide +kernel
theorem dL_removeToe_16 : decode cL_removeToe 16 = .ok (.iconst 2, 1) := by decide +kernel
theorem dL_removeToe_17 : decode cL_removeToe 17 = .ok (.ireturn, 1) := by decide +kernel
theorem dL_removeToe_18 : decode cL_removeToe 18 = .ok (.iconst 0, 1) := by decide +kernel
theorem dL_removeToe_19 : decode cL_removeToe 19 = .ok (.ireturn, 1) := by decide +kernel
set_option maxRecDepth 20000 in
theorem ggL_hasToe_X5_hasToe : GoodIn wsL_hasToe wsX5_hasToe := goodIn_ca (goodIn_ca (goodIn_r _ [6, 7, 8, 9, 5, 10, 11, 12, 13, 14, 15, 16, 17, 18, 19, 20, 21, 22, 23, 24, 25, 26, 27, 28, 29, 30, 31, 32, 33, 34, 35, 36, 37, 38, 39, 40] (by decide +kernel) (by decide +kernel)) (goodIn_sub (fun _ h => List.mem_cons_of_mem _ (List.mem_append_right _ h)) (by decide +kernel))) (goodIn_sub (fun _ h => List.mem_cons_of_mem _ (List.mem_append_left _ (List.mem_append_right _ h))) (by decide +kernel))
set_option maxRecDepth 20000 in
theorem gL_hasToe_X5_hasToe : GoodIn wsL_hasToe (wsV RL 54 RX5 yX5_hasToe wsX5_hasToe) := goodIn_app (goodIn_of _ (by decide +kernel)) ggL_hasToe_X5_hasToe
theorem dL_hasToe_0 : decode cL_hasToe 0 = .ok (.aload_n 2, 1) := by decide +kernel
theorem dL_hasToe_1 : decode cL_hasToe 1 = .ok (.iconst 0, 1) := by decide +kernel
theorem dL_hasToe_2 : decode cL_hasToe 2 = .ok (.aload_n 0, 1) := by decide +kernel
theorem dL_hasToe_3 : decode cL_hasToe 3 = .ok (.iload_n 1, 1) := by decide +kernel
theorem dL_hasToe_4 : decode cL_hasToe 4 = .ok (.invokevirtual 54, 3) := by decide +kernel
theorem dL_hasToe_7 : decode cL_hasToe 7 = .ok (.ifCond .eq 7, 3) := by decide +kernel
theorem dL_hasToe_10 : decode cL_hasToe 10 = .ok (.lconst 1, 1) := by decide +kernel
theorem dL_hasToe_11 : decode cL_hasToe 11 = .ok (.goto 4, 3) := by decide +kernel
theorem dL_hasToe_14 : decode cL_hasToe 14 = .ok (.lconst 0, 1) := by decide +kernel
theorem dL_hasToe_15 : decode cL_hasToe 15 = .ok (.lastore, 1) := by decide +kernel
theorem dL_hasToe_16 : decode cL_hasToe 16 = .ok (.goto 6, 3) := by decide +kernel
theorem dL_hasToe_19 : decode cL_hasToe 19 = .ok (.astore_n 3, 1) := by decide +kernel
theorem dL_hasToe_20 : decode cL_hasToe 20 = .ok (.iconst 1, 1) := by decide +kernel
theorem dL_hasToe_21 : decode cL_hasToe 21 = .ok (.ireturn, 1) := by decide +kernel
theorem dL_hasToe_22 : decode cL_hasToe 22 = .ok (.iconst 0, 1) := by decide +kernel
theorem dL_hasToe_23 : decode cL_hasToe 23 = .ok (.ireturn, 1) := by decide +kernel
set_option maxRecDepth 20000 in
theorem ggL_insertPlug_X5_insertPlug : GoodIn wsL_insertPlug wsX5_insertPlug := goodIn_ca (goodIn_ca (goodIn_r _ [6, 7, 8, 9, 10, 11, 5, 12, 13, 14, 15, 16, 17, 18, 19, 20, 21, 22, 23, 24, 25, 26, 27, 28, 29, 30, 31, 32, 33, 34, 35, 36, 37, 38, 39, 40, 41, 42, 43, 44, 45, 46, 47, 48, 49, 50, 51, 52, 53, 54, 55, 56, 57, 58, 59, 60, 61, 62, 63, 64, 65, 66, 67, 68, 69, 70] (by decide +kernel) (by decide +kernel)) (goodIn_sub (fun _ h => List.mem_cons_of_mem _ (List.mem_append_right _ h)) (by decide +kernel))) (goodIn_sub (fun _ h => List.mem_cons_of_mem _ (List.mem_append_left _ (List.mem_append_right _ h))) (by decide +kernel))
set_option maxRecDepth 20000 in
theorem gL_insertPlug_X5_insertPlug : GoodIn wsL_insertPlug (wsV RL 57 RX5 yX5_insertPlug wsX5_insertPlug) := goodIn_app (goodIn_of _ (by decide +kernel)) ggL_insertPlug_X5_insertPlug
theorem dL_insertPlug_0 : decode cL_insertPlug 0 = .ok (.aload_n 2, 1) := by decide +kernel
theorem dL_insertPlug_1 : decode cL_insertPlug 1 = .ok (.iconst 0, 1) := by decide +kernel
theorem dL_insertPlug_2 : decode cL_insertPlug 2 = .ok (.aload_n 0, 1) := by decide +kernel
theorem dL_insertPlug_3 : decode cL_insertPlug 3 = .ok (.iload_n 1, 1) := by decide +kernel
theorem dL_insertPlug_4 : decode cL_insertPlug 4 = .ok (.invokevirtual 57, 3) := by decide +kernel
theorem dL_insertPlug_7 : decode cL_insertPlug 7 = .ok (.ifCond .eq 7, 3) := by decide +kernel
theorem dL_insertPlug_10 : decode cL_insertPlug 10 = .ok (.lconst 1, 1) := by decide +kernel
theorem dL_insertPlug_11 : decode cL_insertPlug 11 = .ok (.goto 4, 3) := by decide +kernel
theorem dL_insertPlug_14 : decode cL_insertPlug 14 = .ok (.lconst 0, 1) := by decide +kernel
theorem dL_insertPlug_15 : decode cL_insertPlug 15 = .ok (.lastore, 1) := by decide +kernel
theorem dL_insertPlug_16 : decode cL_insertPlug 16 = .ok (.goto 6, 3) := by decide +kernel
theorem dL_insertPlug_19 : decode cL_insertPlug 19 = .ok (.astore_n 3, 1) := by decide +kernel
theorem dL_insertPlug_20 : decode cL_insertPlug 20 = .ok (.iconst 1, 1) := by decide +kernel
theorem dL_insertPlug_21 : decode cL_insertPlug 21 = .ok (.ireturn, 1) := by decide +kernel
theorem dL_insertPlug_22 : decode cL_insertPlug 22 = .ok (.iconst 0, 1) := by decide +kernel
theorem dL_insertPlug_23 : decode cL_insertPlug 23 = .ok (.ireturn, 1) := by decide +kernel
set_option maxRecDepth 20000 in
theorem ggL_pullPlug_X5_pullPlug : GoodIn wsL_pullPlug wsX5_pullPlug := goodIn_ca (goodIn_ca (goodIn_r _ [6, 7, 8, 9, 10, 11, 12, 13, 14, 15, 16, 17, 18, 19, 20, 21, 22, 23, 24, 25, 26, 27, 28, 29, 30, 31, 32, 33, 34, 35, 36, 37, 38, 39, 40, 41, 42, 43, 44, 45, 46, 47, 48, 49, 50, 51, 52, 53, 54, 55, 56, 57, 58, 59, 60, 61, 62, 63, 64, 65, 66, 67, 68] (by decide +kernel) (by decide +kernel)) (goodIn_sub (fun _ h => List.mem_cons_of_mem _ (List.mem_append_right _ h)) (by decide +kernel))) (goodIn_sub (fun _ h => List.mem_cons_of_mem _ (List.mem_append_left _ (List.mem_append_right _ h))) (by decide +kernel))
set_option maxRecDepth 20000 in
theorem gL_pullPlug_X5_pullPlug : GoodIn wsL_pullPlug (wsV RL 60 RX5 yX5_pullPlug wsX5_pullPlug) := goodIn_app (goodIn_of _ (by decide +kernel)) ggL_pullPlug_X5_pullPlug
theorem dL_pullPlug_0 : decode cL_pullPlug 0 = .ok (.aload_n 1, 1) := by decide +kernel
theorem dL_pullPlug_1 : decode cL_pullPlug 1 = .ok (.iconst 0, 1) := by decide +kernel
theorem dL_pullPlug_2 : decode cL_pullPlug 2 = .ok (.aload_n 0, 1) := by decide +kernel
theorem dL_pullPlug_3 : decode cL_pullPlug 3 = .ok (.invokevirtual 60, 3) := by decide +kernel
theorem dL_pullPlug_6 : decode cL_pullPlug 6 = .ok (.i2l, 1) := by decide +kernel
theorem dL_pullPlug_7 : decode cL_pullPlug 7 = .ok (.lastore, 1) := by decide +kernel
theorem dL_pullPlug_8 : decode cL_pullPlug 8 = .ok (.goto 6, 3) := by decide +kernel
theorem dL_pullPlug_11 : decode cL_pullPlug 11 = .ok (.astore_n 2, 1) := by decide +kernel
theorem dL_pullPlug_12 : decode cL_pullPlug 12 = .ok (.iconst 1, 1) := by decide +kernel
theorem dL_pullPlug_13 : decode cL_pullPlug 13 = .ok (.ireturn, 1) := by decide +kernel
theorem dL_pullPlug_14 : decode cL_pullPlug 14 = .ok (.iconst 0, 1) := by decide +kernel
theorem dL_pullPlug_15 : decode cL_pullPlug 15 = .ok (.ireturn, 1) := by decide +kernel
set_option maxRecDepth 20000 in
theorem ggL_plugPosition_X5_plugPosition : GoodIn wsL_plugPosition wsX5_plugPosition := goodIn_ca (goodIn_ca (goodIn_r _ [6, 7, 8, 9, 10, 5, 11, 12, 13, 14, 15, 16, 17, 18, 19, 20, 21, 22, 23, 24, 25, 26, 27, 28, 29, 30, 31, 32, 33, 34, 35, 36, 37, 38, 39, 40, 41, 42] (by decide +kernel) (by decide +kernel)) (goodIn_sub (fun _ h => List.mem_cons_of_mem _ (List.mem_append_right _ h)) (by decide +kernel))) (goodIn_sub (fun _ h => List.mem_cons_of_mem _ (List.mem_append_left _ (List.mem_append_right _ h))) (by decide +kernel))
set_option maxRecDepth 20000 in
theorem gL_plugPosition_X5_plugPosition : GoodIn wsL_plugPosition (wsV RL 64 RX5 yX5_plugPosition wsX5_plugPosition) := goodIn_app (goodIn_of _ (by decide +kernel)) ggL_plugPosition_X5_plugPosition
theorem dL_plugPosition_0 : decode cL_plugPosition 0 = .ok (.aload_n 1, 1) := by decide +kernel
theorem dL_plugPosition_1 : decode cL_plugPosition 1 = .ok (.iconst 0, 1) := by decide +kernel
theorem dL_plugPosition_2 : decode cL_plugPosition 2 = .ok (.aload_n 0, 1) := by decide +kernel
theorem dL_plugPosition_3 : decode cL_plugPosition 3 = .ok (.invokevirtual 64, 3) := by decide +kernel
theorem dL_plugPosition_6 : decode cL_plugPosition 6 = .ok (.i2l, 1) := by decide +kernel
theorem dL_plugPosition_7 : decode cL_plugPosition 7 = .ok (.lastore, 1) := by decide +kernel
theorem dL_plugPosition_8 : decode cL_plugPosition 8 = .ok (.goto 6, 3) := by decide +kernel
theorem dL_plugPosition_11 : decode cL_plugPosition 11 = .ok (.astore_n 2, 1) := by decide +kernel
theorem dL_plugPosition_12 : decode cL_plugPosition 12 = .ok (.iconst 1, 1) := by decide +kernel
theorem dL_plugPosition_13 : decode cL_plugPosition 13 = .ok (.ireturn, 1) := by decide +kernel
theorem dL_plugPosition_14 : decode cL_plugPosition 14 = .ok (.iconst 0, 1) := by decide +kernel
theorem dL_plugPosition_15 : decode cL_plugPosition 15 = .ok (.ireturn, 1) := by decide +kernel
set_option maxRecDepth 20000 in
theorem ggL_layTowel_X5_layTowel : GoodIn wsL_layTowel wsX5_layTowel := goodIn_ca (goodIn_ca (goodIn_ca (goodIn_ca (goodIn_r _ [6, 7, 8, 9, 10, 11, 12, 13, 14, 15, 5, 16, 17, 18, 19, 20, 21, 22, 23, 24, 25, 26, 27, 28, 29, 30, 31, 32, 33, 34, 35, 36, 37, 38, 39, 40, 41, 42, 43, 44, 45, 46, 47, 48, 49, 50, 51, 52, 53, 54, 55, 56, 57, 58, 59, 60, 61, 62, 63, 64, 65, 66, 67, 68, 69, 70, 71, 72, 73, 74, 75, 76, 77, 78, 79, 80, 81, 82, 83, 84, 85, 86, 87, 88, 89] (by decide +kernel) (by decide +kernel)) (goodIn_sub (fun _ h => List.mem_cons_of_mem _ (List.mem_append_left _ (List.mem_append_left _ (List.mem_append_right _ h)))) (by decide +kernel))) (goodIn_sub (fun _ h => List.mem_cons_of_mem _ (List.mem_append_left _ (List.mem_append_right _ h))) (by decide +kernel))) (goodIn_sub (fun _ h => List.mem_cons_of_mem _ (List.mem_append_right _ h)) (by decide +kernel))) (goodIn_sub (fun _ h => List.mem_cons_of_mem _ (List.mem_append_left _ (List.mem_append_left _ (List.mem_append_left _ (List.mem_append_right _ h))))) (by decide +kernel))
set_option maxRecDepth 20000 in
theorem gL_layTowel_X5_layTowel : GoodIn wsL_layTowel (wsV RL 69 RX5 yX5_layTowel wsX5_layTowel) := goodIn_app (goodIn_of _ (by decide +kernel)) ggL_layTowel_X5_layTowel
theorem dL_layTowel_0 : decode cL_layTowel 0 = .ok (.aload_n 3, 1) := by decide +kernel
theorem dL_layTowel_1 : decode cL_layTowel 1 = .ok (.iconst 0, 1) := by decide +kernel
theorem dL_layTowel_2 : decode cL_layTowel 2 = .ok (.aload_n 0, 1) := by decide +kernel
theorem dL_layTowel_3 : decode cL_layTowel 3 = .ok (.iload_n 1, 1) := by decide +kernel
theorem dL_layTowel_4 : decode cL_layTowel 4 = .ok (.iload_n 2, 1) := by decide +kernel
theorem dL_layTowel_5 : decode cL_layTowel 5 = .ok (.invokevirtual 69, 3) := by decide +kernel
theorem dL_layTowel_8 : decode cL_layTowel 8 = .ok (.i2l, 1) := by decide +kernel
theorem dL_layTowel_9 : decode cL_layTowel 9 = .ok (.lastore, 1) := by decide +kernel
theorem dL_layTowel_10 : decode cL_layTowel 10 = .ok (.goto 15, 3) := by decide +kernel
theorem dL_layTowel_13 : decode cL_layTowel 13 = .ok (.astore 4, 2) := by decide +kernel
theorem dL_layTowel_15 : decode cL_layTowel 15 = .ok (.iconst 1, 1) := by decide +kernel
theorem dL_layTowel_16 : decode cL_layTowel 16 = .ok (.ireturn, 1) := by decide +kernel
theorem dL_layTowel_17 : decode cL_layTowel 17 = .ok (.astore 4, 2) := by decide +kernel
theorem dL_layTowel_19 : decode cL_layTowel 19 = .ok (.iconst 2, 1) := by decide +kernel
theorem dL_layTowel_20 : decode cL_layTowel 20 = .ok (.ireturn, 1) := by decide +kernel
theorem dL_layTowel_21 : decode cL_layTowel 21 = .ok (.astore 4, 2) := by decide +kernel
theorem dL_layTowel_23 : decode cL_layTowel 23 = .ok (.iconst 3, 1) := by decide +kernel
theorem dL_layTowel_24 : decode cL_layTowel 24 = .ok (.ireturn, 1) := by decide +kernel
theorem dL_layTowel_25 : decode cL_layTowel 25 = .ok (.iconst 0, 1) := by decide +kernel
theorem dL_layTowel_26 : decode cL_layTowel 26 = .ok (.ireturn, 1) := by decide +kernel
set_option maxRecDepth 20000 in
theorem ggL_removeTowel_X5_removeTowel : GoodIn wsL_removeTowel wsX5_removeTowel := goodIn_ca (goodIn_ca (goodIn_r _ [6, 7, 8, 9, 10, 11, 12, 5, 13, 14, 15, 16, 17, 18, 19, 20, 21, 22, 23, 24, 25, 26, 27, 28, 29, 30, 31, 32, 33, 34, 35, 36, 37, 38, 39, 40, 41, 42, 43, 44, 45, 46, 47, 48, 49, 50, 51, 52, 53, 54, 55, 56, 57, 58, 59, 60, 61, 62, 63, 64, 65, 66, 67, 68, 69, 70, 71, 72, 73, 74, 75, 76, 77, 78, 79, 80, 81, 82, 83, 84, 85, 86] (by decide +kernel) (by decide +kernel)) (goodIn_sub (fun _ h => List.mem_cons_of_mem _ (List.mem_append_right _ h)) (by decide +kernel))) (goodIn_sub (fun _ h => List.mem_cons_of_mem _ (List.mem_append_left _ (List.mem_append_right _ h))) (by decide +kernel))
set_option maxRecDepth 20000 in
theorem gL_removeTowel_X5_removeTowel : GoodIn wsL_removeTowel (wsV RL 73 RX5 yX5_removeTowel wsX5_removeTowel) := goodIn_app (goodIn_of _ (by decide +kernel)) ggL_removeTowel_X5_removeTowel
theorem dL_removeTowel_0 : decode cL_removeTowel 0 = .ok (.aload_n 2, 1) := by decide +kernel
theorem dL_removeTowel_1 : decode cL_removeTowel 1 = .ok (.iconst 0, 1) := by decide +kernel
theorem dL_removeTowel_2 : decode cL_removeTowel 2 = .ok (.aload_n 0, 1) := by decide +kernel
theorem dL_removeTowel_3 : decode cL_removeTowel 3 = .ok (.iload_n 1, 1) := by decide +kernel
theorem dL_removeTowel_4 : decode cL_removeTowel 4 = .ok (.invokevirtual 73, 3) := by decide +kernel
theorem dL_removeTowel_7 : decode cL_removeTowel 7 = .ok (.i2l, 1) := by decide +kernel
theorem dL_removeTowel_8 : decode cL_removeTowel 8 = .ok (.lastore, 1) := by decide +kernel
theorem dL_removeTowel_9 : decode cL_removeTowel 9 = .ok (.goto 6, 3) := by decide +kernel
theorem dL_removeTowel_12 : decode cL_removeTowel 12 = .ok (.astore_n 3, 1) := by decide +kernel
theorem dL_removeTowel_13 : decode cL_removeTowel 13 = .ok (.iconst 1, 1) := by decide +kernel
theorem dL_removeTowel_14 : decode cL_removeTowel 14 = .ok (.ireturn, 1) := by decide +kernel
theorem dL_removeTowel_15 : decode cL_removeTowel 15 = .ok (.iconst 0, 1) := by decide +kernel
theorem dL_removeTowel_16 : decode cL_removeTowel 16 = .ok (.ireturn, 1) := by decide +kernel
set_option maxRecDepth 20000 in
theorem ggL_wringTowel_X5_wringTowel : GoodIn wsL_wringTowel wsX5_wringTowel := goodIn_ca (goodIn_ca (goodIn_r _ [6, 7, 8, 9, 10, 11, 12, 5, 13, 14, 15, 16, 17, 18, 19, 20, 21, 22, 23, 24, 25, 26, 27, 28, 29, 30, 31, 32, 33, 34, 35, 36, 37, 38, 39, 40, 41, 42, 43, 44, 45, 46, 47, 48, 49, 50, 51, 52, 53, 54, 55, 56, 57, 58, 59, 60, 61, 62, 63, 64, 65, 66, 67, 68, 69, 70, 71, 72, 73, 74, 75, 76, 77, 78, 79, 80, 81] (by decide +kernel) (by decide +kernel)) (goodIn_sub (fun _ h => List.mem_cons_of_mem _ (List.mem_append_right _ h)) (by decide +kernel))) (goodIn_sub (fun _ h => List.mem_cons_of_mem _ (List.mem_append_left _ (List.mem_append_right _ h))) (by decide +kernel))
set_option maxRecDepth 20000 in
theorem gL_wringTowel_X5_wringTowel : GoodIn wsL_wringTowel (wsV RL 76 RX5 yX5_wringTowel wsX5_wringTowel) := goodIn_app (goodIn_of _ (by decide +kernel)) ggL_wringTowel_X5_wringTowel
theorem dL_wringTowel_0 : decode cL_wringTowel 0 = .ok (.aload_n 2, 1) := by decide +kernel
theorem dL_wringTowel_1 : decode cL_wringTowel 1 = .ok (.iconst 0, 1) := by decide +kernel
theorem dL_wringTowel_2 : decode cL_wringTowel 2 = .ok (.aload_n 0, 1) := by decide +kernel
theorem dL_wringTowel_3 : decode cL_wringTowel 3 = .ok (.iload_n 1, 1) := by decide +kernel
theorem dL_wringTowel_4 : decode cL_wringTowel 4 = .ok (.invokevirtual 76, 3) := by decide +kernel
theorem dL_wringTowel_7 : decode cL_wringTowel 7 = .ok (.i2l, 1) := by decide +kernel
theorem dL_wringTowel_8 : decode cL_wringTowel 8 = .ok (.lastore, 1) := by decide +kernel
theorem dL_wringTowel_9 : decode cL_wringTowel 9 = .ok (.goto 6, 3) := by decide +kernel
theorem dL_wringTowel_12 : decode cL_wringTowel 12 = .ok (.astore_n 3, 1) := by decide +kernel
theorem dL_wringTowel_13 : decode cL_wringTowel 13 = .ok (.iconst 1, 1) := by decide +kernel
theorem dL_wringTowel_14 : decode cL_wringTowel 14 = .ok (.ireturn, 1) := by decide +kernel
theorem dL_wringTowel_15 : decode cL_wringTowel 15 = .ok (.iconst 0, 1) := by decide +kernel
theorem dL_wringTowel_16 : decode cL_wringTowel 16 = .ok (.ireturn, 1) := by decide +kernel
set_option maxRecDepth 20000 in
theorem ggL_shoreOf_X5_shoreOf : GoodIn wsL_shoreOf wsX5_shoreOf := goodIn_ca (goodIn_ca (goodIn_r _ [6, 7, 8, 9, 10, 5, 11, 12, 13, 14, 15, 16, 17, 18, 19, 20, 21, 22, 23, 24, 25, 26, 27, 28, 29, 30, 31, 32, 33, 34, 35, 36, 37, 38, 39, 40, 41, 42, 43, 44, 45] (by decide +kernel) (by decide +kernel)) (goodIn_sub (fun _ h => List.mem_cons_of_mem _ (List.mem_append_right _ h)) (by decide +kernel))) (goodIn_sub (fun _ h => List.mem_cons_of_mem _ (List.mem_append_left _ (List.mem_append_right _ h))) (by decide +kernel))
set_option maxRecDepth 20000 in
theorem gL_shoreOf_X5_shoreOf : GoodIn wsL_shoreOf (wsV RL 79 RX5 yX5_shoreOf wsX5_shoreOf) := goodIn_app (goodIn_of _ (by decide +kernel)) ggL_shoreOf_X5_shoreOf
theorem dL_shoreOf_0 : decode cL_shoreOf 0 = .ok (.aload_n 2, 1) := by decide +kernel
theorem dL_shoreOf_1 : decode cL_shoreOf 1 = .ok (.iconst 0, 1) := by decide +kernel
theorem dL_shoreOf_2 : decode cL_shoreOf 2 = .ok (.aload_n 0, 1) := by decide +kernel
theorem dL_shoreOf_3 : decode cL_shoreOf 3 = .ok (.iload_n 1, 1) := by decide +kernel
theorem dL_shoreOf_4 : decode cL_shoreOf 4 = .ok (.invokevirtual 79, 3) := by decide +kernel
theorem dL_shoreOf_7 : decode cL_shoreOf 7 = .ok (.i2l, 1) := by decide +kernel
theorem dL_shoreOf_8 : decode cL_shoreOf 8 = .ok (.lastore, 1) := by decide +kernel
theorem dL_shoreOf_9 : decode cL_shoreOf 9 = .ok (.goto 6, 3) := by decide +kernel
theorem dL_shoreOf_12 : decode cL_shoreOf 12 = .ok (.astore_n 3, 1) := by decide +kernel
theorem dL_shoreOf_13 : decode cL_shoreOf 13 = .ok (.iconst 1, 1) := by decide +kernel
theorem dL_shoreOf_14 : decode cL_shoreOf 14 = .ok (.ireturn, 1) := by decide +kernel
theorem dL_shoreOf_15 : decode cL_shoreOf 15 = .ok (.iconst 0, 1) := by decide +kernel
theorem dL_shoreOf_16 : decode cL_shoreOf 16 = .ok (.ireturn, 1) := by decide +kernel
set_option maxRecDepth 20000 in
theorem ggL_heightOf_X5_heightOf : GoodIn wsL_heightOf wsX5_heightOf := goodIn_ca (goodIn_ca (goodIn_r _ [6, 7, 8, 9, 10, 5, 11, 12, 13, 14, 15, 16, 17, 18, 19, 20, 21, 22, 23, 24, 25, 26, 27, 28, 29, 30, 31, 32, 33, 34, 35, 36, 37, 38, 39, 40, 41, 42, 43, 44, 45] (by decide +kernel) (by decide +kernel)) (goodIn_sub (fun _ h => List.mem_cons_of_mem _ (List.mem_append_right _ h)) (by decide +kernel))) (goodIn_sub (fun _ h => List.mem_cons_of_mem _ (List.mem_append_left _ (List.mem_append_right _ h))) (by decide +kernel))
set_option maxRecDepth 20000 in
theorem gL_heightOf_X5_heightOf : GoodIn wsL_heightOf (wsV RL 82 RX5 yX5_heightOf wsX5_heightOf) := goodIn_app (goodIn_of _ (by decide +kernel)) ggL_heightOf_X5_heightOf
theorem dL_heightOf_0 : decode cL_heightOf 0 = .ok (.aload_n 2, 1) := by decide +kernel
theorem dL_heightOf_1 : decode cL_heightOf 1 = .ok (.iconst 0, 1) := by decide +kernel
theorem dL_heightOf_2 : decode cL_heightOf 2 = .ok (.aload_n 0, 1) := by decide +kernel
theorem dL_heightOf_3 : decode cL_heightOf 3 = .ok (.iload_n 1, 1) := by decide +kernel
theorem dL_heightOf_4 : decode cL_heightOf 4 = .ok (.invokevirtual 82, 3) := by decide +kernel
theorem dL_heightOf_7 : decode cL_heightOf 7 = .ok (.i2l, 1) := by decide +kernel
theorem dL_heightOf_8 : decode cL_heightOf 8 = .ok (.lastore, 1) := by decide +kernel
theorem dL_heightOf_9 : decode cL_heightOf 9 = .ok (.goto 6, 3) := by decide +kernel
theorem dL_heightOf_12 : decode cL_heightOf 12 = .ok (.astore_n 3, 1) := by decide +kernel
theorem dL_heightOf_13 : decode cL_heightOf 13 = .ok (.iconst 1, 1) := by decide +kernel
theorem dL_heightOf_14 : decode cL_heightOf 14 = .ok (.ireturn, 1) := by decide +kernel
theorem dL_heightOf_15 : decode cL_heightOf 15 = .ok (.iconst 0, 1) := by decide +kernel
theorem dL_heightOf_16 : decode cL_heightOf 16 = .ok (.ireturn, 1) := by decide +kernel
set_option maxRecDepth 20000 in
theorem ggL_absorbedBy_X5_absorbedBy : GoodIn wsL_absorbedBy wsX5_absorbedBy := goodIn_ca (goodIn_ca (goodIn_r _ [6, 7, 8, 9, 10, 5, 11, 12, 13, 14, 15, 16, 17, 18, 19, 20, 21, 22, 23, 24, 25, 26, 27, 28, 29, 30, 31, 32, 33, 34, 35, 36, 37, 38, 39, 40, 41, 42, 43, 44, 45] (by decide +kernel) (by decide +kernel)) (goodIn_sub (fun _ h => List.mem_cons_of_mem _ (List.mem_append_right _ h)) (by decide +kernel))) (goodIn_sub (fun _ h => List.mem_cons_of_mem _ (List.mem_append_left _ (List.mem_append_right _ h))) (by decide +kernel))
set_option maxRecDepth 20000 in
theorem gL_absorbedBy_X5_absorbedBy : GoodIn wsL_absorbedBy (wsV RL 85 RX5 yX5_absorbedBy wsX5_absorbedBy) := goodIn_app (goodIn_of _ (by decide +kernel)) ggL_absorbedBy_X5_absorbedBy
theorem dL_absorbedBy_0 : decode cL_absorbedBy 0 = .ok (.aload_n 2, 1) := by decide +kernel
theorem dL_absorbedBy_1 : decode cL_absorbedBy 1 = .ok (.iconst 0, 1) := by decide +kernel
theorem dL_absorbedBy_2 : decode cL_absorbedBy 2 = .ok (.aload_n 0, 1) := by decide +kernel
theorem dL_absorbedBy_3 : decode cL_absorbedBy 3 = .ok (.iload_n 1, 1) := by decide +kernel
theorem dL_absorbedBy_4 : decode cL_absorbedBy 4 = .ok (.invokevirtual 85, 3) := by decide +kernel
theorem dL_absorbedBy_7 : decode cL_absorbedBy 7 = .ok (.i2l, 1) := by decide +kernel
theorem dL_absorbedBy_8 : decode cL_absorbedBy 8 = .ok (.lastore, 1) := by decide +kernel
theorem dL_absorbedBy_9 : decode cL_absorbedBy 9 = .ok (.goto 6, 3) := by decide +kernel
theorem dL_absorbedBy_12 : decode cL_absorbedBy 12 = .ok (.astore_n 3, 1) := by decide +kernel
theorem dL_absorbedBy_13 : decode cL_absorbedBy 13 = .ok (.iconst 1, 1) := by decide +kernel
theorem dL_absorbedBy_14 : decode cL_absorbedBy 14 = .ok (.ireturn, 1) := by decide +kernel
theorem dL_absorbedBy_15 : decode cL_absorbedBy 15 = .ok (.iconst 0, 1) := by decide +kernel
theorem dL_absorbedBy_16 : decode cL_absorbedBy 16 = .ok (.ireturn, 1) := by decide +kernel
set_option maxRecDepth 20000 in
theorem ggL_floodsOf_X5_floodsOf : GoodIn wsL_floodsOf wsX5_floodsOf := goodIn_ca (goodIn_ca (goodIn_r _ [6, 7, 8, 9, 10, 5, 11, 12, 13, 14, 15, 16, 17, 18, 19, 20, 21, 22, 23, 24, 25, 26, 27, 28, 29, 30, 31, 32, 33, 34, 35, 36, 37, 38, 39, 40, 41, 42, 43, 44, 45] (by decide +kernel) (by decide +kernel)) (goodIn_sub (fun _ h => List.mem_cons_of_mem _ (List.mem_append_right _ h)) (by decide +kernel))) (goodIn_sub (fun _ h => List.mem_cons_of_mem _ (List.mem_append_left _ (List.mem_append_right _ h))) (by decide +kernel))
set_option maxRecDepth 20000 in
theorem gL_floodsOf_X5_floodsOf : GoodIn wsL_floodsOf (wsV RL 88 RX5 yX5_floodsOf wsX5_floodsOf) := goodIn_app (goodIn_of _ (by decide +kernel)) ggL_floodsOf_X5_floodsOf
theorem dL_floodsOf_0 : decode cL_floodsOf 0 = .ok (.aload_n 2, 1) := by decide +kernel
theorem dL_floodsOf_1 : decode cL_floodsOf 1 = .ok (.iconst 0, 1) := by decide +kernel
theorem dL_floodsOf_2 : decode cL_floodsOf 2 = .ok (.aload_n 0, 1) := by decide +kernel
theorem dL_floodsOf_3 : decode cL_floodsOf 3 = .ok (.iload_n 1, 1) := by decide +kernel
theorem dL_floodsOf_4 : decode cL_floodsOf 4 = .ok (.invokevirtual 88, 3) := by decide +kernel
theorem dL_floodsOf_7 : decode cL_floodsOf 7 = .ok (.i2l, 1) := by decide +kernel
theorem dL_floodsOf_8 : decode cL_floodsOf 8 = .ok (.lastore, 1) := by decide +kernel
theorem dL_floodsOf_9 : decode cL_floodsOf 9 = .ok (.goto 6, 3) := by decide +kernel
theorem dL_floodsOf_12 : decode cL_floodsOf 12 = .ok (.astore_n 3, 1) := by decide +kernel
theorem dL_floodsOf_13 : decode cL_floodsOf 13 = .ok (.iconst 1, 1) := by decide +kernel
theorem dL_floodsOf_14 : decode cL_floodsOf 14 = .ok (.ireturn, 1) := by decide +kernel
theorem dL_floodsOf_15 : decode cL_floodsOf 15 = .ok (.iconst 0, 1) := by decide +kernel
theorem dL_floodsOf_16 : decode cL_floodsOf 16 = .ok (.ireturn, 1) := by decide +kernel
set_option maxRecDepth 20000 in
theorem ggL_setFlow_X5_setFlow : GoodIn wsL_setFlow wsX5_setFlow := goodIn_ca (goodIn_ca (goodIn_r _ [6, 7, 8, 9, 10, 11, 12, 13, 14, 15, 16, 17, 18, 19, 20, 21, 22, 23, 24, 25, 26, 27, 28, 29, 30, 31, 32, 33, 34, 35, 36, 37, 38, 39, 40, 41, 42, 43, 44, 45, 46, 47, 48, 49, 50, 51, 52, 53, 54, 55, 56, 57, 58, 59, 60, 61, 62, 63] (by decide +kernel) (by decide +kernel)) (goodIn_sub (fun _ h => List.mem_cons_of_mem _ (List.mem_append_right _ h)) (by decide +kernel))) (goodIn_sub (fun _ h => List.mem_cons_of_mem _ (List.mem_append_left _ (List.mem_append_right _ h))) (by decide +kernel))
set_option maxRecDepth 20000 in
theorem gL_setFlow_X5_setFlow : GoodIn wsL_setFlow (wsV RL 91 RX5 yX5_setFlow wsX5_setFlow) := goodIn_app (goodIn_of _ (by decide +kernel)) ggL_setFlow_X5_setFlow
theorem dL_setFlow_0 : decode cL_setFlow 0 = .ok (.aload_n 2, 1) := by decide +kernel
theorem dL_setFlow_1 : decode cL_setFlow 1 = .ok (.iconst 0, 1) := by decide +kernel
theorem dL_setFlow_2 : decode cL_setFlow 2 = .ok (.aload_n 0, 1) := by decide +kernel
theorem dL_setFlow_3 : decode cL_setFlow 3 = .ok (.iload_n 1, 1) := by decide +kernel
theorem dL_setFlow_4 : decode cL_setFlow 4 = .ok (.invokevirtual 91, 3) := by decide +kernel
theorem dL_setFlow_7 : decode cL_setFlow 7 = .ok (.i2l, 1) := by decide +kernel
theorem dL_setFlow_8 : decode cL_setFlow 8 = .ok (.lastore, 1) := by decide +kernel
theorem dL_setFlow_9 : decode cL_setFlow 9 = .ok (.goto 6, 3) := by decide +kernel
theorem dL_setFlow_12 : decode cL_setFlow 12 = .ok (.astore_n 3, 1) := by decide +kernel
theorem dL_setFlow_13 : decode cL_setFlow 13 = .ok (.iconst 1, 1) := by decide +kernel
theorem dL_setFlow_14 : decode cL_setFlow 14 = .ok (.ireturn, 1) := by decide +kernel
theorem dL_setFlow_15 : decode cL_setFlow 15 = .ok (.iconst 0, 1) := by decide +kernel
theorem dL_setFlow_16 : decode cL_setFlow 16 = .ok (.ireturn, 1) := by decide +kernel
set_option maxRecDepth 20000 in
theorem ggL_advance_X5_advance : GoodIn wsL_advance wsX5_advance := goodIn_ca (goodIn_ca (goodIn_ca (goodIn_r _ [6, 7, 8, 9, 10, 11, 12, 13, 14, 15, 16, 17, 18, 19, 20, 21, 22, 23, 24, 25, 26, 27, 28, 29, 30, 31, 32, 33, 34, 35, 36, 37, 38, 39, 40, 41, 42, 43, 44, 45, 46, 47, 48, 49, 50, 51, 52, 53, 54, 55, 56, 57, 58, 59, 60, 61, 62, 63, 64, 65, 66, 67, 68, 69, 70, 71, 72, 73, 74, 75, 76, 77, 78, 79, 80, 81, 82, 83, 84, 85, 86, 87, 88, 89, 90, 91, 92, 93, 94, 95, 96, 97, 98, 99, 100, 101, 102, 103, 104, 105, 106, 107, 108, 109, 110, 111, 112, 113, 114, 115, 116, 117, 118, 119, 120, 121, 122, 123, 124, 125, 126, 127, 128, 129, 130, 131, 132, 133, 134, 135, 136, 137, 138, 139, 140, 141, 142, 143, 144, 145, 146, 147, 148] (by decide +kernel) (by decide +kernel)) (goodIn_sub (fun _ h => List.mem_cons_of_mem _ (List.mem_append_left _ (List.mem_append_right _ h))) (by decide +kernel))) (goodIn_sub (fun _ h => List.mem_cons_of_mem _ (List.mem_append_left _ (List.mem_append_left _ (List.mem_append_right _ h)))) (by decide +kernel))) (goodIn_sub (fun _ h => List.mem_cons_of_mem _ (List.mem_append_right _ h)) (by decide +kernel))
set_option maxRecDepth 20000 in
theorem gL_advance_X5_advance : GoodIn wsL_advance (wsV RL 94 RX5 yX5_advance wsX5_advance) := goodIn_app (goodIn_of _ (by decide +kernel)) ggL_advance_X5_advance
theorem dL_advance_0 : decode cL_advance 0 = .ok (.aload_n 2, 1) := by decide +kernel
theorem dL_advance_1 : decode cL_advance 1 = .ok (.iconst 0, 1) := by decide +kernel
theorem dL_advance_2 : decode cL_advance 2 = .ok (.aload_n 0, 1) := by decide +kernel
theorem dL_advance_3 : decode cL_advance 3 = .ok (.iload_n 1, 1) := by decide +kernel
theorem dL_advance_4 : decode cL_advance 4 = .ok (.invokevirtual 94, 3) := by decide +kernel
theorem dL_advance_7 : decode cL_advance 7 = .ok (.i2l, 1) := by decide +kernel
theorem dL_advance_8 : decode cL_advance 8 = .ok (.lastore, 1) := by decide +kernel
theorem dL_advance_9 : decode cL_advance 9 = .ok (.goto 6, 3) := by decide +kernel
theorem dL_advance_12 : decode cL_advance 12 = .ok (.astore_n 3, 1) := by decide +kernel
theorem dL_advance_13 : decode cL_advance 13 = .ok (.iconst 1, 1) := by decide +kernel
theorem dL_advance_14 : decode cL_advance 14 = .ok (.ireturn, 1) := by decide +kernel
theorem dL_advance_15 : decode cL_advance 15 = .ok (.iconst 0, 1) := by decide +kernel
theorem dL_advance_16 : decode cL_advance 16 = .ok (.ireturn, 1) := by decide +kernel
set_option maxRecDepth 20000 in
theorem ggL_tideAt_X5_tideAt : GoodIn wsL_tideAt wsX5_tideAt := goodIn_ca (goodIn_ca (goodIn_ca (goodIn_r _ [6, 7, 8, 9, 5, 10, 11, 12, 13, 14, 15, 16, 17, 18, 19, 20, 21, 22, 23, 24, 25, 26, 27, 28, 29, 30, 31, 32, 33, 34, 35, 36, 37, 38, 39, 40, 41, 42, 43, 44, 45, 46, 47, 48, 49, 50, 51, 52, 53, 54, 55, 56, 57, 58, 59, 60, 61, 62, 63, 64, 65, 66, 67, 68, 69, 70, 71, 72, 73, 74, 75, 76, 77, 78, 79, 80, 81, 82, 83, 84, 85, 86, 87, 88, 89, 90, 91, 92, 93, 94, 95, 96, 97] (by decide +kernel) (by decide +kernel)) (goodIn_sub (fun _ h => List.mem_cons_of_mem _ (List.mem_append_left _ (List.mem_append_right _ h))) (by decide +kernel))) (goodIn_sub (fun _ h => List.mem_cons_of_mem _ (List.mem_append_left _ (List.mem_append_left _ (List.mem_append_right _ h)))) (by decide +kernel))) (goodIn_sub (fun _ h => List.mem_cons_of_mem _ (List.mem_append_right _ h)) (by decide +kernel))
set_option maxRecDepth 20000 in
theorem gL_tideAt_X5_tideAt : GoodIn wsL_tideAt (wsV RL 97 RX5 yX5_tideAt wsX5_tideAt) := goodIn_app (goodIn_of _ (by decide +kernel)) ggL_tideAt_X5_tideAt
theorem dL_tideAt_0 : decode cL_tideAt 0 = .ok (.aload_n 2, 1) := by decide +kernel
theorem dL_tideAt_1 : decode cL_tideAt 1 = .ok (.iconst 0, 1) := by decide +kernel
theorem dL_tideAt_2 : decode cL_tideAt 2 = .ok (.aload_n 0, 1) := by decide +kernel
theorem dL_tideAt_3 : decode cL_tideAt 3 = .ok (.iload_n 1, 1) := by decide +kernel
theorem dL_tideAt_4 : decode cL_tideAt 4 = .ok (.invokevirtual 97, 3) := by decide +kernel
theorem dL_tideAt_7 : decode cL_tideAt 7 = .ok (.i2l, 1) := by decide +kernel
theorem dL_tideAt_8 : decode cL_tideAt 8 = .ok (.lastore, 1) := by decide +kernel
theorem dL_tideAt_9 : decode cL_tideAt 9 = .ok (.goto 6, 3) := by decide +kernel
theorem dL_tideAt_12 : decode cL_tideAt 12 = .ok (.astore_n 3, 1) := by decide +kernel
theorem dL_tideAt_13 : decode cL_tideAt 13 = .ok (.iconst 1, 1) := by decide +kernel
theorem dL_tideAt_14 : decode cL_tideAt 14 = .ok (.ireturn, 1) := by decide +kernel
theorem dL_tideAt_15 : decode cL_tideAt 15 = .ok (.iconst 0, 1) := by decide +kernel
theorem dL_tideAt_16 : decode cL_tideAt 16 = .ok (.ireturn, 1) := by decide +kernel
set_option maxRecDepth 20000 in
theorem ggL_levelAt_X5_levelAt : GoodIn wsL_levelAt wsX5_levelAt := goodIn_ca (goodIn_ca (goodIn_ca (goodIn_r _ [6, 7, 8, 9, 5, 10, 11, 12, 13, 14, 15, 16, 17, 18, 19, 20, 21, 22, 23, 24, 25, 26, 27, 28, 29, 30, 31, 32, 33, 34, 35, 36, 37, 38, 39, 40, 41, 42, 43, 44, 45, 46, 47, 48, 49, 50, 51, 52, 53, 54, 55, 56, 57, 58, 59, 60, 61, 62, 63, 64, 65, 66, 67, 68, 69, 70, 71, 72, 73, 74, 75, 76, 77, 78, 79, 80, 81, 82, 83, 84, 85, 86, 87, 88, 89, 90, 91, 92, 93, 94, 95, 96, 97, 98, 99, 100, 101] (by decide +kernel) (by decide +kernel)) (goodIn_sub (fun _ h => List.mem_cons_of_mem _ (List.mem_append_left _ (List.mem_append_right _ h))) (by decide +kernel))) (goodIn_sub (fun _ h => List.mem_cons_of_mem _ (List.mem_append_left _ (List.mem_append_left _ (List.mem_append_right _ h)))) (by decide +kernel))) (goodIn_sub (fun _ h => List.mem_cons_of_mem _ (List.mem_append_right _ h)) (by decide +kernel))
set_option maxRecDepth 20000 in
theorem gL_levelAt_X5_levelAt : GoodIn wsL_levelAt (wsV RL 100 RX5 yX5_levelAt wsX5_levelAt) := goodIn_app (goodIn_of _ (by decide +kernel)) ggL_levelAt_X5_levelAt
theorem dL_levelAt_0 : decode cL_levelAt 0 = .ok (.aload_n 2, 1) := by decide +kernel
theorem dL_levelAt_1 : decode cL_levelAt 1 = .ok (.iconst 0, 1) := by decide +kernel
theorem dL_levelAt_2 : decode cL_levelAt 2 = .ok (.aload_n 0, 1) := by decide +kernel
theorem dL_levelAt_3 : decode cL_levelAt 3 = .ok (.iload_n 1, 1) := by decide +kernel
theorem dL_levelAt_4 : decode cL_levelAt 4 = .ok (.invokevirtual 100, 3) := by decide +kernel
theorem dL_levelAt_7 : decode cL_levelAt 7 = .ok (.i2l, 1) := by decide +kernel
theorem dL_levelAt_8 : decode cL_levelAt 8 = .ok (.lastore, 1) := by decide +kernel
theorem dL_levelAt_9 : decode cL_levelAt 9 = .ok (.goto 6, 3) := by decide +kernel
theorem dL_levelAt_12 : decode cL_levelAt 12 = .ok (.astore_n 3, 1) := by decide +kernel
theorem dL_levelAt_13 : decode cL_levelAt 13 = .ok (.iconst 1, 1) := by decide +kernel
theorem dL_levelAt_14 : decode cL_levelAt 14 = .ok (.ireturn, 1) := by decide +kernel
theorem dL_levelAt_15 : decode cL_levelAt 15 = .ok (.iconst 0, 1) := by decide +kernel
theorem dL_levelAt_16 : decode cL_levelAt 16 = .ok (.ireturn, 1) := by decide +kernel
set_option maxRecDepth 20000 in
theorem ggL_tideIn_X5_tideIn : GoodIn wsL_tideIn wsX5_tideIn := goodIn_ca (goodIn_ca (goodIn_ca (goodIn_ca (goodIn_r _ [6, 7, 8, 9, 5, 10, 11, 12, 13, 14, 15, 16, 17, 18, 19, 20, 21, 22, 23, 24, 25, 26, 27, 28, 29, 30, 31, 32, 33, 34, 35, 36, 37, 38, 39, 40, 41, 42, 43, 44, 45, 46, 47, 48, 49, 50, 51, 52, 53, 54, 55, 56, 57, 58, 59, 60, 61, 62, 63, 64, 65, 66, 67, 68, 69, 70, 71, 72, 73, 74, 75, 76, 77, 78, 79, 80, 81, 82, 83, 84, 85, 86, 87, 88, 89, 90, 91, 92, 93, 94, 95, 96, 97, 98, 99, 100, 101, 102] (by decide +kernel) (by decide +kernel)) (goodIn_sub (fun _ h => List.mem_cons_of_mem _ (List.mem_append_left _ (List.mem_append_left _ (List.mem_append_right _ h)))) (by decide +kernel))) (goodIn_sub (fun _ h => List.mem_cons_of_mem _ (List.mem_append_left _ (List.mem_append_right _ h))) (by decide +kernel))) (goodIn_sub (fun _ h => List.mem_cons_of_mem _ (List.mem_append_left _ (List.mem_append_left _ (List.mem_append_left _ (List.mem_append_right _ h))))) (by decide +kernel))) (goodIn_sub (fun _ h => List.mem_cons_of_mem _ (List.mem_append_right _ h)) (by decide +kernel))
set_option maxRecDepth 20000 in
theorem gL_tideIn_X5_tideIn : GoodIn wsL_tideIn (wsV RL 103 RX5 yX5_tideIn wsX5_tideIn) := goodIn_app (goodIn_of _ (by decide +kernel)) ggL_tideIn_X5_tideIn
theorem dL_tideIn_0 : decode cL_tideIn 0 = .ok (.aload_n 3, 1) := by decide +kernel
theorem dL_tideIn_1 : decode cL_tideIn 1 = .ok (.iconst 0, 1) := by decide +kernel
theorem dL_tideIn_2 : decode cL_tideIn 2 = .ok (.aload_n 0, 1) := by decide +kernel
theorem dL_tideIn_3 : decode cL_tideIn 3 = .ok (.iload_n 1, 1) := by decide +kernel
theorem dL_tideIn_4 : decode cL_tideIn 4 = .ok (.iload_n 2, 1) := by decide +kernel
theorem dL_tideIn_5 : decode cL_tideIn 5 = .ok (.invokevirtual 103, 3) := by decide +kernel
theorem dL_tideIn_8 : decode cL_tideIn 8 = .ok (.i2l, 1) := by decide +kernel
theorem dL_tideIn_9 : decode cL_tideIn 9 = .ok (.lastore, 1) := by decide +kernel
theorem dL_tideIn_10 : decode cL_tideIn 10 = .ok (.goto 11, 3) := by decide +kernel
theorem dL_tideIn_13 : decode cL_tideIn 13 = .ok (.astore 4, 2) := by decide +kernel
theorem dL_tideIn_15 : decode cL_tideIn 15 = .ok (.iconst 1, 1) := by decide +kernel
theorem dL_tideIn_16 : decode cL_tideIn 16 = .ok (.ireturn, 1) := by decide +kernel
theorem dL_tideIn_17 : decode cL_tideIn 17 = .ok (.astore 4, 2) := by decide +kernel
theorem dL_tideIn_19 : decode cL_tideIn 19 = .ok (.iconst 2, 1) := by decide +kernel
theorem dL_tideIn_20 : decode cL_tideIn 20 = .ok (.ireturn, 1) := by decide +kernel
theorem dL_tideIn_21 : decode cL_tideIn 21 = .ok (.iconst 0, 1) := by decide +kernel
theorem dL_tideIn_22 : decode cL_tideIn 22 = .ok (.ireturn, 1) := by decide +kernel
set_option maxRecDepth 20000 in
theorem ggL_tideBySteps_X5_tideBySteps : GoodIn wsL_tideBySteps wsX5_tideBySteps := goodIn_ca (goodIn_ca (goodIn_ca (goodIn_ca (goodIn_r _ [6, 7, 8, 9, 10, 5, 11, 12, 13, 14, 15, 16, 17, 18, 19, 20, 21, 22, 23, 24, 25, 26, 27, 28, 29, 30, 31, 32, 33, 34, 35, 36, 37, 38, 39, 40, 41, 42, 43, 44, 45, 46, 47, 48, 49, 50, 51, 52, 53, 54, 55, 56, 57, 58, 59, 60, 61, 62, 63, 64, 65, 66, 67, 68, 69, 70, 71, 72, 73, 74, 75, 76, 77, 78, 79, 80, 81, 82, 83, 84, 85, 86, 87, 88, 89, 90, 91, 92, 93, 94, 95, 96, 97, 98, 99, 100, 101, 102, 103, 104, 105, 106, 107, 108, 109, 110, 111, 112, 113, 114, 115, 116, 117, 118, 119, 120, 121, 122, 123, 124, 125, 126, 127, 128, 129] (by decide +kernel) (by decide +kernel)) (goodIn_sub (fun _ h => List.mem_cons_of_mem _ (List.mem_append_left _ (List.mem_append_left _ (List.mem_append_right _ h)))) (by decide +kernel))) (goodIn_sub (fun _ h => List.mem_cons_of_mem _ (List.mem_append_left _ (List.mem_append_right _ h))) (by decide +kernel))) (goodIn_sub (fun _ h => List.mem_cons_of_mem _ (List.mem_append_left _ (List.mem_append_left _ (List.mem_append_left _ (List.mem_append_right _ h))))) (by decide +kernel))) (goodIn_sub (fun _ h => List.mem_cons_of_mem _ (List.mem_append_right _ h)) (by decide +kernel))
set_option maxRecDepth 20000 in
theorem gL_tideBySteps_X5_tideBySteps : GoodIn wsL_tideBySteps (wsV RL 106 RX5 yX5_tideBySteps wsX5_tideBySteps) := goodIn_app (goodIn_of _ (by decide +kernel)) ggL_tideBySteps_X5_tideBySteps
theorem dL_tideBySteps_0 : decode cL_tideBySteps 0 = .ok (.aload_n 3, 1) := by decide +kernel
theorem dL_tideBySteps_1 : decode cL_tideBySteps 1 = .ok (.iconst 0, 1) := by decide +kernel
theorem dL_tideBySteps_2 : decode cL_tideBySteps 2 = .ok (.aload_n 0, 1) := by decide +kernel
theorem dL_tideBySteps_3 : decode cL_tideBySteps 3 = .ok (.iload_n 1, 1) := by decide +kernel
theorem dL_tideBySteps_4 : decode cL_tideBySteps 4 = .ok (.iload_n 2, 1) := by decide +kernel
theorem dL_tideBySteps_5 : decode cL_tideBySteps 5 = .ok (.invokevirtual 106, 3) := by decide +kernel
theorem dL_tideBySteps_8 : decode cL_tideBySteps 8 = .ok (.i2l, 1) := by decide +kernel
theorem dL_tideBySteps_9 : decode cL_tideBySteps 9 = .ok (.lastore, 1) := by decide +kernel
theorem dL_tideBySteps_10 : decode cL_tideBySteps 10 = .ok (.goto 11, 3) := by decide +kernel
theorem dL_tideBySteps_13 : decode cL_tideBySteps 13 = .ok (.astore 4, 2) := by decide +kernel
theorem dL_tideBySteps_15 : decode cL_tideBySteps 15 = .ok (.iconst 1, 1) := by decide +kernel
theorem dL_tideBySteps_16 : decode cL_tideBySteps 16 = .ok (.ireturn, 1) := by decide +kernel
theorem dL_tideBySteps_17 : decode cL_tideBySteps 17 = .ok (.astore 4, 2) := by decide +kernel
theorem dL_tideBySteps_19 : decode cL_tideBySteps 19 = .ok (.iconst 2, 1) := by decide +kernel
theorem dL_tideBySteps_20 : decode cL_tideBySteps 20 = .ok (.ireturn, 1) := by decide +kernel
theorem dL_tideBySteps_21 : decode cL_tideBySteps 21 = .ok (.iconst 0, 1) := by decide +kernel
theorem dL_tideBySteps_22 : decode cL_tideBySteps 22 = .ok (.ireturn, 1) := by decide +kernel
set_option maxRecDepth 20000 in
theorem ggL_highTideIn_X5_highTideIn : GoodIn wsL_highTideIn wsX5_highTideIn := goodIn_ca (goodIn_ca (goodIn_ca (goodIn_r _ [6, 7, 8, 9, 5, 10, 11, 12, 13, 14, 15, 16, 17, 18, 19, 20, 21, 22, 23, 24, 25, 26, 27, 28, 29, 30, 31, 32, 33, 34, 35, 36, 37, 38, 39, 40, 41, 42, 43, 44, 45, 46, 47, 48, 49, 50, 51, 52, 53, 54, 55, 56, 57, 58, 59, 60, 61, 62, 63, 64, 65, 66, 67, 68, 69, 70, 71, 72, 73, 74, 75, 76, 77, 78, 79, 80, 81, 82, 83, 84, 85, 86, 87, 88, 89, 90, 91, 92, 93, 94, 95, 96, 97, 98, 99, 100, 101] (by decide +kernel) (by decide +kernel)) (goodIn_sub (fun _ h => List.mem_cons_of_mem _ (List.mem_append_left _ (List.mem_append_right _ h))) (by decide +kernel))) (goodIn_sub (fun _ h => List.mem_cons_of_mem _ (List.mem_append_left _ (List.mem_append_left _ (List.mem_append_right _ h)))) (by decide +kernel))) (goodIn_sub (fun _ h => List.mem_cons_of_mem _ (List.mem_append_right _ h)) (by decide +kernel))
set_option maxRecDepth 20000 in
theorem gL_highTideIn_X5_highTideIn : GoodIn wsL_highTideIn (wsV RL 109 RX5 yX5_highTideIn wsX5_highTideIn) := goodIn_app (goodIn_of _ (by decide +kernel)) ggL_highTideIn_X5_highTideIn
theorem dL_highTideIn_0 : decode cL_highTideIn 0 = .ok (.aload_n 2, 1) := by decide +kernel
theorem dL_highTideIn_1 : decode cL_highTideIn 1 = .ok (.iconst 0, 1) := by decide +kernel
theorem dL_highTideIn_2 : decode cL_highTideIn 2 = .ok (.aload_n 0, 1) := by decide +kernel
theorem dL_highTideIn_3 : decode cL_highTideIn 3 = .ok (.iload_n 1, 1) := by decide +kernel
theorem dL_highTideIn_4 : decode cL_highTideIn 4 = .ok (.invokevirtual 109, 3) := by decide +kernel
theorem dL_highTideIn_7 : decode cL_highTideIn 7 = .ok (.i2l, 1) := by decide +kernel
theorem dL_highTideIn_8 : decode cL_highTideIn 8 = .ok (.lastore, 1) := by decide +kernel
theorem dL_highTideIn_9 : decode cL_highTideIn 9 = .ok (.goto 6, 3) := by decide +kernel
theorem dL_highTideIn_12 : decode cL_highTideIn 12 = .ok (.astore_n 3, 1) := by decide +kernel
theorem dL_highTideIn_13 : decode cL_highTideIn 13 = .ok (.iconst 1, 1) := by decide +kernel
theorem dL_highTideIn_14 : decode cL_highTideIn 14 = .ok (.ireturn, 1) := by decide +kernel
theorem dL_highTideIn_15 : decode cL_highTideIn 15 = .ok (.iconst 0, 1) := by decide +kernel
theorem dL_highTideIn_16 : decode cL_highTideIn 16 = .ok (.ireturn, 1) := by decide +kernel
set_option maxRecDepth 20000 in
theorem ggL_lowTideIn_X5_lowTideIn : GoodIn wsL_lowTideIn wsX5_lowTideIn := goodIn_ca (goodIn_ca (goodIn_ca (goodIn_r _ [6, 7, 8, 9, 5, 10, 11, 12, 13, 14, 15, 16, 17, 18, 19, 20, 21, 22, 23, 24, 25, 26, 27, 28, 29, 30, 31, 32, 33, 34, 35, 36, 37, 38, 39, 40, 41, 42, 43, 44, 45, 46, 47, 48, 49, 50, 51, 52, 53, 54, 55, 56, 57, 58, 59, 60, 61, 62, 63, 64, 65, 66, 67, 68, 69, 70, 71, 72, 73, 74, 75, 76, 77, 78, 79, 80, 81, 82, 83, 84, 85, 86, 87, 88, 89, 90, 91, 92, 93, 94, 95, 96, 97, 98, 99, 100, 101] (by decide +kernel) (by decide +kernel)) (goodIn_sub (fun _ h => List.mem_cons_of_mem _ (List.mem_append_left _ (List.mem_append_right _ h))) (by decide +kernel))) (goodIn_sub (fun _ h => List.mem_cons_of_mem _ (List.mem_append_left _ (List.mem_append_left _ (List.mem_append_right _ h)))) (by decide +kernel))) (goodIn_sub (fun _ h => List.mem_cons_of_mem _ (List.mem_append_right _ h)) (by decide +kernel))
set_option maxRecDepth 20000 in
theorem gL_lowTideIn_X5_lowTideIn : GoodIn wsL_lowTideIn (wsV RL 112 RX5 yX5_lowTideIn wsX5_lowTideIn) := goodIn_app (goodIn_of _ (by decide +kernel)) ggL_lowTideIn_X5_lowTideIn
theorem dL_lowTideIn_0 : decode cL_lowTideIn 0 = .ok (.aload_n 2, 1) := by decide +kernel
theorem dL_lowTideIn_1 : decode cL_lowTideIn 1 = .ok (.iconst 0, 1) := by decide +kernel
theorem dL_lowTideIn_2 : decode cL_lowTideIn 2 = .ok (.aload_n 0, 1) := by decide +kernel
theorem dL_lowTideIn_3 : decode cL_lowTideIn 3 = .ok (.iload_n 1, 1) := by decide +kernel
theorem dL_lowTideIn_4 : decode cL_lowTideIn 4 = .ok (.invokevirtual 112, 3) := by decide +kernel
theorem dL_lowTideIn_7 : decode cL_lowTideIn 7 = .ok (.i2l, 1) := by decide +kernel
theorem dL_lowTideIn_8 : decode cL_lowTideIn 8 = .ok (.lastore, 1) := by decide +kernel
theorem dL_lowTideIn_9 : decode cL_lowTideIn 9 = .ok (.goto 6, 3) := by decide +kernel
theorem dL_lowTideIn_12 : decode cL_lowTideIn 12 = .ok (.astore_n 3, 1) := by decide +kernel
theorem dL_lowTideIn_13 : decode cL_lowTideIn 13 = .ok (.iconst 1, 1) := by decide +kernel
theorem dL_lowTideIn_14 : decode cL_lowTideIn 14 = .ok (.ireturn, 1) := by decide +kernel
theorem dL_lowTideIn_15 : decode cL_lowTideIn 15 = .ok (.iconst 0, 1) := by decide +kernel
theorem dL_lowTideIn_16 : decode cL_lowTideIn 16 = .ok (.ireturn, 1) := by decide +kernel
set_option maxRecDepth 20000 in
theorem ggL_eclipseIn_X5_eclipseIn : GoodIn wsL_eclipseIn wsX5_eclipseIn := goodIn_ca (goodIn_ca (goodIn_ca (goodIn_ca (goodIn_r _ [6, 7, 8, 9, 10, 5, 11, 12, 13, 14, 15, 16, 17, 18, 19, 20, 21, 22, 23, 24, 25, 26, 27, 28, 29, 30, 31, 32, 33, 34, 35, 36, 37, 38, 39, 40, 41, 42, 43, 44, 45, 46, 47, 48, 49, 50, 51, 52, 53, 54, 55, 56, 57, 58, 59, 60, 61, 62, 63, 64, 65, 66, 67, 68, 69, 70, 71, 72, 73, 74, 75, 76, 77] (by decide +kernel) (by decide +kernel)) (goodIn_sub (fun _ h => List.mem_cons_of_mem _ (List.mem_append_left _ (List.mem_append_left _ (List.mem_append_right _ h)))) (by decide +kernel))) (goodIn_sub (fun _ h => List.mem_cons_of_mem _ (List.mem_append_left _ (List.mem_append_left _ (List.mem_append_left _ (List.mem_append_right _ h))))) (by decide +kernel))) (goodIn_sub (fun _ h => List.mem_cons_of_mem _ (List.mem_append_left _ (List.mem_append_right _ h))) (by decide +kernel))) (goodIn_sub (fun _ h => List.mem_cons_of_mem _ (List.mem_append_right _ h)) (by decide +kernel))
set_option maxRecDepth 20000 in
theorem gL_eclipseIn_X5_eclipseIn : GoodIn wsL_eclipseIn (wsV RL 115 RX5 yX5_eclipseIn wsX5_eclipseIn) := goodIn_app (goodIn_of _ (by decide +kernel)) ggL_eclipseIn_X5_eclipseIn
theorem dL_eclipseIn_0 : decode cL_eclipseIn 0 = .ok (.aload_n 2, 1) := by decide +kernel
theorem dL_eclipseIn_1 : decode cL_eclipseIn 1 = .ok (.iconst 0, 1) := by decide +kernel
theorem dL_eclipseIn_2 : decode cL_eclipseIn 2 = .ok (.aload_n 0, 1) := by decide +kernel
theorem dL_eclipseIn_3 : decode cL_eclipseIn 3 = .ok (.iload_n 1, 1) := by decide +kernel
theorem dL_eclipseIn_4 : decode cL_eclipseIn 4 = .ok (.invokevirtual 115, 3) := by decide +kernel
theorem dL_eclipseIn_7 : decode cL_eclipseIn 7 = .ok (.i2l, 1) := by decide +kernel
theorem dL_eclipseIn_8 : decode cL_eclipseIn 8 = .ok (.lastore, 1) := by decide +kernel
theorem dL_eclipseIn_9 : decode cL_eclipseIn 9 = .ok (.goto 9, 3) := by decide +kernel
theorem dL_eclipseIn_12 : decode cL_eclipseIn 12 = .ok (.astore_n 3, 1) := by decide +kernel
theorem dL_eclipseIn_13 : decode cL_eclipseIn 13 = .ok (.iconst 1, 1) := by decide +kernel
theorem dL_eclipseIn_14 : decode cL_eclipseIn 14 = .ok (.ireturn, 1) := by decide +kernel
theorem dL_eclipseIn_15 : decode cL_eclipseIn 15 = .ok (.astore_n 3, 1) := by decide +kernel
theorem dL_eclipseIn_16 : decode cL_eclipseIn 16 = .ok (.iconst 2, 1) := by decide +kernel
theorem dL_eclipseIn_17 : decode cL_eclipseIn 17 = .ok (.ireturn, 1) := by decide +kernel
theorem dL_eclipseIn_18 : decode cL_eclipseIn 18 = .ok (.iconst 0, 1) := by decide +kernel
theorem dL_eclipseIn_19 : decode cL_eclipseIn 19 = .ok (.ireturn, 1) := by decide +kernel
set_option maxRecDepth 20000 in
theorem ggL_conjunctionIn_X5_conjunctionIn : GoodIn wsL_conjunctionIn wsX5_conjunctionIn := goodIn_ca (goodIn_ca (goodIn_ca (goodIn_ca (goodIn_r _ [6, 7, 8, 9, 10, 5, 11, 12, 13, 14, 15, 16, 17, 18, 19, 20, 21, 22, 23, 24, 25, 26, 27, 28, 29, 30, 31, 32, 33, 34, 35, 36, 37, 38, 39, 40, 41, 42, 43, 44, 45, 46, 47, 48, 49, 50, 51, 52, 53, 54, 55, 56, 57, 58, 59, 60, 61, 62] (by decide +kernel) (by decide +kernel)) (goodIn_sub (fun _ h => List.mem_cons_of_mem _ (List.mem_append_left _ (List.mem_append_left _ (List.mem_append_right _ h)))) (by decide +kernel))) (goodIn_sub (fun _ h => List.mem_cons_of_mem _ (List.mem_append_left _ (List.mem_append_left _ (List.mem_append_left _ (List.mem_append_right _ h))))) (by decide +kernel))) (goodIn_sub (fun _ h => List.mem_cons_of_mem _ (List.mem_append_left _ (List.mem_append_right _ h))) (by decide +kernel))) (goodIn_sub (fun _ h => List.mem_cons_of_mem _ (List.mem_append_right _ h)) (by decide +kernel))
set_option maxRecDepth 20000 in
theorem gL_conjunctionIn_X5_conjunctionIn : GoodIn wsL_conjunctionIn (wsV RL 118 RX5 yX5_conjunctionIn wsX5_conjunctionIn) := goodIn_app (goodIn_of _ (by decide +kernel)) ggL_conjunctionIn_X5_conjunctionIn
theorem dL_conjunctionIn_0 : decode cL_conjunctionIn 0 = .ok (.aload_n 3, 1) := by decide +kernel
theorem dL_conjunctionIn_1 : decode cL_conjunctionIn 1 = .ok (.iconst 0, 1) := by decide +kernel
theorem dL_conjunctionIn_2 : decode cL_conjunctionIn 2 = .ok (.aload_n 0, 1) := by decide +kernel
theorem dL_conjunctionIn_3 : decode cL_conjunctionIn 3 = .ok (.iload_n 1, 1) := by decide +kernel
theorem dL_conjunctionIn_4 : decode cL_conjunctionIn 4 = .ok (.iload_n 2, 1) := by decide +kernel
theorem dL_conjunctionIn_5 : decode cL_conjunctionIn 5 = .ok (.invokevirtual 118, 3) := by decide +kernel
theorem dL_conjunctionIn_8 : decode cL_conjunctionIn 8 = .ok (.i2l, 1) := by decide +kernel
theorem dL_conjunctionIn_9 : decode cL_conjunctionIn 9 = .ok (.lastore, 1) := by decide +kernel
theorem dL_conjunctionIn_10 : decode cL_conjunctionIn 10 = .ok (.goto 11, 3) := by decide +kernel
theorem dL_conjunctionIn_13 : decode cL_conjunctionIn 13 = .ok (.astore 4, 2) := by decide +kernel
theorem dL_conjunctionIn_15 : decode cL_conjunctionIn 15 = .ok (.iconst 1, 1) := by decide +kernel
theorem dL_conjunctionIn_16 : decode cL_conjunctionIn 16 = .ok (.ireturn, 1) := by decide +kernel
theorem dL_conjunctionIn_17 : decode cL_conjunctionIn 17 = .ok (.astore 4, 2) := by decide +kernel
theorem dL_conjunctionIn_19 : decode cL_conjunctionIn 19 = .ok (.iconst 2, 1) := by decide +kernel
theorem dL_conjunctionIn_20 : decode cL_conjunctionIn 20 = .ok (.ireturn, 1) := by decide +kernel
theorem dL_conjunctionIn_21 : decode cL_conjunctionIn 21 = .ok (.iconst 0, 1) := by decide +kernel
theorem dL_conjunctionIn_22 : decode cL_conjunctionIn 22 = .ok (.ireturn, 1) := by decide +kernel
set_option maxRecDepth 20000 in
theorem ggL_conjunctionByMoves_X5_conjunctionByMoves : GoodIn wsL_conjunctionByMoves wsX5_conjunctionByMoves := goodIn_ca (goodIn_ca (goodIn_ca (goodIn_ca (goodIn_r _ [6, 7, 8, 9, 10, 5, 11, 12, 13, 14, 15, 16, 17, 18, 19, 20, 21, 22, 23, 24, 25, 26, 27, 28, 29, 30, 31, 32, 33, 34, 35, 36, 37, 38, 39, 40, 41, 42, 43, 44, 45, 46, 47, 48, 49, 50, 51, 52, 53, 54, 55, 56, 57, 58, 59, 60, 61, 62, 63, 64, 65, 66, 67, 68, 69, 70, 71] (by decide +kernel) (by decide +kernel)) (goodIn_sub (fun _ h => List.mem_cons_of_mem _ (List.mem_append_left _ (List.mem_append_left _ (List.mem_append_right _ h)))) (by decide +kernel))) (goodIn_sub (fun _ h => List.mem_cons_of_mem _ (List.mem_append_left _ (List.mem_append_left _ (List.mem_append_left _ (List.mem_append_right _ h))))) (by decide +kernel))) (goodIn_sub (fun _ h => List.mem_cons_of_mem _ (List.mem_append_left _ (List.mem_append_right _ h))) (by decide +kernel))) (goodIn_sub (fun _ h => List.mem_cons_of_mem _ (List.mem_append_right _ h)) (by decide +kernel))
set_option maxRecDepth 20000 in
theorem gL_conjunctionByMoves_X5_conjunctionByMoves : GoodIn wsL_conjunctionByMoves (wsV RL 121 RX5 yX5_conjunctionByMoves wsX5_conjunctionByMoves) := goodIn_app (goodIn_of _ (by decide +kernel)) ggL_conjunctionByMoves_X5_conjunctionByMoves
theorem dL_conjunctionByMoves_0 : decode cL_conjunctionByMoves 0 = .ok (.aload_n 3, 1) := by decide +kernel
theorem dL_conjunctionByMoves_1 : decode cL_conjunctionByMoves 1 = .ok (.iconst 0, 1) := by decide +kernel
theorem dL_conjunctionByMoves_2 : decode cL_conjunctionByMoves 2 = .ok (.aload_n 0, 1) := by decide +kernel
theorem dL_conjunctionByMoves_3 : decode cL_conjunctionByMoves 3 = .ok (.iload_n 1, 1) := by decide +kernel
theorem dL_conjunctionByMoves_4 : decode cL_conjunctionByMoves 4 = .ok (.iload_n 2, 1) := by decide +kernel
theorem dL_conjunctionByMoves_5 : decode cL_conjunctionByMoves 5 = .ok (.invokevirtual 121, 3) := by decide +kernel
theorem dL_conjunctionByMoves_8 : decode cL_conjunctionByMoves 8 = .ok (.i2l, 1) := by decide +kernel
theorem dL_conjunctionByMoves_9 : decode cL_conjunctionByMoves 9 = .ok (.lastore, 1) := by decide +kernel
theorem dL_conjunctionByMoves_10 : decode cL_conjunctionByMoves 10 = .ok (.goto 11, 3) := by decide +kernel
theorem dL_conjunctionByMoves_13 : decode cL_conjunctionByMoves 13 = .ok (.astore 4, 2) := by decide +kernel
theorem dL_conjunctionByMoves_15 : decode cL_conjunctionByMoves 15 = .ok (.iconst 1, 1) := by decide +kernel
theorem dL_conjunctionByMoves_16 : decode cL_conjunctionByMoves 16 = .ok (.ireturn, 1) := by decide +kernel
theorem dL_conjunctionByMoves_17 : decode cL_conjunctionByMoves 17 = .ok (.astore 4, 2) := by decide +kernel
theorem dL_conjunctionByMoves_19 : decode cL_conjunctionByMoves 19 = .ok (.iconst 2, 1) := by decide +kernel
theorem dL_conjunctionByMoves_20 : decode cL_conjunctionByMoves 20 = .ok (.ireturn, 1) := by decide +kernel
theorem dL_conjunctionByMoves_21 : decode cL_conjunctionByMoves 21 = .ok (.iconst 0, 1) := by decide +kernel
theorem dL_conjunctionByMoves_22 : decode cL_conjunctionByMoves 22 = .ok (.ireturn, 1) := by decide +kernel
set_option maxRecDepth 20000 in
theorem ggL_writeMoon_X5_writeMoon : GoodIn wsL_writeMoon wsX5_writeMoon := goodIn_ca (goodIn_ca (goodIn_ca (goodIn_r _ [6, 7, 8, 9, 10, 11, 5, 12, 13, 14, 15, 16, 17, 18, 19, 20, 21, 22, 23, 24, 25, 26, 27, 28, 29, 30, 31, 32, 33, 34, 35, 36, 37, 38, 39, 40, 41, 42, 43, 44, 45, 46, 47, 48, 49, 50, 51, 52, 53, 54, 55, 56, 57, 58, 59, 60, 61, 62, 63, 64, 65, 66, 67, 68, 69, 70, 71, 72, 73, 74, 75, 76, 77, 78, 79, 80, 81, 82, 83, 84, 85, 86, 87, 88, 89, 90, 91, 92, 93, 94, 95, 96, 97, 98, 99, 100, 101, 102, 103, 104, 105, 106, 107, 108, 109, 110, 111, 112, 113, 114, 115, 116, 117, 118, 119, 120, 121, 122, 123, 124, 125, 126, 127, 128, 129, 130, 131, 132, 133, 134, 135, 136, 137, 138, 139, 140, 141, 142, 143, 144, 145, 146, 147, 148, 149, 150, 151, 152, 153, 154, 155, 156, 157, 158, 159, 160, 161, 162, 163, 164, 165, 166, 167, 168, 169, 170, 171, 172, 173, 174, 175, 176, 177, 178, 179, 180, 181, 182, 183, 184, 185, 186, 187, 188, 189, 190, 191, 192, 193, 194, 195, 196, 197, 198, 199, 200, 201, 202, 203, 204, 205, 206, 207, 208, 209, 210, 211, 212, 213, 214, 215, 216, 217, 218, 219, 220, 221, 222, 223, 224, 225, 226, 227, 228, 229, 230, 231, 232, 233, 234, 235, 236, 237, 238, 239, 240, 241, 242, 243, 244, 245, 246, 247, 248, 249, 250, 251, 252, 253, 254, 255, 256, 257, 258, 259, 260, 261, 262, 263, 264, 265, 266, 267, 268, 269, 270, 271, 272, 273, 274, 275, 276, 277, 278, 279, 280, 281, 282, 283, 284, 285, 286, 287, 288] (by decide +kernel) (by decide +kernel)) (goodIn_sub (fun _ h => List.mem_cons_of_mem _ (List.mem_append_left _ (List.mem_append_right _ h))) (by decide +kernel))) (goodIn_sub (fun _ h => List.mem_cons_of_mem _ (List.mem_append_left _ (List.mem_append_left _ (List.mem_append_right _ h)))) (by decide +kernel))) (goodIn_sub (fun _ h => List.mem_cons_of_mem _ (List.mem_append_right _ h)) (by decide +kernel))
set_option maxRecDepth 20000 in
theorem gL_writeMoon_X5_writeMoon : GoodIn wsL_writeMoon (wsV RL 124 RX5 yX5_writeMoon wsX5_writeMoon) := goodIn_app (goodIn_of _ (by decide +kernel)) ggL_writeMoon_X5_writeMoon
theorem dL_writeMoon_0 : decode cL_writeMoon 0 = .ok (.aload_n 2, 1) := by decide +kernel
theorem dL_writeMoon_1 : decode cL_writeMoon 1 = .ok (.iconst 0, 1) := by decide +kernel
theorem dL_writeMoon_2 : decode cL_writeMoon 2 = .ok (.aload_n 0, 1) := by decide +kernel
theorem dL_writeMoon_3 : decode cL_writeMoon 3 = .ok (.iload_n 1, 1) := by decide +kernel
theorem dL_writeMoon_4 : decode cL_writeMoon 4 = .ok (.invokevirtual 124, 3) := by decide +kernel
theorem dL_writeMoon_7 : decode cL_writeMoon 7 = .ok (.i2l, 1) := by decide +kernel
theorem dL_writeMoon_8 : decode cL_writeMoon 8 = .ok (.lastore, 1) := by decide +kernel
theorem dL_writeMoon_9 : decode cL_writeMoon 9 = .ok (.goto 6, 3) := by decide +kernel
theorem dL_writeMoon_12 : decode cL_writeMoon 12 = .ok (.astore_n 3, 1) := by decide +kernel
theorem dL_writeMoon_13 : decode cL_writeMoon 13 = .ok (.iconst 1, 1) := by decide +kernel
theorem dL_writeMoon_14 : decode cL_writeMoon 14 = .ok (.ireturn, 1) := by decide +kernel
theorem dL_writeMoon_15 : decode cL_writeMoon 15 = .ok (.iconst 0, 1) := by decide +kernel
theorem dL_writeMoon_16 : decode cL_writeMoon 16 = .ok (.ireturn, 1) := by decide +kernel
set_option maxRecDepth 20000 in
theorem ggL_lineAt_X5_lineAt : GoodIn wsL_lineAt wsX5_lineAt := goodIn_ca (goodIn_r _ [6, 7, 8, 9, 10, 11, 12, 13, 14, 15, 16, 17, 18, 19, 20, 21, 22, 23, 24, 25, 26, 27, 28, 29, 30, 31, 32, 33, 34, 35, 36, 37, 38, 39, 40, 41, 42, 43, 44, 45, 46, 47, 48, 49, 50, 51, 52, 53, 54, 55, 56, 57, 58, 59, 60, 61, 62, 63, 64, 65, 66, 67, 68] (by decide +kernel) (by decide +kernel)) (goodIn_sub (fun _ h => List.mem_cons_of_mem _ (List.mem_append_right _ h)) (by decide +kernel))
set_option maxRecDepth 20000 in
theorem gL_lineAt_X5_lineAt : GoodIn wsL_lineAt (wsV RL 127 RX5 yX5_lineAt wsX5_lineAt) := goodIn_app (goodIn_of _ (by decide +kernel)) ggL_lineAt_X5_lineAt
theorem dL_lineAt_0 : decode cL_lineAt 0 = .ok (.aload_n 2, 1) := by decide +kernel
theorem dL_lineAt_1 : decode cL_lineAt 1 = .ok (.iconst 0, 1) := by decide +kernel
theorem dL_lineAt_2 : decode cL_lineAt 2 = .ok (.aload_n 0, 1) := by decide +kernel
theorem dL_lineAt_3 : decode cL_lineAt 3 = .ok (.iload_n 1, 1) := by decide +kernel
theorem dL_lineAt_4 : decode cL_lineAt 4 = .ok (.invokevirtual 127, 3) := by decide +kernel
theorem dL_lineAt_7 : decode cL_lineAt 7 = .ok (.i2l, 1) := by decide +kernel
theorem dL_lineAt_8 : decode cL_lineAt 8 = .ok (.lastore, 1) := by decide +kernel
theorem dL_lineAt_9 : decode cL_lineAt 9 = .ok (.goto 6, 3) := by decide +kernel
theorem dL_lineAt_12 : decode cL_lineAt 12 = .ok (.astore_n 3, 1) := by decide +kernel
theorem dL_lineAt_13 : decode cL_lineAt 13 = .ok (.iconst 1, 1) := by decide +kernel
theorem dL_lineAt_14 : decode cL_lineAt 14 = .ok (.ireturn, 1) := by decide +kernel
theorem dL_lineAt_15 : decode cL_lineAt 15 = .ok (.iconst 0, 1) := by decide +kernel
theorem dL_lineAt_16 : decode cL_lineAt 16 = .ok (.ireturn, 1) := by decide +kernel
set_option maxRecDepth 20000 in
theorem ggL_eclipsedShare_X5_eclipsedShare : GoodIn wsL_eclipsedShare wsX5_eclipsedShare := goodIn_ca (goodIn_ca (goodIn_ca (goodIn_r _ [6, 7, 8, 9, 10, 11, 12, 13, 14, 15, 16, 17, 18, 19, 20, 21, 22, 23, 24, 25, 26, 27, 28, 29, 30, 31, 32, 33, 34, 35, 36, 37, 38, 39, 40, 41, 42, 43, 44, 45, 46, 47, 48, 49, 50, 51, 52, 53, 54, 55, 56, 57, 58, 59] (by decide +kernel) (by decide +kernel)) (goodIn_sub (fun _ h => List.mem_cons_of_mem _ (List.mem_append_left _ (List.mem_append_right _ h))) (by decide +kernel))) (goodIn_sub (fun _ h => List.mem_cons_of_mem _ (List.mem_append_left _ (List.mem_append_left _ (List.mem_append_right _ h)))) (by decide +kernel))) (goodIn_sub (fun _ h => List.mem_cons_of_mem _ (List.mem_append_right _ h)) (by decide +kernel))
set_option maxRecDepth 20000 in
theorem gL_eclipsedShare_X5_eclipsedShare : GoodIn wsL_eclipsedShare (wsV RL 131 RX5 yX5_eclipsedShare wsX5_eclipsedShare) := goodIn_app (goodIn_of _ (by decide +kernel)) ggL_eclipsedShare_X5_eclipsedShare
theorem dL_eclipsedShare_0 : decode cL_eclipsedShare 0 = .ok (.aload_n 1, 1) := by decide +kernel
theorem dL_eclipsedShare_1 : decode cL_eclipsedShare 1 = .ok (.iconst 0, 1) := by decide +kernel
theorem dL_eclipsedShare_2 : decode cL_eclipsedShare 2 = .ok (.aload_n 0, 1) := by decide +kernel
theorem dL_eclipsedShare_3 : decode cL_eclipsedShare 3 = .ok (.invokevirtual 131, 3) := by decide +kernel
theorem dL_eclipsedShare_6 : decode cL_eclipsedShare 6 = .ok (.f2d, 1) := by decide +kernel
theorem dL_eclipsedShare_7 : decode cL_eclipsedShare 7 = .ok (.dastore, 1) := by decide +kernel
theorem dL_eclipsedShare_8 : decode cL_eclipsedShare 8 = .ok (.goto 6, 3) := by decide +kernel
theorem dL_eclipsedShare_11 : decode cL_eclipsedShare 11 = .ok (.astore_n 2, 1) := by decide +kernel
theorem dL_eclipsedShare_12 : decode cL_eclipsedShare 12 = .ok (.iconst 1, 1) := by decide +kernel
theorem dL_eclipsedShare_13 : decode cL_eclipsedShare 13 = .ok (.ireturn, 1) := by decide +kernel
theorem dL_eclipsedShare_14 : decode cL_eclipsedShare 14 = .ok (.iconst 0, 1) := by decide +kernel
theorem dL_eclipsedShare_15 : decode cL_eclipsedShare 15 = .ok (.ireturn, 1) := by decide +kernel
set_option maxRecDepth 20000 in
theorem ggL_type_X5_type : GoodIn wsL_type wsX5_type := goodIn_ca (goodIn_ca (goodIn_r _ [6, 7, 8, 9, 10, 11, 12, 13, 14, 15, 16, 17, 18, 19, 20, 21, 22, 23, 24, 25, 26, 27, 28, 29, 30, 31, 32, 33, 34, 35, 36, 37, 38, 39, 40, 41, 42, 43, 44, 45, 46, 47, 48, 49, 50, 51, 52, 53, 54, 55, 56, 57, 58, 59, 60, 61, 62, 63, 64, 65, 66, 67, 68, 69, 70, 71, 72, 73, 74, 75, 76, 77, 78, 79, 80, 81, 82, 83, 84, 85, 86, 87, 88, 89, 90, 91, 92, 93, 94, 95, 96, 97, 98, 99, 100, 101, 102, 103, 104, 105, 106, 107, 108, 109, 110, 111, 112, 113, 114, 115, 116, 117, 118, 119, 120, 121, 122, 123, 124, 125, 126, 127, 128, 129, 130, 131, 132, 133, 134, 135, 136, 137, 138, 139, 140, 141, 142, 143, 144, 145, 146, 147, 148, 149, 150, 151, 152, 153, 154, 155, 156, 157, 158, 159, 160, 161, 162, 163, 164, 165] (by decide +kernel) (by decide +kernel)) (goodIn_sub (fun _ h => List.mem_cons_of_mem _ (List.mem_append_left _ (List.mem_append_right _ h))) (by decide +kernel))) (goodIn_sub (fun _ h => List.mem_cons_of_mem _ (List.mem_append_right _ h)) (by decide +kernel))
set_option maxRecDepth 20000 in
theorem gL_type_X5_type : GoodIn wsL_type (wsV RL 137 RX5 yX5_type wsX5_type) := goodIn_app (goodIn_of _ (by decide +kernel)) ggL_type_X5_type
theorem dL_type_0 : decode cL_type 0 = .ok (.aload_n 2, 1) := by decide +kernel
theorem dL_type_1 : decode cL_type 1 = .ok (.iconst 0, 1) := by decide +kernel
theorem dL_type_2 : decode cL_type 2 = .ok (.aload_n 0, 1) := by decide +kernel
theorem dL_type_3 : decode cL_type 3 = .ok (.iload_n 1, 1) := by decide +kernel
theorem dL_type_4 : decode cL_type 4 = .ok (.invokevirtual 137, 3) := by decide +kernel
theorem dL_type_7 : decode cL_type 7 = .ok (.i2l, 1) := by decide +kernel
theorem dL_type_8 : decode cL_type 8 = .ok (.lastore, 1) := by decide +kernel
theorem dL_type_9 : decode cL_type 9 = .ok (.goto 9, 3) := by decide +kernel
theorem dL_type_12 : decode cL_type 12 = .ok (.astore_n 3, 1) := by decide +kernel
theorem dL_type_13 : decode cL_type 13 = .ok (.iconst 1, 1) := by decide +kernel
theorem dL_type_14 : decode cL_type 14 = .ok (.ireturn, 1) := by decide +kernel
theorem dL_type_15 : decode cL_type 15 = .ok (.astore_n 3, 1) := by decide +kernel
theorem dL_type_16 : decode cL_type 16 = .ok (.iconst 2, 1) := by decide +kernel
theorem dL_type_17 : decode cL_type 17 = .ok (.ireturn, 1) := by decide +kernel
theorem dL_type_18 : decode cL_type 18 = .ok (.iconst 0, 1) := by decide +kernel
theorem dL_type_19 : decode cL_type 19 = .ok (.ireturn, 1) := by decide +kernel
set_option maxRecDepth 20000 in
theorem ggL_execute_X5_execute : GoodIn wsL_execute wsX5_execute := goodIn_ca (goodIn_ca (goodIn_ca (goodIn_ca (goodIn_r _ [6, 7, 8, 9, 10, 11, 12, 13, 14, 15, 16, 17, 18, 19, 20, 21, 22, 23, 24, 25, 26, 27, 28, 29, 30, 31, 32, 33, 34, 35, 36, 37, 38, 39, 40, 41, 42, 43, 44, 45, 46, 47, 48, 49, 50, 51, 52, 53, 54, 55, 56, 57, 58, 59, 60, 61, 62, 63, 64, 65, 66, 67, 68, 69, 70, 71, 72, 73, 74, 75, 76, 77, 78, 79, 80, 81, 82, 83, 84, 85, 86, 87, 88, 89, 90, 91, 92, 93, 94, 95, 96, 97, 98, 99, 100, 101, 102, 103, 104, 105, 106, 107, 108, 109, 110, 111, 112, 113, 114, 115, 116, 117, 118, 119, 120, 121, 122, 123, 124, 125, 126, 127, 128, 129, 130, 131, 132, 133, 134, 135, 136, 137, 138, 139, 140, 141, 142, 143, 144, 145, 146, 147, 148, 149, 150, 151, 152, 153, 154, 155, 156, 157, 158, 159, 160, 161, 162, 163, 164, 165, 166, 167, 168, 169, 170, 171, 172, 173, 174, 175, 176, 177, 178, 179, 180, 181, 182, 183, 184, 185, 186, 187, 188, 189, 190, 191, 192, 193, 194, 195, 196, 197, 198, 199, 200, 201, 202, 203, 204, 205, 206, 207, 208, 209, 210, 211, 212, 213, 214, 215, 216, 217, 218, 219, 220, 221, 222, 223, 224, 225, 226, 227, 228, 229, 230, 231, 232, 233, 234, 235, 236, 237, 238, 239, 240, 241, 242, 243, 244, 245, 246, 247, 248, 249, 250, 251, 252, 253, 254, 255, 256, 257, 258, 259, 260, 261, 262, 263, 264, 265, 266, 267, 268, 269, 270, 271, 272, 273, 274, 275, 276, 277, 278, 279, 280, 281, 282, 283, 284, 285, 286, 287, 288, 289, 290, 291, 292, 293, 294, 295, 296, 297, 298, 299, 300, 301, 302, 303, 304, 305, 306, 307, 308, 309, 310, 311, 312, 313, 314, 315, 316, 317, 318, 319, 320, 321, 322, 323, 324, 325, 326, 327, 328, 329, 330, 331, 332, 333, 334, 335, 336, 337, 338, 339, 340, 341, 342, 343, 344, 345, 346, 347, 348, 349, 350, 351, 352, 353, 354, 355, 356, 357, 358, 359, 360, 361, 362, 363, 364, 365, 366, 367, 368, 369, 370, 371, 372, 373, 374, 375, 376, 377, 378, 379, 380, 381, 382, 383, 384, 385, 386, 387, 388, 389, 390, 391, 392, 393, 394, 395, 396, 397, 398, 399, 400, 401, 402, 403, 404, 405, 406, 407, 408, 409, 410, 411, 412, 413, 414, 415, 416, 417, 418, 419, 420, 421, 422, 423, 424, 425, 426, 427, 428, 429, 430, 431, 432, 433, 434, 435, 436, 437, 438, 439, 440, 441, 442, 443, 444, 445, 446, 447, 448, 449, 450, 451, 452, 453, 454, 455, 456, 457, 458, 459, 460, 461, 462, 463, 464, 465, 466, 467, 468, 469, 470, 471, 472, 473, 474] (by decide +kernel) (by decide +kernel)) (goodIn_sub (fun _ h => List.mem_cons_of_mem _ (List.mem_append_left _ (List.mem_append_left _ (List.mem_append_right _ h)))) (by decide +kernel))) (goodIn_sub (fun _ h => List.mem_cons_of_mem _ (List.mem_append_left _ (List.mem_append_right _ h))) (by decide +kernel))) (goodIn_sub (fun _ h => List.mem_cons_of_mem _ (List.mem_append_left _ (List.mem_append_left _ (List.mem_append_left _ (List.mem_append_right _ h))))) (by decide +kernel))) (goodIn_sub (fun _ h => List.mem_cons_of_mem _ (List.mem_append_right _ h)) (by decide +kernel))
set_option maxRecDepth 20000 in
theorem gL_execute_X5_execute : GoodIn wsL_execute (wsV RL 141 RX5 yX5_execute wsX5_execute) := goodIn_app (goodIn_of _ (by decide +kernel)) ggL_execute_X5_execute
theorem dL_execute_0 : decode cL_execute 0 = .ok (.aload_n 1, 1) := by decide +kernel
theorem dL_execute_1 : decode cL_execute 1 = .ok (.iconst 0, 1) := by decide +kernel
theorem dL_execute_2 : decode cL_execute 2 = .ok (.aload_n 0, 1) := by decide +kernel
theorem dL_execute_3 : decode cL_execute 3 = .ok (.invokevirtual 141, 3) := by decide +kernel
theorem dL_execute_6 : decode cL_execute 6 = .ok (.i2l, 1) := by decide +kernel
theorem dL_execute_7 : decode cL_execute 7 = .ok (.lastore, 1) := by decide +kernel
theorem dL_execute_8 : decode cL_execute 8 = .ok (.goto 9, 3) := by decide +kernel
theorem dL_execute_11 : decode cL_execute 11 = .ok (.astore_n 2, 1) := by decide +kernel
theorem dL_execute_12 : decode cL_execute 12 = .ok (.iconst 1, 1) := by decide +kernel
theorem dL_execute_13 : decode cL_execute 13 = .ok (.ireturn, 1) := by decide +kernel
theorem dL_execute_14 : decode cL_execute 14 = .ok (.astore_n 2, 1) := by decide +kernel
theorem dL_execute_15 : decode cL_execute 15 = .ok (.iconst 2, 1) := by decide +kernel
theorem dL_execute_16 : decode cL_execute 16 = .ok (.ireturn, 1) := by decide +kernel
theorem dL_execute_17 : decode cL_execute 17 = .ok (.iconst 0, 1) := by decide +kernel
theorem dL_execute_18 : decode cL_execute 18 = .ok (.ireturn, 1) := by decide +kernel
set_option maxRecDepth 20000 in
theorem ggL_errorPosition_X5_errorPosition : GoodIn wsL_errorPosition wsX5_errorPosition := goodIn_ca (goodIn_r _ [6, 7, 8, 9, 10, 11, 12, 13, 14, 15, 16, 17, 18, 19] (by decide +kernel) (by decide +kernel)) (goodIn_sub (fun _ h => List.mem_cons_of_mem _ (List.mem_append_right _ h)) (by decide +kernel))
set_option maxRecDepth 20000 in
theorem gL_errorPosition_X5_errorPosition : GoodIn wsL_errorPosition (wsV RL 144 RX5 yX5_errorPosition wsX5_errorPosition) := goodIn_app (goodIn_of _ (by decide +kernel)) ggL_errorPosition_X5_errorPosition
theorem dL_errorPosition_0 : decode cL_errorPosition 0 = .ok (.aload_n 1, 1) := by decide +kernel
theorem dL_errorPosition_1 : decode cL_errorPosition 1 = .ok (.iconst 0, 1) := by decide +kernel
theorem dL_errorPosition_2 : decode cL_errorPosition 2 = .ok (.aload_n 0, 1) := by decide +kernel
theorem dL_errorPosition_3 : decode cL_errorPosition 3 = .ok (.invokevirtual 144, 3) := by decide +kernel
theorem dL_errorPosition_6 : decode cL_errorPosition 6 = .ok (.i2l, 1) := by decide +kernel
theorem dL_errorPosition_7 : decode cL_errorPosition 7 = .ok (.lastore, 1) := by decide +kernel
theorem dL_errorPosition_8 : decode cL_errorPosition 8 = .ok (.goto 6, 3) := by decide +kernel
theorem dL_errorPosition_11 : decode cL_errorPosition 11 = .ok (.astore_n 2, 1) := by decide +kernel
theorem dL_errorPosition_12 : decode cL_errorPosition 12 = .ok (.iconst 1, 1) := by decide +kernel
theorem dL_errorPosition_13 : decode cL_errorPosition 13 = .ok (.ireturn, 1) := by decide +kernel
theorem dL_errorPosition_14 : decode cL_errorPosition 14 = .ok (.iconst 0, 1) := by decide +kernel
theorem dL_errorPosition_15 : decode cL_errorPosition 15 = .ok (.ireturn, 1) := by decide +kernel
set_option maxRecDepth 20000 in
theorem ggL_failedCommand_X5_failedCommand : GoodIn wsL_failedCommand wsX5_failedCommand := goodIn_ca (goodIn_r _ [6, 7, 8, 9, 10, 11, 12, 13, 14, 15, 16, 17, 18, 19] (by decide +kernel) (by decide +kernel)) (goodIn_sub (fun _ h => List.mem_cons_of_mem _ (List.mem_append_right _ h)) (by decide +kernel))
set_option maxRecDepth 20000 in
theorem gL_failedCommand_X5_failedCommand : GoodIn wsL_failedCommand (wsV RL 147 RX5 yX5_failedCommand wsX5_failedCommand) := goodIn_app (goodIn_of _ (by decide +kernel)) ggL_failedCommand_X5_failedCommand
theorem dL_failedCommand_0 : decode cL_failedCommand 0 = .ok (.aload_n 1, 1) := by decide +kernel
theorem dL_failedCommand_1 : decode cL_failedCommand 1 = .ok (.iconst 0, 1) := by decide +kernel
theorem dL_failedCommand_2 : decode cL_failedCommand 2 = .ok (.aload_n 0, 1) := by decide +kernel
theorem dL_failedCommand_3 : decode cL_failedCommand 3 = .ok (.invokevirtual 147, 3) := by decide +kernel
theorem dL_failedCommand_6 : decode cL_failedCommand 6 = .ok (.i2l, 1) := by decide +kernel
theorem dL_failedCommand_7 : decode cL_failedCommand 7 = .ok (.lastore, 1) := by decide +kernel
theorem dL_failedCommand_8 : decode cL_failedCommand 8 = .ok (.goto 6, 3) := by decide +kernel
theorem dL_failedCommand_11 : decode cL_failedCommand 11 = .ok (.astore_n 2, 1) := by decide +kernel
theorem dL_failedCommand_12 : decode cL_failedCommand 12 = .ok (.iconst 1, 1) := by decide +kernel
theorem dL_failedCommand_13 : decode cL_failedCommand 13 = .ok (.ireturn, 1) := by decide +kernel
theorem dL_failedCommand_14 : decode cL_failedCommand 14 = .ok (.iconst 0, 1) := by decide +kernel
theorem dL_failedCommand_15 : decode cL_failedCommand 15 = .ok (.ireturn, 1) := by decide +kernel
set_option maxRecDepth 20000 in
theorem ggL_undo_X5_undo : GoodIn wsL_undo wsX5_undo := goodIn_ca (goodIn_ca (goodIn_r _ [6, 7, 8, 9, 10, 11, 12, 13, 14, 15, 16, 17, 18, 19, 20, 21, 22, 23, 24, 25, 26, 27, 28, 29, 30, 31, 32, 33, 34, 35, 36, 37, 38, 39, 40, 41, 42, 43, 44, 45, 46, 47, 48, 49, 50, 51, 52] (by decide +kernel) (by decide +kernel)) (goodIn_sub (fun _ h => List.mem_cons_of_mem _ (List.mem_append_right _ h)) (by decide +kernel))) (goodIn_sub (fun _ h => List.mem_cons_of_mem _ (List.mem_append_left _ (List.mem_append_right _ h))) (by decide +kernel))
set_option maxRecDepth 20000 in
theorem gL_undo_X5_undo : GoodIn wsL_undo (wsV RL 150 RX5 yX5_undo wsX5_undo) := goodIn_app (goodIn_of _ (by decide +kernel)) ggL_undo_X5_undo
theorem dL_undo_0 : decode cL_undo 0 = .ok (.aload_n 1, 1) := by decide +kernel
theorem dL_undo_1 : decode cL_undo 1 = .ok (.iconst 0, 1) := by decide +kernel
theorem dL_undo_2 : decode cL_undo 2 = .ok (.aload_n 0, 1) := by decide +kernel
theorem dL_undo_3 : decode cL_undo 3 = .ok (.invokevirtual 150, 3) := by decide +kernel
theorem dL_undo_6 : decode cL_undo 6 = .ok (.i2l, 1) := by decide +kernel
theorem dL_undo_7 : decode cL_undo 7 = .ok (.lastore, 1) := by decide +kernel
theorem dL_undo_8 : decode cL_undo 8 = .ok (.goto 6, 3) := by decide +kernel
theorem dL_undo_11 : decode cL_undo 11 = .ok (.astore_n 2, 1) := by decide +kernel
theorem dL_undo_12 : decode cL_undo 12 = .ok (.iconst 1, 1) := by decide +kernel
theorem dL_undo_13 : decode cL_undo 13 = .ok (.ireturn, 1) := by decide +kernel
theorem dL_undo_14 : decode cL_undo 14 = .ok (.iconst 0, 1) := by decide +kernel
theorem dL_undo_15 : decode cL_undo 15 = .ok (.ireturn, 1) := by decide +kernel
set_option maxRecDepth 20000 in
theorem ggL_restore_X5_restore : GoodIn wsL_restore wsX5_restore := goodIn_ca (goodIn_ca (goodIn_r _ [6, 7, 8, 9, 10, 11, 12, 13, 14, 15, 16, 17, 18, 19, 20, 21, 22, 23, 24, 25, 26, 27, 28, 29, 30, 31, 32, 33, 34, 35, 36, 37, 38, 39, 40, 41, 42, 43, 44, 45, 46, 47, 48, 49, 50, 51, 52, 53, 54, 55] (by decide +kernel) (by decide +kernel)) (goodIn_sub (fun _ h => List.mem_cons_of_mem _ (List.mem_append_right _ h)) (by decide +kernel))) (goodIn_sub (fun _ h => List.mem_cons_of_mem _ (List.mem_append_left _ (List.mem_append_right _ h))) (by decide +kernel))
set_option maxRecDepth 20000 in
theorem gL_restore_X5_restore : GoodIn wsL_restore (wsV RL 153 RX5 yX5_restore wsX5_restore) := goodIn_app (goodIn_of _ (by decide +kernel)) ggL_restore_X5_restore
theorem dL_restore_0 : decode cL_restore 0 = .ok (.aload_n 1, 1) := by decide +kernel
theorem dL_restore_1 : decode cL_restore 1 = .ok (.iconst 0, 1) := by decide +kernel
theorem dL_restore_2 : decode cL_restore 2 = .ok (.aload_n 0, 1) := by decide +kernel
theorem dL_restore_3 : decode cL_restore 3 = .ok (.invokevirtual 153, 3) := by decide +kernel
theorem dL_restore_6 : decode cL_restore 6 = .ok (.i2l, 1) := by decide +kernel
theorem dL_restore_7 : decode cL_restore 7 = .ok (.lastore, 1) := by decide +kernel
theorem dL_restore_8 : decode cL_restore 8 = .ok (.goto 6, 3) := by decide +kernel
theorem dL_restore_11 : decode cL_restore 11 = .ok (.astore_n 2, 1) := by decide +kernel
theorem dL_restore_12 : decode cL_restore 12 = .ok (.iconst 1, 1) := by decide +kernel
theorem dL_restore_13 : decode cL_restore 13 = .ok (.ireturn, 1) := by decide +kernel
theorem dL_restore_14 : decode cL_restore 14 = .ok (.iconst 0, 1) := by decide +kernel
theorem dL_restore_15 : decode cL_restore 15 = .ok (.ireturn, 1) := by decide +kernel
