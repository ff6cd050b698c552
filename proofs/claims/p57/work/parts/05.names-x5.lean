set_option maxRecDepth 20000 in
theorem ggX5_init_X4_init : GoodIn wsX5_init wsX4_init := goodIn_ca (goodIn_r _ [34, 35, 2, 3, 36, 25, 26, 37, 38, 39, 40, 41, 42, 43, 44, 45, 46, 47, 123, 97] (by decide +kernel) (by decide +kernel)) (goodIn_sub (fun _ h => List.mem_cons_of_mem _ (List.mem_append_right _ h)) (by decide +kernel))
set_option maxRecDepth 20000 in
theorem gX5_init_X4_init : GoodIn wsX5_init (wsX4_init) := ggX5_init_X4_init
set_option maxRecDepth 20000 in
theorem ggX5_init_X0_init : GoodIn wsX5_init wsX0_init := goodIn_r _ [49, 50, 2, 3, 51, 25, 26, 52, 53, 54, 55, 39, 40, 41, 42, 43, 123, 108, 109, 110] (by decide +kernel) (by decide +kernel)
set_option maxRecDepth 20000 in
theorem gX5_init_X0_init_n18 : GoodIn wsX5_init (wsX0_init) := ggX5_init_X0_init
set_option maxRecDepth 20000 in
theorem ggX5_init_X1_init : GoodIn wsX5_init wsX1_init := goodIn_r _ [57, 58, 2, 3, 59, 25, 26, 60, 61, 62, 63, 39, 40, 41, 42, 43, 123, 111, 112, 113] (by decide +kernel) (by decide +kernel)
set_option maxRecDepth 20000 in
theorem gX5_init_X1_init_n25 : GoodIn wsX5_init (wsX1_init) := ggX5_init_X1_init
set_option maxRecDepth 20000 in
theorem ggX5_init_X3_init : GoodIn wsX5_init wsX3_init := goodIn_r _ [65, 66, 2, 3, 67, 21, 22, 68, 69, 25, 26, 70, 71, 72, 73, 74, 75, 76, 77, 78, 79, 80, 81, 82, 83, 84, 85, 86, 87, 88, 89, 90, 91, 92, 93, 94, 39, 40, 41, 42, 43, 119, 120, 121, 122, 114, 115, 116, 117, 118, 123] (by decide +kernel) (by decide +kernel)
set_option maxRecDepth 20000 in
theorem gX5_init_X3_init_n32 : GoodIn wsX5_init (wsX3_init) := ggX5_init_X3_init
set_option maxRecDepth 20000 in
theorem ggX5_init_J4_init_da8c8 : GoodIn wsX5_init wsJ4_init_da8c8 := goodIn_r _ [76, 77, 78, 79, 80, 81, 2, 3, 82, 83, 84, 85, 86, 87, 88, 89, 90, 91, 92, 93, 119, 120, 121, 122] (by decide +kernel) (by decide +kernel)
set_option maxRecDepth 20000 in
theorem gX5_init_J4_init_da8c8 : GoodIn wsX5_init (wsJ4_init_da8c8) := ggX5_init_J4_init_da8c8
set_option maxRecDepth 20000 in
theorem ggX5_init_X2_init : GoodIn wsX5_init wsX2_init := goodIn_r _ [40, 41, 2, 3, 42, 43, 123] (by decide +kernel) (by decide +kernel)
set_option maxRecDepth 20000 in
theorem gX5_init_X2_init : GoodIn wsX5_init (wsX2_init) := ggX5_init_X2_init
theorem dX5_init_0 : decode cX5_init 0 = .ok (.aload_n 0, 1) := by decide +kernel
theorem dX5_init_1 : decode cX5_init 1 = .ok (.invokespecial 1, 3) := by decide +kernel
theorem dX5_init_4 : decode cX5_init 4 = .ok (.aload_n 0, 1) := by decide +kernel
theorem dX5_init_5 : decode cX5_init 5 = .ok (.new 7, 3) := by decide +kernel
theorem dX5_init_8 : decode cX5_init 8 = .ok (.dup, 1) := by decide +kernel
theorem dX5_init_9 : decode cX5_init 9 = .ok (.invokespecial 9, 3) := by decide +kernel
theorem dX5_init_12 : decode cX5_init 12 = .ok (.putfield 10, 3) := by decide +kernel
theorem dX5_init_15 : decode cX5_init 15 = .ok (.aload_n 0, 1) := by decide +kernel
theorem dX5_init_16 : decode cX5_init 16 = .ok (.new 16, 3) := by decide +kernel
theorem dX5_init_19 : decode cX5_init 19 = .ok (.dup, 1) := by decide +kernel
theorem dX5_init_20 : decode cX5_init 20 = .ok (.invokespecial 18, 3) := by decide +kernel
theorem dX5_init_23 : decode cX5_init 23 = .ok (.putfield 19, 3) := by decide +kernel
theorem dX5_init_26 : decode cX5_init 26 = .ok (.aload_n 0, 1) := by decide +kernel
theorem dX5_init_27 : decode cX5_init 27 = .ok (.new 23, 3) := by decide +kernel
theorem dX5_init_30 : decode cX5_init 30 = .ok (.dup, 1) := by decide +kernel
theorem dX5_init_31 : decode cX5_init 31 = .ok (.invokespecial 25, 3) := by decide +kernel
theorem dX5_init_34 : decode cX5_init 34 = .ok (.putfield 26, 3) := by decide +kernel
theorem dX5_init_37 : decode cX5_init 37 = .ok (.aload_n 0, 1) := by decide +kernel
theorem dX5_init_38 : decode cX5_init 38 = .ok (.new 30, 3) := by decide +kernel
theorem dX5_init_41 : decode cX5_init 41 = .ok (.dup, 1) := by decide +kernel
theorem dX5_init_42 : decode cX5_init 42 = .ok (.invokespecial 32, 3) := by decide +kernel
theorem dX5_init_45 : decode cX5_init 45 = .ok (.putfield 33, 3) := by decide +kernel
theorem dX5_init_48 : decode cX5_init 48 = .ok (.aload_n 0, 1) := by decide +kernel
theorem dX5_init_49 : decode cX5_init 49 = .ok (.new 37, 3) := by decide +kernel
theorem dX5_init_52 : decode cX5_init 52 = .ok (.dup, 1) := by decide +kernel
theorem dX5_init_53 : decode cX5_init 53 = .ok (.invokespecial 39, 3) := by decide +kernel
theorem dX5_init_56 : decode cX5_init 56 = .ok (.putfield 40, 3) := by decide +kernel
theorem dX5_init_59 : decode cX5_init 59 = .ok (.aload_n 0, 1) := by decide +kernel
theorem dX5_init_60 : decode cX5_init 60 = .ok (.new 44, 3) := by decide +kernel
theorem dX5_init_63 : decode cX5_init 63 = .ok (.dup, 1) := by decide +kernel
theorem dX5_init_64 : decode cX5_init 64 = .ok (.bipush 61, 2) := by decide +kernel
theorem dX5_init_66 : decode cX5_init 66 = .ok (.invokespecial 46, 3) := by decide +kernel
theorem dX5_init_69 : decode cX5_init 69 = .ok (.putfield 49, 3) := by decide +kernel
theorem dX5_init_72 : decode cX5_init 72 = .ok (.aload_n 0, 1) := by decide +kernel
theorem dX5_init_73 : decode cX5_init 73 = .ok (.new 44, 3) := by decide +kernel
theorem dX5_init_76 : decode cX5_init 76 = .ok (.dup, 1) := by decide +kernel
theorem dX5_init_77 : decode cX5_init 77 = .ok (.bipush 61, 2) := by decide +kernel
theorem dX5_init_79 : decode cX5_init 79 = .ok (.invokespecial 46, 3) := by decide +kernel
theorem dX5_init_82 : decode cX5_init 82 = .ok (.putfield 53, 3) := by decide +kernel
theorem dX5_init_85 : decode cX5_init 85 = .ok (.aload_n 0, 1) := by decide +kernel
theorem dX5_init_86 : decode cX5_init 86 = .ok (.iconst 0, 1) := by decide +kernel
theorem dX5_init_87 : decode cX5_init 87 = .ok (.putfield 56, 3) := by decide +kernel
theorem dX5_init_90 : decode cX5_init 90 = .ok (.aload_n 0, 1) := by decide +kernel
theorem dX5_init_91 : decode cX5_init 91 = .ok (.iconst (-1), 1) := by decide +kernel
theorem dX5_init_92 : decode cX5_init 92 = .ok (.putfield 60, 3) := by decide +kernel
theorem dX5_init_95 : decode cX5_init 95 = .ok (.aload_n 0, 1) := by decide +kernel
theorem dX5_init_96 : decode cX5_init 96 = .ok (.iconst (-1), 1) := by decide +kernel
theorem dX5_init_97 : decode cX5_init 97 = .ok (.putfield 64, 3) := by decide +kernel
theorem dX5_init_100 : decode cX5_init 100 = .ok (.return_, 1) := by decide +kernel
set_option maxRecDepth 20000 in
theorem ggX5_addHardMoon_X5_addMoon : GoodIn wsX5_addHardMoon wsX5_addMoon := goodIn_ca (goodIn_ca (goodIn_ca (goodIn_r _ [5, 6, 7, 8, 9, 10, 11, 12, 13, 14, 15, 16, 17, 18, 19, 20, 21, 22, 23, 24, 25, 26, 27, 28, 29, 30, 31, 32, 33, 34, 35, 36, 37, 38, 39, 40, 41, 42, 43, 44, 45, 46, 47, 48, 49, 50, 51, 52, 53, 54, 55, 56, 57, 58, 59, 60, 61, 62, 63, 64, 65, 66, 67, 68, 69, 70, 71, 72, 73, 74, 75] (by decide +kernel) (by decide +kernel)) (goodIn_sub (fun _ h => List.mem_cons_of_mem _ (List.mem_append_left _ (List.mem_append_left _ (List.mem_append_right _ h)))) (by decide +kernel))) (goodIn_sub (fun _ h => List.mem_cons_of_mem _ (List.mem_append_left _ (List.mem_append_right _ h))) (by decide +kernel))) (goodIn_sub (fun _ h => List.mem_cons_of_mem _ (List.mem_append_right _ h)) (by decide +kernel))
set_option maxRecDepth 20000 in
theorem gX5_addHardMoon_X5_addMoon : GoodIn wsX5_addHardMoon (wsV RX5 67 RX5 yX5_addMoon wsX5_addMoon) := goodIn_app (goodIn_of _ (by decide +kernel)) ggX5_addHardMoon_X5_addMoon
theorem dX5_addHardMoon_0 : decode cX5_addHardMoon 0 = .ok (.aload_n 0, 1) := by decide +kernel
theorem dX5_addHardMoon_1 : decode cX5_addHardMoon 1 = .ok (.iconst 0, 1) := by decide +kernel
theorem dX5_addHardMoon_2 : decode cX5_addHardMoon 2 = .ok (.iload_n 1, 1) := by decide +kernel
theorem dX5_addHardMoon_3 : decode cX5_addHardMoon 3 = .ok (.iload_n 2, 1) := by decide +kernel
theorem dX5_addHardMoon_4 : decode cX5_addHardMoon 4 = .ok (.iload_n 3, 1) := by decide +kernel
theorem dX5_addHardMoon_5 : decode cX5_addHardMoon 5 = .ok (.invokevirtual 67, 3) := by decide +kernel
theorem dX5_addHardMoon_8 : decode cX5_addHardMoon 8 = .ok (.ireturn, 1) := by decide +kernel
set_option maxRecDepth 20000 in
theorem ggX5_addSoftMoon_X5_addMoon : GoodIn wsX5_addSoftMoon wsX5_addMoon := goodIn_ca (goodIn_ca (goodIn_ca (goodIn_r _ [5, 6, 7, 8, 9, 10, 11, 12, 13, 14, 15, 16, 17, 18, 19, 20, 21, 22, 23, 24, 25, 26, 27, 28, 29, 30, 31, 32, 33, 34, 35, 36, 37, 38, 39, 40, 41, 42, 43, 44, 45, 46, 47, 48, 49, 50, 51, 52, 53, 54, 55, 56, 57, 58, 59, 60, 61, 62, 63, 64, 65, 66, 67, 68, 69, 70, 71, 72, 73, 74, 75] (by decide +kernel) (by decide +kernel)) (goodIn_sub (fun _ h => List.mem_cons_of_mem _ (List.mem_append_left _ (List.mem_append_left _ (List.mem_append_right _ h)))) (by decide +kernel))) (goodIn_sub (fun _ h => List.mem_cons_of_mem _ (List.mem_append_left _ (List.mem_append_right _ h))) (by decide +kernel))) (goodIn_sub (fun _ h => List.mem_cons_of_mem _ (List.mem_append_right _ h)) (by decide +kernel))
set_option maxRecDepth 20000 in
theorem gX5_addSoftMoon_X5_addMoon : GoodIn wsX5_addSoftMoon (wsV RX5 67 RX5 yX5_addMoon wsX5_addMoon) := goodIn_app (goodIn_of _ (by decide +kernel)) ggX5_addSoftMoon_X5_addMoon
theorem dX5_addSoftMoon_0 : decode cX5_addSoftMoon 0 = .ok (.aload_n 0, 1) := by decide +kernel
theorem dX5_addSoftMoon_1 : decode cX5_addSoftMoon 1 = .ok (.iconst 1, 1) := by decide +kernel
theorem dX5_addSoftMoon_2 : decode cX5_addSoftMoon 2 = .ok (.iload_n 1, 1) := by decide +kernel
theorem dX5_addSoftMoon_3 : decode cX5_addSoftMoon 3 = .ok (.iload_n 2, 1) := by decide +kernel
theorem dX5_addSoftMoon_4 : decode cX5_addSoftMoon 4 = .ok (.iload_n 3, 1) := by decide +kernel
theorem dX5_addSoftMoon_5 : decode cX5_addSoftMoon 5 = .ok (.invokevirtual 67, 3) := by decide +kernel
theorem dX5_addSoftMoon_8 : decode cX5_addSoftMoon 8 = .ok (.ireturn, 1) := by decide +kernel
set_option maxRecDepth 20000 in
theorem ggX5_addBubbleMoon_X5_addMoon : GoodIn wsX5_addBubbleMoon wsX5_addMoon := goodIn_ca (goodIn_ca (goodIn_ca (goodIn_r _ [5, 6, 7, 8, 9, 10, 11, 12, 13, 14, 15, 16, 17, 18, 19, 20, 21, 22, 23, 24, 25, 26, 27, 28, 29, 30, 31, 32, 33, 34, 35, 36, 37, 38, 39, 40, 41, 42, 43, 44, 45, 46, 47, 48, 49, 50, 51, 52, 53, 54, 55, 56, 57, 58, 59, 60, 61, 62, 63, 64, 65, 66, 67, 68, 69, 70, 71, 72, 73, 74, 75] (by decide +kernel) (by decide +kernel)) (goodIn_sub (fun _ h => List.mem_cons_of_mem _ (List.mem_append_left _ (List.mem_append_left _ (List.mem_append_right _ h)))) (by decide +kernel))) (goodIn_sub (fun _ h => List.mem_cons_of_mem _ (List.mem_append_left _ (List.mem_append_right _ h))) (by decide +kernel))) (goodIn_sub (fun _ h => List.mem_cons_of_mem _ (List.mem_append_right _ h)) (by decide +kernel))
set_option maxRecDepth 20000 in
theorem gX5_addBubbleMoon_X5_addMoon : GoodIn wsX5_addBubbleMoon (wsV RX5 67 RX5 yX5_addMoon wsX5_addMoon) := goodIn_app (goodIn_of _ (by decide +kernel)) ggX5_addBubbleMoon_X5_addMoon
theorem dX5_addBubbleMoon_0 : decode cX5_addBubbleMoon 0 = .ok (.aload_n 0, 1) := by decide +kernel
theorem dX5_addBubbleMoon_1 : decode cX5_addBubbleMoon 1 = .ok (.iconst 2, 1) := by decide +kernel
theorem dX5_addBubbleMoon_2 : decode cX5_addBubbleMoon 2 = .ok (.iload_n 1, 1) := by decide +kernel
theorem dX5_addBubbleMoon_3 : decode cX5_addBubbleMoon 3 = .ok (.iload_n 2, 1) := by decide +kernel
theorem dX5_addBubbleMoon_4 : decode cX5_addBubbleMoon 4 = .ok (.iload_n 3, 1) := by decide +kernel
theorem dX5_addBubbleMoon_5 : decode cX5_addBubbleMoon 5 = .ok (.invokevirtual 67, 3) := by decide +kernel
theorem dX5_addBubbleMoon_8 : decode cX5_addBubbleMoon 8 = .ok (.ireturn, 1) := by decide +kernel
set_option maxRecDepth 20000 in
theorem ggX5_addMoon_X4_isMoonShape : GoodIn wsX5_addMoon wsX4_isMoonShape := goodIn_r _ [11, 12, 13, 10, 14] (by decide +kernel) (by decide +kernel)
set_option maxRecDepth 20000 in
theorem gX5_addMoon_X4_isMoonShape : GoodIn wsX5_addMoon (va_wsS RX5 71 yX4_isMoonShape wsX4_isMoonShape) := goodIn_app (goodIn_of _ (by decide +kernel)) ggX5_addMoon_X4_isMoonShape
set_option maxRecDepth 20000 in
theorem ggX5_addMoon_X4_hasMoonRoom : GoodIn wsX5_addMoon wsX4_hasMoonRoom := goodIn_ca (goodIn_r _ [18, 19, 20, 21, 10, 22, 23, 24, 25, 26, 27, 28, 29, 66, 67] (by decide +kernel) (by decide +kernel)) (goodIn_sub (fun _ h => List.mem_cons_of_mem _ (List.mem_append_right _ h)) (by decide +kernel))
set_option maxRecDepth 20000 in
theorem gX5_addMoon_X4_hasMoonRoom : GoodIn wsX5_addMoon (wsV RX5 82 RX4 yX4_hasMoonRoom wsX4_hasMoonRoom) := goodIn_app (goodIn_of _ (by decide +kernel)) ggX5_addMoon_X4_hasMoonRoom
set_option maxRecDepth 20000 in
theorem ggX5_addMoon_X1_keep : GoodIn wsX5_addMoon wsX1_keep := goodIn_ca (goodIn_r _ [34, 35, 36, 37, 38, 39, 40, 41, 42, 43, 44, 27, 45, 46, 25, 26, 28, 29, 47, 48, 49, 50, 68, 69, 70, 67] (by decide +kernel) (by decide +kernel)) (goodIn_sub (fun _ h => List.mem_cons_of_mem _ (List.mem_append_right _ h)) (by decide +kernel))
set_option maxRecDepth 20000 in
theorem gX5_addMoon_X1_keep : GoodIn wsX5_addMoon (wsV RX5 94 RX1 yX1_keep wsX1_keep) := goodIn_app (goodIn_of _ (by decide +kernel)) ggX5_addMoon_X1_keep
set_option maxRecDepth 20000 in
theorem ggX5_addMoon_X4_putMoon : GoodIn wsX5_addMoon wsX4_putMoon := goodIn_ca (goodIn_r _ [54, 23, 19, 20, 21, 10, 22, 24, 25, 26, 27, 28, 29, 55, 48, 49, 50, 66, 67] (by decide +kernel) (by decide +kernel)) (goodIn_sub (fun _ h => List.mem_cons_of_mem _ (List.mem_append_right _ h)) (by decide +kernel))
set_option maxRecDepth 20000 in
theorem gX5_addMoon_X4_putMoon : GoodIn wsX5_addMoon (wsV RX5 98 RX4 yX4_putMoon wsX4_putMoon) := goodIn_app (goodIn_of _ (by decide +kernel)) ggX5_addMoon_X4_putMoon
theorem dX5_addMoon_0 : decode cX5_addMoon 0 = .ok (.iload_n 2, 1) := by decide +kernel
theorem dX5_addMoon_1 : decode cX5_addMoon 1 = .ok (.iload_n 3, 1) := by decide +kernel
theorem dX5_addMoon_2 : decode cX5_addMoon 2 = .ok (.iload 4, 2) := by decide +kernel
theorem dX5_addMoon_4 : decode cX5_addMoon 4 = .ok (.invokestatic 71, 3) := by decide +kernel
theorem dX5_addMoon_7 : decode cX5_addMoon 7 = .ok (.ifCond .ne 13, 3) := by decide +kernel
theorem dX5_addMoon_10 : decode cX5_addMoon 10 = .ok (.new 75, 3) := by decide +kernel
theorem dX5_addMoon_13 : decode cX5_addMoon 13 = .ok (.dup, 1) := by decide +kernel
theorem dX5_addMoon_14 : decode cX5_addMoon 14 = .ok (.ldc 77, 2) := by decide +kernel
theorem dX5_addMoon_16 : decode cX5_addMoon 16 = .ok (.invokespecial 79, 3) := by decide +kernel
theorem dX5_addMoon_19 : decode cX5_addMoon 19 = .ok (.athrow, 1) := by decide +kernel
theorem dX5_addMoon_20 : decode cX5_addMoon 20 = .ok (.aload_n 0, 1) := by decide +kernel
theorem dX5_addMoon_21 : decode cX5_addMoon 21 = .ok (.getfield 10, 3) := by decide +kernel
theorem dX5_addMoon_24 : decode cX5_addMoon 24 = .ok (.invokevirtual 82, 3) := by decide +kernel
theorem dX5_addMoon_27 : decode cX5_addMoon 27 = .ok (.ifCond .ne 13, 3) := by decide +kernel
theorem dX5_addMoon_30 : decode cX5_addMoon 30 = .ok (.new 86, 3) := by decide +kernel
theorem dX5_addMoon_33 : decode cX5_addMoon 33 = .ok (.dup, 1) := by decide +kernel
theorem dX5_addMoon_34 : decode cX5_addMoon 34 = .ok (.ldc 88, 2) := by decide +kernel
theorem dX5_addMoon_36 : decode cX5_addMoon 36 = .ok (.invokespecial 90, 3) := by decide +kernel
theorem dX5_addMoon_39 : decode cX5_addMoon 39 = .ok (.athrow, 1) := by decide +kernel
theorem dX5_addMoon_40 : decode cX5_addMoon 40 = .ok (.aload_n 0, 1) := by decide +kernel
theorem dX5_addMoon_41 : decode cX5_addMoon 41 = .ok (.getfield 26, 3) := by decide +kernel
theorem dX5_addMoon_44 : decode cX5_addMoon 44 = .ok (.aload_n 0, 1) := by decide +kernel
theorem dX5_addMoon_45 : decode cX5_addMoon 45 = .ok (.getfield 10, 3) := by decide +kernel
theorem dX5_addMoon_48 : decode cX5_addMoon 48 = .ok (.getfield 91, 3) := by decide +kernel
theorem dX5_addMoon_51 : decode cX5_addMoon 51 = .ok (.invokevirtual 94, 3) := by decide +kernel
theorem dX5_addMoon_54 : decode cX5_addMoon 54 = .ok (.aload_n 0, 1) := by decide +kernel
theorem dX5_addMoon_55 : decode cX5_addMoon 55 = .ok (.getfield 10, 3) := by decide +kernel
theorem dX5_addMoon_58 : decode cX5_addMoon 58 = .ok (.iload_n 1, 1) := by decide +kernel
theorem dX5_addMoon_59 : decode cX5_addMoon 59 = .ok (.iload_n 2, 1) := by decide +kernel
theorem dX5_addMoon_60 : decode cX5_addMoon 60 = .ok (.iload_n 3, 1) := by decide +kernel
theorem dX5_addMoon_61 : decode cX5_addMoon 61 = .ok (.iload 4, 2) := by decide +kernel
theorem dX5_addMoon_63 : decode cX5_addMoon 63 = .ok (.invokevirtual 98, 3) := by decide +kernel
theorem dX5_addMoon_66 : decode cX5_addMoon 66 = .ok (.ireturn, 1) := by decide +kernel
set_option maxRecDepth 20000 in
theorem ggX5_removeMoon_X5_requireMoon : GoodIn wsX5_removeMoon wsX5_requireMoon := goodIn_ca (goodIn_ca (goodIn_r _ [8, 9, 10, 2, 11, 12, 13, 14, 15, 16, 17, 18, 19, 20, 21, 22, 23, 24, 25, 26, 54, 55, 56, 57, 58, 59, 60, 61, 62, 63, 64, 65] (by decide +kernel) (by decide +kernel)) (goodIn_sub (fun _ h => List.mem_cons_of_mem _ (List.mem_append_left _ (List.mem_append_right _ h))) (by decide +kernel))) (goodIn_sub (fun _ h => List.mem_cons_of_mem _ (List.mem_append_right _ h)) (by decide +kernel))
set_option maxRecDepth 20000 in
theorem gX5_removeMoon_X5_requireMoon : GoodIn wsX5_removeMoon (wsV RX5 101 RX5 yX5_requireMoon wsX5_requireMoon) := goodIn_app (goodIn_of _ (by decide +kernel)) ggX5_removeMoon_X5_requireMoon
set_option maxRecDepth 20000 in
theorem ggX5_removeMoon_X1_keep : GoodIn wsX5_removeMoon wsX1_keep := goodIn_ca (goodIn_r _ [31, 32, 33, 34, 35, 36, 37, 38, 39, 40, 41, 24, 42, 43, 22, 23, 25, 26, 44, 45, 46, 47, 66, 67, 68, 65] (by decide +kernel) (by decide +kernel)) (goodIn_sub (fun _ h => List.mem_cons_of_mem _ (List.mem_append_right _ h)) (by decide +kernel))
set_option maxRecDepth 20000 in
theorem gX5_removeMoon_X1_keep : GoodIn wsX5_removeMoon (wsV RX5 94 RX1 yX1_keep wsX1_keep) := goodIn_app (goodIn_of _ (by decide +kernel)) ggX5_removeMoon_X1_keep
set_option maxRecDepth 20000 in
theorem ggX5_removeMoon_X4_dropMoon : GoodIn wsX5_removeMoon wsX4_dropMoon := goodIn_ca (goodIn_r _ [51, 20, 16, 17, 18, 14, 19, 21, 22, 23, 24, 25, 26, 52, 40, 41, 42, 43, 44, 45, 46, 47, 53, 64, 65] (by decide +kernel) (by decide +kernel)) (goodIn_sub (fun _ h => List.mem_cons_of_mem _ (List.mem_append_right _ h)) (by decide +kernel))
set_option maxRecDepth 20000 in
theorem gX5_removeMoon_X4_dropMoon : GoodIn wsX5_removeMoon (wsV RX5 104 RX4 yX4_dropMoon wsX4_dropMoon) := goodIn_app (goodIn_of _ (by decide +kernel)) ggX5_removeMoon_X4_dropMoon
theorem dX5_removeMoon_0 : decode cX5_removeMoon 0 = .ok (.aload_n 0, 1) := by decide +kernel
theorem dX5_removeMoon_1 : decode cX5_removeMoon 1 = .ok (.iload_n 1, 1) := by decide +kernel
theorem dX5_removeMoon_2 : decode cX5_removeMoon 2 = .ok (.invokevirtual 101, 3) := by decide +kernel
theorem dX5_removeMoon_5 : decode cX5_removeMoon 5 = .ok (.aload_n 0, 1) := by decide +kernel
theorem dX5_removeMoon_6 : decode cX5_removeMoon 6 = .ok (.getfield 26, 3) := by decide +kernel
theorem dX5_removeMoon_9 : decode cX5_removeMoon 9 = .ok (.aload_n 0, 1) := by decide +kernel
theorem dX5_removeMoon_10 : decode cX5_removeMoon 10 = .ok (.getfield 10, 3) := by decide +kernel
theorem dX5_removeMoon_13 : decode cX5_removeMoon 13 = .ok (.getfield 91, 3) := by decide +kernel
theorem dX5_removeMoon_16 : decode cX5_removeMoon 16 = .ok (.invokevirtual 94, 3) := by decide +kernel
theorem dX5_removeMoon_19 : decode cX5_removeMoon 19 = .ok (.aload_n 0, 1) := by decide +kernel
theorem dX5_removeMoon_20 : decode cX5_removeMoon 20 = .ok (.getfield 10, 3) := by decide +kernel
theorem dX5_removeMoon_23 : decode cX5_removeMoon 23 = .ok (.iload_n 1, 1) := by decide +kernel
theorem dX5_removeMoon_24 : decode cX5_removeMoon 24 = .ok (.invokevirtual 104, 3) := by decide +kernel
theorem dX5_removeMoon_27 : decode cX5_removeMoon 27 = .ok (.ireturn, 1) := by decide +kernel
set_option maxRecDepth 20000 in
theorem ggX5_moonCount_X4_moons : GoodIn wsX5_moonCount wsX4_moons := goodIn_ca (goodIn_r _ [6, 7, 8, 9, 10, 11, 12, 13, 24, 25] (by decide +kernel) (by decide +kernel)) (goodIn_sub (fun _ h => List.mem_cons_of_mem _ (List.mem_append_right _ h)) (by decide +kernel))
set_option maxRecDepth 20000 in
theorem gX5_moonCount_X4_moons : GoodIn wsX5_moonCount (wsV RX5 108 RX4 yX4_moons wsX4_moons) := goodIn_app (goodIn_of _ (by decide +kernel)) ggX5_moonCount_X4_moons
theorem dX5_moonCount_0 : decode cX5_moonCount 0 = .ok (.aload_n 0, 1) := by decide +kernel
theorem dX5_moonCount_1 : decode cX5_moonCount 1 = .ok (.getfield 10, 3) := by decide +kernel
theorem dX5_moonCount_4 : decode cX5_moonCount 4 = .ok (.invokevirtual 108, 3) := by decide +kernel
theorem dX5_moonCount_7 : decode cX5_moonCount 7 = .ok (.ireturn, 1) := by decide +kernel
set_option maxRecDepth 20000 in
theorem ggX5_positionOf_X5_requireMoon : GoodIn wsX5_positionOf wsX5_requireMoon := goodIn_ca (goodIn_ca (goodIn_r _ [6, 7, 8, 1, 9, 10, 11, 12, 13, 14, 15, 16, 17, 18, 19, 20, 21, 22, 23, 24, 37, 38, 39, 40, 41, 42, 43, 44, 45, 46, 47, 48] (by decide +kernel) (by decide +kernel)) (goodIn_sub (fun _ h => List.mem_cons_of_mem _ (List.mem_append_left _ (List.mem_append_left _ (List.mem_append_right _ h)))) (by decide +kernel))) (goodIn_sub (fun _ h => List.mem_cons_of_mem _ (List.mem_append_left _ (List.mem_append_right _ h))) (by decide +kernel))
set_option maxRecDepth 20000 in
theorem gX5_positionOf_X5_requireMoon : GoodIn wsX5_positionOf (wsV RX5 101 RX5 yX5_requireMoon wsX5_requireMoon) := goodIn_app (goodIn_of _ (by decide +kernel)) ggX5_positionOf_X5_requireMoon
set_option maxRecDepth 20000 in
theorem ggX5_positionOf_X4_placeAfter : GoodIn wsX5_positionOf wsX4_placeAfter := goodIn_ca (goodIn_ca (goodIn_r _ [28, 18, 29, 30, 31, 12, 32, 19, 20, 21, 22, 23, 24, 33, 34, 35, 36, 47, 48] (by decide +kernel) (by decide +kernel)) (goodIn_sub (fun _ h => List.mem_cons_of_mem _ (List.mem_append_right _ h)) (by decide +kernel))) (goodIn_sub (fun _ h => List.mem_cons_of_mem _ (List.mem_append_left _ (List.mem_append_right _ h))) (by decide +kernel))
set_option maxRecDepth 20000 in
theorem gX5_positionOf_X4_placeAfter : GoodIn wsX5_positionOf (wsV RX5 112 RX4 yX4_placeAfter wsX4_placeAfter) := goodIn_app (goodIn_of _ (by decide +kernel)) ggX5_positionOf_X4_placeAfter
theorem dX5_positionOf_0 : decode cX5_positionOf 0 = .ok (.aload_n 0, 1) := by decide +kernel
theorem dX5_positionOf_1 : decode cX5_positionOf 1 = .ok (.iload_n 1, 1) := by decide +kernel
theorem dX5_positionOf_2 : decode cX5_positionOf 2 = .ok (.invokevirtual 101, 3) := by decide +kernel
theorem dX5_positionOf_5 : decode cX5_positionOf 5 = .ok (.aload_n 0, 1) := by decide +kernel
theorem dX5_positionOf_6 : decode cX5_positionOf 6 = .ok (.getfield 10, 3) := by decide +kernel
theorem dX5_positionOf_9 : decode cX5_positionOf 9 = .ok (.iload_n 1, 1) := by decide +kernel
theorem dX5_positionOf_10 : decode cX5_positionOf 10 = .ok (.iconst 0, 1) := by decide +kernel
theorem dX5_positionOf_11 : decode cX5_positionOf 11 = .ok (.invokevirtual 112, 3) := by decide +kernel
theorem dX5_positionOf_14 : decode cX5_positionOf 14 = .ok (.ireturn, 1) := by decide +kernel
set_option maxRecDepth 20000 in
theorem ggX5_massOf_X5_requireMoon : GoodIn wsX5_massOf wsX5_requireMoon := goodIn_ca (goodIn_ca (goodIn_r _ [6, 7, 8, 1, 9, 10, 11, 12, 13, 14, 15, 16, 17, 18, 19, 20, 21, 22, 23, 24, 45, 46, 47, 48, 49, 50, 51, 52, 53, 54, 55, 56] (by decide +kernel) (by decide +kernel)) (goodIn_sub (fun _ h => List.mem_cons_of_mem _ (List.mem_append_left _ (List.mem_append_right _ h))) (by decide +kernel))) (goodIn_sub (fun _ h => List.mem_cons_of_mem _ (List.mem_append_right _ h)) (by decide +kernel))
set_option maxRecDepth 20000 in
theorem gX5_massOf_X5_requireMoon : GoodIn wsX5_massOf (wsV RX5 101 RX5 yX5_requireMoon wsX5_requireMoon) := goodIn_app (goodIn_of _ (by decide +kernel)) ggX5_massOf_X5_requireMoon
set_option maxRecDepth 20000 in
theorem ggX5_massOf_X4_massAfter : GoodIn wsX5_massOf wsX4_massAfter := goodIn_ca (goodIn_r _ [28, 29, 30, 31, 32, 33, 34, 35, 12, 36, 18, 19, 20, 21, 22, 23, 24, 37, 38, 39, 40, 41, 42, 43, 44, 55, 56] (by decide +kernel) (by decide +kernel)) (goodIn_sub (fun _ h => List.mem_cons_of_mem _ (List.mem_append_right _ h)) (by decide +kernel))
set_option maxRecDepth 20000 in
theorem gX5_massOf_X4_massAfter : GoodIn wsX5_massOf (wsV RX5 116 RX4 yX4_massAfter wsX4_massAfter) := goodIn_app (goodIn_of _ (by decide +kernel)) ggX5_massOf_X4_massAfter
theorem dX5_massOf_0 : decode cX5_massOf 0 = .ok (.aload_n 0, 1) := by decide +kernel
theorem dX5_massOf_1 : decode cX5_massOf 1 = .ok (.iload_n 1, 1) := by decide +kernel
theorem dX5_massOf_2 : decode cX5_massOf 2 = .ok (.invokevirtual 101, 3) := by decide +kernel
theorem dX5_massOf_5 : decode cX5_massOf 5 = .ok (.aload_n 0, 1) := by decide +kernel
theorem dX5_massOf_6 : decode cX5_massOf 6 = .ok (.getfield 10, 3) := by decide +kernel
theorem dX5_massOf_9 : decode cX5_massOf 9 = .ok (.iload_n 1, 1) := by decide +kernel
theorem dX5_massOf_10 : decode cX5_massOf 10 = .ok (.iconst 0, 1) := by decide +kernel
theorem dX5_massOf_11 : decode cX5_massOf 11 = .ok (.invokevirtual 116, 3) := by decide +kernel
theorem dX5_massOf_14 : decode cX5_massOf 14 = .ok (.ireturn, 1) := by decide +kernel
set_option maxRecDepth 20000 in
theorem ggX5_ageOf_X5_requireMoon : GoodIn wsX5_ageOf wsX5_requireMoon := goodIn_ca (goodIn_ca (goodIn_r _ [6, 7, 8, 1, 9, 10, 11, 12, 13, 14, 15, 16, 17, 18, 19, 20, 21, 22, 23, 24, 29, 30, 31, 32, 33, 34, 35, 36, 37, 38, 39, 40] (by decide +kernel) (by decide +kernel)) (goodIn_sub (fun _ h => List.mem_cons_of_mem _ (List.mem_append_left _ (List.mem_append_right _ h))) (by decide +kernel))) (goodIn_sub (fun _ h => List.mem_cons_of_mem _ (List.mem_append_right _ h)) (by decide +kernel))
set_option maxRecDepth 20000 in
theorem gX5_ageOf_X5_requireMoon : GoodIn wsX5_ageOf (wsV RX5 101 RX5 yX5_requireMoon wsX5_requireMoon) := goodIn_app (goodIn_of _ (by decide +kernel)) ggX5_ageOf_X5_requireMoon
set_option maxRecDepth 20000 in
theorem ggX5_ageOf_X4_ageNow : GoodIn wsX5_ageOf wsX4_ageNow := goodIn_ca (goodIn_r _ [28, 18, 19, 20, 21, 22, 23, 24, 39, 40] (by decide +kernel) (by decide +kernel)) (goodIn_sub (fun _ h => List.mem_cons_of_mem _ (List.mem_append_right _ h)) (by decide +kernel))
set_option maxRecDepth 20000 in
theorem gX5_ageOf_X4_ageNow : GoodIn wsX5_ageOf (wsV RX5 119 RX4 yX4_ageNow wsX4_ageNow) := goodIn_app (goodIn_of _ (by decide +kernel)) ggX5_ageOf_X4_ageNow
theorem dX5_ageOf_0 : decode cX5_ageOf 0 = .ok (.aload_n 0, 1) := by decide +kernel
theorem dX5_ageOf_1 : decode cX5_ageOf 1 = .ok (.iload_n 1, 1) := by decide +kernel
theorem dX5_ageOf_2 : decode cX5_ageOf 2 = .ok (.invokevirtual 101, 3) := by decide +kernel
theorem dX5_ageOf_5 : decode cX5_ageOf 5 = .ok (.aload_n 0, 1) := by decide +kernel
theorem dX5_ageOf_6 : decode cX5_ageOf 6 = .ok (.getfield 10, 3) := by decide +kernel
theorem dX5_ageOf_9 : decode cX5_ageOf 9 = .ok (.iload_n 1, 1) := by decide +kernel
theorem dX5_ageOf_10 : decode cX5_ageOf 10 = .ok (.invokevirtual 119, 3) := by decide +kernel
theorem dX5_ageOf_13 : decode cX5_ageOf 13 = .ok (.ireturn, 1) := by decide +kernel
set_option maxRecDepth 20000 in
theorem ggX5_isHard_X5_requireMoon : GoodIn wsX5_isHard wsX5_requireMoon := goodIn_ca (goodIn_ca (goodIn_r _ [6, 7, 8, 1, 9, 10, 11, 12, 13, 14, 15, 16, 17, 18, 19, 20, 21, 22, 23, 24, 29, 30, 31, 32, 33, 34, 35, 36, 37, 38, 39, 40] (by decide +kernel) (by decide +kernel)) (goodIn_sub (fun _ h => List.mem_cons_of_mem _ (List.mem_append_left _ (List.mem_append_right _ h))) (by decide +kernel))) (goodIn_sub (fun _ h => List.mem_cons_of_mem _ (List.mem_append_right _ h)) (by decide +kernel))
set_option maxRecDepth 20000 in
theorem gX5_isHard_X5_requireMoon : GoodIn wsX5_isHard (wsV RX5 101 RX5 yX5_requireMoon wsX5_requireMoon) := goodIn_app (goodIn_of _ (by decide +kernel)) ggX5_isHard_X5_requireMoon
set_option maxRecDepth 20000 in
theorem ggX5_isHard_X4_kindOf : GoodIn wsX5_isHard wsX4_kindOf := goodIn_ca (goodIn_r _ [28, 18, 19, 20, 21, 22, 23, 24, 39, 40] (by decide +kernel) (by decide +kernel)) (goodIn_sub (fun _ h => List.mem_cons_of_mem _ (List.mem_append_right _ h)) (by decide +kernel))
set_option maxRecDepth 20000 in
theorem gX5_isHard_X4_kindOf : GoodIn wsX5_isHard (wsV RX5 122 RX4 yX4_kindOf wsX4_kindOf) := goodIn_app (goodIn_of _ (by decide +kernel)) ggX5_isHard_X4_kindOf
theorem dX5_isHard_0 : decode cX5_isHard 0 = .ok (.aload_n 0, 1) := by decide +kernel
theorem dX5_isHard_1 : decode cX5_isHard 1 = .ok (.iload_n 1, 1) := by decide +kernel
theorem dX5_isHard_2 : decode cX5_isHard 2 = .ok (.invokevirtual 101, 3) := by decide +kernel
theorem dX5_isHard_5 : decode cX5_isHard 5 = .ok (.aload_n 0, 1) := by decide +kernel
theorem dX5_isHard_6 : decode cX5_isHard 6 = .ok (.getfield 10, 3) := by decide +kernel
theorem dX5_isHard_9 : decode cX5_isHard 9 = .ok (.iload_n 1, 1) := by decide +kernel
theorem dX5_isHard_10 : decode cX5_isHard 10 = .ok (.invokevirtual 122, 3) := by decide +kernel
theorem dX5_isHard_13 : decode cX5_isHard 13 = .ok (.ifCond .ne 7, 3) := by decide +kernel
theorem dX5_isHard_16 : decode cX5_isHard 16 = .ok (.iconst 1, 1) := by decide +kernel
theorem dX5_isHard_17 : decode cX5_isHard 17 = .ok (.goto 4, 3) := by decide +kernel
theorem dX5_isHard_20 : decode cX5_isHard 20 = .ok (.iconst 0, 1) := by decide +kernel
theorem dX5_isHard_21 : decode cX5_isHard 21 = .ok (.ireturn, 1) := by decide +kernel
set_option maxRecDepth 20000 in
theorem ggX5_isSoft_X5_requireMoon : GoodIn wsX5_isSoft wsX5_requireMoon := goodIn_ca (goodIn_ca (goodIn_r _ [6, 7, 8, 1, 9, 10, 11, 12, 13, 14, 15, 16, 17, 18, 19, 20, 21, 22, 23, 24, 29, 30, 31, 32, 33, 34, 35, 36, 37, 38, 39, 40] (by decide +kernel) (by decide +kernel)) (goodIn_sub (fun _ h => List.mem_cons_of_mem _ (List.mem_append_left _ (List.mem_append_right _ h))) (by decide +kernel))) (goodIn_sub (fun _ h => List.mem_cons_of_mem _ (List.mem_append_right _ h)) (by decide +kernel))
set_option maxRecDepth 20000 in
theorem gX5_isSoft_X5_requireMoon : GoodIn wsX5_isSoft (wsV RX5 101 RX5 yX5_requireMoon wsX5_requireMoon) := goodIn_app (goodIn_of _ (by decide +kernel)) ggX5_isSoft_X5_requireMoon
set_option maxRecDepth 20000 in
theorem ggX5_isSoft_X4_kindOf : GoodIn wsX5_isSoft wsX4_kindOf := goodIn_ca (goodIn_r _ [28, 18, 19, 20, 21, 22, 23, 24, 39, 40] (by decide +kernel) (by decide +kernel)) (goodIn_sub (fun _ h => List.mem_cons_of_mem _ (List.mem_append_right _ h)) (by decide +kernel))
set_option maxRecDepth 20000 in
theorem gX5_isSoft_X4_kindOf : GoodIn wsX5_isSoft (wsV RX5 122 RX4 yX4_kindOf wsX4_kindOf) := goodIn_app (goodIn_of _ (by decide +kernel)) ggX5_isSoft_X4_kindOf
theorem dX5_isSoft_0 : decode cX5_isSoft 0 = .ok (.aload_n 0, 1) := by decide +kernel
theorem dX5_isSoft_1 : decode cX5_isSoft 1 = .ok (.iload_n 1, 1) := by decide +kernel
theorem dX5_isSoft_2 : decode cX5_isSoft 2 = .ok (.invokevirtual 101, 3) := by decide +kernel
theorem dX5_isSoft_5 : decode cX5_isSoft 5 = .ok (.aload_n 0, 1) := by decide +kernel
theorem dX5_isSoft_6 : decode cX5_isSoft 6 = .ok (.getfield 10, 3) := by decide +kernel
theorem dX5_isSoft_9 : decode cX5_isSoft 9 = .ok (.iload_n 1, 1) := by decide +kernel
theorem dX5_isSoft_10 : decode cX5_isSoft 10 = .ok (.invokevirtual 122, 3) := by decide +kernel
theorem dX5_isSoft_13 : decode cX5_isSoft 13 = .ok (.iconst 1, 1) := by decide +kernel
theorem dX5_isSoft_14 : decode cX5_isSoft 14 = .ok (.if_icmp .ne 7, 3) := by decide +kernel
theorem dX5_isSoft_17 : decode cX5_isSoft 17 = .ok (.iconst 1, 1) := by decide +kernel
theorem dX5_isSoft_18 : decode cX5_isSoft 18 = .ok (.goto 4, 3) := by decide +kernel
theorem dX5_isSoft_21 : decode cX5_isSoft 21 = .ok (.iconst 0, 1) := by decide +kernel
theorem dX5_isSoft_22 : decode cX5_isSoft 22 = .ok (.ireturn, 1) := by decide +kernel
set_option maxRecDepth 20000 in
theorem ggX5_isEclipsed_X5_requireMoon : GoodIn wsX5_isEclipsed wsX5_requireMoon := goodIn_ca (goodIn_ca (goodIn_r _ [6, 7, 8, 1, 9, 10, 11, 12, 13, 14, 15, 16, 17, 18, 19, 20, 21, 22, 23, 24, 51, 52, 53, 54, 55, 56, 57, 58, 59, 60, 61, 62] (by decide +kernel) (by decide +kernel)) (goodIn_sub (fun _ h => List.mem_cons_of_mem _ (List.mem_append_left _ (List.mem_append_left _ (List.mem_append_right _ h)))) (by decide +kernel))) (goodIn_sub (fun _ h => List.mem_cons_of_mem _ (List.mem_append_left _ (List.mem_append_right _ h))) (by decide +kernel))
set_option maxRecDepth 20000 in
theorem gX5_isEclipsed_X5_requireMoon : GoodIn wsX5_isEclipsed (wsV RX5 101 RX5 yX5_requireMoon wsX5_requireMoon) := goodIn_app (goodIn_of _ (by decide +kernel)) ggX5_isEclipsed_X5_requireMoon
set_option maxRecDepth 20000 in
theorem ggX5_isEclipsed_X4_placeAfter : GoodIn wsX5_isEclipsed wsX4_placeAfter := goodIn_ca (goodIn_ca (goodIn_r _ [28, 18, 29, 30, 31, 12, 32, 19, 20, 21, 22, 23, 24, 33, 34, 35, 36, 61, 62] (by decide +kernel) (by decide +kernel)) (goodIn_sub (fun _ h => List.mem_cons_of_mem _ (List.mem_append_right _ h)) (by decide +kernel))) (goodIn_sub (fun _ h => List.mem_cons_of_mem _ (List.mem_append_left _ (List.mem_append_right _ h))) (by decide +kernel))
set_option maxRecDepth 20000 in
theorem gX5_isEclipsed_X4_placeAfter : GoodIn wsX5_isEclipsed (wsV RX5 112 RX4 yX4_placeAfter wsX4_placeAfter) := goodIn_app (goodIn_of _ (by decide +kernel)) ggX5_isEclipsed_X4_placeAfter
set_option maxRecDepth 20000 in
theorem ggX5_isEclipsed_X4_eclipsesAt : GoodIn wsX5_isEclipsed wsX4_eclipsesAt := goodIn_ca (goodIn_r _ [40, 18, 19, 20, 21, 22, 23, 24, 41, 42, 12, 43, 44, 45, 46, 47, 48, 49, 50, 61, 62] (by decide +kernel) (by decide +kernel)) (goodIn_sub (fun _ h => List.mem_cons_of_mem _ (List.mem_append_left _ (List.mem_append_right _ h))) (by decide +kernel))
set_option maxRecDepth 20000 in
theorem gX5_isEclipsed_X4_eclipsesAt : GoodIn wsX5_isEclipsed (wsV RX5 125 RX4 yX4_eclipsesAt wsX4_eclipsesAt) := goodIn_app (goodIn_of _ (by decide +kernel)) ggX5_isEclipsed_X4_eclipsesAt
theorem dX5_isEclipsed_0 : decode cX5_isEclipsed 0 = .ok (.aload_n 0, 1) := by decide +kernel
theorem dX5_isEclipsed_1 : decode cX5_isEclipsed 1 = .ok (.iload_n 1, 1) := by decide +kernel
theorem dX5_isEclipsed_2 : decode cX5_isEclipsed 2 = .ok (.invokevirtual 101, 3) := by decide +kernel
theorem dX5_isEclipsed_5 : decode cX5_isEclipsed 5 = .ok (.aload_n 0, 1) := by decide +kernel
theorem dX5_isEclipsed_6 : decode cX5_isEclipsed 6 = .ok (.getfield 10, 3) := by decide +kernel
theorem dX5_isEclipsed_9 : decode cX5_isEclipsed 9 = .ok (.aload_n 0, 1) := by decide +kernel
theorem dX5_isEclipsed_10 : decode cX5_isEclipsed 10 = .ok (.getfield 10, 3) := by decide +kernel
theorem dX5_isEclipsed_13 : decode cX5_isEclipsed 13 = .ok (.iload_n 1, 1) := by decide +kernel
theorem dX5_isEclipsed_14 : decode cX5_isEclipsed 14 = .ok (.iconst 0, 1) := by decide +kernel
theorem dX5_isEclipsed_15 : decode cX5_isEclipsed 15 = .ok (.invokevirtual 112, 3) := by decide +kernel
theorem dX5_isEclipsed_18 : decode cX5_isEclipsed 18 = .ok (.invokevirtual 125, 3) := by decide +kernel
theorem dX5_isEclipsed_21 : decode cX5_isEclipsed 21 = .ok (.ireturn, 1) := by decide +kernel
set_option maxRecDepth 20000 in
theorem ggX5_placeToe_X5_requirePosition : GoodIn wsX5_placeToe wsX5_requirePosition := goodIn_ca (goodIn_r _ [9, 10, 11, 12, 13, 14, 15] (by decide +kernel) (by decide +kernel)) (goodIn_sub (fun _ h => List.mem_cons_of_mem _ (List.mem_append_left _ (List.mem_append_right _ h))) (by decide +kernel))
set_option maxRecDepth 20000 in
theorem gX5_placeToe_X5_requirePosition : GoodIn wsX5_placeToe (va_wsS RX5 129 yX5_requirePosition wsX5_requirePosition) := goodIn_app (goodIn_of _ (by decide +kernel)) ggX5_placeToe_X5_requirePosition
set_option maxRecDepth 20000 in
theorem ggX5_placeToe_X4_canPutToe : GoodIn wsX5_placeToe wsX4_canPutToe := goodIn_ca (goodIn_r _ [19, 20, 21, 22, 14, 23, 24, 25, 13, 15, 26, 27, 28, 29, 30, 31, 32, 33, 34, 35, 72, 73] (by decide +kernel) (by decide +kernel)) (goodIn_sub (fun _ h => List.mem_cons_of_mem _ (List.mem_append_right _ h)) (by decide +kernel))
set_option maxRecDepth 20000 in
theorem gX5_placeToe_X4_canPutToe : GoodIn wsX5_placeToe (wsV RX5 132 RX4 yX4_canPutToe wsX4_canPutToe) := goodIn_app (goodIn_of _ (by decide +kernel)) ggX5_placeToe_X4_canPutToe
set_option maxRecDepth 20000 in
theorem ggX5_placeToe_X1_keep : GoodIn wsX5_placeToe wsX1_keep := goodIn_ca (goodIn_r _ [40, 41, 42, 43, 44, 45, 46, 47, 48, 49, 50, 29, 51, 52, 27, 28, 30, 31, 53, 54, 55, 56, 74, 75, 76, 73] (by decide +kernel) (by decide +kernel)) (goodIn_sub (fun _ h => List.mem_cons_of_mem _ (List.mem_append_right _ h)) (by decide +kernel))
set_option maxRecDepth 20000 in
theorem gX5_placeToe_X1_keep : GoodIn wsX5_placeToe (wsV RX5 94 RX1 yX1_keep wsX1_keep) := goodIn_app (goodIn_of _ (by decide +kernel)) ggX5_placeToe_X1_keep
set_option maxRecDepth 20000 in
theorem ggX5_placeToe_X4_putToe : GoodIn wsX5_placeToe wsX4_putToe := goodIn_ca (goodIn_r _ [60, 24, 61, 54, 55, 29, 56, 31, 32, 33, 34, 14, 35, 26, 27, 28, 30, 72, 73] (by decide +kernel) (by decide +kernel)) (goodIn_sub (fun _ h => List.mem_cons_of_mem _ (List.mem_append_right _ h)) (by decide +kernel))
set_option maxRecDepth 20000 in
theorem gX5_placeToe_X4_putToe : GoodIn wsX5_placeToe (wsV RX5 137 RX4 yX4_putToe wsX4_putToe) := goodIn_app (goodIn_of _ (by decide +kernel)) ggX5_placeToe_X4_putToe
theorem dX5_placeToe_0 : decode cX5_placeToe 0 = .ok (.iload_n 1, 1) := by decide +kernel
theorem dX5_placeToe_1 : decode cX5_placeToe 1 = .ok (.invokestatic 129, 3) := by decide +kernel
theorem dX5_placeToe_4 : decode cX5_placeToe 4 = .ok (.aload_n 0, 1) := by decide +kernel
theorem dX5_placeToe_5 : decode cX5_placeToe 5 = .ok (.getfield 10, 3) := by decide +kernel
theorem dX5_placeToe_8 : decode cX5_placeToe 8 = .ok (.iload_n 1, 1) := by decide +kernel
theorem dX5_placeToe_9 : decode cX5_placeToe 9 = .ok (.invokevirtual 132, 3) := by decide +kernel
theorem dX5_placeToe_12 : decode cX5_placeToe 12 = .ok (.ifCond .ne 13, 3) := by decide +kernel
theorem dX5_placeToe_15 : decode cX5_placeToe 15 = .ok (.new 86, 3) := by decide +kernel
theorem dX5_placeToe_18 : decode cX5_placeToe 18 = .ok (.dup, 1) := by decide +kernel
theorem dX5_placeToe_19 : decode cX5_placeToe 19 = .ok (.ldc 135, 2) := by decide +kernel
theorem dX5_placeToe_21 : decode cX5_placeToe 21 = .ok (.invokespecial 90, 3) := by decide +kernel
theorem dX5_placeToe_24 : decode cX5_placeToe 24 = .ok (.athrow, 1) := by decide +kernel
theorem dX5_placeToe_25 : decode cX5_placeToe 25 = .ok (.aload_n 0, 1) := by decide +kernel
theorem dX5_placeToe_26 : decode cX5_placeToe 26 = .ok (.getfield 26, 3) := by decide +kernel
theorem dX5_placeToe_29 : decode cX5_placeToe 29 = .ok (.aload_n 0, 1) := by decide +kernel
theorem dX5_placeToe_30 : decode cX5_placeToe 30 = .ok (.getfield 10, 3) := by decide +kernel
theorem dX5_placeToe_33 : decode cX5_placeToe 33 = .ok (.getfield 91, 3) := by decide +kernel
theorem dX5_placeToe_36 : decode cX5_placeToe 36 = .ok (.invokevirtual 94, 3) := by decide +kernel
theorem dX5_placeToe_39 : decode cX5_placeToe 39 = .ok (.aload_n 0, 1) := by decide +kernel
theorem dX5_placeToe_40 : decode cX5_placeToe 40 = .ok (.getfield 10, 3) := by decide +kernel
theorem dX5_placeToe_43 : decode cX5_placeToe 43 = .ok (.iload_n 1, 1) := by decide +kernel
theorem dX5_placeToe_44 : decode cX5_placeToe 44 = .ok (.invokevirtual 137, 3) := by decide +kernel
theorem dX5_placeToe_47 : decode cX5_placeToe 47 = .ok (.ireturn, 1) := by decide +kernel
set_option maxRecDepth 20000 in
theorem ggX5_removeToe_X5_requirePosition : GoodIn wsX5_removeToe wsX5_requirePosition := goodIn_ca (goodIn_r _ [9, 10, 11, 12, 13, 14, 15] (by decide +kernel) (by decide +kernel)) (goodIn_sub (fun _ h => List.mem_cons_of_mem _ (List.mem_append_left _ (List.mem_append_right _ h))) (by decide +kernel))
set_option maxRecDepth 20000 in
theorem gX5_removeToe_X5_requirePosition : GoodIn wsX5_removeToe (va_wsS RX5 129 yX5_requirePosition wsX5_requirePosition) := goodIn_app (goodIn_of _ (by decide +kernel)) ggX5_removeToe_X5_requirePosition
set_option maxRecDepth 20000 in
theorem ggX5_removeToe_X4_isToeAt : GoodIn wsX5_removeToe wsX4_isToeAt := goodIn_ca (goodIn_r _ [19, 20, 21, 13, 14, 15, 22, 23, 24, 25, 26, 27, 68, 69] (by decide +kernel) (by decide +kernel)) (goodIn_sub (fun _ h => List.mem_cons_of_mem _ (List.mem_append_right _ h)) (by decide +kernel))
set_option maxRecDepth 20000 in
theorem gX5_removeToe_X4_isToeAt : GoodIn wsX5_removeToe (wsV RX5 140 RX4 yX4_isToeAt wsX4_isToeAt) := goodIn_app (goodIn_of _ (by decide +kernel)) ggX5_removeToe_X4_isToeAt
set_option maxRecDepth 20000 in
theorem ggX5_removeToe_X1_keep : GoodIn wsX5_removeToe wsX1_keep := goodIn_ca (goodIn_r _ [32, 33, 34, 35, 36, 37, 38, 39, 40, 41, 42, 25, 43, 44, 23, 24, 26, 27, 45, 46, 47, 48, 70, 71, 72, 69] (by decide +kernel) (by decide +kernel)) (goodIn_sub (fun _ h => List.mem_cons_of_mem _ (List.mem_append_right _ h)) (by decide +kernel))
set_option maxRecDepth 20000 in
theorem gX5_removeToe_X1_keep : GoodIn wsX5_removeToe (wsV RX5 94 RX1 yX1_keep wsX1_keep) := goodIn_app (goodIn_of _ (by decide +kernel)) ggX5_removeToe_X1_keep
set_option maxRecDepth 20000 in
theorem ggX5_removeToe_X4_dropToe : GoodIn wsX5_removeToe wsX4_dropToe := goodIn_ca (goodIn_r _ [52, 20, 53, 46, 47, 25, 48, 27, 54, 55, 56, 14, 57, 22, 23, 24, 26, 68, 69] (by decide +kernel) (by decide +kernel)) (goodIn_sub (fun _ h => List.mem_cons_of_mem _ (List.mem_append_right _ h)) (by decide +kernel))
set_option maxRecDepth 20000 in
theorem gX5_removeToe_X4_dropToe : GoodIn wsX5_removeToe (wsV RX5 145 RX4 yX4_dropToe wsX4_dropToe) := goodIn_app (goodIn_of _ (by decide +kernel)) ggX5_removeToe_X4_dropToe
theorem dX5_removeToe_0 : decode cX5_removeToe 0 = .ok (.iload_n 1, 1) := by decide +kernel
theorem dX5_removeToe_1 : decode cX5_removeToe 1 = .ok (.invokestatic 129, 3) := by decide +kernel
theorem dX5_removeToe_4 : decode cX5_removeToe 4 = .ok (.aload_n 0, 1) := by decide +kernel
theorem dX5_removeToe_5 : decode cX5_removeToe 5 = .ok (.getfield 10, 3) := by decide +kernel
theorem dX5_removeToe_8 : decode cX5_removeToe 8 = .ok (.iload_n 1, 1) := by decide +kernel
theorem dX5_removeToe_9 : decode cX5_removeToe 9 = .ok (.invokevirtual 140, 3) := by decide +kernel
theorem dX5_removeToe_12 : decode cX5_removeToe 12 = .ok (.ifCond .ne 13, 3) := by decide +kernel
theorem dX5_removeToe_15 : decode cX5_removeToe 15 = .ok (.new 86, 3) := by decide +kernel
theorem dX5_removeToe_18 : decode cX5_removeToe 18 = .ok (.dup, 1) := by decide +kernel
theorem dX5_removeToe_19 : decode cX5_removeToe 19 = .ok (.ldc 143, 2) := by decide +kernel
theorem dX5_removeToe_21 : decode cX5_removeToe 21 = .ok (.invokespecial 90, 3) := by decide +kernel
theorem dX5_removeToe_24 : decode cX5_removeToe 24 = .ok (.athrow, 1) := by decide +kernel
theorem dX5_removeToe_25 : decode cX5_removeToe 25 = .ok (.aload_n 0, 1) := by decide +kernel
theorem dX5_removeToe_26 : decode cX5_removeToe 26 = .ok (.getfield 26, 3) := by decide +kernel
theorem dX5_removeToe_29 : decode cX5_removeToe 29 = .ok (.aload_n 0, 1) := by decide +kernel
theorem dX5_removeToe_30 : decode cX5_removeToe 30 = .ok (.getfield 10, 3) := by decide +kernel
theorem dX5_removeToe_33 : decode cX5_removeToe 33 = .ok (.getfield 91, 3) := by decide +kernel
theorem dX5_removeToe_36 : decode cX5_removeToe 36 = .ok (.invokevirtual 94, 3) := by decide +kernel
theorem dX5_removeToe_39 : decode cX5_removeToe 39 = .ok (.aload_n 0, 1) := by decide +kernel
theorem dX5_removeToe_40 : decode cX5_removeToe 40 = .ok (.getfield 10, 3) := by decide +kernel
theorem dX5_removeToe_43 : decode cX5_removeToe 43 = .ok (.iload_n 1, 1) := by decide +kernel
theorem dX5_removeToe_44 : decode cX5_removeToe 44 = .ok (.invokevirtual 145, 3) := by decide +kernel
theorem dX5_removeToe_47 : decode cX5_removeToe 47 = .ok (.ireturn, 1) := by decide +kernel
set_option maxRecDepth 20000 in
theorem ggX5_hasToe_X5_requirePosition : GoodIn wsX5_hasToe wsX5_requirePosition := goodIn_ca (goodIn_r _ [5, 6, 7, 8, 9, 10, 11] (by decide +kernel) (by decide +kernel)) (goodIn_sub (fun _ h => List.mem_cons_of_mem _ (List.mem_append_left _ (List.mem_append_right _ h))) (by decide +kernel))
set_option maxRecDepth 20000 in
theorem gX5_hasToe_X5_requirePosition : GoodIn wsX5_hasToe (va_wsS RX5 129 yX5_requirePosition wsX5_requirePosition) := goodIn_app (goodIn_of _ (by decide +kernel)) ggX5_hasToe_X5_requirePosition
set_option maxRecDepth 20000 in
theorem ggX5_hasToe_X4_isToeAt : GoodIn wsX5_hasToe wsX4_isToeAt := goodIn_ca (goodIn_r _ [15, 16, 17, 9, 10, 11, 18, 19, 20, 21, 22, 23, 34, 35] (by decide +kernel) (by decide +kernel)) (goodIn_sub (fun _ h => List.mem_cons_of_mem _ (List.mem_append_right _ h)) (by decide +kernel))
set_option maxRecDepth 20000 in
theorem gX5_hasToe_X4_isToeAt : GoodIn wsX5_hasToe (wsV RX5 140 RX4 yX4_isToeAt wsX4_isToeAt) := goodIn_app (goodIn_of _ (by decide +kernel)) ggX5_hasToe_X4_isToeAt
theorem dX5_hasToe_0 : decode cX5_hasToe 0 = .ok (.iload_n 1, 1) := by decide +kernel
theorem dX5_hasToe_1 : decode cX5_hasToe 1 = .ok (.invokestatic 129, 3) := by decide +kernel
theorem dX5_hasToe_4 : decode cX5_hasToe 4 = .ok (.aload_n 0, 1) := by decide +kernel
theorem dX5_hasToe_5 : decode cX5_hasToe 5 = .ok (.getfield 10, 3) := by decide +kernel
theorem dX5_hasToe_8 : decode cX5_hasToe 8 = .ok (.iload_n 1, 1) := by decide +kernel
theorem dX5_hasToe_9 : decode cX5_hasToe 9 = .ok (.invokevirtual 140, 3) := by decide +kernel
theorem dX5_hasToe_12 : decode cX5_hasToe 12 = .ok (.ireturn, 1) := by decide +kernel
set_option maxRecDepth 20000 in
theorem ggX5_insertPlug_X5_requirePosition : GoodIn wsX5_insertPlug wsX5_requirePosition := goodIn_ca (goodIn_r _ [7, 8, 9, 10, 11, 12, 13] (by decide +kernel) (by decide +kernel)) (goodIn_sub (fun _ h => List.mem_cons_of_mem _ (List.mem_append_left _ (List.mem_append_right _ h))) (by decide +kernel))
set_option maxRecDepth 20000 in
theorem gX5_insertPlug_X5_requirePosition : GoodIn wsX5_insertPlug (va_wsS RX5 129 yX5_requirePosition wsX5_requirePosition) := goodIn_app (goodIn_of _ (by decide +kernel)) ggX5_insertPlug_X5_requirePosition
set_option maxRecDepth 20000 in
theorem ggX5_insertPlug_X1_keep : GoodIn wsX5_insertPlug wsX1_keep := goodIn_ca (goodIn_r _ [18, 19, 20, 21, 22, 23, 24, 25, 26, 27, 28, 29, 30, 31, 32, 33, 34, 35, 36, 37, 38, 39, 62, 63, 64, 65] (by decide +kernel) (by decide +kernel)) (goodIn_sub (fun _ h => List.mem_cons_of_mem _ (List.mem_append_right _ h)) (by decide +kernel))
set_option maxRecDepth 20000 in
theorem gX5_insertPlug_X1_keep : GoodIn wsX5_insertPlug (wsV RX5 94 RX1 yX1_keep wsX1_keep) := goodIn_app (goodIn_of _ (by decide +kernel)) ggX5_insertPlug_X1_keep
set_option maxRecDepth 20000 in
theorem ggX5_insertPlug_X4_putPlug : GoodIn wsX5_insertPlug wsX4_putPlug := goodIn_ca (goodIn_r _ [43, 44, 45, 46, 47, 12, 48, 49, 32, 33, 29, 34, 35, 50, 37, 38, 39, 61, 65] (by decide +kernel) (by decide +kernel)) (goodIn_sub (fun _ h => List.mem_cons_of_mem _ (List.mem_append_right _ h)) (by decide +kernel))
set_option maxRecDepth 20000 in
theorem gX5_insertPlug_X4_putPlug : GoodIn wsX5_insertPlug (wsV RX5 148 RX4 yX4_putPlug wsX4_putPlug) := goodIn_app (goodIn_of _ (by decide +kernel)) ggX5_insertPlug_X4_putPlug
theorem dX5_insertPlug_0 : decode cX5_insertPlug 0 = .ok (.iload_n 1, 1) := by decide +kernel
theorem dX5_insertPlug_1 : decode cX5_insertPlug 1 = .ok (.invokestatic 129, 3) := by decide +kernel
theorem dX5_insertPlug_4 : decode cX5_insertPlug 4 = .ok (.aload_n 0, 1) := by decide +kernel
theorem dX5_insertPlug_5 : decode cX5_insertPlug 5 = .ok (.getfield 26, 3) := by decide +kernel
theorem dX5_insertPlug_8 : decode cX5_insertPlug 8 = .ok (.aload_n 0, 1) := by decide +kernel
theorem dX5_insertPlug_9 : decode cX5_insertPlug 9 = .ok (.getfield 10, 3) := by decide +kernel
theorem dX5_insertPlug_12 : decode cX5_insertPlug 12 = .ok (.getfield 91, 3) := by decide +kernel
theorem dX5_insertPlug_15 : decode cX5_insertPlug 15 = .ok (.invokevirtual 94, 3) := by decide +kernel
theorem dX5_insertPlug_18 : decode cX5_insertPlug 18 = .ok (.aload_n 0, 1) := by decide +kernel
theorem dX5_insertPlug_19 : decode cX5_insertPlug 19 = .ok (.getfield 10, 3) := by decide +kernel
theorem dX5_insertPlug_22 : decode cX5_insertPlug 22 = .ok (.iload_n 1, 1) := by decide +kernel
theorem dX5_insertPlug_23 : decode cX5_insertPlug 23 = .ok (.invokevirtual 148, 3) := by decide +kernel
theorem dX5_insertPlug_26 : decode cX5_insertPlug 26 = .ok (.iconst (-1), 1) := by decide +kernel
theorem dX5_insertPlug_27 : decode cX5_insertPlug 27 = .ok (.if_icmp .ne 7, 3) := by decide +kernel
theorem dX5_insertPlug_30 : decode cX5_insertPlug 30 = .ok (.iconst 1, 1) := by decide +kernel
theorem dX5_insertPlug_31 : decode cX5_insertPlug 31 = .ok (.goto 4, 3) := by decide +kernel
theorem dX5_insertPlug_34 : decode cX5_insertPlug 34 = .ok (.iconst 0, 1) := by decide +kernel
theorem dX5_insertPlug_35 : decode cX5_insertPlug 35 = .ok (.ireturn, 1) := by decide +kernel
set_option maxRecDepth 20000 in
theorem ggX5_pullPlug_X4_isPlugged : GoodIn wsX5_pullPlug wsX4_isPlugged := goodIn_ca (goodIn_r _ [10, 11, 12, 13, 9, 14, 15, 16, 17, 18, 19, 20, 21, 58, 59] (by decide +kernel) (by decide +kernel)) (goodIn_sub (fun _ h => List.mem_cons_of_mem _ (List.mem_append_right _ h)) (by decide +kernel))
set_option maxRecDepth 20000 in
theorem gX5_pullPlug_X4_isPlugged : GoodIn wsX5_pullPlug (wsV RX5 151 RX4 yX4_isPlugged wsX4_isPlugged) := goodIn_app (goodIn_of _ (by decide +kernel)) ggX5_pullPlug_X4_isPlugged
set_option maxRecDepth 20000 in
theorem ggX5_pullPlug_X1_keep : GoodIn wsX5_pullPlug wsX1_keep := goodIn_ca (goodIn_r _ [26, 27, 28, 29, 30, 31, 32, 33, 34, 35, 36, 19, 37, 38, 17, 18, 20, 21, 39, 40, 41, 42, 60, 61, 62, 59] (by decide +kernel) (by decide +kernel)) (goodIn_sub (fun _ h => List.mem_cons_of_mem _ (List.mem_append_right _ h)) (by decide +kernel))
set_option maxRecDepth 20000 in
theorem gX5_pullPlug_X1_keep : GoodIn wsX5_pullPlug (wsV RX5 94 RX1 yX1_keep wsX1_keep) := goodIn_app (goodIn_of _ (by decide +kernel)) ggX5_pullPlug_X1_keep
set_option maxRecDepth 20000 in
theorem ggX5_pullPlug_X4_putPlug : GoodIn wsX5_pullPlug wsX4_putPlug := goodIn_ca (goodIn_r _ [46, 15, 11, 12, 13, 9, 14, 16, 17, 18, 19, 20, 21, 47, 40, 41, 42, 58, 59] (by decide +kernel) (by decide +kernel)) (goodIn_sub (fun _ h => List.mem_cons_of_mem _ (List.mem_append_right _ h)) (by decide +kernel))
set_option maxRecDepth 20000 in
theorem gX5_pullPlug_X4_putPlug : GoodIn wsX5_pullPlug (wsV RX5 148 RX4 yX4_putPlug wsX4_putPlug) := goodIn_app (goodIn_of _ (by decide +kernel)) ggX5_pullPlug_X4_putPlug
theorem dX5_pullPlug_0 : decode cX5_pullPlug 0 = .ok (.aload_n 0, 1) := by decide +kernel
theorem dX5_pullPlug_1 : decode cX5_pullPlug 1 = .ok (.getfield 10, 3) := by decide +kernel
theorem dX5_pullPlug_4 : decode cX5_pullPlug 4 = .ok (.invokevirtual 151, 3) := by decide +kernel
theorem dX5_pullPlug_7 : decode cX5_pullPlug 7 = .ok (.ifCond .ne 13, 3) := by decide +kernel
theorem dX5_pullPlug_10 : decode cX5_pullPlug 10 = .ok (.new 86, 3) := by decide +kernel
theorem dX5_pullPlug_13 : decode cX5_pullPlug 13 = .ok (.dup, 1) := by decide +kernel
theorem dX5_pullPlug_14 : decode cX5_pullPlug 14 = .ok (.ldc 154, 2) := by decide +kernel
theorem dX5_pullPlug_16 : decode cX5_pullPlug 16 = .ok (.invokespecial 90, 3) := by decide +kernel
theorem dX5_pullPlug_19 : decode cX5_pullPlug 19 = .ok (.athrow, 1) := by decide +kernel
theorem dX5_pullPlug_20 : decode cX5_pullPlug 20 = .ok (.aload_n 0, 1) := by decide +kernel
theorem dX5_pullPlug_21 : decode cX5_pullPlug 21 = .ok (.getfield 26, 3) := by decide +kernel
theorem dX5_pullPlug_24 : decode cX5_pullPlug 24 = .ok (.aload_n 0, 1) := by decide +kernel
theorem dX5_pullPlug_25 : decode cX5_pullPlug 25 = .ok (.getfield 10, 3) := by decide +kernel
theorem dX5_pullPlug_28 : decode cX5_pullPlug 28 = .ok (.getfield 91, 3) := by decide +kernel
theorem dX5_pullPlug_31 : decode cX5_pullPlug 31 = .ok (.invokevirtual 94, 3) := by decide +kernel
theorem dX5_pullPlug_34 : decode cX5_pullPlug 34 = .ok (.aload_n 0, 1) := by decide +kernel
theorem dX5_pullPlug_35 : decode cX5_pullPlug 35 = .ok (.getfield 10, 3) := by decide +kernel
theorem dX5_pullPlug_38 : decode cX5_pullPlug 38 = .ok (.iconst (-1), 1) := by decide +kernel
theorem dX5_pullPlug_39 : decode cX5_pullPlug 39 = .ok (.invokevirtual 148, 3) := by decide +kernel
theorem dX5_pullPlug_42 : decode cX5_pullPlug 42 = .ok (.ireturn, 1) := by decide +kernel
set_option maxRecDepth 20000 in
theorem ggX5_plugPosition_X5_requirePlug : GoodIn wsX5_plugPosition wsX5_requirePlug := goodIn_ca (goodIn_ca (goodIn_r _ [6, 7, 8, 1, 9, 10, 11, 12, 13, 14, 15, 16, 17, 18, 19, 20, 21, 22, 23, 24, 26, 27, 28, 29, 30, 31, 32, 33, 34, 35, 36, 37] (by decide +kernel) (by decide +kernel)) (goodIn_sub (fun _ h => List.mem_cons_of_mem _ (List.mem_append_left _ (List.mem_append_right _ h))) (by decide +kernel))) (goodIn_sub (fun _ h => List.mem_cons_of_mem _ (List.mem_append_right _ h)) (by decide +kernel))
set_option maxRecDepth 20000 in
theorem gX5_plugPosition_X5_requirePlug : GoodIn wsX5_plugPosition (wsV RX5 156 RX5 yX5_requirePlug wsX5_requirePlug) := goodIn_app (goodIn_of _ (by decide +kernel)) ggX5_plugPosition_X5_requirePlug
set_option maxRecDepth 20000 in
theorem ggX5_plugPosition_X4_plug : GoodIn wsX5_plugPosition wsX4_plug := goodIn_ca (goodIn_r _ [17, 18, 19, 20, 21, 22, 23, 24, 36, 37] (by decide +kernel) (by decide +kernel)) (goodIn_sub (fun _ h => List.mem_cons_of_mem _ (List.mem_append_right _ h)) (by decide +kernel))
set_option maxRecDepth 20000 in
theorem gX5_plugPosition_X4_plug : GoodIn wsX5_plugPosition (wsV RX5 159 RX4 yX4_plug wsX4_plug) := goodIn_app (goodIn_of _ (by decide +kernel)) ggX5_plugPosition_X4_plug
theorem dX5_plugPosition_0 : decode cX5_plugPosition 0 = .ok (.aload_n 0, 1) := by decide +kernel
theorem dX5_plugPosition_1 : decode cX5_plugPosition 1 = .ok (.invokevirtual 156, 3) := by decide +kernel
theorem dX5_plugPosition_4 : decode cX5_plugPosition 4 = .ok (.aload_n 0, 1) := by decide +kernel
theorem dX5_plugPosition_5 : decode cX5_plugPosition 5 = .ok (.getfield 10, 3) := by decide +kernel
theorem dX5_plugPosition_8 : decode cX5_plugPosition 8 = .ok (.invokevirtual 159, 3) := by decide +kernel
theorem dX5_plugPosition_11 : decode cX5_plugPosition 11 = .ok (.ireturn, 1) := by decide +kernel
set_option maxRecDepth 20000 in
theorem ggX5_layTowel_X5_requirePosition : GoodIn wsX5_layTowel wsX5_requirePosition := goodIn_ca (goodIn_r _ [11, 12, 13, 14, 15, 16, 17] (by decide +kernel) (by decide +kernel)) (goodIn_sub (fun _ h => List.mem_cons_of_mem _ (List.mem_append_left _ (List.mem_append_right _ h))) (by decide +kernel))
set_option maxRecDepth 20000 in
theorem gX5_layTowel_X5_requirePosition : GoodIn wsX5_layTowel (va_wsS RX5 129 yX5_requirePosition wsX5_requirePosition) := goodIn_app (goodIn_of _ (by decide +kernel)) ggX5_layTowel_X5_requirePosition
set_option maxRecDepth 20000 in
theorem ggX5_layTowel_X4_isHeight : GoodIn wsX5_layTowel wsX4_isHeight := goodIn_r _ [20] (by decide +kernel) (by decide +kernel)
set_option maxRecDepth 20000 in
theorem gX5_layTowel_X4_isHeight : GoodIn wsX5_layTowel (va_wsS RX5 162 yX4_isHeight wsX4_isHeight) := goodIn_app (goodIn_of _ (by decide +kernel)) ggX5_layTowel_X4_isHeight
set_option maxRecDepth 20000 in
theorem ggX5_layTowel_X4_canPutTowel : GoodIn wsX5_layTowel wsX4_canPutTowel := goodIn_ca (goodIn_r _ [24, 25, 26, 27, 16, 28, 29, 30, 31, 32, 33, 34, 35, 36, 37, 38, 39, 40, 41, 42, 43, 80, 81] (by decide +kernel) (by decide +kernel)) (goodIn_sub (fun _ h => List.mem_cons_of_mem _ (List.mem_append_right _ h)) (by decide +kernel))
set_option maxRecDepth 20000 in
theorem gX5_layTowel_X4_canPutTowel : GoodIn wsX5_layTowel (wsV RX5 167 RX4 yX4_canPutTowel wsX4_canPutTowel) := goodIn_app (goodIn_of _ (by decide +kernel)) ggX5_layTowel_X4_canPutTowel
set_option maxRecDepth 20000 in
theorem ggX5_layTowel_X1_keep : GoodIn wsX5_layTowel wsX1_keep := goodIn_ca (goodIn_r _ [48, 49, 50, 51, 52, 53, 54, 55, 56, 57, 58, 37, 59, 60, 35, 36, 38, 39, 61, 62, 63, 64, 82, 83, 84, 81] (by decide +kernel) (by decide +kernel)) (goodIn_sub (fun _ h => List.mem_cons_of_mem _ (List.mem_append_right _ h)) (by decide +kernel))
set_option maxRecDepth 20000 in
theorem gX5_layTowel_X1_keep : GoodIn wsX5_layTowel (wsV RX5 94 RX1 yX1_keep wsX1_keep) := goodIn_app (goodIn_of _ (by decide +kernel)) ggX5_layTowel_X1_keep
set_option maxRecDepth 20000 in
theorem ggX5_layTowel_X4_putTowel : GoodIn wsX5_layTowel wsX4_putTowel := goodIn_ca (goodIn_r _ [68, 33, 29, 30, 31, 16, 32, 34, 35, 36, 37, 38, 39, 69, 62, 63, 64, 80, 81] (by decide +kernel) (by decide +kernel)) (goodIn_sub (fun _ h => List.mem_cons_of_mem _ (List.mem_append_right _ h)) (by decide +kernel))
set_option maxRecDepth 20000 in
theorem gX5_layTowel_X4_putTowel : GoodIn wsX5_layTowel (wsV RX5 172 RX4 yX4_putTowel wsX4_putTowel) := goodIn_app (goodIn_of _ (by decide +kernel)) ggX5_layTowel_X4_putTowel
theorem dX5_layTowel_0 : decode cX5_layTowel 0 = .ok (.iload_n 1, 1) := by decide +kernel
theorem dX5_layTowel_1 : decode cX5_layTowel 1 = .ok (.invokestatic 129, 3) := by decide +kernel
theorem dX5_layTowel_4 : decode cX5_layTowel 4 = .ok (.iload_n 2, 1) := by decide +kernel
theorem dX5_layTowel_5 : decode cX5_layTowel 5 = .ok (.invokestatic 162, 3) := by decide +kernel
theorem dX5_layTowel_8 : decode cX5_layTowel 8 = .ok (.ifCond .ne 13, 3) := by decide +kernel
theorem dX5_layTowel_11 : decode cX5_layTowel 11 = .ok (.new 75, 3) := by decide +kernel
theorem dX5_layTowel_14 : decode cX5_layTowel 14 = .ok (.dup, 1) := by decide +kernel
theorem dX5_layTowel_15 : decode cX5_layTowel 15 = .ok (.ldc 165, 2) := by decide +kernel
theorem dX5_layTowel_17 : decode cX5_layTowel 17 = .ok (.invokespecial 79, 3) := by decide +kernel
theorem dX5_layTowel_20 : decode cX5_layTowel 20 = .ok (.athrow, 1) := by decide +kernel
theorem dX5_layTowel_21 : decode cX5_layTowel 21 = .ok (.aload_n 0, 1) := by decide +kernel
theorem dX5_layTowel_22 : decode cX5_layTowel 22 = .ok (.getfield 10, 3) := by decide +kernel
theorem dX5_layTowel_25 : decode cX5_layTowel 25 = .ok (.iload_n 1, 1) := by decide +kernel
theorem dX5_layTowel_26 : decode cX5_layTowel 26 = .ok (.invokevirtual 167, 3) := by decide +kernel
theorem dX5_layTowel_29 : decode cX5_layTowel 29 = .ok (.ifCond .ne 13, 3) := by decide +kernel
theorem dX5_layTowel_32 : decode cX5_layTowel 32 = .ok (.new 86, 3) := by decide +kernel
theorem dX5_layTowel_35 : decode cX5_layTowel 35 = .ok (.dup, 1) := by decide +kernel
theorem dX5_layTowel_36 : decode cX5_layTowel 36 = .ok (.ldc 170, 2) := by decide +kernel
theorem dX5_layTowel_38 : decode cX5_layTowel 38 = .ok (.invokespecial 90, 3) := by decide +kernel
theorem dX5_layTowel_41 : decode cX5_layTowel 41 = .ok (.athrow, 1) := by decide +kernel
theorem dX5_layTowel_42 : decode cX5_layTowel 42 = .ok (.aload_n 0, 1) := by decide +kernel
theorem dX5_layTowel_43 : decode cX5_layTowel 43 = .ok (.getfield 26, 3) := by decide +kernel
theorem dX5_layTowel_46 : decode cX5_layTowel 46 = .ok (.aload_n 0, 1) := by decide +kernel
theorem dX5_layTowel_47 : decode cX5_layTowel 47 = .ok (.getfield 10, 3) := by decide +kernel
theorem dX5_layTowel_50 : decode cX5_layTowel 50 = .ok (.getfield 91, 3) := by decide +kernel
theorem dX5_layTowel_53 : decode cX5_layTowel 53 = .ok (.invokevirtual 94, 3) := by decide +kernel
theorem dX5_layTowel_56 : decode cX5_layTowel 56 = .ok (.aload_n 0, 1) := by decide +kernel
theorem dX5_layTowel_57 : decode cX5_layTowel 57 = .ok (.getfield 10, 3) := by decide +kernel
theorem dX5_layTowel_60 : decode cX5_layTowel 60 = .ok (.iload_n 1, 1) := by decide +kernel
theorem dX5_layTowel_61 : decode cX5_layTowel 61 = .ok (.iload_n 2, 1) := by decide +kernel
theorem dX5_layTowel_62 : decode cX5_layTowel 62 = .ok (.invokevirtual 172, 3) := by decide +kernel
theorem dX5_layTowel_65 : decode cX5_layTowel 65 = .ok (.ireturn, 1) := by decide +kernel
set_option maxRecDepth 20000 in
theorem ggX5_removeTowel_X5_requireTowel : GoodIn wsX5_removeTowel wsX5_requireTowel := goodIn_ca (goodIn_ca (goodIn_r _ [8, 9, 10, 2, 11, 12, 13, 14, 15, 16, 17, 18, 19, 20, 21, 22, 23, 24, 25, 26, 67, 68, 69, 70, 71, 72, 73, 74, 75, 76, 77, 78] (by decide +kernel) (by decide +kernel)) (goodIn_sub (fun _ h => List.mem_cons_of_mem _ (List.mem_append_left _ (List.mem_append_right _ h))) (by decide +kernel))) (goodIn_sub (fun _ h => List.mem_cons_of_mem _ (List.mem_append_right _ h)) (by decide +kernel))
set_option maxRecDepth 20000 in
theorem gX5_removeTowel_X5_requireTowel : GoodIn wsX5_removeTowel (wsV RX5 175 RX5 yX5_requireTowel wsX5_requireTowel) := goodIn_app (goodIn_of _ (by decide +kernel)) ggX5_removeTowel_X5_requireTowel
set_option maxRecDepth 20000 in
theorem ggX5_removeTowel_X1_keep : GoodIn wsX5_removeTowel wsX1_keep := goodIn_ca (goodIn_r _ [31, 32, 33, 34, 35, 36, 37, 38, 39, 40, 41, 24, 42, 43, 22, 23, 25, 26, 44, 45, 46, 47, 79, 80, 81, 78] (by decide +kernel) (by decide +kernel)) (goodIn_sub (fun _ h => List.mem_cons_of_mem _ (List.mem_append_right _ h)) (by decide +kernel))
set_option maxRecDepth 20000 in
theorem gX5_removeTowel_X1_keep : GoodIn wsX5_removeTowel (wsV RX5 94 RX1 yX1_keep wsX1_keep) := goodIn_app (goodIn_of _ (by decide +kernel)) ggX5_removeTowel_X1_keep
set_option maxRecDepth 20000 in
theorem ggX5_removeTowel_X4_dropTowel : GoodIn wsX5_removeTowel wsX4_dropTowel := goodIn_ca (goodIn_r _ [51, 20, 52, 53, 54, 14, 55, 56, 36, 37, 38, 57, 58, 59, 60, 21, 22, 23, 24, 25, 26, 61, 45, 46, 47, 62, 63, 64, 65, 43, 44, 16, 17, 18, 19, 66, 40, 41, 42, 77, 78] (by decide +kernel) (by decide +kernel)) (goodIn_sub (fun _ h => List.mem_cons_of_mem _ (List.mem_append_right _ h)) (by decide +kernel))
set_option maxRecDepth 20000 in
theorem gX5_removeTowel_X4_dropTowel : GoodIn wsX5_removeTowel (wsV RX5 178 RX4 yX4_dropTowel wsX4_dropTowel) := goodIn_app (goodIn_of _ (by decide +kernel)) ggX5_removeTowel_X4_dropTowel
theorem dX5_removeTowel_0 : decode cX5_removeTowel 0 = .ok (.aload_n 0, 1) := by decide +kernel
theorem dX5_removeTowel_1 : decode cX5_removeTowel 1 = .ok (.iload_n 1, 1) := by decide +kernel
theorem dX5_removeTowel_2 : decode cX5_removeTowel 2 = .ok (.invokevirtual 175, 3) := by decide +kernel
theorem dX5_removeTowel_5 : decode cX5_removeTowel 5 = .ok (.aload_n 0, 1) := by decide +kernel
theorem dX5_removeTowel_6 : decode cX5_removeTowel 6 = .ok (.getfield 26, 3) := by decide +kernel
theorem dX5_removeTowel_9 : decode cX5_removeTowel 9 = .ok (.aload_n 0, 1) := by decide +kernel
theorem dX5_removeTowel_10 : decode cX5_removeTowel 10 = .ok (.getfield 10, 3) := by decide +kernel
theorem dX5_removeTowel_13 : decode cX5_removeTowel 13 = .ok (.getfield 91, 3) := by decide +kernel
theorem dX5_removeTowel_16 : decode cX5_removeTowel 16 = .ok (.invokevirtual 94, 3) := by decide +kernel
theorem dX5_removeTowel_19 : decode cX5_removeTowel 19 = .ok (.aload_n 0, 1) := by decide +kernel
theorem dX5_removeTowel_20 : decode cX5_removeTowel 20 = .ok (.getfield 10, 3) := by decide +kernel
theorem dX5_removeTowel_23 : decode cX5_removeTowel 23 = .ok (.iload_n 1, 1) := by decide +kernel
theorem dX5_removeTowel_24 : decode cX5_removeTowel 24 = .ok (.invokevirtual 178, 3) := by decide +kernel
theorem dX5_removeTowel_27 : decode cX5_removeTowel 27 = .ok (.ireturn, 1) := by decide +kernel
set_option maxRecDepth 20000 in
theorem ggX5_wringTowel_X5_requireTowel : GoodIn wsX5_wringTowel wsX5_requireTowel := goodIn_ca (goodIn_ca (goodIn_r _ [8, 9, 10, 2, 11, 12, 13, 14, 15, 16, 17, 18, 19, 20, 21, 22, 23, 24, 25, 26, 62, 63, 64, 65, 66, 67, 68, 69, 70, 71, 72, 73] (by decide +kernel) (by decide +kernel)) (goodIn_sub (fun _ h => List.mem_cons_of_mem _ (List.mem_append_left _ (List.mem_append_right _ h))) (by decide +kernel))) (goodIn_sub (fun _ h => List.mem_cons_of_mem _ (List.mem_append_right _ h)) (by decide +kernel))
set_option maxRecDepth 20000 in
theorem gX5_wringTowel_X5_requireTowel : GoodIn wsX5_wringTowel (wsV RX5 175 RX5 yX5_requireTowel wsX5_requireTowel) := goodIn_app (goodIn_of _ (by decide +kernel)) ggX5_wringTowel_X5_requireTowel
set_option maxRecDepth 20000 in
theorem ggX5_wringTowel_X1_keep : GoodIn wsX5_wringTowel wsX1_keep := goodIn_ca (goodIn_r _ [31, 32, 33, 34, 35, 36, 37, 38, 39, 40, 41, 24, 42, 43, 22, 23, 25, 26, 44, 45, 46, 47, 74, 75, 76, 73] (by decide +kernel) (by decide +kernel)) (goodIn_sub (fun _ h => List.mem_cons_of_mem _ (List.mem_append_right _ h)) (by decide +kernel))
set_option maxRecDepth 20000 in
theorem gX5_wringTowel_X1_keep : GoodIn wsX5_wringTowel (wsV RX5 94 RX1 yX1_keep wsX1_keep) := goodIn_app (goodIn_of _ (by decide +kernel)) ggX5_wringTowel_X1_keep
set_option maxRecDepth 20000 in
theorem ggX5_wringTowel_X4_wring : GoodIn wsX5_wringTowel wsX4_wring := goodIn_ca (goodIn_r _ [51, 20, 52, 36, 37, 38, 53, 54, 55, 14, 56, 21, 22, 23, 24, 25, 26, 57, 45, 46, 47, 58, 59, 60, 61, 43, 44, 72, 73] (by decide +kernel) (by decide +kernel)) (goodIn_sub (fun _ h => List.mem_cons_of_mem _ (List.mem_append_right _ h)) (by decide +kernel))
set_option maxRecDepth 20000 in
theorem gX5_wringTowel_X4_wring : GoodIn wsX5_wringTowel (wsV RX5 181 RX4 yX4_wring wsX4_wring) := goodIn_app (goodIn_of _ (by decide +kernel)) ggX5_wringTowel_X4_wring
theorem dX5_wringTowel_0 : decode cX5_wringTowel 0 = .ok (.aload_n 0, 1) := by decide +kernel
theorem dX5_wringTowel_1 : decode cX5_wringTowel 1 = .ok (.iload_n 1, 1) := by decide +kernel
theorem dX5_wringTowel_2 : decode cX5_wringTowel 2 = .ok (.invokevirtual 175, 3) := by decide +kernel
theorem dX5_wringTowel_5 : decode cX5_wringTowel 5 = .ok (.aload_n 0, 1) := by decide +kernel
theorem dX5_wringTowel_6 : decode cX5_wringTowel 6 = .ok (.getfield 26, 3) := by decide +kernel
theorem dX5_wringTowel_9 : decode cX5_wringTowel 9 = .ok (.aload_n 0, 1) := by decide +kernel
theorem dX5_wringTowel_10 : decode cX5_wringTowel 10 = .ok (.getfield 10, 3) := by decide +kernel
theorem dX5_wringTowel_13 : decode cX5_wringTowel 13 = .ok (.getfield 91, 3) := by decide +kernel
theorem dX5_wringTowel_16 : decode cX5_wringTowel 16 = .ok (.invokevirtual 94, 3) := by decide +kernel
theorem dX5_wringTowel_19 : decode cX5_wringTowel 19 = .ok (.aload_n 0, 1) := by decide +kernel
theorem dX5_wringTowel_20 : decode cX5_wringTowel 20 = .ok (.getfield 10, 3) := by decide +kernel
theorem dX5_wringTowel_23 : decode cX5_wringTowel 23 = .ok (.iload_n 1, 1) := by decide +kernel
theorem dX5_wringTowel_24 : decode cX5_wringTowel 24 = .ok (.invokevirtual 181, 3) := by decide +kernel
theorem dX5_wringTowel_27 : decode cX5_wringTowel 27 = .ok (.ireturn, 1) := by decide +kernel
set_option maxRecDepth 20000 in
theorem ggX5_towelCount_X4_towels : GoodIn wsX5_towelCount wsX4_towels := goodIn_ca (goodIn_r _ [6, 7, 8, 9, 10, 11, 12, 13, 24, 25] (by decide +kernel) (by decide +kernel)) (goodIn_sub (fun _ h => List.mem_cons_of_mem _ (List.mem_append_right _ h)) (by decide +kernel))
set_option maxRecDepth 20000 in
theorem gX5_towelCount_X4_towels : GoodIn wsX5_towelCount (wsV RX5 184 RX4 yX4_towels wsX4_towels) := goodIn_app (goodIn_of _ (by decide +kernel)) ggX5_towelCount_X4_towels
theorem dX5_towelCount_0 : decode cX5_towelCount 0 = .ok (.aload_n 0, 1) := by decide +kernel
theorem dX5_towelCount_1 : decode cX5_towelCount 1 = .ok (.getfield 10, 3) := by decide +kernel
theorem dX5_towelCount_4 : decode cX5_towelCount 4 = .ok (.invokevirtual 184, 3) := by decide +kernel
theorem dX5_towelCount_7 : decode cX5_towelCount 7 = .ok (.ireturn, 1) := by decide +kernel
set_option maxRecDepth 20000 in
theorem ggX5_shoreOf_X5_requireTowel : GoodIn wsX5_shoreOf wsX5_requireTowel := goodIn_ca (goodIn_ca (goodIn_r _ [6, 7, 8, 1, 9, 10, 11, 12, 13, 14, 15, 16, 17, 18, 19, 20, 21, 22, 23, 24, 29, 30, 31, 32, 33, 34, 35, 36, 37, 38, 39, 40] (by decide +kernel) (by decide +kernel)) (goodIn_sub (fun _ h => List.mem_cons_of_mem _ (List.mem_append_left _ (List.mem_append_right _ h))) (by decide +kernel))) (goodIn_sub (fun _ h => List.mem_cons_of_mem _ (List.mem_append_right _ h)) (by decide +kernel))
set_option maxRecDepth 20000 in
theorem gX5_shoreOf_X5_requireTowel : GoodIn wsX5_shoreOf (wsV RX5 175 RX5 yX5_requireTowel wsX5_requireTowel) := goodIn_app (goodIn_of _ (by decide +kernel)) ggX5_shoreOf_X5_requireTowel
set_option maxRecDepth 20000 in
theorem ggX5_shoreOf_X4_ofTowel : GoodIn wsX5_shoreOf wsX4_ofTowel := goodIn_ca (goodIn_r _ [28, 18, 19, 20, 21, 22, 23, 24, 39, 40] (by decide +kernel) (by decide +kernel)) (goodIn_sub (fun _ h => List.mem_cons_of_mem _ (List.mem_append_right _ h)) (by decide +kernel))
set_option maxRecDepth 20000 in
theorem gX5_shoreOf_X4_ofTowel : GoodIn wsX5_shoreOf (wsV RX5 187 RX4 yX4_ofTowel wsX4_ofTowel) := goodIn_app (goodIn_of _ (by decide +kernel)) ggX5_shoreOf_X4_ofTowel
theorem dX5_shoreOf_0 : decode cX5_shoreOf 0 = .ok (.aload_n 0, 1) := by decide +kernel
theorem dX5_shoreOf_1 : decode cX5_shoreOf 1 = .ok (.iload_n 1, 1) := by decide +kernel
theorem dX5_shoreOf_2 : decode cX5_shoreOf 2 = .ok (.invokevirtual 175, 3) := by decide +kernel
theorem dX5_shoreOf_5 : decode cX5_shoreOf 5 = .ok (.aload_n 0, 1) := by decide +kernel
theorem dX5_shoreOf_6 : decode cX5_shoreOf 6 = .ok (.getfield 10, 3) := by decide +kernel
theorem dX5_shoreOf_9 : decode cX5_shoreOf 9 = .ok (.iload_n 1, 1) := by decide +kernel
theorem dX5_shoreOf_10 : decode cX5_shoreOf 10 = .ok (.iconst 0, 1) := by decide +kernel
theorem dX5_shoreOf_11 : decode cX5_shoreOf 11 = .ok (.invokevirtual 187, 3) := by decide +kernel
theorem dX5_shoreOf_14 : decode cX5_shoreOf 14 = .ok (.ireturn, 1) := by decide +kernel
set_option maxRecDepth 20000 in
theorem ggX5_heightOf_X5_requireTowel : GoodIn wsX5_heightOf wsX5_requireTowel := goodIn_ca (goodIn_ca (goodIn_r _ [6, 7, 8, 1, 9, 10, 11, 12, 13, 14, 15, 16, 17, 18, 19, 20, 21, 22, 23, 24, 29, 30, 31, 32, 33, 34, 35, 36, 37, 38, 39, 40] (by decide +kernel) (by decide +kernel)) (goodIn_sub (fun _ h => List.mem_cons_of_mem _ (List.mem_append_left _ (List.mem_append_right _ h))) (by decide +kernel))) (goodIn_sub (fun _ h => List.mem_cons_of_mem _ (List.mem_append_right _ h)) (by decide +kernel))
set_option maxRecDepth 20000 in
theorem gX5_heightOf_X5_requireTowel : GoodIn wsX5_heightOf (wsV RX5 175 RX5 yX5_requireTowel wsX5_requireTowel) := goodIn_app (goodIn_of _ (by decide +kernel)) ggX5_heightOf_X5_requireTowel
set_option maxRecDepth 20000 in
theorem ggX5_heightOf_X4_ofTowel : GoodIn wsX5_heightOf wsX4_ofTowel := goodIn_ca (goodIn_r _ [28, 18, 19, 20, 21, 22, 23, 24, 39, 40] (by decide +kernel) (by decide +kernel)) (goodIn_sub (fun _ h => List.mem_cons_of_mem _ (List.mem_append_right _ h)) (by decide +kernel))
set_option maxRecDepth 20000 in
theorem gX5_heightOf_X4_ofTowel : GoodIn wsX5_heightOf (wsV RX5 187 RX4 yX4_ofTowel wsX4_ofTowel) := goodIn_app (goodIn_of _ (by decide +kernel)) ggX5_heightOf_X4_ofTowel
theorem dX5_heightOf_0 : decode cX5_heightOf 0 = .ok (.aload_n 0, 1) := by decide +kernel
theorem dX5_heightOf_1 : decode cX5_heightOf 1 = .ok (.iload_n 1, 1) := by decide +kernel
theorem dX5_heightOf_2 : decode cX5_heightOf 2 = .ok (.invokevirtual 175, 3) := by decide +kernel
theorem dX5_heightOf_5 : decode cX5_heightOf 5 = .ok (.aload_n 0, 1) := by decide +kernel
theorem dX5_heightOf_6 : decode cX5_heightOf 6 = .ok (.getfield 10, 3) := by decide +kernel
theorem dX5_heightOf_9 : decode cX5_heightOf 9 = .ok (.iload_n 1, 1) := by decide +kernel
theorem dX5_heightOf_10 : decode cX5_heightOf 10 = .ok (.iconst 1, 1) := by decide +kernel
theorem dX5_heightOf_11 : decode cX5_heightOf 11 = .ok (.invokevirtual 187, 3) := by decide +kernel
theorem dX5_heightOf_14 : decode cX5_heightOf 14 = .ok (.ireturn, 1) := by decide +kernel
set_option maxRecDepth 20000 in
theorem ggX5_absorbedBy_X5_requireTowel : GoodIn wsX5_absorbedBy wsX5_requireTowel := goodIn_ca (goodIn_ca (goodIn_r _ [6, 7, 8, 1, 9, 10, 11, 12, 13, 14, 15, 16, 17, 18, 19, 20, 21, 22, 23, 24, 29, 30, 31, 32, 33, 34, 35, 36, 37, 38, 39, 40] (by decide +kernel) (by decide +kernel)) (goodIn_sub (fun _ h => List.mem_cons_of_mem _ (List.mem_append_left _ (List.mem_append_right _ h))) (by decide +kernel))) (goodIn_sub (fun _ h => List.mem_cons_of_mem _ (List.mem_append_right _ h)) (by decide +kernel))
set_option maxRecDepth 20000 in
theorem gX5_absorbedBy_X5_requireTowel : GoodIn wsX5_absorbedBy (wsV RX5 175 RX5 yX5_requireTowel wsX5_requireTowel) := goodIn_app (goodIn_of _ (by decide +kernel)) ggX5_absorbedBy_X5_requireTowel
set_option maxRecDepth 20000 in
theorem ggX5_absorbedBy_X4_ofTowel : GoodIn wsX5_absorbedBy wsX4_ofTowel := goodIn_ca (goodIn_r _ [28, 18, 19, 20, 21, 22, 23, 24, 39, 40] (by decide +kernel) (by decide +kernel)) (goodIn_sub (fun _ h => List.mem_cons_of_mem _ (List.mem_append_right _ h)) (by decide +kernel))
set_option maxRecDepth 20000 in
theorem gX5_absorbedBy_X4_ofTowel : GoodIn wsX5_absorbedBy (wsV RX5 187 RX4 yX4_ofTowel wsX4_ofTowel) := goodIn_app (goodIn_of _ (by decide +kernel)) ggX5_absorbedBy_X4_ofTowel
theorem dX5_absorbedBy_0 : decode cX5_absorbedBy 0 = .ok (.aload_n 0, 1) := by decide +kernel
theorem dX5_absorbedBy_1 : decode cX5_absorbedBy 1 = .ok (.iload_n 1, 1) := by decide +kernel
theorem dX5_absorbedBy_2 : decode cX5_absorbedBy 2 = .ok (.invokevirtual 175, 3) := by decide +kernel
theorem dX5_absorbedBy_5 : decode cX5_absorbedBy 5 = .ok (.aload_n 0, 1) := by decide +kernel
theorem dX5_absorbedBy_6 : decode cX5_absorbedBy 6 = .ok (.getfield 10, 3) := by decide +kernel
theorem dX5_absorbedBy_9 : decode cX5_absorbedBy 9 = .ok (.iload_n 1, 1) := by decide +kernel
theorem dX5_absorbedBy_10 : decode cX5_absorbedBy 10 = .ok (.iconst 2, 1) := by decide +kernel
theorem dX5_absorbedBy_11 : decode cX5_absorbedBy 11 = .ok (.invokevirtual 187, 3) := by decide +kernel
theorem dX5_absorbedBy_14 : decode cX5_absorbedBy 14 = .ok (.ireturn, 1) := by decide +kernel
set_option maxRecDepth 20000 in
theorem ggX5_floodsOf_X5_requireTowel : GoodIn wsX5_floodsOf wsX5_requireTowel := goodIn_ca (goodIn_ca (goodIn_r _ [6, 7, 8, 1, 9, 10, 11, 12, 13, 14, 15, 16, 17, 18, 19, 20, 21, 22, 23, 24, 29, 30, 31, 32, 33, 34, 35, 36, 37, 38, 39, 40] (by decide +kernel) (by decide +kernel)) (goodIn_sub (fun _ h => List.mem_cons_of_mem _ (List.mem_append_left _ (List.mem_append_right _ h))) (by decide +kernel))) (goodIn_sub (fun _ h => List.mem_cons_of_mem _ (List.mem_append_right _ h)) (by decide +kernel))
set_option maxRecDepth 20000 in
theorem gX5_floodsOf_X5_requireTowel : GoodIn wsX5_floodsOf (wsV RX5 175 RX5 yX5_requireTowel wsX5_requireTowel) := goodIn_app (goodIn_of _ (by decide +kernel)) ggX5_floodsOf_X5_requireTowel
set_option maxRecDepth 20000 in
theorem ggX5_floodsOf_X4_ofTowel : GoodIn wsX5_floodsOf wsX4_ofTowel := goodIn_ca (goodIn_r _ [28, 18, 19, 20, 21, 22, 23, 24, 39, 40] (by decide +kernel) (by decide +kernel)) (goodIn_sub (fun _ h => List.mem_cons_of_mem _ (List.mem_append_right _ h)) (by decide +kernel))
set_option maxRecDepth 20000 in
theorem gX5_floodsOf_X4_ofTowel : GoodIn wsX5_floodsOf (wsV RX5 187 RX4 yX4_ofTowel wsX4_ofTowel) := goodIn_app (goodIn_of _ (by decide +kernel)) ggX5_floodsOf_X4_ofTowel
theorem dX5_floodsOf_0 : decode cX5_floodsOf 0 = .ok (.aload_n 0, 1) := by decide +kernel
theorem dX5_floodsOf_1 : decode cX5_floodsOf 1 = .ok (.iload_n 1, 1) := by decide +kernel
theorem dX5_floodsOf_2 : decode cX5_floodsOf 2 = .ok (.invokevirtual 175, 3) := by decide +kernel
theorem dX5_floodsOf_5 : decode cX5_floodsOf 5 = .ok (.aload_n 0, 1) := by decide +kernel
theorem dX5_floodsOf_6 : decode cX5_floodsOf 6 = .ok (.getfield 10, 3) := by decide +kernel
theorem dX5_floodsOf_9 : decode cX5_floodsOf 9 = .ok (.iload_n 1, 1) := by decide +kernel
theorem dX5_floodsOf_10 : decode cX5_floodsOf 10 = .ok (.iconst 3, 1) := by decide +kernel
theorem dX5_floodsOf_11 : decode cX5_floodsOf 11 = .ok (.invokevirtual 187, 3) := by decide +kernel
theorem dX5_floodsOf_14 : decode cX5_floodsOf 14 = .ok (.ireturn, 1) := by decide +kernel
set_option maxRecDepth 20000 in
theorem ggX5_setFlow_X4_isFlow : GoodIn wsX5_setFlow wsX4_isFlow := goodIn_r _ [9] (by decide +kernel) (by decide +kernel)
set_option maxRecDepth 20000 in
theorem gX5_setFlow_X4_isFlow : GoodIn wsX5_setFlow (va_wsS RX5 190 yX4_isFlow wsX4_isFlow) := goodIn_app (goodIn_of _ (by decide +kernel)) ggX5_setFlow_X4_isFlow
set_option maxRecDepth 20000 in
theorem ggX5_setFlow_X1_keep : GoodIn wsX5_setFlow wsX1_keep := goodIn_ca (goodIn_r _ [14, 15, 16, 17, 18, 19, 20, 21, 22, 23, 24, 25, 26, 27, 28, 29, 30, 31, 32, 33, 34, 35, 54, 55, 56, 57] (by decide +kernel) (by decide +kernel)) (goodIn_sub (fun _ h => List.mem_cons_of_mem _ (List.mem_append_right _ h)) (by decide +kernel))
set_option maxRecDepth 20000 in
theorem gX5_setFlow_X1_keep : GoodIn wsX5_setFlow (wsV RX5 94 RX1 yX1_keep wsX1_keep) := goodIn_app (goodIn_of _ (by decide +kernel)) ggX5_setFlow_X1_keep
set_option maxRecDepth 20000 in
theorem ggX5_setFlow_X4_turnTaps : GoodIn wsX5_setFlow wsX4_turnTaps := goodIn_ca (goodIn_r _ [39, 40, 41, 28, 29, 25, 30, 31, 42, 33, 34, 35, 53, 57] (by decide +kernel) (by decide +kernel)) (goodIn_sub (fun _ h => List.mem_cons_of_mem _ (List.mem_append_right _ h)) (by decide +kernel))
set_option maxRecDepth 20000 in
theorem gX5_setFlow_X4_turnTaps : GoodIn wsX5_setFlow (wsV RX5 195 RX4 yX4_turnTaps wsX4_turnTaps) := goodIn_app (goodIn_of _ (by decide +kernel)) ggX5_setFlow_X4_turnTaps
theorem dX5_setFlow_0 : decode cX5_setFlow 0 = .ok (.iload_n 1, 1) := by decide +kernel
theorem dX5_setFlow_1 : decode cX5_setFlow 1 = .ok (.invokestatic 190, 3) := by decide +kernel
theorem dX5_setFlow_4 : decode cX5_setFlow 4 = .ok (.ifCond .ne 13, 3) := by decide +kernel
theorem dX5_setFlow_7 : decode cX5_setFlow 7 = .ok (.new 75, 3) := by decide +kernel
theorem dX5_setFlow_10 : decode cX5_setFlow 10 = .ok (.dup, 1) := by decide +kernel
theorem dX5_setFlow_11 : decode cX5_setFlow 11 = .ok (.ldc 193, 2) := by decide +kernel
theorem dX5_setFlow_13 : decode cX5_setFlow 13 = .ok (.invokespecial 79, 3) := by decide +kernel
theorem dX5_setFlow_16 : decode cX5_setFlow 16 = .ok (.athrow, 1) := by decide +kernel
theorem dX5_setFlow_17 : decode cX5_setFlow 17 = .ok (.aload_n 0, 1) := by decide +kernel
theorem dX5_setFlow_18 : decode cX5_setFlow 18 = .ok (.getfield 26, 3) := by decide +kernel
theorem dX5_setFlow_21 : decode cX5_setFlow 21 = .ok (.aload_n 0, 1) := by decide +kernel
theorem dX5_setFlow_22 : decode cX5_setFlow 22 = .ok (.getfield 10, 3) := by decide +kernel
theorem dX5_setFlow_25 : decode cX5_setFlow 25 = .ok (.getfield 91, 3) := by decide +kernel
theorem dX5_setFlow_28 : decode cX5_setFlow 28 = .ok (.invokevirtual 94, 3) := by decide +kernel
theorem dX5_setFlow_31 : decode cX5_setFlow 31 = .ok (.aload_n 0, 1) := by decide +kernel
theorem dX5_setFlow_32 : decode cX5_setFlow 32 = .ok (.getfield 10, 3) := by decide +kernel
theorem dX5_setFlow_35 : decode cX5_setFlow 35 = .ok (.iload_n 1, 1) := by decide +kernel
theorem dX5_setFlow_36 : decode cX5_setFlow 36 = .ok (.invokevirtual 195, 3) := by decide +kernel
theorem dX5_setFlow_39 : decode cX5_setFlow 39 = .ok (.ireturn, 1) := by decide +kernel
set_option maxRecDepth 20000 in
theorem ggX5_advance_X4_isWait : GoodIn wsX5_advance wsX4_isWait := goodIn_r _ [9] (by decide +kernel) (by decide +kernel)
set_option maxRecDepth 20000 in
theorem gX5_advance_X4_isWait : GoodIn wsX5_advance (va_wsS RX5 198 yX4_isWait wsX4_isWait) := goodIn_app (goodIn_of _ (by decide +kernel)) ggX5_advance_X4_isWait
set_option maxRecDepth 20000 in
theorem ggX5_advance_X1_keep : GoodIn wsX5_advance wsX1_keep := goodIn_ca (goodIn_r _ [14, 15, 16, 17, 18, 19, 20, 21, 22, 23, 24, 25, 26, 27, 28, 29, 30, 31, 32, 33, 34, 35, 139, 140, 141, 142] (by decide +kernel) (by decide +kernel)) (goodIn_sub (fun _ h => List.mem_cons_of_mem _ (List.mem_append_left _ (List.mem_append_right _ h))) (by decide +kernel))
set_option maxRecDepth 20000 in
theorem gX5_advance_X1_keep : GoodIn wsX5_advance (wsV RX5 94 RX1 yX1_keep wsX1_keep) := goodIn_app (goodIn_of _ (by decide +kernel)) ggX5_advance_X1_keep
set_option maxRecDepth 20000 in
theorem ggX5_advance_X4_pass : GoodIn wsX5_advance wsX4_pass := goodIn_ca (goodIn_ca (goodIn_r _ [39, 40, 41, 42, 43, 25, 44, 27, 28, 29, 30, 31, 32, 33, 34, 35, 45, 46, 47, 8, 48, 49, 19, 20, 21, 50, 51, 52, 53, 54, 55, 56, 57, 58, 59, 60, 61, 62, 63, 64, 65, 66, 67, 68, 69, 70, 71, 72, 73, 74, 75, 76, 77, 78, 79, 80, 81, 82, 83, 84, 85, 86, 87, 88, 89, 90, 91, 92, 93, 94, 95, 96, 97, 98, 99, 100, 101, 102, 103, 104, 105, 106, 107, 108, 109, 110, 111, 112, 113, 114, 115, 116, 117, 118, 119, 120, 121, 122, 123, 124, 125, 126, 127, 138, 142] (by decide +kernel) (by decide +kernel)) (goodIn_sub (fun _ h => List.mem_cons_of_mem _ (List.mem_append_left _ (List.mem_append_right _ h))) (by decide +kernel))) (goodIn_sub (fun _ h => List.mem_cons_of_mem _ (List.mem_append_right _ h)) (by decide +kernel))
set_option maxRecDepth 20000 in
theorem gX5_advance_X4_pass : GoodIn wsX5_advance (wsV RX5 203 RX4 yX4_pass wsX4_pass) := goodIn_app (goodIn_of _ (by decide +kernel)) ggX5_advance_X4_pass
theorem dX5_advance_0 : decode cX5_advance 0 = .ok (.iload_n 1, 1) := by decide +kernel
theorem dX5_advance_1 : decode cX5_advance 1 = .ok (.invokestatic 198, 3) := by decide +kernel
theorem dX5_advance_4 : decode cX5_advance 4 = .ok (.ifCond .ne 13, 3) := by decide +kernel
theorem dX5_advance_7 : decode cX5_advance 7 = .ok (.new 75, 3) := by decide +kernel
theorem dX5_advance_10 : decode cX5_advance 10 = .ok (.dup, 1) := by decide +kernel
theorem dX5_advance_11 : decode cX5_advance 11 = .ok (.ldc 201, 2) := by decide +kernel
theorem dX5_advance_13 : decode cX5_advance 13 = .ok (.invokespecial 79, 3) := by decide +kernel
theorem dX5_advance_16 : decode cX5_advance 16 = .ok (.athrow, 1) := by decide +kernel
theorem dX5_advance_17 : decode cX5_advance 17 = .ok (.aload_n 0, 1) := by decide +kernel
theorem dX5_advance_18 : decode cX5_advance 18 = .ok (.getfield 26, 3) := by decide +kernel
theorem dX5_advance_21 : decode cX5_advance 21 = .ok (.aload_n 0, 1) := by decide +kernel
theorem dX5_advance_22 : decode cX5_advance 22 = .ok (.getfield 10, 3) := by decide +kernel
theorem dX5_advance_25 : decode cX5_advance 25 = .ok (.getfield 91, 3) := by decide +kernel
theorem dX5_advance_28 : decode cX5_advance 28 = .ok (.invokevirtual 94, 3) := by decide +kernel
theorem dX5_advance_31 : decode cX5_advance 31 = .ok (.aload_n 0, 1) := by decide +kernel
theorem dX5_advance_32 : decode cX5_advance 32 = .ok (.getfield 10, 3) := by decide +kernel
theorem dX5_advance_35 : decode cX5_advance 35 = .ok (.iload_n 1, 1) := by decide +kernel
theorem dX5_advance_36 : decode cX5_advance 36 = .ok (.invokevirtual 203, 3) := by decide +kernel
theorem dX5_advance_39 : decode cX5_advance 39 = .ok (.ireturn, 1) := by decide +kernel
set_option maxRecDepth 20000 in
theorem ggX5_time_X2_at : GoodIn wsX5_time wsX2_at := goodIn_ca (goodIn_r _ [7, 8, 20] (by decide +kernel) (by decide +kernel)) (goodIn_sub (fun _ h => List.mem_cons_of_mem _ (List.mem_append_right _ h)) (by decide +kernel))
set_option maxRecDepth 20000 in
theorem gX5_time_X2_at : GoodIn wsX5_time (wsV RX5 206 RX2 yX2_at wsX2_at) := goodIn_app (goodIn_of _ (by decide +kernel)) ggX5_time_X2_at
theorem dX5_time_0 : decode cX5_time 0 = .ok (.aload_n 0, 1) := by decide +kernel
theorem dX5_time_1 : decode cX5_time 1 = .ok (.getfield 10, 3) := by decide +kernel
theorem dX5_time_4 : decode cX5_time 4 = .ok (.getfield 91, 3) := by decide +kernel
theorem dX5_time_7 : decode cX5_time 7 = .ok (.iconst 0, 1) := by decide +kernel
theorem dX5_time_8 : decode cX5_time 8 = .ok (.invokevirtual 206, 3) := by decide +kernel
theorem dX5_time_11 : decode cX5_time 11 = .ok (.ireturn, 1) := by decide +kernel
set_option maxRecDepth 20000 in
theorem ggX5_baseLevel_X2_at : GoodIn wsX5_baseLevel wsX2_at := goodIn_ca (goodIn_r _ [7, 8, 20] (by decide +kernel) (by decide +kernel)) (goodIn_sub (fun _ h => List.mem_cons_of_mem _ (List.mem_append_right _ h)) (by decide +kernel))
set_option maxRecDepth 20000 in
theorem gX5_baseLevel_X2_at : GoodIn wsX5_baseLevel (wsV RX5 206 RX2 yX2_at wsX2_at) := goodIn_app (goodIn_of _ (by decide +kernel)) ggX5_baseLevel_X2_at
theorem dX5_baseLevel_0 : decode cX5_baseLevel 0 = .ok (.aload_n 0, 1) := by decide +kernel
theorem dX5_baseLevel_1 : decode cX5_baseLevel 1 = .ok (.getfield 10, 3) := by decide +kernel
theorem dX5_baseLevel_4 : decode cX5_baseLevel 4 = .ok (.getfield 91, 3) := by decide +kernel
theorem dX5_baseLevel_7 : decode cX5_baseLevel 7 = .ok (.iconst 1, 1) := by decide +kernel
theorem dX5_baseLevel_8 : decode cX5_baseLevel 8 = .ok (.invokevirtual 206, 3) := by decide +kernel
theorem dX5_baseLevel_11 : decode cX5_baseLevel 11 = .ok (.ireturn, 1) := by decide +kernel
set_option maxRecDepth 20000 in
theorem ggX5_flow_X2_at : GoodIn wsX5_flow wsX2_at := goodIn_ca (goodIn_r _ [7, 8, 20] (by decide +kernel) (by decide +kernel)) (goodIn_sub (fun _ h => List.mem_cons_of_mem _ (List.mem_append_right _ h)) (by decide +kernel))
set_option maxRecDepth 20000 in
theorem gX5_flow_X2_at : GoodIn wsX5_flow (wsV RX5 206 RX2 yX2_at wsX2_at) := goodIn_app (goodIn_of _ (by decide +kernel)) ggX5_flow_X2_at
theorem dX5_flow_0 : decode cX5_flow 0 = .ok (.aload_n 0, 1) := by decide +kernel
theorem dX5_flow_1 : decode cX5_flow 1 = .ok (.getfield 10, 3) := by decide +kernel
theorem dX5_flow_4 : decode cX5_flow 4 = .ok (.getfield 91, 3) := by decide +kernel
theorem dX5_flow_7 : decode cX5_flow 7 = .ok (.iconst 2, 1) := by decide +kernel
theorem dX5_flow_8 : decode cX5_flow 8 = .ok (.invokevirtual 206, 3) := by decide +kernel
theorem dX5_flow_11 : decode cX5_flow 11 = .ok (.ireturn, 1) := by decide +kernel
set_option maxRecDepth 20000 in
theorem ggX5_spilled_X2_at : GoodIn wsX5_spilled wsX2_at := goodIn_ca (goodIn_r _ [7, 8, 20] (by decide +kernel) (by decide +kernel)) (goodIn_sub (fun _ h => List.mem_cons_of_mem _ (List.mem_append_right _ h)) (by decide +kernel))
set_option maxRecDepth 20000 in
theorem gX5_spilled_X2_at : GoodIn wsX5_spilled (wsV RX5 206 RX2 yX2_at wsX2_at) := goodIn_app (goodIn_of _ (by decide +kernel)) ggX5_spilled_X2_at
theorem dX5_spilled_0 : decode cX5_spilled 0 = .ok (.aload_n 0, 1) := by decide +kernel
theorem dX5_spilled_1 : decode cX5_spilled 1 = .ok (.getfield 10, 3) := by decide +kernel
theorem dX5_spilled_4 : decode cX5_spilled 4 = .ok (.getfield 91, 3) := by decide +kernel
theorem dX5_spilled_7 : decode cX5_spilled 7 = .ok (.iconst 3, 1) := by decide +kernel
theorem dX5_spilled_8 : decode cX5_spilled 8 = .ok (.invokevirtual 206, 3) := by decide +kernel
theorem dX5_spilled_11 : decode cX5_spilled 11 = .ok (.ireturn, 1) := by decide +kernel
set_option maxRecDepth 20000 in
theorem ggX5_tideAt_X5_requirePosition : GoodIn wsX5_tideAt wsX5_requirePosition := goodIn_ca (goodIn_r _ [5, 6, 7, 8, 9, 10, 11] (by decide +kernel) (by decide +kernel)) (goodIn_sub (fun _ h => List.mem_cons_of_mem _ (List.mem_append_left _ (List.mem_append_left _ (List.mem_append_right _ h)))) (by decide +kernel))
set_option maxRecDepth 20000 in
theorem gX5_tideAt_X5_requirePosition : GoodIn wsX5_tideAt (va_wsS RX5 129 yX5_requirePosition wsX5_requirePosition) := goodIn_app (goodIn_of _ (by decide +kernel)) ggX5_tideAt_X5_requirePosition
set_option maxRecDepth 20000 in
theorem ggX5_tideAt_X4_tideAfter : GoodIn wsX5_tideAt wsX4_tideAfter := goodIn_ca (goodIn_ca (goodIn_r _ [15, 16, 17, 18, 10, 19, 20, 21, 22, 23, 24, 25, 26, 27, 28, 29, 30, 31, 32, 33, 34, 35, 36, 37, 38, 39, 40, 41, 42, 43, 44, 45, 46, 47, 48, 49, 50, 51, 52, 53, 54, 55, 56, 57, 58, 59, 60, 61, 62, 63, 64, 65, 66, 67, 68, 69, 70, 71, 72, 73, 74, 75, 76, 77, 78, 79, 80, 9, 11, 91, 92] (by decide +kernel) (by decide +kernel)) (goodIn_sub (fun _ h => List.mem_cons_of_mem _ (List.mem_append_left _ (List.mem_append_right _ h))) (by decide +kernel))) (goodIn_sub (fun _ h => List.mem_cons_of_mem _ (List.mem_append_right _ h)) (by decide +kernel))
set_option maxRecDepth 20000 in
theorem gX5_tideAt_X4_tideAfter : GoodIn wsX5_tideAt (wsV RX5 209 RX4 yX4_tideAfter wsX4_tideAfter) := goodIn_app (goodIn_of _ (by decide +kernel)) ggX5_tideAt_X4_tideAfter
theorem dX5_tideAt_0 : decode cX5_tideAt 0 = .ok (.iload_n 1, 1) := by decide +kernel
theorem dX5_tideAt_1 : decode cX5_tideAt 1 = .ok (.invokestatic 129, 3) := by decide +kernel
theorem dX5_tideAt_4 : decode cX5_tideAt 4 = .ok (.aload_n 0, 1) := by decide +kernel
theorem dX5_tideAt_5 : decode cX5_tideAt 5 = .ok (.getfield 10, 3) := by decide +kernel
theorem dX5_tideAt_8 : decode cX5_tideAt 8 = .ok (.iload_n 1, 1) := by decide +kernel
theorem dX5_tideAt_9 : decode cX5_tideAt 9 = .ok (.iconst 0, 1) := by decide +kernel
theorem dX5_tideAt_10 : decode cX5_tideAt 10 = .ok (.invokevirtual 209, 3) := by decide +kernel
theorem dX5_tideAt_13 : decode cX5_tideAt 13 = .ok (.ireturn, 1) := by decide +kernel
set_option maxRecDepth 20000 in
theorem ggX5_levelAt_X5_requirePosition : GoodIn wsX5_levelAt wsX5_requirePosition := goodIn_ca (goodIn_r _ [5, 6, 7, 8, 9, 10, 11] (by decide +kernel) (by decide +kernel)) (goodIn_sub (fun _ h => List.mem_cons_of_mem _ (List.mem_append_left _ (List.mem_append_left _ (List.mem_append_right _ h)))) (by decide +kernel))
set_option maxRecDepth 20000 in
theorem gX5_levelAt_X5_requirePosition : GoodIn wsX5_levelAt (va_wsS RX5 129 yX5_requirePosition wsX5_requirePosition) := goodIn_app (goodIn_of _ (by decide +kernel)) ggX5_levelAt_X5_requirePosition
set_option maxRecDepth 20000 in
theorem ggX5_levelAt_X4_level : GoodIn wsX5_levelAt wsX4_level := goodIn_ca (goodIn_ca (goodIn_r _ [15, 16, 17, 18, 19, 20, 21, 22, 23, 24, 25, 26, 27, 28, 29, 10, 30, 31, 32, 33, 34, 35, 36, 37, 38, 39, 40, 41, 42, 43, 44, 45, 46, 47, 48, 49, 50, 51, 52, 53, 54, 55, 56, 57, 58, 59, 60, 61, 62, 63, 64, 65, 66, 67, 68, 69, 70, 71, 72, 73, 74, 75, 76, 77, 78, 79, 80, 81, 82, 83, 84, 9, 11, 95, 96] (by decide +kernel) (by decide +kernel)) (goodIn_sub (fun _ h => List.mem_cons_of_mem _ (List.mem_append_left _ (List.mem_append_right _ h))) (by decide +kernel))) (goodIn_sub (fun _ h => List.mem_cons_of_mem _ (List.mem_append_right _ h)) (by decide +kernel))
set_option maxRecDepth 20000 in
theorem gX5_levelAt_X4_level : GoodIn wsX5_levelAt (wsV RX5 212 RX4 yX4_level wsX4_level) := goodIn_app (goodIn_of _ (by decide +kernel)) ggX5_levelAt_X4_level
theorem dX5_levelAt_0 : decode cX5_levelAt 0 = .ok (.iload_n 1, 1) := by decide +kernel
theorem dX5_levelAt_1 : decode cX5_levelAt 1 = .ok (.invokestatic 129, 3) := by decide +kernel
theorem dX5_levelAt_4 : decode cX5_levelAt 4 = .ok (.aload_n 0, 1) := by decide +kernel
theorem dX5_levelAt_5 : decode cX5_levelAt 5 = .ok (.getfield 10, 3) := by decide +kernel
theorem dX5_levelAt_8 : decode cX5_levelAt 8 = .ok (.iload_n 1, 1) := by decide +kernel
theorem dX5_levelAt_9 : decode cX5_levelAt 9 = .ok (.invokevirtual 212, 3) := by decide +kernel
theorem dX5_levelAt_12 : decode cX5_levelAt 12 = .ok (.ireturn, 1) := by decide +kernel
set_option maxRecDepth 20000 in
theorem ggX5_highestShore_X4_level : GoodIn wsX5_highestShore wsX4_level := goodIn_ca (goodIn_ca (goodIn_r _ [6, 7, 8, 9, 10, 11, 12, 13, 14, 15, 16, 17, 18, 19, 20, 5, 21, 22, 23, 24, 25, 26, 27, 28, 29, 30, 31, 32, 33, 34, 35, 36, 37, 38, 39, 40, 41, 42, 43, 44, 45, 46, 47, 48, 49, 50, 51, 52, 53, 54, 55, 56, 57, 58, 59, 60, 61, 62, 63, 64, 65, 66, 67, 68, 69, 70, 71, 72, 73, 74, 75, 76, 77, 88, 89] (by decide +kernel) (by decide +kernel)) (goodIn_sub (fun _ h => List.mem_cons_of_mem _ (List.mem_append_left _ (List.mem_append_right _ h))) (by decide +kernel))) (goodIn_sub (fun _ h => List.mem_cons_of_mem _ (List.mem_append_right _ h)) (by decide +kernel))
set_option maxRecDepth 20000 in
theorem gX5_highestShore_X4_level : GoodIn wsX5_highestShore (wsV RX5 212 RX4 yX4_level wsX4_level) := goodIn_app (goodIn_of _ (by decide +kernel)) ggX5_highestShore_X4_level
theorem dX5_highestShore_0 : decode cX5_highestShore 0 = .ok (.iconst 0, 1) := by decide +kernel
theorem dX5_highestShore_1 : decode cX5_highestShore 1 = .ok (.istore_n 1, 1) := by decide +kernel
theorem dX5_highestShore_2 : decode cX5_highestShore 2 = .ok (.iconst 1, 1) := by decide +kernel
theorem dX5_highestShore_3 : decode cX5_highestShore 3 = .ok (.istore_n 2, 1) := by decide +kernel
theorem dX5_highestShore_4 : decode cX5_highestShore 4 = .ok (.iload_n 2, 1) := by decide +kernel
theorem dX5_highestShore_5 : decode cX5_highestShore 5 = .ok (.bipush 12, 2) := by decide +kernel
theorem dX5_highestShore_7 : decode cX5_highestShore 7 = .ok (.if_icmp .ge 30, 3) := by decide +kernel
theorem dX5_highestShore_10 : decode cX5_highestShore 10 = .ok (.aload_n 0, 1) := by decide +kernel
theorem dX5_highestShore_11 : decode cX5_highestShore 11 = .ok (.getfield 10, 3) := by decide +kernel
theorem dX5_highestShore_14 : decode cX5_highestShore 14 = .ok (.iload_n 2, 1) := by decide +kernel
theorem dX5_highestShore_15 : decode cX5_highestShore 15 = .ok (.invokevirtual 212, 3) := by decide +kernel
theorem dX5_highestShore_18 : decode cX5_highestShore 18 = .ok (.aload_n 0, 1) := by decide +kernel
theorem dX5_highestShore_19 : decode cX5_highestShore 19 = .ok (.getfield 10, 3) := by decide +kernel
theorem dX5_highestShore_22 : decode cX5_highestShore 22 = .ok (.iload_n 1, 1) := by decide +kernel
theorem dX5_highestShore_23 : decode cX5_highestShore 23 = .ok (.invokevirtual 212, 3) := by decide +kernel
theorem dX5_highestShore_26 : decode cX5_highestShore 26 = .ok (.if_icmp .le 5, 3) := by decide +kernel
theorem dX5_highestShore_29 : decode cX5_highestShore 29 = .ok (.iload_n 2, 1) := by decide +kernel
theorem dX5_highestShore_30 : decode cX5_highestShore 30 = .ok (.istore_n 1, 1) := by decide +kernel
theorem dX5_highestShore_31 : decode cX5_highestShore 31 = .ok (.iinc 2 1, 3) := by decide +kernel
theorem dX5_highestShore_34 : decode cX5_highestShore 34 = .ok (.goto (-30), 3) := by decide +kernel
theorem dX5_highestShore_37 : decode cX5_highestShore 37 = .ok (.iload_n 1, 1) := by decide +kernel
theorem dX5_highestShore_38 : decode cX5_highestShore 38 = .ok (.ireturn, 1) := by decide +kernel
set_option maxRecDepth 20000 in
theorem ggX5_tideIn_X5_requirePosition : GoodIn wsX5_tideIn wsX5_requirePosition := goodIn_ca (goodIn_r _ [5, 6, 7, 8, 9, 10, 11] (by decide +kernel) (by decide +kernel)) (goodIn_sub (fun _ h => List.mem_cons_of_mem _ (List.mem_append_left _ (List.mem_append_left _ (List.mem_append_left _ (List.mem_append_right _ h))))) (by decide +kernel))
set_option maxRecDepth 20000 in
theorem gX5_tideIn_X5_requirePosition : GoodIn wsX5_tideIn (va_wsS RX5 129 yX5_requirePosition wsX5_requirePosition) := goodIn_app (goodIn_of _ (by decide +kernel)) ggX5_tideIn_X5_requirePosition
set_option maxRecDepth 20000 in
theorem ggX5_tideIn_X5_requireTideMinutes : GoodIn wsX5_tideIn wsX5_requireTideMinutes := goodIn_ca (goodIn_r _ [14, 15, 16] (by decide +kernel) (by decide +kernel)) (goodIn_sub (fun _ h => List.mem_cons_of_mem _ (List.mem_append_left _ (List.mem_append_left _ (List.mem_append_right _ h)))) (by decide +kernel))
set_option maxRecDepth 20000 in
theorem gX5_tideIn_X5_requireTideMinutes : GoodIn wsX5_tideIn (va_wsS RX5 215 yX5_requireTideMinutes wsX5_requireTideMinutes) := goodIn_app (goodIn_of _ (by decide +kernel)) ggX5_tideIn_X5_requireTideMinutes
set_option maxRecDepth 20000 in
theorem ggX5_tideIn_X4_tideAfter : GoodIn wsX5_tideIn wsX4_tideAfter := goodIn_ca (goodIn_ca (goodIn_r _ [20, 21, 22, 23, 10, 24, 25, 26, 27, 28, 29, 30, 31, 32, 33, 34, 35, 36, 37, 38, 39, 40, 41, 42, 43, 44, 45, 46, 47, 48, 49, 50, 51, 52, 53, 54, 55, 56, 57, 58, 59, 60, 61, 62, 63, 64, 65, 66, 67, 68, 69, 70, 71, 72, 73, 74, 75, 76, 77, 78, 79, 80, 81, 82, 83, 84, 85, 9, 11, 96, 97] (by decide +kernel) (by decide +kernel)) (goodIn_sub (fun _ h => List.mem_cons_of_mem _ (List.mem_append_left _ (List.mem_append_right _ h))) (by decide +kernel))) (goodIn_sub (fun _ h => List.mem_cons_of_mem _ (List.mem_append_right _ h)) (by decide +kernel))
set_option maxRecDepth 20000 in
theorem gX5_tideIn_X4_tideAfter : GoodIn wsX5_tideIn (wsV RX5 209 RX4 yX4_tideAfter wsX4_tideAfter) := goodIn_app (goodIn_of _ (by decide +kernel)) ggX5_tideIn_X4_tideAfter
theorem dX5_tideIn_0 : decode cX5_tideIn 0 = .ok (.iload_n 1, 1) := by decide +kernel
theorem dX5_tideIn_1 : decode cX5_tideIn 1 = .ok (.invokestatic 129, 3) := by decide +kernel
theorem dX5_tideIn_4 : decode cX5_tideIn 4 = .ok (.iload_n 2, 1) := by decide +kernel
theorem dX5_tideIn_5 : decode cX5_tideIn 5 = .ok (.invokestatic 215, 3) := by decide +kernel
theorem dX5_tideIn_8 : decode cX5_tideIn 8 = .ok (.aload_n 0, 1) := by decide +kernel
theorem dX5_tideIn_9 : decode cX5_tideIn 9 = .ok (.getfield 10, 3) := by decide +kernel
theorem dX5_tideIn_12 : decode cX5_tideIn 12 = .ok (.iload_n 1, 1) := by decide +kernel
theorem dX5_tideIn_13 : decode cX5_tideIn 13 = .ok (.iload_n 2, 1) := by decide +kernel
theorem dX5_tideIn_14 : decode cX5_tideIn 14 = .ok (.invokevirtual 209, 3) := by decide +kernel
theorem dX5_tideIn_17 : decode cX5_tideIn 17 = .ok (.ireturn, 1) := by decide +kernel
set_option maxRecDepth 20000 in
theorem ggX5_tideBySteps_X5_requirePosition : GoodIn wsX5_tideBySteps wsX5_requirePosition := goodIn_ca (goodIn_r _ [6, 7, 8, 9, 10, 11, 12] (by decide +kernel) (by decide +kernel)) (goodIn_sub (fun _ h => List.mem_cons_of_mem _ (List.mem_append_left _ (List.mem_append_left _ (List.mem_append_left _ (List.mem_append_right _ h))))) (by decide +kernel))
set_option maxRecDepth 20000 in
theorem gX5_tideBySteps_X5_requirePosition : GoodIn wsX5_tideBySteps (va_wsS RX5 129 yX5_requirePosition wsX5_requirePosition) := goodIn_app (goodIn_of _ (by decide +kernel)) ggX5_tideBySteps_X5_requirePosition
set_option maxRecDepth 20000 in
theorem ggX5_tideBySteps_X5_requireTideMinutes : GoodIn wsX5_tideBySteps wsX5_requireTideMinutes := goodIn_ca (goodIn_r _ [15, 16, 17] (by decide +kernel) (by decide +kernel)) (goodIn_sub (fun _ h => List.mem_cons_of_mem _ (List.mem_append_left _ (List.mem_append_left _ (List.mem_append_right _ h)))) (by decide +kernel))
set_option maxRecDepth 20000 in
theorem gX5_tideBySteps_X5_requireTideMinutes : GoodIn wsX5_tideBySteps (va_wsS RX5 215 yX5_requireTideMinutes wsX5_requireTideMinutes) := goodIn_app (goodIn_of _ (by decide +kernel)) ggX5_tideBySteps_X5_requireTideMinutes
set_option maxRecDepth 20000 in
theorem ggX5_tideBySteps_X0_steppedTide : GoodIn wsX5_tideBySteps wsX0_steppedTide := goodIn_ca (goodIn_ca (goodIn_r _ [22, 23, 24, 25, 26, 27, 28, 11, 29, 30, 31, 32, 33, 34, 35, 36, 37, 38, 39, 40, 41, 42, 43, 44, 45, 46, 47, 48, 49, 50, 51, 52, 53, 54, 55, 56, 57, 58, 59, 60, 61, 62, 63, 64, 65, 66, 67, 68, 69, 70, 71, 72, 21, 73, 74, 75, 76, 77, 78, 79, 80, 81, 82, 83, 84, 85, 86, 87, 88, 89, 90, 91, 92, 93, 94, 95, 96, 97, 98, 99, 100, 101, 102, 103, 104, 105, 106, 107, 108, 109, 10, 12, 120, 121, 122, 123, 124] (by decide +kernel) (by decide +kernel)) (goodIn_sub (fun _ h => List.mem_cons_of_mem _ (List.mem_append_left _ (List.mem_append_right _ h))) (by decide +kernel))) (goodIn_sub (fun _ h => List.mem_cons_of_mem _ (List.mem_append_right _ h)) (by decide +kernel))
set_option maxRecDepth 20000 in
theorem gX5_tideBySteps_X0_steppedTide : GoodIn wsX5_tideBySteps (wsV RX5 218 RX0 yX0_steppedTide wsX0_steppedTide) := goodIn_app (goodIn_of _ (by decide +kernel)) ggX5_tideBySteps_X0_steppedTide
theorem dX5_tideBySteps_0 : decode cX5_tideBySteps 0 = .ok (.iload_n 1, 1) := by decide +kernel
theorem dX5_tideBySteps_1 : decode cX5_tideBySteps 1 = .ok (.invokestatic 129, 3) := by decide +kernel
theorem dX5_tideBySteps_4 : decode cX5_tideBySteps 4 = .ok (.iload_n 2, 1) := by decide +kernel
theorem dX5_tideBySteps_5 : decode cX5_tideBySteps 5 = .ok (.invokestatic 215, 3) := by decide +kernel
theorem dX5_tideBySteps_8 : decode cX5_tideBySteps 8 = .ok (.aload_n 0, 1) := by decide +kernel
theorem dX5_tideBySteps_9 : decode cX5_tideBySteps 9 = .ok (.getfield 19, 3) := by decide +kernel
theorem dX5_tideBySteps_12 : decode cX5_tideBySteps 12 = .ok (.aload_n 0, 1) := by decide +kernel
theorem dX5_tideBySteps_13 : decode cX5_tideBySteps 13 = .ok (.getfield 10, 3) := by decide +kernel
theorem dX5_tideBySteps_16 : decode cX5_tideBySteps 16 = .ok (.iload_n 1, 1) := by decide +kernel
theorem dX5_tideBySteps_17 : decode cX5_tideBySteps 17 = .ok (.iload_n 2, 1) := by decide +kernel
theorem dX5_tideBySteps_18 : decode cX5_tideBySteps 18 = .ok (.invokevirtual 218, 3) := by decide +kernel
theorem dX5_tideBySteps_21 : decode cX5_tideBySteps 21 = .ok (.ireturn, 1) := by decide +kernel
set_option maxRecDepth 20000 in
theorem ggX5_highTideIn_X5_requirePosition : GoodIn wsX5_highTideIn wsX5_requirePosition := goodIn_ca (goodIn_r _ [5, 6, 7, 8, 9, 10, 11] (by decide +kernel) (by decide +kernel)) (goodIn_sub (fun _ h => List.mem_cons_of_mem _ (List.mem_append_left _ (List.mem_append_left _ (List.mem_append_right _ h)))) (by decide +kernel))
set_option maxRecDepth 20000 in
theorem gX5_highTideIn_X5_requirePosition : GoodIn wsX5_highTideIn (va_wsS RX5 129 yX5_requirePosition wsX5_requirePosition) := goodIn_app (goodIn_of _ (by decide +kernel)) ggX5_highTideIn_X5_requirePosition
set_option maxRecDepth 20000 in
theorem ggX5_highTideIn_X0_highest : GoodIn wsX5_highTideIn wsX0_highest := goodIn_ca (goodIn_ca (goodIn_r _ [15, 16, 17, 18, 10, 19, 20, 21, 22, 23, 24, 25, 26, 27, 28, 29, 30, 31, 32, 33, 34, 35, 36, 37, 38, 39, 40, 41, 42, 43, 44, 45, 46, 47, 48, 49, 50, 51, 52, 53, 54, 55, 56, 57, 58, 59, 60, 61, 62, 63, 64, 65, 66, 67, 68, 69, 70, 71, 72, 73, 74, 75, 76, 77, 78, 79, 80, 81, 82, 83, 84, 9, 11, 95, 96] (by decide +kernel) (by decide +kernel)) (goodIn_sub (fun _ h => List.mem_cons_of_mem _ (List.mem_append_left _ (List.mem_append_right _ h))) (by decide +kernel))) (goodIn_sub (fun _ h => List.mem_cons_of_mem _ (List.mem_append_right _ h)) (by decide +kernel))
set_option maxRecDepth 20000 in
theorem gX5_highTideIn_X0_highest : GoodIn wsX5_highTideIn (va_wsS RX5 222 yX0_highest wsX0_highest) := goodIn_app (goodIn_of _ (by decide +kernel)) ggX5_highTideIn_X0_highest
theorem dX5_highTideIn_0 : decode cX5_highTideIn 0 = .ok (.iload_n 1, 1) := by decide +kernel
theorem dX5_highTideIn_1 : decode cX5_highTideIn 1 = .ok (.invokestatic 129, 3) := by decide +kernel
theorem dX5_highTideIn_4 : decode cX5_highTideIn 4 = .ok (.aload_n 0, 1) := by decide +kernel
theorem dX5_highTideIn_5 : decode cX5_highTideIn 5 = .ok (.getfield 10, 3) := by decide +kernel
theorem dX5_highTideIn_8 : decode cX5_highTideIn 8 = .ok (.iload_n 1, 1) := by decide +kernel
theorem dX5_highTideIn_9 : decode cX5_highTideIn 9 = .ok (.invokestatic 222, 3) := by decide +kernel
theorem dX5_highTideIn_12 : decode cX5_highTideIn 12 = .ok (.ireturn, 1) := by decide +kernel
set_option maxRecDepth 20000 in
theorem ggX5_lowTideIn_X5_requirePosition : GoodIn wsX5_lowTideIn wsX5_requirePosition := goodIn_ca (goodIn_r _ [5, 6, 7, 8, 9, 10, 11] (by decide +kernel) (by decide +kernel)) (goodIn_sub (fun _ h => List.mem_cons_of_mem _ (List.mem_append_left _ (List.mem_append_left _ (List.mem_append_right _ h)))) (by decide +kernel))
set_option maxRecDepth 20000 in
theorem gX5_lowTideIn_X5_requirePosition : GoodIn wsX5_lowTideIn (va_wsS RX5 129 yX5_requirePosition wsX5_requirePosition) := goodIn_app (goodIn_of _ (by decide +kernel)) ggX5_lowTideIn_X5_requirePosition
set_option maxRecDepth 20000 in
theorem ggX5_lowTideIn_X0_lowest : GoodIn wsX5_lowTideIn wsX0_lowest := goodIn_ca (goodIn_ca (goodIn_r _ [15, 16, 17, 18, 10, 19, 20, 21, 22, 23, 24, 25, 26, 27, 28, 29, 30, 31, 32, 33, 34, 35, 36, 37, 38, 39, 40, 41, 42, 43, 44, 45, 46, 47, 48, 49, 50, 51, 52, 53, 54, 55, 56, 57, 58, 59, 60, 61, 62, 63, 64, 65, 66, 67, 68, 69, 70, 71, 72, 73, 74, 75, 76, 77, 78, 79, 80, 81, 82, 83, 84, 9, 11, 95, 96] (by decide +kernel) (by decide +kernel)) (goodIn_sub (fun _ h => List.mem_cons_of_mem _ (List.mem_append_left _ (List.mem_append_right _ h))) (by decide +kernel))) (goodIn_sub (fun _ h => List.mem_cons_of_mem _ (List.mem_append_right _ h)) (by decide +kernel))
set_option maxRecDepth 20000 in
theorem gX5_lowTideIn_X0_lowest : GoodIn wsX5_lowTideIn (va_wsS RX5 226 yX0_lowest wsX0_lowest) := goodIn_app (goodIn_of _ (by decide +kernel)) ggX5_lowTideIn_X0_lowest
theorem dX5_lowTideIn_0 : decode cX5_lowTideIn 0 = .ok (.iload_n 1, 1) := by decide +kernel
theorem dX5_lowTideIn_1 : decode cX5_lowTideIn 1 = .ok (.invokestatic 129, 3) := by decide +kernel
theorem dX5_lowTideIn_4 : decode cX5_lowTideIn 4 = .ok (.aload_n 0, 1) := by decide +kernel
theorem dX5_lowTideIn_5 : decode cX5_lowTideIn 5 = .ok (.getfield 10, 3) := by decide +kernel
theorem dX5_lowTideIn_8 : decode cX5_lowTideIn 8 = .ok (.iload_n 1, 1) := by decide +kernel
theorem dX5_lowTideIn_9 : decode cX5_lowTideIn 9 = .ok (.invokestatic 226, 3) := by decide +kernel
theorem dX5_lowTideIn_12 : decode cX5_lowTideIn 12 = .ok (.ireturn, 1) := by decide +kernel
set_option maxRecDepth 20000 in
theorem ggX5_eclipseIn_X5_requireMoon : GoodIn wsX5_eclipseIn wsX5_requireMoon := goodIn_ca (goodIn_ca (goodIn_r _ [6, 7, 8, 1, 9, 10, 11, 12, 13, 14, 15, 16, 17, 18, 19, 20, 21, 22, 23, 24, 61, 62, 63, 64, 65, 66, 67, 68, 69, 70, 71, 72] (by decide +kernel) (by decide +kernel)) (goodIn_sub (fun _ h => List.mem_cons_of_mem _ (List.mem_append_left _ (List.mem_append_left _ (List.mem_append_left _ (List.mem_append_right _ h))))) (by decide +kernel))) (goodIn_sub (fun _ h => List.mem_cons_of_mem _ (List.mem_append_left _ (List.mem_append_left _ (List.mem_append_right _ h)))) (by decide +kernel))
set_option maxRecDepth 20000 in
theorem gX5_eclipseIn_X5_requireMoon : GoodIn wsX5_eclipseIn (wsV RX5 101 RX5 yX5_requireMoon wsX5_requireMoon) := goodIn_app (goodIn_of _ (by decide +kernel)) ggX5_eclipseIn_X5_requireMoon
set_option maxRecDepth 20000 in
theorem ggX5_eclipseIn_X5_requirePlug : GoodIn wsX5_eclipseIn wsX5_requirePlug := goodIn_ca (goodIn_ca (goodIn_r _ [28, 29, 30, 1, 31, 32, 33, 12, 34, 35, 36, 37, 38, 18, 19, 20, 21, 22, 23, 24, 61, 62, 63, 64, 65, 66, 67, 68, 69, 70, 71, 72] (by decide +kernel) (by decide +kernel)) (goodIn_sub (fun _ h => List.mem_cons_of_mem _ (List.mem_append_left _ (List.mem_append_right _ h))) (by decide +kernel))) (goodIn_sub (fun _ h => List.mem_cons_of_mem _ (List.mem_append_left _ (List.mem_append_left _ (List.mem_append_right _ h)))) (by decide +kernel))
set_option maxRecDepth 20000 in
theorem gX5_eclipseIn_X5_requirePlug : GoodIn wsX5_eclipseIn (wsV RX5 156 RX5 yX5_requirePlug wsX5_requirePlug) := goodIn_app (goodIn_of _ (by decide +kernel)) ggX5_eclipseIn_X5_requirePlug
set_option maxRecDepth 20000 in
theorem ggX5_eclipseIn_X0_eclipse : GoodIn wsX5_eclipseIn wsX0_eclipse := goodIn_ca (goodIn_ca (goodIn_r _ [42, 43, 36, 37, 12, 38, 18, 19, 20, 21, 22, 23, 24, 44, 45, 46, 47, 48, 49, 50, 51, 52, 53, 54, 55, 56, 57, 41, 58, 59, 60, 71, 72] (by decide +kernel) (by decide +kernel)) (goodIn_sub (fun _ h => List.mem_cons_of_mem _ (List.mem_append_left _ (List.mem_append_left _ (List.mem_append_right _ h)))) (by decide +kernel))) (goodIn_sub (fun _ h => List.mem_cons_of_mem _ (List.mem_append_right _ h)) (by decide +kernel))
set_option maxRecDepth 20000 in
theorem gX5_eclipseIn_X0_eclipse : GoodIn wsX5_eclipseIn (va_wsS RX5 229 yX0_eclipse wsX0_eclipse) := goodIn_app (goodIn_of _ (by decide +kernel)) ggX5_eclipseIn_X0_eclipse
theorem dX5_eclipseIn_0 : decode cX5_eclipseIn 0 = .ok (.aload_n 0, 1) := by decide +kernel
theorem dX5_eclipseIn_1 : decode cX5_eclipseIn 1 = .ok (.iload_n 1, 1) := by decide +kernel
theorem dX5_eclipseIn_2 : decode cX5_eclipseIn 2 = .ok (.invokevirtual 101, 3) := by decide +kernel
theorem dX5_eclipseIn_5 : decode cX5_eclipseIn 5 = .ok (.aload_n 0, 1) := by decide +kernel
theorem dX5_eclipseIn_6 : decode cX5_eclipseIn 6 = .ok (.invokevirtual 156, 3) := by decide +kernel
theorem dX5_eclipseIn_9 : decode cX5_eclipseIn 9 = .ok (.aload_n 0, 1) := by decide +kernel
theorem dX5_eclipseIn_10 : decode cX5_eclipseIn 10 = .ok (.getfield 10, 3) := by decide +kernel
theorem dX5_eclipseIn_13 : decode cX5_eclipseIn 13 = .ok (.iload_n 1, 1) := by decide +kernel
theorem dX5_eclipseIn_14 : decode cX5_eclipseIn 14 = .ok (.invokestatic 229, 3) := by decide +kernel
theorem dX5_eclipseIn_17 : decode cX5_eclipseIn 17 = .ok (.ireturn, 1) := by decide +kernel
set_option maxRecDepth 20000 in
theorem ggX5_conjunctionIn_X5_requireMoon : GoodIn wsX5_conjunctionIn wsX5_requireMoon := goodIn_ca (goodIn_ca (goodIn_r _ [6, 7, 8, 1, 9, 10, 11, 12, 13, 14, 15, 16, 17, 18, 19, 20, 21, 22, 23, 24, 46, 47, 48, 49, 50, 51, 52, 53, 54, 55, 56, 57] (by decide +kernel) (by decide +kernel)) (goodIn_sub (fun _ h => List.mem_cons_of_mem _ (List.mem_append_left _ (List.mem_append_left _ (List.mem_append_left _ (List.mem_append_right _ h))))) (by decide +kernel))) (goodIn_sub (fun _ h => List.mem_cons_of_mem _ (List.mem_append_left _ (List.mem_append_left _ (List.mem_append_right _ h)))) (by decide +kernel))
set_option maxRecDepth 20000 in
theorem gX5_conjunctionIn_X5_requireMoon : GoodIn wsX5_conjunctionIn (wsV RX5 101 RX5 yX5_requireMoon wsX5_requireMoon) := goodIn_app (goodIn_of _ (by decide +kernel)) ggX5_conjunctionIn_X5_requireMoon
set_option maxRecDepth 20000 in
theorem ggX5_conjunctionIn_X0_meetingByMinutes : GoodIn wsX5_conjunctionIn wsX0_meetingByMinutes := goodIn_ca (goodIn_ca (goodIn_r _ [28, 29, 30, 31, 12, 32, 18, 33, 34, 35, 36, 19, 20, 21, 22, 23, 24, 37, 38, 39, 40, 56, 57] (by decide +kernel) (by decide +kernel)) (goodIn_sub (fun _ h => List.mem_cons_of_mem _ (List.mem_append_left _ (List.mem_append_right _ h))) (by decide +kernel))) (goodIn_sub (fun _ h => List.mem_cons_of_mem _ (List.mem_append_left _ (List.mem_append_left _ (List.mem_append_right _ h)))) (by decide +kernel))
set_option maxRecDepth 20000 in
theorem gX5_conjunctionIn_X0_meetingByMinutes : GoodIn wsX5_conjunctionIn (va_wsS RX5 232 yX0_meetingByMinutes wsX0_meetingByMinutes) := goodIn_app (goodIn_of _ (by decide +kernel)) ggX5_conjunctionIn_X0_meetingByMinutes
set_option maxRecDepth 20000 in
theorem ggX5_conjunctionIn_X5_found : GoodIn wsX5_conjunctionIn wsX5_found := goodIn_ca (goodIn_r _ [43, 44, 45] (by decide +kernel) (by decide +kernel)) (goodIn_sub (fun _ h => List.mem_cons_of_mem _ (List.mem_append_right _ h)) (by decide +kernel))
set_option maxRecDepth 20000 in
theorem gX5_conjunctionIn_X5_found : GoodIn wsX5_conjunctionIn (va_wsS RX5 235 yX5_found wsX5_found) := goodIn_app (goodIn_of _ (by decide +kernel)) ggX5_conjunctionIn_X5_found
theorem dX5_conjunctionIn_0 : decode cX5_conjunctionIn 0 = .ok (.aload_n 0, 1) := by decide +kernel
theorem dX5_conjunctionIn_1 : decode cX5_conjunctionIn 1 = .ok (.iload_n 1, 1) := by decide +kernel
theorem dX5_conjunctionIn_2 : decode cX5_conjunctionIn 2 = .ok (.invokevirtual 101, 3) := by decide +kernel
theorem dX5_conjunctionIn_5 : decode cX5_conjunctionIn 5 = .ok (.aload_n 0, 1) := by decide +kernel
theorem dX5_conjunctionIn_6 : decode cX5_conjunctionIn 6 = .ok (.iload_n 2, 1) := by decide +kernel
theorem dX5_conjunctionIn_7 : decode cX5_conjunctionIn 7 = .ok (.invokevirtual 101, 3) := by decide +kernel
theorem dX5_conjunctionIn_10 : decode cX5_conjunctionIn 10 = .ok (.aload_n 0, 1) := by decide +kernel
theorem dX5_conjunctionIn_11 : decode cX5_conjunctionIn 11 = .ok (.getfield 10, 3) := by decide +kernel
theorem dX5_conjunctionIn_14 : decode cX5_conjunctionIn 14 = .ok (.iload_n 1, 1) := by decide +kernel
theorem dX5_conjunctionIn_15 : decode cX5_conjunctionIn 15 = .ok (.iload_n 2, 1) := by decide +kernel
theorem dX5_conjunctionIn_16 : decode cX5_conjunctionIn 16 = .ok (.invokestatic 232, 3) := by decide +kernel
theorem dX5_conjunctionIn_19 : decode cX5_conjunctionIn 19 = .ok (.invokestatic 235, 3) := by decide +kernel
theorem dX5_conjunctionIn_22 : decode cX5_conjunctionIn 22 = .ok (.ireturn, 1) := by decide +kernel
set_option maxRecDepth 20000 in
theorem ggX5_conjunctionByMoves_X5_requireMoon : GoodIn wsX5_conjunctionByMoves wsX5_requireMoon := goodIn_ca (goodIn_ca (goodIn_r _ [6, 7, 8, 1, 9, 10, 11, 12, 13, 14, 15, 16, 17, 18, 19, 20, 21, 22, 23, 24, 55, 56, 57, 58, 59, 60, 61, 62, 63, 64, 65, 66] (by decide +kernel) (by decide +kernel)) (goodIn_sub (fun _ h => List.mem_cons_of_mem _ (List.mem_append_left _ (List.mem_append_left _ (List.mem_append_left _ (List.mem_append_right _ h))))) (by decide +kernel))) (goodIn_sub (fun _ h => List.mem_cons_of_mem _ (List.mem_append_left _ (List.mem_append_left _ (List.mem_append_right _ h)))) (by decide +kernel))
set_option maxRecDepth 20000 in
theorem gX5_conjunctionByMoves_X5_requireMoon : GoodIn wsX5_conjunctionByMoves (wsV RX5 101 RX5 yX5_requireMoon wsX5_requireMoon) := goodIn_app (goodIn_of _ (by decide +kernel)) ggX5_conjunctionByMoves_X5_requireMoon
set_option maxRecDepth 20000 in
theorem ggX5_conjunctionByMoves_X0_meetingByMoves : GoodIn wsX5_conjunctionByMoves wsX0_meetingByMoves := goodIn_ca (goodIn_ca (goodIn_r _ [28, 29, 30, 31, 32, 33, 34, 35, 12, 36, 18, 37, 38, 39, 40, 19, 20, 21, 22, 23, 24, 41, 42, 43, 44, 45, 46, 27, 47, 48, 49, 65, 66] (by decide +kernel) (by decide +kernel)) (goodIn_sub (fun _ h => List.mem_cons_of_mem _ (List.mem_append_left _ (List.mem_append_right _ h))) (by decide +kernel))) (goodIn_sub (fun _ h => List.mem_cons_of_mem _ (List.mem_append_left _ (List.mem_append_left _ (List.mem_append_right _ h)))) (by decide +kernel))
set_option maxRecDepth 20000 in
theorem gX5_conjunctionByMoves_X0_meetingByMoves : GoodIn wsX5_conjunctionByMoves (va_wsS RX5 238 yX0_meetingByMoves wsX0_meetingByMoves) := goodIn_app (goodIn_of _ (by decide +kernel)) ggX5_conjunctionByMoves_X0_meetingByMoves
set_option maxRecDepth 20000 in
theorem ggX5_conjunctionByMoves_X5_found : GoodIn wsX5_conjunctionByMoves wsX5_found := goodIn_ca (goodIn_r _ [52, 53, 54] (by decide +kernel) (by decide +kernel)) (goodIn_sub (fun _ h => List.mem_cons_of_mem _ (List.mem_append_right _ h)) (by decide +kernel))
set_option maxRecDepth 20000 in
theorem gX5_conjunctionByMoves_X5_found : GoodIn wsX5_conjunctionByMoves (va_wsS RX5 235 yX5_found wsX5_found) := goodIn_app (goodIn_of _ (by decide +kernel)) ggX5_conjunctionByMoves_X5_found
theorem dX5_conjunctionByMoves_0 : decode cX5_conjunctionByMoves 0 = .ok (.aload_n 0, 1) := by decide +kernel
theorem dX5_conjunctionByMoves_1 : decode cX5_conjunctionByMoves 1 = .ok (.iload_n 1, 1) := by decide +kernel
theorem dX5_conjunctionByMoves_2 : decode cX5_conjunctionByMoves 2 = .ok (.invokevirtual 101, 3) := by decide +kernel
theorem dX5_conjunctionByMoves_5 : decode cX5_conjunctionByMoves 5 = .ok (.aload_n 0, 1) := by decide +kernel
theorem dX5_conjunctionByMoves_6 : decode cX5_conjunctionByMoves 6 = .ok (.iload_n 2, 1) := by decide +kernel
theorem dX5_conjunctionByMoves_7 : decode cX5_conjunctionByMoves 7 = .ok (.invokevirtual 101, 3) := by decide +kernel
theorem dX5_conjunctionByMoves_10 : decode cX5_conjunctionByMoves 10 = .ok (.aload_n 0, 1) := by decide +kernel
theorem dX5_conjunctionByMoves_11 : decode cX5_conjunctionByMoves 11 = .ok (.getfield 10, 3) := by decide +kernel
theorem dX5_conjunctionByMoves_14 : decode cX5_conjunctionByMoves 14 = .ok (.iload_n 1, 1) := by decide +kernel
theorem dX5_conjunctionByMoves_15 : decode cX5_conjunctionByMoves 15 = .ok (.iload_n 2, 1) := by decide +kernel
theorem dX5_conjunctionByMoves_16 : decode cX5_conjunctionByMoves 16 = .ok (.invokestatic 238, 3) := by decide +kernel
theorem dX5_conjunctionByMoves_19 : decode cX5_conjunctionByMoves 19 = .ok (.invokestatic 235, 3) := by decide +kernel
theorem dX5_conjunctionByMoves_22 : decode cX5_conjunctionByMoves 22 = .ok (.ireturn, 1) := by decide +kernel
set_option maxRecDepth 20000 in
theorem ggX5_writeRim_J4_setLength_d00df : GoodIn wsX5_writeRim wsJ4_setLength_d00df := goodIn_r _ [7, 8, 9, 10, 11, 12, 13, 14, 15, 16, 17, 18, 19, 20, 21, 22, 23, 24, 25, 26, 27, 28, 29, 30, 31, 32, 33, 34, 35, 36, 37, 38, 39, 40, 41, 42, 43, 44, 45, 46, 47, 48, 49, 50, 51, 52, 53, 54, 55, 56, 57, 58, 59, 60, 61, 62, 63, 64, 65, 66, 67, 68, 69, 70, 71, 72, 73, 74, 75, 76, 77, 78, 79, 6, 80, 81, 82, 83, 84, 85, 86, 87, 295, 296, 297, 298, 299, 300, 301, 302, 303, 304, 305, 306, 307, 308, 309, 310] (by decide +kernel) (by decide +kernel)
set_option maxRecDepth 20000 in
theorem gX5_writeRim_J4_setLength_d00df : GoodIn wsX5_writeRim (wsV RX5 241 RJ4 yJ4_setLength_d00df wsJ4_setLength_d00df) := goodIn_app (goodIn_of _ (by decide +kernel)) ggX5_writeRim_J4_setLength_d00df
set_option maxRecDepth 20000 in
theorem ggX5_writeRim_J4_append_cf468 : GoodIn wsX5_writeRim wsJ4_append_cf468 := goodIn_r _ [91, 92, 93, 10, 94, 12, 95, 17, 18, 20, 21, 22, 23, 24, 25, 26, 27, 28, 29, 30, 31, 32, 33, 34, 35, 36, 37, 38, 39, 40, 41, 42, 43, 44, 45, 46, 47, 48, 49, 50, 51, 52, 53, 54, 55, 56, 57, 58, 59, 60, 61, 62, 63, 64, 65, 66, 67, 96, 97, 70, 98, 99, 100, 101, 102, 103, 104, 105, 85, 106, 107, 108, 109, 110, 111, 112, 113, 114, 115, 116, 117, 118, 119, 120, 121, 122, 123, 124, 125, 126, 127, 128, 129, 130, 131, 132, 133, 134, 135, 136, 137, 138, 139, 140, 141, 142, 143, 144, 145, 146, 147, 148, 149, 301, 302, 303, 304] (by decide +kernel) (by decide +kernel)
set_option maxRecDepth 20000 in
theorem gX5_writeRim_J4_append_cf468 : GoodIn wsX5_writeRim (wsV RX5 244 RJ4 yJ4_append_cf468 wsJ4_append_cf468) := goodIn_app (goodIn_of _ (by decide +kernel)) ggX5_writeRim_J4_append_cf468
set_option maxRecDepth 20000 in
theorem ggX5_writeRim_X4_level : GoodIn wsX5_writeRim wsX4_level := goodIn_ca (goodIn_ca (goodIn_r _ [154, 155, 156, 37, 38, 39, 157, 158, 159, 160, 161, 162, 163, 164, 165, 153, 166, 167, 168, 169, 170, 171, 172, 173, 174, 175, 176, 177, 178, 179, 180, 181, 182, 183, 184, 185, 186, 187, 188, 189, 190, 191, 192, 193, 194, 195, 196, 197, 198, 199, 200, 201, 202, 203, 204, 205, 206, 207, 208, 209, 56, 57, 210, 211, 212, 213, 214, 215, 216, 217, 218, 219, 220, 311, 312] (by decide +kernel) (by decide +kernel)) (goodIn_sub (fun _ h => List.mem_cons_of_mem _ (List.mem_append_left _ (List.mem_append_right _ h))) (by decide +kernel))) (goodIn_sub (fun _ h => List.mem_cons_of_mem _ (List.mem_append_right _ h)) (by decide +kernel))
set_option maxRecDepth 20000 in
theorem gX5_writeRim_X4_level : GoodIn wsX5_writeRim (wsV RX5 212 RX4 yX4_level wsX4_level) := goodIn_app (goodIn_of _ (by decide +kernel)) ggX5_writeRim_X4_level
set_option maxRecDepth 20000 in
theorem ggX5_writeRim_J4_append_bf812 : GoodIn wsX5_writeRim wsJ4_append_bf812 := goodIn_r _ [224, 225, 226, 10, 227, 12, 228, 17, 18, 229, 230, 231, 232, 20, 21, 22, 23, 24, 25, 26, 27, 28, 29, 30, 31, 32, 33, 34, 35, 36, 37, 38, 39, 40, 41, 42, 43, 44, 45, 46, 47, 48, 49, 50, 51, 52, 53, 54, 55, 56, 57, 58, 59, 60, 61, 62, 63, 64, 65, 66, 67, 233, 234, 235, 236, 237, 238, 239, 85, 240, 135, 241, 242, 243, 120, 121, 122, 244, 245, 125, 246, 127, 247, 248, 130, 249, 250, 251, 252, 253, 254, 132, 133, 134, 136, 137, 301, 302, 303, 304] (by decide +kernel) (by decide +kernel)
set_option maxRecDepth 20000 in
theorem gX5_writeRim_J4_append_bf812 : GoodIn wsX5_writeRim (wsV RX5 248 RJ4 yJ4_append_bf812 wsJ4_append_bf812) := goodIn_app (goodIn_of _ (by decide +kernel)) ggX5_writeRim_J4_append_bf812
set_option maxRecDepth 20000 in
theorem ggX5_writeRim_X4_isToeAt : GoodIn wsX5_writeRim wsX4_isToeAt := goodIn_ca (goodIn_r _ [217, 155, 218, 219, 153, 220, 157, 158, 159, 160, 161, 162, 311, 312] (by decide +kernel) (by decide +kernel)) (goodIn_sub (fun _ h => List.mem_cons_of_mem _ (List.mem_append_left _ (List.mem_append_right _ h))) (by decide +kernel))
set_option maxRecDepth 20000 in
theorem gX5_writeRim_X4_isToeAt : GoodIn wsX5_writeRim (wsV RX5 140 RX4 yX4_isToeAt wsX4_isToeAt) := goodIn_app (goodIn_of _ (by decide +kernel)) ggX5_writeRim_X4_isToeAt
set_option maxRecDepth 20000 in
theorem ggX5_writeRim_X5_writeLetter : GoodIn wsX5_writeRim wsX5_writeLetter := goodIn_r _ [260, 1, 88, 89, 90, 6, 91, 92, 93, 10, 94, 12, 95, 17, 18, 20, 21, 22, 23, 24, 25, 26, 27, 28, 29, 30, 31, 32, 33, 34, 35, 36, 37, 38, 39, 40, 41, 42, 43, 44, 45, 46, 47, 48, 49, 50, 51, 52, 53, 54, 55, 56, 57, 58, 59, 60, 61, 62, 63, 64, 65, 66, 67, 96, 97, 70, 98, 99, 100, 101, 102, 103, 104, 105, 85, 106, 107, 108, 109, 110, 111, 112, 113, 114, 115, 116, 117, 118, 119, 120, 121, 122, 123, 124, 125, 126, 127, 128, 129, 130, 131, 132, 133, 134, 135, 136, 137, 138, 139, 140, 141, 142, 143, 144, 145, 146, 147, 148, 149, 285, 286, 287, 288, 289, 290, 291, 292, 293, 294, 301, 302, 303, 304] (by decide +kernel) (by decide +kernel)
set_option maxRecDepth 20000 in
theorem gX5_writeRim_X5_writeLetter : GoodIn wsX5_writeRim (wsV RX5 251 RX5 yX5_writeLetter wsX5_writeLetter) := goodIn_app (goodIn_of _ (by decide +kernel)) ggX5_writeRim_X5_writeLetter
set_option maxRecDepth 20000 in
theorem ggX5_writeRim_X4_plug : GoodIn wsX5_writeRim wsX4_plug := goodIn_ca (goodIn_r _ [264, 155, 157, 158, 159, 160, 161, 162, 311, 312] (by decide +kernel) (by decide +kernel)) (goodIn_sub (fun _ h => List.mem_cons_of_mem _ (List.mem_append_left _ (List.mem_append_right _ h))) (by decide +kernel))
set_option maxRecDepth 20000 in
theorem gX5_writeRim_X4_plug : GoodIn wsX5_writeRim (wsV RX5 159 RX4 yX4_plug wsX4_plug) := goodIn_app (goodIn_of _ (by decide +kernel)) ggX5_writeRim_X4_plug
set_option maxRecDepth 20000 in
theorem ggX5_writeRim_X4_isTowelAt : GoodIn wsX5_writeRim wsX4_isTowelAt := goodIn_ca (goodIn_r _ [268, 269, 270, 271, 153, 272, 155, 157, 158, 159, 160, 161, 162, 273, 274, 275, 276, 311, 312] (by decide +kernel) (by decide +kernel)) (goodIn_sub (fun _ h => List.mem_cons_of_mem _ (List.mem_append_left _ (List.mem_append_right _ h))) (by decide +kernel))
set_option maxRecDepth 20000 in
theorem gX5_writeRim_X4_isTowelAt : GoodIn wsX5_writeRim (wsV RX5 255 RX4 yX4_isTowelAt wsX4_isTowelAt) := goodIn_app (goodIn_of _ (by decide +kernel)) ggX5_writeRim_X4_isTowelAt
set_option maxRecDepth 20000 in
theorem ggX5_writeRim_J4_length_8abf5 : GoodIn wsX5_writeRim wsJ4_length_8abf5 := goodIn_r _ [280, 281, 282, 10, 283, 12, 284, 17, 301, 302, 303, 304] (by decide +kernel) (by decide +kernel)
set_option maxRecDepth 20000 in
theorem gX5_writeRim_J4_length_8abf5 : GoodIn wsX5_writeRim (wsV RX5 258 RJ4 yJ4_length_8abf5 wsJ4_length_8abf5) := goodIn_app (goodIn_of _ (by decide +kernel)) ggX5_writeRim_J4_length_8abf5
theorem dX5_writeRim_0 : decode cX5_writeRim 0 = .ok (.aload_n 0, 1) := by decide +kernel
theorem dX5_writeRim_1 : decode cX5_writeRim 1 = .ok (.getfield 40, 3) := by decide +kernel
theorem dX5_writeRim_4 : decode cX5_writeRim 4 = .ok (.iconst 0, 1) := by decide +kernel
theorem dX5_writeRim_5 : decode cX5_writeRim 5 = .ok (.invokevirtual 241, 3) := by decide +kernel
theorem dX5_writeRim_8 : decode cX5_writeRim 8 = .ok (.iconst 0, 1) := by decide +kernel
theorem dX5_writeRim_9 : decode cX5_writeRim 9 = .ok (.istore_n 1, 1) := by decide +kernel
theorem dX5_writeRim_10 : decode cX5_writeRim 10 = .ok (.iload_n 1, 1) := by decide +kernel
theorem dX5_writeRim_11 : decode cX5_writeRim 11 = .ok (.bipush 12, 2) := by decide +kernel
theorem dX5_writeRim_13 : decode cX5_writeRim 13 = .ok (.if_icmp .ge 89, 3) := by decide +kernel
theorem dX5_writeRim_16 : decode cX5_writeRim 16 = .ok (.iload_n 1, 1) := by decide +kernel
theorem dX5_writeRim_17 : decode cX5_writeRim 17 = .ok (.ifCond .le 13, 3) := by decide +kernel
theorem dX5_writeRim_20 : decode cX5_writeRim 20 = .ok (.aload_n 0, 1) := by decide +kernel
theorem dX5_writeRim_21 : decode cX5_writeRim 21 = .ok (.getfield 40, 3) := by decide +kernel
theorem dX5_writeRim_24 : decode cX5_writeRim 24 = .ok (.bipush 32, 2) := by decide +kernel
theorem dX5_writeRim_26 : decode cX5_writeRim 26 = .ok (.invokevirtual 244, 3) := by decide +kernel
theorem dX5_writeRim_29 : decode cX5_writeRim 29 = .ok (.pop, 1) := by decide +kernel
theorem dX5_writeRim_30 : decode cX5_writeRim 30 = .ok (.aload_n 0, 1) := by decide +kernel
theorem dX5_writeRim_31 : decode cX5_writeRim 31 = .ok (.getfield 40, 3) := by decide +kernel
theorem dX5_writeRim_34 : decode cX5_writeRim 34 = .ok (.aload_n 0, 1) := by decide +kernel
theorem dX5_writeRim_35 : decode cX5_writeRim 35 = .ok (.getfield 10, 3) := by decide +kernel
theorem dX5_writeRim_38 : decode cX5_writeRim 38 = .ok (.iload_n 1, 1) := by decide +kernel
theorem dX5_writeRim_39 : decode cX5_writeRim 39 = .ok (.invokevirtual 212, 3) := by decide +kernel
theorem dX5_writeRim_42 : decode cX5_writeRim 42 = .ok (.invokevirtual 248, 3) := by decide +kernel
theorem dX5_writeRim_45 : decode cX5_writeRim 45 = .ok (.pop, 1) := by decide +kernel
theorem dX5_writeRim_46 : decode cX5_writeRim 46 = .ok (.aload_n 0, 1) := by decide +kernel
theorem dX5_writeRim_47 : decode cX5_writeRim 47 = .ok (.aload_n 0, 1) := by decide +kernel
theorem dX5_writeRim_48 : decode cX5_writeRim 48 = .ok (.getfield 10, 3) := by decide +kernel
theorem dX5_writeRim_51 : decode cX5_writeRim 51 = .ok (.iload_n 1, 1) := by decide +kernel
theorem dX5_writeRim_52 : decode cX5_writeRim 52 = .ok (.invokevirtual 140, 3) := by decide +kernel
theorem dX5_writeRim_55 : decode cX5_writeRim 55 = .ok (.bipush 116, 2) := by decide +kernel
theorem dX5_writeRim_57 : decode cX5_writeRim 57 = .ok (.invokevirtual 251, 3) := by decide +kernel
theorem dX5_writeRim_60 : decode cX5_writeRim 60 = .ok (.aload_n 0, 1) := by decide +kernel
theorem dX5_writeRim_61 : decode cX5_writeRim 61 = .ok (.aload_n 0, 1) := by decide +kernel
theorem dX5_writeRim_62 : decode cX5_writeRim 62 = .ok (.getfield 10, 3) := by decide +kernel
theorem dX5_writeRim_65 : decode cX5_writeRim 65 = .ok (.invokevirtual 159, 3) := by decide +kernel
theorem dX5_writeRim_68 : decode cX5_writeRim 68 = .ok (.iload_n 1, 1) := by decide +kernel
theorem dX5_writeRim_69 : decode cX5_writeRim 69 = .ok (.if_icmp .ne 7, 3) := by decide +kernel
theorem dX5_writeRim_72 : decode cX5_writeRim 72 = .ok (.iconst 1, 1) := by decide +kernel
theorem dX5_writeRim_73 : decode cX5_writeRim 73 = .ok (.goto 4, 3) := by decide +kernel
theorem dX5_writeRim_76 : decode cX5_writeRim 76 = .ok (.iconst 0, 1) := by decide +kernel
theorem dX5_writeRim_77 : decode cX5_writeRim 77 = .ok (.bipush 112, 2) := by decide +kernel
theorem dX5_writeRim_79 : decode cX5_writeRim 79 = .ok (.invokevirtual 251, 3) := by decide +kernel
theorem dX5_writeRim_82 : decode cX5_writeRim 82 = .ok (.aload_n 0, 1) := by decide +kernel
theorem dX5_writeRim_83 : decode cX5_writeRim 83 = .ok (.aload_n 0, 1) := by decide +kernel
theorem dX5_writeRim_84 : decode cX5_writeRim 84 = .ok (.getfield 10, 3) := by decide +kernel
theorem dX5_writeRim_87 : decode cX5_writeRim 87 = .ok (.iload_n 1, 1) := by decide +kernel
theorem dX5_writeRim_88 : decode cX5_writeRim 88 = .ok (.invokevirtual 255, 3) := by decide +kernel
theorem dX5_writeRim_91 : decode cX5_writeRim 91 = .ok (.bipush 119, 2) := by decide +kernel
theorem dX5_writeRim_93 : decode cX5_writeRim 93 = .ok (.invokevirtual 251, 3) := by decide +kernel
theorem dX5_writeRim_96 : decode cX5_writeRim 96 = .ok (.iinc 1 1, 3) := by decide +kernel
theorem dX5_writeRim_99 : decode cX5_writeRim 99 = .ok (.goto (-89), 3) := by decide +kernel
theorem dX5_writeRim_102 : decode cX5_writeRim 102 = .ok (.aload_n 0, 1) := by decide +kernel
theorem dX5_writeRim_103 : decode cX5_writeRim 103 = .ok (.getfield 40, 3) := by decide +kernel
theorem dX5_writeRim_106 : decode cX5_writeRim 106 = .ok (.invokevirtual 258, 3) := by decide +kernel
theorem dX5_writeRim_109 : decode cX5_writeRim 109 = .ok (.ireturn, 1) := by decide +kernel
set_option maxRecDepth 20000 in
theorem ggX5_writeMoon_X5_requireMoon : GoodIn wsX5_writeMoon wsX5_requireMoon := goodIn_ca (goodIn_ca (goodIn_r _ [7, 8, 9, 1, 10, 11, 12, 13, 14, 15, 16, 17, 18, 19, 20, 21, 22, 23, 24, 25, 256, 257, 258, 259, 260, 261, 262, 263, 264, 265, 266, 267] (by decide +kernel) (by decide +kernel)) (goodIn_sub (fun _ h => List.mem_cons_of_mem _ (List.mem_append_left _ (List.mem_append_left _ (List.mem_append_right _ h)))) (by decide +kernel))) (goodIn_sub (fun _ h => List.mem_cons_of_mem _ (List.mem_append_left _ (List.mem_append_right _ h))) (by decide +kernel))
set_option maxRecDepth 20000 in
theorem gX5_writeMoon_X5_requireMoon : GoodIn wsX5_writeMoon (wsV RX5 101 RX5 yX5_requireMoon wsX5_requireMoon) := goodIn_app (goodIn_of _ (by decide +kernel)) ggX5_writeMoon_X5_requireMoon
set_option maxRecDepth 20000 in
theorem ggX5_writeMoon_X4_kindOf : GoodIn wsX5_writeMoon wsX4_kindOf := goodIn_ca (goodIn_r _ [29, 19, 20, 21, 22, 23, 24, 25, 266, 267] (by decide +kernel) (by decide +kernel)) (goodIn_sub (fun _ h => List.mem_cons_of_mem _ (List.mem_append_left _ (List.mem_append_right _ h))) (by decide +kernel))
set_option maxRecDepth 20000 in
theorem gX5_writeMoon_X4_kindOf : GoodIn wsX5_writeMoon (wsV RX5 122 RX4 yX4_kindOf wsX4_kindOf) := goodIn_app (goodIn_of _ (by decide +kernel)) ggX5_writeMoon_X4_kindOf
set_option maxRecDepth 20000 in
theorem ggX5_writeMoon_X4_placeAfter : GoodIn wsX5_writeMoon wsX4_placeAfter := goodIn_ca (goodIn_ca (goodIn_r _ [33, 19, 34, 35, 36, 13, 37, 20, 21, 22, 23, 24, 25, 38, 39, 40, 41, 266, 267] (by decide +kernel) (by decide +kernel)) (goodIn_sub (fun _ h => List.mem_cons_of_mem _ (List.mem_append_right _ h)) (by decide +kernel))) (goodIn_sub (fun _ h => List.mem_cons_of_mem _ (List.mem_append_left _ (List.mem_append_right _ h))) (by decide +kernel))
set_option maxRecDepth 20000 in
theorem gX5_writeMoon_X4_placeAfter : GoodIn wsX5_writeMoon (wsV RX5 112 RX4 yX4_placeAfter wsX4_placeAfter) := goodIn_app (goodIn_of _ (by decide +kernel)) ggX5_writeMoon_X4_placeAfter
set_option maxRecDepth 20000 in
theorem ggX5_writeMoon_J4_setLength_d00df : GoodIn wsX5_writeMoon wsJ4_setLength_d00df := goodIn_r _ [46, 47, 48, 49, 50, 51, 52, 53, 54, 55, 56, 57, 58, 59, 60, 61, 62, 63, 64, 65, 66, 67, 68, 69, 70, 71, 72, 73, 74, 75, 76, 77, 78, 79, 80, 81, 82, 83, 84, 85, 86, 87, 88, 89, 90, 91, 92, 93, 94, 95, 96, 97, 98, 99, 100, 101, 102, 103, 104, 105, 106, 107, 108, 109, 110, 111, 112, 113, 114, 115, 116, 117, 118, 45, 119, 120, 121, 122, 123, 124, 125, 126, 268, 269, 270, 271, 272, 273, 274, 275, 276, 277, 278, 279, 280, 281, 282, 283] (by decide +kernel) (by decide +kernel)
set_option maxRecDepth 20000 in
theorem gX5_writeMoon_J4_setLength_d00df : GoodIn wsX5_writeMoon (wsV RX5 241 RJ4 yJ4_setLength_d00df wsJ4_setLength_d00df) := goodIn_app (goodIn_of _ (by decide +kernel)) ggX5_writeMoon_J4_setLength_d00df
set_option maxRecDepth 20000 in
theorem ggX5_writeMoon_J4_append_cf468 : GoodIn wsX5_writeMoon wsJ4_append_cf468 := goodIn_r _ [130, 131, 132, 49, 133, 51, 134, 56, 57, 59, 60, 61, 62, 63, 64, 65, 66, 67, 68, 69, 70, 71, 72, 73, 74, 75, 76, 77, 78, 79, 80, 81, 82, 83, 84, 85, 86, 87, 88, 89, 90, 91, 92, 93, 94, 95, 96, 97, 98, 99, 100, 101, 102, 103, 104, 105, 106, 135, 136, 109, 137, 138, 139, 140, 141, 142, 143, 144, 124, 145, 146, 147, 148, 149, 150, 151, 152, 153, 154, 155, 156, 157, 158, 159, 160, 161, 162, 163, 164, 165, 166, 167, 168, 169, 170, 171, 172, 173, 174, 175, 176, 177, 178, 179, 180, 181, 182, 183, 184, 185, 186, 187, 188, 274, 275, 276, 277] (by decide +kernel) (by decide +kernel)
set_option maxRecDepth 20000 in
theorem gX5_writeMoon_J4_append_cf468 : GoodIn wsX5_writeMoon (wsV RX5 244 RJ4 yJ4_append_cf468 wsJ4_append_cf468) := goodIn_app (goodIn_of _ (by decide +kernel)) ggX5_writeMoon_J4_append_cf468
set_option maxRecDepth 20000 in
theorem ggX5_writeMoon_X4_massAfter : GoodIn wsX5_writeMoon wsX4_massAfter := goodIn_ca (goodIn_r _ [192, 193, 76, 77, 78, 34, 35, 36, 13, 37, 19, 20, 21, 22, 23, 24, 25, 194, 195, 196, 197, 198, 27, 28, 29, 266, 267] (by decide +kernel) (by decide +kernel)) (goodIn_sub (fun _ h => List.mem_cons_of_mem _ (List.mem_append_left _ (List.mem_append_right _ h))) (by decide +kernel))
set_option maxRecDepth 20000 in
theorem gX5_writeMoon_X4_massAfter : GoodIn wsX5_writeMoon (wsV RX5 116 RX4 yX4_massAfter wsX4_massAfter) := goodIn_app (goodIn_of _ (by decide +kernel)) ggX5_writeMoon_X4_massAfter
set_option maxRecDepth 20000 in
theorem ggX5_writeMoon_J4_append_bf812 : GoodIn wsX5_writeMoon wsJ4_append_bf812 := goodIn_r _ [202, 203, 204, 49, 205, 51, 206, 56, 57, 207, 208, 209, 210, 59, 60, 61, 62, 63, 64, 65, 66, 67, 68, 69, 70, 71, 72, 73, 74, 75, 76, 77, 78, 79, 80, 81, 82, 83, 84, 85, 86, 87, 88, 89, 90, 91, 92, 93, 94, 95, 96, 97, 98, 99, 100, 101, 102, 103, 104, 105, 106, 211, 212, 213, 214, 215, 216, 217, 124, 218, 174, 219, 220, 221, 159, 160, 161, 222, 223, 164, 224, 166, 225, 226, 169, 227, 228, 229, 230, 231, 232, 171, 172, 173, 175, 176, 274, 275, 276, 277] (by decide +kernel) (by decide +kernel)
set_option maxRecDepth 20000 in
theorem gX5_writeMoon_J4_append_bf812 : GoodIn wsX5_writeMoon (wsV RX5 248 RJ4 yJ4_append_bf812 wsJ4_append_bf812) := goodIn_app (goodIn_of _ (by decide +kernel)) ggX5_writeMoon_J4_append_bf812
set_option maxRecDepth 20000 in
theorem ggX5_writeMoon_X4_eclipsesAt : GoodIn wsX5_writeMoon wsX4_eclipsesAt := goodIn_ca (goodIn_r _ [236, 19, 20, 21, 22, 23, 24, 25, 237, 238, 13, 239, 240, 241, 77, 242, 243, 95, 96, 266, 267] (by decide +kernel) (by decide +kernel)) (goodIn_sub (fun _ h => List.mem_cons_of_mem _ (List.mem_append_left _ (List.mem_append_right _ h))) (by decide +kernel))
set_option maxRecDepth 20000 in
theorem gX5_writeMoon_X4_eclipsesAt : GoodIn wsX5_writeMoon (wsV RX5 125 RX4 yX4_eclipsesAt wsX4_eclipsesAt) := goodIn_app (goodIn_of _ (by decide +kernel)) ggX5_writeMoon_X4_eclipsesAt
set_option maxRecDepth 20000 in
theorem ggX5_writeMoon_X5_writeLetter : GoodIn wsX5_writeMoon wsX5_writeLetter := goodIn_r _ [247, 2, 127, 128, 129, 45, 130, 131, 132, 49, 133, 51, 134, 56, 57, 59, 60, 61, 62, 63, 64, 65, 66, 67, 68, 69, 70, 71, 72, 73, 74, 75, 76, 77, 78, 79, 80, 81, 82, 83, 84, 85, 86, 87, 88, 89, 90, 91, 92, 93, 94, 95, 96, 97, 98, 99, 100, 101, 102, 103, 104, 105, 106, 135, 136, 109, 137, 138, 139, 140, 141, 142, 143, 144, 124, 145, 146, 147, 148, 149, 150, 151, 152, 153, 154, 155, 156, 157, 158, 159, 160, 161, 162, 163, 164, 165, 166, 167, 168, 169, 170, 171, 172, 173, 174, 175, 176, 177, 178, 179, 180, 181, 182, 183, 184, 185, 186, 187, 188, 256, 257, 258, 259, 260, 261, 262, 263, 264, 265, 274, 275, 276, 277] (by decide +kernel) (by decide +kernel)
set_option maxRecDepth 20000 in
theorem gX5_writeMoon_X5_writeLetter : GoodIn wsX5_writeMoon (wsV RX5 251 RX5 yX5_writeLetter wsX5_writeLetter) := goodIn_app (goodIn_of _ (by decide +kernel)) ggX5_writeMoon_X5_writeLetter
set_option maxRecDepth 20000 in
theorem ggX5_writeMoon_J4_length_8abf5 : GoodIn wsX5_writeMoon wsJ4_length_8abf5 := goodIn_r _ [251, 252, 253, 49, 254, 51, 255, 56, 274, 275, 276, 277] (by decide +kernel) (by decide +kernel)
set_option maxRecDepth 20000 in
theorem gX5_writeMoon_J4_length_8abf5 : GoodIn wsX5_writeMoon (wsV RX5 258 RJ4 yJ4_length_8abf5 wsJ4_length_8abf5) := goodIn_app (goodIn_of _ (by decide +kernel)) ggX5_writeMoon_J4_length_8abf5
theorem dX5_writeMoon_0 : decode cX5_writeMoon 0 = .ok (.aload_n 0, 1) := by decide +kernel
theorem dX5_writeMoon_1 : decode cX5_writeMoon 1 = .ok (.iload_n 1, 1) := by decide +kernel
theorem dX5_writeMoon_2 : decode cX5_writeMoon 2 = .ok (.invokevirtual 101, 3) := by decide +kernel
theorem dX5_writeMoon_5 : decode cX5_writeMoon 5 = .ok (.aload_n 0, 1) := by decide +kernel
theorem dX5_writeMoon_6 : decode cX5_writeMoon 6 = .ok (.getfield 10, 3) := by decide +kernel
theorem dX5_writeMoon_9 : decode cX5_writeMoon 9 = .ok (.iload_n 1, 1) := by decide +kernel
theorem dX5_writeMoon_10 : decode cX5_writeMoon 10 = .ok (.invokevirtual 122, 3) := by decide +kernel
theorem dX5_writeMoon_13 : decode cX5_writeMoon 13 = .ok (.istore_n 2, 1) := by decide +kernel
theorem dX5_writeMoon_14 : decode cX5_writeMoon 14 = .ok (.aload_n 0, 1) := by decide +kernel
theorem dX5_writeMoon_15 : decode cX5_writeMoon 15 = .ok (.getfield 10, 3) := by decide +kernel
theorem dX5_writeMoon_18 : decode cX5_writeMoon 18 = .ok (.iload_n 1, 1) := by decide +kernel
theorem dX5_writeMoon_19 : decode cX5_writeMoon 19 = .ok (.iconst 0, 1) := by decide +kernel
theorem dX5_writeMoon_20 : decode cX5_writeMoon 20 = .ok (.invokevirtual 112, 3) := by decide +kernel
theorem dX5_writeMoon_23 : decode cX5_writeMoon 23 = .ok (.istore_n 3, 1) := by decide +kernel
theorem dX5_writeMoon_24 : decode cX5_writeMoon 24 = .ok (.aload_n 0, 1) := by decide +kernel
theorem dX5_writeMoon_25 : decode cX5_writeMoon 25 = .ok (.getfield 40, 3) := by decide +kernel
theorem dX5_writeMoon_28 : decode cX5_writeMoon 28 = .ok (.iconst 0, 1) := by decide +kernel
theorem dX5_writeMoon_29 : decode cX5_writeMoon 29 = .ok (.invokevirtual 241, 3) := by decide +kernel
theorem dX5_writeMoon_32 : decode cX5_writeMoon 32 = .ok (.aload_n 0, 1) := by decide +kernel
theorem dX5_writeMoon_33 : decode cX5_writeMoon 33 = .ok (.getfield 40, 3) := by decide +kernel
theorem dX5_writeMoon_36 : decode cX5_writeMoon 36 = .ok (.iload_n 2, 1) := by decide +kernel
theorem dX5_writeMoon_37 : decode cX5_writeMoon 37 = .ok (.ifCond .ne 8, 3) := by decide +kernel
theorem dX5_writeMoon_40 : decode cX5_writeMoon 40 = .ok (.bipush 104, 2) := by decide +kernel
theorem dX5_writeMoon_42 : decode cX5_writeMoon 42 = .ok (.goto 15, 3) := by decide +kernel
theorem dX5_writeMoon_45 : decode cX5_writeMoon 45 = .ok (.iload_n 2, 1) := by decide +kernel
theorem dX5_writeMoon_46 : decode cX5_writeMoon 46 = .ok (.iconst 1, 1) := by decide +kernel
theorem dX5_writeMoon_47 : decode cX5_writeMoon 47 = .ok (.if_icmp .ne 8, 3) := by decide +kernel
theorem dX5_writeMoon_50 : decode cX5_writeMoon 50 = .ok (.bipush 115, 2) := by decide +kernel
theorem dX5_writeMoon_52 : decode cX5_writeMoon 52 = .ok (.goto 5, 3) := by decide +kernel
theorem dX5_writeMoon_55 : decode cX5_writeMoon 55 = .ok (.bipush 98, 2) := by decide +kernel
theorem dX5_writeMoon_57 : decode cX5_writeMoon 57 = .ok (.invokevirtual 244, 3) := by decide +kernel
theorem dX5_writeMoon_60 : decode cX5_writeMoon 60 = .ok (.pop, 1) := by decide +kernel
theorem dX5_writeMoon_61 : decode cX5_writeMoon 61 = .ok (.aload_n 0, 1) := by decide +kernel
theorem dX5_writeMoon_62 : decode cX5_writeMoon 62 = .ok (.getfield 40, 3) := by decide +kernel
theorem dX5_writeMoon_65 : decode cX5_writeMoon 65 = .ok (.aload_n 0, 1) := by decide +kernel
theorem dX5_writeMoon_66 : decode cX5_writeMoon 66 = .ok (.getfield 10, 3) := by decide +kernel
theorem dX5_writeMoon_69 : decode cX5_writeMoon 69 = .ok (.iload_n 1, 1) := by decide +kernel
theorem dX5_writeMoon_70 : decode cX5_writeMoon 70 = .ok (.iconst 0, 1) := by decide +kernel
theorem dX5_writeMoon_71 : decode cX5_writeMoon 71 = .ok (.invokevirtual 116, 3) := by decide +kernel
theorem dX5_writeMoon_74 : decode cX5_writeMoon 74 = .ok (.invokevirtual 248, 3) := by decide +kernel
theorem dX5_writeMoon_77 : decode cX5_writeMoon 77 = .ok (.pop, 1) := by decide +kernel
theorem dX5_writeMoon_78 : decode cX5_writeMoon 78 = .ok (.aload_n 0, 1) := by decide +kernel
theorem dX5_writeMoon_79 : decode cX5_writeMoon 79 = .ok (.getfield 40, 3) := by decide +kernel
theorem dX5_writeMoon_82 : decode cX5_writeMoon 82 = .ok (.bipush 64, 2) := by decide +kernel
theorem dX5_writeMoon_84 : decode cX5_writeMoon 84 = .ok (.invokevirtual 244, 3) := by decide +kernel
theorem dX5_writeMoon_87 : decode cX5_writeMoon 87 = .ok (.pop, 1) := by decide +kernel
theorem dX5_writeMoon_88 : decode cX5_writeMoon 88 = .ok (.aload_n 0, 1) := by decide +kernel
theorem dX5_writeMoon_89 : decode cX5_writeMoon 89 = .ok (.getfield 40, 3) := by decide +kernel
theorem dX5_writeMoon_92 : decode cX5_writeMoon 92 = .ok (.iload_n 3, 1) := by decide +kernel
theorem dX5_writeMoon_93 : decode cX5_writeMoon 93 = .ok (.invokevirtual 248, 3) := by decide +kernel
theorem dX5_writeMoon_96 : decode cX5_writeMoon 96 = .ok (.pop, 1) := by decide +kernel
theorem dX5_writeMoon_97 : decode cX5_writeMoon 97 = .ok (.aload_n 0, 1) := by decide +kernel
theorem dX5_writeMoon_98 : decode cX5_writeMoon 98 = .ok (.aload_n 0, 1) := by decide +kernel
theorem dX5_writeMoon_99 : decode cX5_writeMoon 99 = .ok (.getfield 10, 3) := by decide +kernel
theorem dX5_writeMoon_102 : decode cX5_writeMoon 102 = .ok (.iload_n 3, 1) := by decide +kernel
theorem dX5_writeMoon_103 : decode cX5_writeMoon 103 = .ok (.invokevirtual 125, 3) := by decide +kernel
theorem dX5_writeMoon_106 : decode cX5_writeMoon 106 = .ok (.bipush 33, 2) := by decide +kernel
theorem dX5_writeMoon_108 : decode cX5_writeMoon 108 = .ok (.invokevirtual 251, 3) := by decide +kernel
theorem dX5_writeMoon_111 : decode cX5_writeMoon 111 = .ok (.aload_n 0, 1) := by decide +kernel
theorem dX5_writeMoon_112 : decode cX5_writeMoon 112 = .ok (.getfield 40, 3) := by decide +kernel
theorem dX5_writeMoon_115 : decode cX5_writeMoon 115 = .ok (.invokevirtual 258, 3) := by decide +kernel
theorem dX5_writeMoon_118 : decode cX5_writeMoon 118 = .ok (.ireturn, 1) := by decide +kernel
set_option maxRecDepth 20000 in
theorem ggX5_writeLetter_J4_append_cf468 : GoodIn wsX5_writeLetter wsJ4_append_cf468 := goodIn_r _ [6, 7, 8, 9, 10, 11, 12, 13, 14, 15, 16, 17, 18, 19, 20, 21, 22, 23, 24, 25, 26, 27, 28, 29, 30, 31, 32, 33, 34, 35, 36, 37, 38, 39, 40, 41, 42, 43, 44, 45, 46, 47, 48, 49, 50, 51, 52, 53, 54, 55, 56, 57, 58, 59, 60, 61, 62, 63, 64, 65, 66, 67, 68, 69, 70, 71, 72, 73, 74, 75, 76, 77, 78, 79, 80, 81, 82, 83, 84, 85, 86, 87, 88, 89, 90, 91, 92, 93, 94, 95, 96, 97, 98, 99, 100, 101, 102, 103, 104, 105, 106, 107, 108, 109, 110, 111, 112, 113, 114, 115, 116, 117, 118, 129, 130, 131, 132] (by decide +kernel) (by decide +kernel)
set_option maxRecDepth 20000 in
theorem gX5_writeLetter_J4_append_cf468 : GoodIn wsX5_writeLetter (wsV RX5 244 RJ4 yJ4_append_cf468 wsJ4_append_cf468) := goodIn_app (goodIn_of _ (by decide +kernel)) ggX5_writeLetter_J4_append_cf468
theorem dX5_writeLetter_0 : decode cX5_writeLetter 0 = .ok (.iload_n 1, 1) := by decide +kernel
theorem dX5_writeLetter_1 : decode cX5_writeLetter 1 = .ok (.ifCond .eq 12, 3) := by decide +kernel
theorem dX5_writeLetter_4 : decode cX5_writeLetter 4 = .ok (.aload_n 0, 1) := by decide +kernel
theorem dX5_writeLetter_5 : decode cX5_writeLetter 5 = .ok (.getfield 40, 3) := by decide +kernel
theorem dX5_writeLetter_8 : decode cX5_writeLetter 8 = .ok (.iload_n 2, 1) := by decide +kernel
theorem dX5_writeLetter_9 : decode cX5_writeLetter 9 = .ok (.invokevirtual 244, 3) := by decide +kernel
theorem dX5_writeLetter_12 : decode cX5_writeLetter 12 = .ok (.pop, 1) := by decide +kernel
theorem dX5_writeLetter_13 : decode cX5_writeLetter 13 = .ok (.return_, 1) := by decide +kernel
set_option maxRecDepth 20000 in
theorem ggX5_lineAt_J4_length_8abf5 : GoodIn wsX5_lineAt wsJ4_length_8abf5 := goodIn_r _ [8, 9, 10, 11, 12, 13, 14, 15, 59, 60, 61, 62] (by decide +kernel) (by decide +kernel)
set_option maxRecDepth 20000 in
theorem gX5_lineAt_J4_length_8abf5 : GoodIn wsX5_lineAt (wsV RX5 258 RJ4 yJ4_length_8abf5 wsJ4_length_8abf5) := goodIn_app (goodIn_of _ (by decide +kernel)) ggX5_lineAt_J4_length_8abf5
set_option maxRecDepth 20000 in
theorem ggX5_lineAt_J4_charAt_5068e : GoodIn wsX5_lineAt wsJ4_charAt_5068e := goodIn_r _ [19, 20, 21, 11, 22, 13, 23, 24, 25, 15, 26, 27, 28, 29, 30, 31, 32, 33, 34, 35, 36, 37, 38, 39, 40, 41, 42, 43, 44, 45, 46, 47, 48, 59, 60, 61, 62] (by decide +kernel) (by decide +kernel)
set_option maxRecDepth 20000 in
theorem gX5_lineAt_J4_charAt_5068e : GoodIn wsX5_lineAt (wsV RX5 266 RJ4 yJ4_charAt_5068e wsJ4_charAt_5068e) := goodIn_app (goodIn_of _ (by decide +kernel)) ggX5_lineAt_J4_charAt_5068e
theorem dX5_lineAt_0 : decode cX5_lineAt 0 = .ok (.iload_n 1, 1) := by decide +kernel
theorem dX5_lineAt_1 : decode cX5_lineAt 1 = .ok (.ifCond .lt 14, 3) := by decide +kernel
theorem dX5_lineAt_4 : decode cX5_lineAt 4 = .ok (.iload_n 1, 1) := by decide +kernel
theorem dX5_lineAt_5 : decode cX5_lineAt 5 = .ok (.aload_n 0, 1) := by decide +kernel
theorem dX5_lineAt_6 : decode cX5_lineAt 6 = .ok (.getfield 40, 3) := by decide +kernel
theorem dX5_lineAt_9 : decode cX5_lineAt 9 = .ok (.invokevirtual 258, 3) := by decide +kernel
theorem dX5_lineAt_12 : decode cX5_lineAt 12 = .ok (.if_icmp .lt 14, 3) := by decide +kernel
theorem dX5_lineAt_15 : decode cX5_lineAt 15 = .ok (.new 261, 3) := by decide +kernel
theorem dX5_lineAt_18 : decode cX5_lineAt 18 = .ok (.dup, 1) := by decide +kernel
theorem dX5_lineAt_19 : decode cX5_lineAt 19 = .ok (.ldc_w 263, 3) := by decide +kernel
theorem dX5_lineAt_22 : decode cX5_lineAt 22 = .ok (.invokespecial 265, 3) := by decide +kernel
theorem dX5_lineAt_25 : decode cX5_lineAt 25 = .ok (.athrow, 1) := by decide +kernel
theorem dX5_lineAt_26 : decode cX5_lineAt 26 = .ok (.aload_n 0, 1) := by decide +kernel
theorem dX5_lineAt_27 : decode cX5_lineAt 27 = .ok (.getfield 40, 3) := by decide +kernel
theorem dX5_lineAt_30 : decode cX5_lineAt 30 = .ok (.iload_n 1, 1) := by decide +kernel
theorem dX5_lineAt_31 : decode cX5_lineAt 31 = .ok (.invokevirtual 266, 3) := by decide +kernel
theorem dX5_lineAt_34 : decode cX5_lineAt 34 = .ok (.ireturn, 1) := by decide +kernel
set_option maxRecDepth 20000 in
theorem ggX5_meanLevel_X4_level : GoodIn wsX5_meanLevel wsX4_level := goodIn_ca (goodIn_ca (goodIn_r _ [7, 8, 9, 10, 11, 12, 13, 14, 15, 16, 17, 18, 19, 20, 21, 6, 22, 23, 24, 25, 26, 27, 28, 29, 30, 31, 32, 33, 34, 35, 36, 37, 38, 39, 40, 41, 42, 43, 44, 45, 46, 47, 48, 49, 50, 51, 52, 53, 54, 55, 56, 57, 58, 59, 60, 61, 62, 63, 64, 65, 66, 67, 68, 69, 70, 71, 72, 73, 74, 75, 76, 77, 78, 89, 90] (by decide +kernel) (by decide +kernel)) (goodIn_sub (fun _ h => List.mem_cons_of_mem _ (List.mem_append_left _ (List.mem_append_right _ h))) (by decide +kernel))) (goodIn_sub (fun _ h => List.mem_cons_of_mem _ (List.mem_append_right _ h)) (by decide +kernel))
set_option maxRecDepth 20000 in
theorem gX5_meanLevel_X4_level : GoodIn wsX5_meanLevel (wsV RX5 212 RX4 yX4_level wsX4_level) := goodIn_app (goodIn_of _ (by decide +kernel)) ggX5_meanLevel_X4_level
theorem dX5_meanLevel_0 : decode cX5_meanLevel 0 = .ok (.iconst 0, 1) := by decide +kernel
theorem dX5_meanLevel_1 : decode cX5_meanLevel 1 = .ok (.istore_n 1, 1) := by decide +kernel
theorem dX5_meanLevel_2 : decode cX5_meanLevel 2 = .ok (.iconst 0, 1) := by decide +kernel
theorem dX5_meanLevel_3 : decode cX5_meanLevel 3 = .ok (.istore_n 2, 1) := by decide +kernel
theorem dX5_meanLevel_4 : decode cX5_meanLevel 4 = .ok (.iload_n 2, 1) := by decide +kernel
theorem dX5_meanLevel_5 : decode cX5_meanLevel 5 = .ok (.bipush 12, 2) := by decide +kernel
theorem dX5_meanLevel_7 : decode cX5_meanLevel 7 = .ok (.if_icmp .ge 20, 3) := by decide +kernel
theorem dX5_meanLevel_10 : decode cX5_meanLevel 10 = .ok (.iload_n 1, 1) := by decide +kernel
theorem dX5_meanLevel_11 : decode cX5_meanLevel 11 = .ok (.aload_n 0, 1) := by decide +kernel
theorem dX5_meanLevel_12 : decode cX5_meanLevel 12 = .ok (.getfield 10, 3) := by decide +kernel
theorem dX5_meanLevel_15 : decode cX5_meanLevel 15 = .ok (.iload_n 2, 1) := by decide +kernel
theorem dX5_meanLevel_16 : decode cX5_meanLevel 16 = .ok (.invokevirtual 212, 3) := by decide +kernel
theorem dX5_meanLevel_19 : decode cX5_meanLevel 19 = .ok (.iadd, 1) := by decide +kernel
theorem dX5_meanLevel_20 : decode cX5_meanLevel 20 = .ok (.istore_n 1, 1) := by decide +kernel
theorem dX5_meanLevel_21 : decode cX5_meanLevel 21 = .ok (.iinc 2 1, 3) := by decide +kernel
theorem dX5_meanLevel_24 : decode cX5_meanLevel 24 = .ok (.goto (-20), 3) := by decide +kernel
theorem dX5_meanLevel_27 : decode cX5_meanLevel 27 = .ok (.iload_n 1, 1) := by decide +kernel
theorem dX5_meanLevel_28 : decode cX5_meanLevel 28 = .ok (.i2d, 1) := by decide +kernel
theorem dX5_meanLevel_29 : decode cX5_meanLevel 29 = .ok (.ldc2_w 270, 3) := by decide +kernel
theorem dX5_meanLevel_32 : decode cX5_meanLevel 32 = .ok (.ddiv, 1) := by decide +kernel
theorem dX5_meanLevel_33 : decode cX5_meanLevel 33 = .ok (.dreturn, 1) := by decide +kernel
set_option maxRecDepth 20000 in
theorem ggX5_eclipsedShare_X4_moons : GoodIn wsX5_eclipsedShare wsX4_moons := goodIn_ca (goodIn_r _ [8, 9, 10, 11, 12, 13, 14, 15, 52, 53] (by decide +kernel) (by decide +kernel)) (goodIn_sub (fun _ h => List.mem_cons_of_mem _ (List.mem_append_left _ (List.mem_append_right _ h))) (by decide +kernel))
set_option maxRecDepth 20000 in
theorem gX5_eclipsedShare_X4_moons : GoodIn wsX5_eclipsedShare (wsV RX5 108 RX4 yX4_moons wsX4_moons) := goodIn_app (goodIn_of _ (by decide +kernel)) ggX5_eclipsedShare_X4_moons
set_option maxRecDepth 20000 in
theorem ggX5_eclipsedShare_X4_placeAfter : GoodIn wsX5_eclipsedShare wsX4_placeAfter := goodIn_ca (goodIn_ca (goodIn_r _ [19, 9, 20, 21, 22, 7, 23, 10, 11, 12, 13, 14, 15, 24, 25, 26, 27, 52, 53] (by decide +kernel) (by decide +kernel)) (goodIn_sub (fun _ h => List.mem_cons_of_mem _ (List.mem_append_right _ h)) (by decide +kernel))) (goodIn_sub (fun _ h => List.mem_cons_of_mem _ (List.mem_append_left _ (List.mem_append_right _ h))) (by decide +kernel))
set_option maxRecDepth 20000 in
theorem gX5_eclipsedShare_X4_placeAfter : GoodIn wsX5_eclipsedShare (wsV RX5 112 RX4 yX4_placeAfter wsX4_placeAfter) := goodIn_app (goodIn_of _ (by decide +kernel)) ggX5_eclipsedShare_X4_placeAfter
set_option maxRecDepth 20000 in
theorem ggX5_eclipsedShare_X4_eclipsesAt : GoodIn wsX5_eclipsedShare wsX4_eclipsesAt := goodIn_ca (goodIn_r _ [31, 9, 10, 11, 12, 13, 14, 15, 32, 33, 7, 34, 35, 36, 37, 38, 39, 40, 41, 52, 53] (by decide +kernel) (by decide +kernel)) (goodIn_sub (fun _ h => List.mem_cons_of_mem _ (List.mem_append_left _ (List.mem_append_right _ h))) (by decide +kernel))
set_option maxRecDepth 20000 in
theorem gX5_eclipsedShare_X4_eclipsesAt : GoodIn wsX5_eclipsedShare (wsV RX5 125 RX4 yX4_eclipsesAt wsX4_eclipsesAt) := goodIn_app (goodIn_of _ (by decide +kernel)) ggX5_eclipsedShare_X4_eclipsesAt
theorem dX5_eclipsedShare_0 : decode cX5_eclipsedShare 0 = .ok (.aload_n 0, 1) := by decide +kernel
theorem dX5_eclipsedShare_1 : decode cX5_eclipsedShare 1 = .ok (.getfield 10, 3) := by decide +kernel
theorem dX5_eclipsedShare_4 : decode cX5_eclipsedShare 4 = .ok (.invokevirtual 108, 3) := by decide +kernel
theorem dX5_eclipsedShare_7 : decode cX5_eclipsedShare 7 = .ok (.istore_n 1, 1) := by decide +kernel
theorem dX5_eclipsedShare_8 : decode cX5_eclipsedShare 8 = .ok (.iload_n 1, 1) := by decide +kernel
theorem dX5_eclipsedShare_9 : decode cX5_eclipsedShare 9 = .ok (.ifCond .ne 14, 3) := by decide +kernel
theorem dX5_eclipsedShare_12 : decode cX5_eclipsedShare 12 = .ok (.new 272, 3) := by decide +kernel
theorem dX5_eclipsedShare_15 : decode cX5_eclipsedShare 15 = .ok (.dup, 1) := by decide +kernel
theorem dX5_eclipsedShare_16 : decode cX5_eclipsedShare 16 = .ok (.ldc_w 274, 3) := by decide +kernel
theorem dX5_eclipsedShare_19 : decode cX5_eclipsedShare 19 = .ok (.invokespecial 276, 3) := by decide +kernel
theorem dX5_eclipsedShare_22 : decode cX5_eclipsedShare 22 = .ok (.athrow, 1) := by decide +kernel
theorem dX5_eclipsedShare_23 : decode cX5_eclipsedShare 23 = .ok (.iconst 0, 1) := by decide +kernel
theorem dX5_eclipsedShare_24 : decode cX5_eclipsedShare 24 = .ok (.istore_n 2, 1) := by decide +kernel
theorem dX5_eclipsedShare_25 : decode cX5_eclipsedShare 25 = .ok (.iconst 0, 1) := by decide +kernel
theorem dX5_eclipsedShare_26 : decode cX5_eclipsedShare 26 = .ok (.istore_n 3, 1) := by decide +kernel
theorem dX5_eclipsedShare_27 : decode cX5_eclipsedShare 27 = .ok (.iload_n 3, 1) := by decide +kernel
theorem dX5_eclipsedShare_28 : decode cX5_eclipsedShare 28 = .ok (.iload_n 1, 1) := by decide +kernel
theorem dX5_eclipsedShare_29 : decode cX5_eclipsedShare 29 = .ok (.if_icmp .ge 31, 3) := by decide +kernel
theorem dX5_eclipsedShare_32 : decode cX5_eclipsedShare 32 = .ok (.aload_n 0, 1) := by decide +kernel
theorem dX5_eclipsedShare_33 : decode cX5_eclipsedShare 33 = .ok (.getfield 10, 3) := by decide +kernel
theorem dX5_eclipsedShare_36 : decode cX5_eclipsedShare 36 = .ok (.aload_n 0, 1) := by decide +kernel
theorem dX5_eclipsedShare_37 : decode cX5_eclipsedShare 37 = .ok (.getfield 10, 3) := by decide +kernel
theorem dX5_eclipsedShare_40 : decode cX5_eclipsedShare 40 = .ok (.iload_n 3, 1) := by decide +kernel
theorem dX5_eclipsedShare_41 : decode cX5_eclipsedShare 41 = .ok (.iconst 0, 1) := by decide +kernel
theorem dX5_eclipsedShare_42 : decode cX5_eclipsedShare 42 = .ok (.invokevirtual 112, 3) := by decide +kernel
theorem dX5_eclipsedShare_45 : decode cX5_eclipsedShare 45 = .ok (.invokevirtual 125, 3) := by decide +kernel
theorem dX5_eclipsedShare_48 : decode cX5_eclipsedShare 48 = .ok (.ifCond .eq 6, 3) := by decide +kernel
theorem dX5_eclipsedShare_51 : decode cX5_eclipsedShare 51 = .ok (.iinc 2 1, 3) := by decide +kernel
theorem dX5_eclipsedShare_54 : decode cX5_eclipsedShare 54 = .ok (.iinc 3 1, 3) := by decide +kernel
theorem dX5_eclipsedShare_57 : decode cX5_eclipsedShare 57 = .ok (.goto (-30), 3) := by decide +kernel
theorem dX5_eclipsedShare_60 : decode cX5_eclipsedShare 60 = .ok (.iload_n 2, 1) := by decide +kernel
theorem dX5_eclipsedShare_61 : decode cX5_eclipsedShare 61 = .ok (.i2f, 1) := by decide +kernel
theorem dX5_eclipsedShare_62 : decode cX5_eclipsedShare 62 = .ok (.iload_n 1, 1) := by decide +kernel
theorem dX5_eclipsedShare_63 : decode cX5_eclipsedShare 63 = .ok (.i2f, 1) := by decide +kernel
theorem dX5_eclipsedShare_64 : decode cX5_eclipsedShare 64 = .ok (.fdiv, 1) := by decide +kernel
theorem dX5_eclipsedShare_65 : decode cX5_eclipsedShare 65 = .ok (.freturn, 1) := by decide +kernel
set_option maxRecDepth 20000 in
theorem ggX5_isBalanced_X4_keepsWater : GoodIn wsX5_isBalanced wsX4_keepsWater := goodIn_ca (goodIn_r _ [7, 8, 9, 10, 11, 12, 13, 14, 15, 16, 17, 6, 18, 19, 20, 21, 22, 133, 134] (by decide +kernel) (by decide +kernel)) (goodIn_sub (fun _ h => List.mem_cons_of_mem _ (List.mem_append_left _ (List.mem_append_right _ h))) (by decide +kernel))
set_option maxRecDepth 20000 in
theorem gX5_isBalanced_X4_keepsWater : GoodIn wsX5_isBalanced (wsV RX5 277 RX4 yX4_keepsWater wsX4_keepsWater) := goodIn_app (goodIn_of _ (by decide +kernel)) ggX5_isBalanced_X4_keepsWater
set_option maxRecDepth 20000 in
theorem ggX5_isBalanced_X0_agreesIn : GoodIn wsX5_isBalanced wsX0_agreesIn := goodIn_ca (goodIn_ca (goodIn_r _ [27, 28, 29, 30, 6, 31, 32, 33, 34, 35, 8, 9, 10, 11, 12, 13, 14, 36, 37, 38, 39, 40, 41, 42, 43, 44, 45, 46, 47, 48, 49, 50, 51, 52, 53, 54, 55, 56, 57, 58, 59, 60, 61, 62, 63, 64, 65, 66, 67, 68, 69, 70, 71, 72, 73, 74, 75, 76, 77, 78, 79, 80, 81, 82, 83, 84, 85, 86, 87, 88, 89, 90, 91, 92, 93, 94, 26, 95, 96, 97, 98, 99, 100, 101, 102, 103, 104, 105, 106, 107, 108, 109, 110, 111, 112, 113, 114, 115, 116, 117, 118, 119, 120, 121, 122, 133, 134, 135, 136, 137] (by decide +kernel) (by decide +kernel)) (goodIn_sub (fun _ h => List.mem_cons_of_mem _ (List.mem_append_left _ (List.mem_append_right _ h))) (by decide +kernel))) (goodIn_sub (fun _ h => List.mem_cons_of_mem _ (List.mem_append_right _ h)) (by decide +kernel))
set_option maxRecDepth 20000 in
theorem gX5_isBalanced_X0_agreesIn : GoodIn wsX5_isBalanced (wsV RX5 280 RX0 yX0_agreesIn wsX0_agreesIn) := goodIn_app (goodIn_of _ (by decide +kernel)) ggX5_isBalanced_X0_agreesIn
theorem dX5_isBalanced_0 : decode cX5_isBalanced 0 = .ok (.aload_n 0, 1) := by decide +kernel
theorem dX5_isBalanced_1 : decode cX5_isBalanced 1 = .ok (.getfield 10, 3) := by decide +kernel
theorem dX5_isBalanced_4 : decode cX5_isBalanced 4 = .ok (.invokevirtual 277, 3) := by decide +kernel
theorem dX5_isBalanced_7 : decode cX5_isBalanced 7 = .ok (.ifCond .eq 68, 3) := by decide +kernel
theorem dX5_isBalanced_10 : decode cX5_isBalanced 10 = .ok (.aload_n 0, 1) := by decide +kernel
theorem dX5_isBalanced_11 : decode cX5_isBalanced 11 = .ok (.getfield 19, 3) := by decide +kernel
theorem dX5_isBalanced_14 : decode cX5_isBalanced 14 = .ok (.aload_n 0, 1) := by decide +kernel
theorem dX5_isBalanced_15 : decode cX5_isBalanced 15 = .ok (.getfield 10, 3) := by decide +kernel
theorem dX5_isBalanced_18 : decode cX5_isBalanced 18 = .ok (.iconst 0, 1) := by decide +kernel
theorem dX5_isBalanced_19 : decode cX5_isBalanced 19 = .ok (.invokevirtual 280, 3) := by decide +kernel
theorem dX5_isBalanced_22 : decode cX5_isBalanced 22 = .ok (.ifCond .eq 53, 3) := by decide +kernel
theorem dX5_isBalanced_25 : decode cX5_isBalanced 25 = .ok (.aload_n 0, 1) := by decide +kernel
theorem dX5_isBalanced_26 : decode cX5_isBalanced 26 = .ok (.getfield 19, 3) := by decide +kernel
theorem dX5_isBalanced_29 : decode cX5_isBalanced 29 = .ok (.aload_n 0, 1) := by decide +kernel
theorem dX5_isBalanced_30 : decode cX5_isBalanced 30 = .ok (.getfield 10, 3) := by decide +kernel
theorem dX5_isBalanced_33 : decode cX5_isBalanced 33 = .ok (.iconst 1, 1) := by decide +kernel
theorem dX5_isBalanced_34 : decode cX5_isBalanced 34 = .ok (.invokevirtual 280, 3) := by decide +kernel
theorem dX5_isBalanced_37 : decode cX5_isBalanced 37 = .ok (.ifCond .eq 38, 3) := by decide +kernel
theorem dX5_isBalanced_40 : decode cX5_isBalanced 40 = .ok (.aload_n 0, 1) := by decide +kernel
theorem dX5_isBalanced_41 : decode cX5_isBalanced 41 = .ok (.getfield 19, 3) := by decide +kernel
theorem dX5_isBalanced_44 : decode cX5_isBalanced 44 = .ok (.aload_n 0, 1) := by decide +kernel
theorem dX5_isBalanced_45 : decode cX5_isBalanced 45 = .ok (.getfield 10, 3) := by decide +kernel
theorem dX5_isBalanced_48 : decode cX5_isBalanced 48 = .ok (.iconst 5, 1) := by decide +kernel
theorem dX5_isBalanced_49 : decode cX5_isBalanced 49 = .ok (.invokevirtual 280, 3) := by decide +kernel
theorem dX5_isBalanced_52 : decode cX5_isBalanced 52 = .ok (.ifCond .eq 23, 3) := by decide +kernel
theorem dX5_isBalanced_55 : decode cX5_isBalanced 55 = .ok (.aload_n 0, 1) := by decide +kernel
theorem dX5_isBalanced_56 : decode cX5_isBalanced 56 = .ok (.getfield 19, 3) := by decide +kernel
theorem dX5_isBalanced_59 : decode cX5_isBalanced 59 = .ok (.aload_n 0, 1) := by decide +kernel
theorem dX5_isBalanced_60 : decode cX5_isBalanced 60 = .ok (.getfield 10, 3) := by decide +kernel
theorem dX5_isBalanced_63 : decode cX5_isBalanced 63 = .ok (.bipush 20, 2) := by decide +kernel
theorem dX5_isBalanced_65 : decode cX5_isBalanced 65 = .ok (.invokevirtual 280, 3) := by decide +kernel
theorem dX5_isBalanced_68 : decode cX5_isBalanced 68 = .ok (.ifCond .eq 7, 3) := by decide +kernel
theorem dX5_isBalanced_71 : decode cX5_isBalanced 71 = .ok (.iconst 1, 1) := by decide +kernel
theorem dX5_isBalanced_72 : decode cX5_isBalanced 72 = .ok (.goto 4, 3) := by decide +kernel
theorem dX5_isBalanced_75 : decode cX5_isBalanced 75 = .ok (.iconst 0, 1) := by decide +kernel
theorem dX5_isBalanced_76 : decode cX5_isBalanced 76 = .ok (.ireturn, 1) := by decide +kernel
set_option maxRecDepth 20000 in
theorem ggX5_type_X3_length : GoodIn wsX5_type wsX3_length := goodIn_r _ [10, 11, 12, 13, 14, 15, 16, 17, 18, 19, 20, 21, 22, 23, 151, 152, 153, 154, 155, 156, 157, 158, 159] (by decide +kernel) (by decide +kernel)
set_option maxRecDepth 20000 in
theorem gX5_type_X3_length : GoodIn wsX5_type (wsV RX5 286 RX3 yX3_length wsX3_length) := goodIn_app (goodIn_of _ (by decide +kernel)) ggX5_type_X3_length
set_option maxRecDepth 20000 in
theorem ggX5_type_X3_append : GoodIn wsX5_type wsX3_append := goodIn_r _ [27, 11, 28, 29, 30, 15, 31, 32, 33, 19, 34, 21, 35, 23, 36, 37, 38, 39, 40, 41, 42, 43, 44, 45, 46, 47, 48, 49, 50, 51, 52, 53, 54, 55, 56, 57, 58, 59, 60, 61, 62, 63, 64, 65, 66, 67, 68, 69, 70, 71, 72, 73, 74, 75, 76, 77, 78, 79, 80, 81, 82, 83, 84, 85, 86, 87, 88, 89, 90, 91, 92, 93, 94, 95, 96, 97, 98, 99, 100, 101, 102, 103, 104, 105, 106, 107, 108, 109, 110, 111, 112, 113, 114, 115, 116, 117, 118, 119, 120, 121, 122, 123, 124, 125, 126, 127, 128, 129, 130, 131, 132, 133, 134, 135, 136, 137, 138, 139, 140, 12, 13, 14, 16, 17, 18, 20, 22, 151, 152, 153, 154, 155, 156, 157, 158, 159] (by decide +kernel) (by decide +kernel)
set_option maxRecDepth 20000 in
theorem gX5_type_X3_append : GoodIn wsX5_type (wsV RX5 289 RX3 yX3_append wsX3_append) := goodIn_app (goodIn_of _ (by decide +kernel)) ggX5_type_X3_append
theorem dX5_type_0 : decode cX5_type 0 = .ok (.iload_n 1, 1) := by decide +kernel
theorem dX5_type_1 : decode cX5_type 1 = .ok (.bipush 32, 2) := by decide +kernel
theorem dX5_type_3 : decode cX5_type 3 = .ok (.if_icmp .lt 9, 3) := by decide +kernel
theorem dX5_type_6 : decode cX5_type 6 = .ok (.iload_n 1, 1) := by decide +kernel
theorem dX5_type_7 : decode cX5_type 7 = .ok (.bipush 126, 2) := by decide +kernel
theorem dX5_type_9 : decode cX5_type 9 = .ok (.if_icmp .le 14, 3) := by decide +kernel
theorem dX5_type_12 : decode cX5_type 12 = .ok (.new 75, 3) := by decide +kernel
theorem dX5_type_15 : decode cX5_type 15 = .ok (.dup, 1) := by decide +kernel
theorem dX5_type_16 : decode cX5_type 16 = .ok (.ldc_w 284, 3) := by decide +kernel
theorem dX5_type_19 : decode cX5_type 19 = .ok (.invokespecial 79, 3) := by decide +kernel
theorem dX5_type_22 : decode cX5_type 22 = .ok (.athrow, 1) := by decide +kernel
theorem dX5_type_23 : decode cX5_type 23 = .ok (.aload_n 0, 1) := by decide +kernel
theorem dX5_type_24 : decode cX5_type 24 = .ok (.getfield 33, 3) := by decide +kernel
theorem dX5_type_27 : decode cX5_type 27 = .ok (.invokevirtual 286, 3) := by decide +kernel
theorem dX5_type_30 : decode cX5_type 30 = .ok (.bipush 60, 2) := by decide +kernel
theorem dX5_type_32 : decode cX5_type 32 = .ok (.if_icmp .lt 14, 3) := by decide +kernel
theorem dX5_type_35 : decode cX5_type 35 = .ok (.new 86, 3) := by decide +kernel
theorem dX5_type_38 : decode cX5_type 38 = .ok (.dup, 1) := by decide +kernel
theorem dX5_type_39 : decode cX5_type 39 = .ok (.ldc_w 287, 3) := by decide +kernel
theorem dX5_type_42 : decode cX5_type 42 = .ok (.invokespecial 90, 3) := by decide +kernel
theorem dX5_type_45 : decode cX5_type 45 = .ok (.athrow, 1) := by decide +kernel
theorem dX5_type_46 : decode cX5_type 46 = .ok (.aload_n 0, 1) := by decide +kernel
theorem dX5_type_47 : decode cX5_type 47 = .ok (.getfield 33, 3) := by decide +kernel
theorem dX5_type_50 : decode cX5_type 50 = .ok (.iload_n 1, 1) := by decide +kernel
theorem dX5_type_51 : decode cX5_type 51 = .ok (.invokevirtual 289, 3) := by decide +kernel
theorem dX5_type_54 : decode cX5_type 54 = .ok (.ireturn, 1) := by decide +kernel
set_option maxRecDepth 20000 in
theorem ggX5_execute_X3_read : GoodIn wsX5_execute wsX3_read := goodIn_ca (goodIn_r _ [16, 17, 18, 19, 20, 21, 22, 15, 23, 24, 25, 26, 27, 28, 29, 30, 31, 32, 33, 34, 35, 36, 37, 38, 39, 40, 41, 42, 43, 44, 45, 46, 47, 48, 49, 50, 51, 52, 53, 54, 55, 56, 57, 58, 59, 60, 61, 62, 63, 64, 65, 66, 67, 68, 69, 70, 71, 72, 73, 74, 75, 76, 77, 78, 79, 80, 81, 82, 83, 84, 85, 86, 87, 88, 89, 90, 91, 92, 93, 94, 95, 96, 97, 98, 99, 100, 101, 102, 103, 104, 105, 106, 107, 108, 109, 110, 111, 112, 113, 114, 115, 116, 117, 118, 119, 120, 121, 122, 123, 124, 125, 126, 127, 128, 129, 130, 131, 132, 133, 134, 135, 136, 440, 441, 442, 443, 444, 445, 446, 447, 448, 449, 450, 451, 452, 453] (by decide +kernel) (by decide +kernel)) (goodIn_sub (fun _ h => List.mem_cons_of_mem _ (List.mem_append_left _ (List.mem_append_right _ h))) (by decide +kernel))
set_option maxRecDepth 20000 in
theorem gX5_execute_X3_read : GoodIn wsX5_execute (wsV RX5 292 RX3 yX3_read wsX3_read) := goodIn_app (goodIn_of _ (by decide +kernel)) ggX5_execute_X3_read
set_option maxRecDepth 20000 in
theorem ggX5_execute_X3_empty : GoodIn wsX5_execute wsX3_empty := goodIn_r _ [140, 19, 141, 142, 143, 60, 144, 145, 146, 64, 147, 66, 148, 149, 150, 151, 68, 78, 152, 153, 154, 155, 156, 157, 77, 158, 159, 160, 161, 162, 163, 164, 165, 166, 167, 168, 31, 32, 33, 169, 170, 171, 172, 173, 174, 175, 176, 177, 178, 179, 180, 181, 182, 183, 184, 80, 81, 185, 186, 187, 188, 189, 190, 191, 192, 193, 194, 195, 196, 110, 197, 198, 199, 200, 201, 202, 203, 204, 205, 206, 207, 208, 209, 210, 92, 211, 212, 440, 441, 442, 443, 444, 454, 455, 456, 457, 458, 459, 449, 450, 451, 452, 460, 461, 462, 463, 464, 465] (by decide +kernel) (by decide +kernel)
set_option maxRecDepth 20000 in
theorem gX5_execute_X3_empty : GoodIn wsX5_execute (wsV RX5 295 RX3 yX3_empty wsX3_empty) := goodIn_app (goodIn_of _ (by decide +kernel)) ggX5_execute_X3_empty
set_option maxRecDepth 20000 in
theorem ggX5_execute_X3_errorPlace : GoodIn wsX5_execute wsX3_errorPlace := goodIn_r _ [216, 18, 440, 441, 442, 443, 444] (by decide +kernel) (by decide +kernel)
set_option maxRecDepth 20000 in
theorem gX5_execute_X3_errorPlace : GoodIn wsX5_execute (wsV RX5 298 RX3 yX3_errorPlace wsX3_errorPlace) := goodIn_app (goodIn_of _ (by decide +kernel)) ggX5_execute_X3_errorPlace
set_option maxRecDepth 20000 in
theorem ggX5_execute_X2_copy : GoodIn wsX5_execute wsX2_copy := goodIn_ca (goodIn_r _ [220, 221, 222, 223, 124, 224, 126, 225, 122, 123, 125, 453] (by decide +kernel) (by decide +kernel)) (goodIn_sub (fun _ h => List.mem_cons_of_mem _ (List.mem_append_left _ (List.mem_append_right _ h))) (by decide +kernel))
set_option maxRecDepth 20000 in
theorem gX5_execute_X2_copy : GoodIn wsX5_execute (wsV RX5 303 RX2 yX2_copy wsX2_copy) := goodIn_app (goodIn_of _ (by decide +kernel)) ggX5_execute_X2_copy
set_option maxRecDepth 20000 in
theorem ggX5_execute_X3_commands : GoodIn wsX5_execute wsX3_commands := goodIn_r _ [229, 17, 440, 441, 442, 443, 444] (by decide +kernel) (by decide +kernel)
set_option maxRecDepth 20000 in
theorem gX5_execute_X3_commands : GoodIn wsX5_execute (wsV RX5 307 RX3 yX3_commands wsX3_commands) := goodIn_app (goodIn_of _ (by decide +kernel)) ggX5_execute_X3_commands
set_option maxRecDepth 20000 in
theorem ggX5_execute_X3_commandAt : GoodIn wsX5_execute wsX3_commandAt := goodIn_ca (goodIn_r _ [233, 24, 234, 222, 223, 124, 224, 126, 440, 441, 442, 443, 444, 453] (by decide +kernel) (by decide +kernel)) (goodIn_sub (fun _ h => List.mem_cons_of_mem _ (List.mem_append_left _ (List.mem_append_right _ h))) (by decide +kernel))
set_option maxRecDepth 20000 in
theorem gX5_execute_X3_commandAt : GoodIn wsX5_execute (wsV RX5 310 RX3 yX3_commandAt wsX3_commandAt) := goodIn_app (goodIn_of _ (by decide +kernel)) ggX5_execute_X3_commandAt
set_option maxRecDepth 20000 in
theorem ggX5_execute_X3_numberAt : GoodIn wsX5_execute wsX3_numberAt := goodIn_ca (goodIn_r _ [238, 24, 234, 222, 223, 124, 224, 126, 440, 441, 442, 443, 444, 453] (by decide +kernel) (by decide +kernel)) (goodIn_sub (fun _ h => List.mem_cons_of_mem _ (List.mem_append_left _ (List.mem_append_right _ h))) (by decide +kernel))
set_option maxRecDepth 20000 in
theorem gX5_execute_X3_numberAt : GoodIn wsX5_execute (wsV RX5 313 RX3 yX3_numberAt wsX3_numberAt) := goodIn_app (goodIn_of _ (by decide +kernel)) ggX5_execute_X3_numberAt
set_option maxRecDepth 20000 in
theorem ggX5_execute_X4_allows : GoodIn wsX5_execute wsX4_allows := goodIn_ca (goodIn_r _ [243, 244, 245, 242, 246, 247, 248, 249, 250, 251, 252, 253, 254, 255, 256, 257, 258, 259, 222, 223, 124, 224, 126, 260, 261, 262, 263, 264, 265, 266, 267, 268, 269, 270, 271, 272, 273, 274, 275, 276, 277, 278, 279, 280, 281, 282, 283, 284, 285, 286, 287, 288, 289, 290, 291, 292, 293, 294, 295, 296, 297, 298, 299, 300, 301, 302, 303, 304, 305, 306, 307, 308, 309, 310, 311, 312, 439, 453] (by decide +kernel) (by decide +kernel)) (goodIn_sub (fun _ h => List.mem_cons_of_mem _ (List.mem_append_left _ (List.mem_append_right _ h))) (by decide +kernel))
set_option maxRecDepth 20000 in
theorem gX5_execute_X4_allows : GoodIn wsX5_execute (wsV RX5 316 RX4 yX4_allows wsX4_allows) := goodIn_app (goodIn_of _ (by decide +kernel)) ggX5_execute_X4_allows
set_option maxRecDepth 20000 in
theorem ggX5_execute_X4_obey : GoodIn wsX5_execute wsX4_obey := goodIn_ca (goodIn_ca (goodIn_r _ [316, 317, 318, 319, 242, 320, 258, 254, 255, 256, 257, 259, 222, 223, 124, 224, 126, 321, 122, 123, 125, 322, 323, 324, 325, 326, 218, 219, 220, 221, 225, 327, 328, 329, 330, 272, 273, 274, 275, 331, 332, 333, 334, 335, 336, 337, 338, 280, 281, 282, 283, 339, 340, 341, 342, 295, 296, 297, 298, 343, 344, 345, 346, 347, 80, 32, 81, 299, 300, 301, 302, 348, 349, 350, 351, 352, 353, 354, 355, 356, 357, 358, 359, 360, 361, 362, 363, 364, 31, 33, 365, 366, 367, 368, 369, 370, 371, 372, 373, 374, 375, 376, 377, 378, 379, 380, 381, 382, 383, 384, 385, 386, 387, 388, 389, 390, 391, 392, 393, 394, 395, 396, 397, 398, 399, 400, 401, 402, 403, 404, 405, 406, 407, 408, 409, 410, 268, 269, 270, 271, 247, 248, 249, 411, 412, 413, 414, 415, 416, 417, 418, 439, 453] (by decide +kernel) (by decide +kernel)) (goodIn_sub (fun _ h => List.mem_cons_of_mem _ (List.mem_append_left _ (List.mem_append_right _ h))) (by decide +kernel))) (goodIn_sub (fun _ h => List.mem_cons_of_mem _ (List.mem_append_right _ h)) (by decide +kernel))
set_option maxRecDepth 20000 in
theorem gX5_execute_X4_obey : GoodIn wsX5_execute (wsV RX5 322 RX4 yX4_obey wsX4_obey) := goodIn_app (goodIn_of _ (by decide +kernel)) ggX5_execute_X4_obey
set_option maxRecDepth 20000 in
theorem ggX5_execute_X1_keep : GoodIn wsX5_execute wsX1_keep := goodIn_ca (goodIn_r _ [423, 424, 425, 426, 427, 80, 32, 81, 428, 218, 219, 124, 220, 221, 222, 223, 224, 126, 225, 122, 123, 125, 466, 467, 468, 453] (by decide +kernel) (by decide +kernel)) (goodIn_sub (fun _ h => List.mem_cons_of_mem _ (List.mem_append_left _ (List.mem_append_right _ h))) (by decide +kernel))
set_option maxRecDepth 20000 in
theorem gX5_execute_X1_keep : GoodIn wsX5_execute (wsV RX5 94 RX1 yX1_keep wsX1_keep) := goodIn_app (goodIn_of _ (by decide +kernel)) ggX5_execute_X1_keep
theorem dX5_execute_0 : decode cX5_execute 0 = .ok (.aload_n 0, 1) := by decide +kernel
theorem dX5_execute_1 : decode cX5_execute 1 = .ok (.getfield 33, 3) := by decide +kernel
theorem dX5_execute_4 : decode cX5_execute 4 = .ok (.invokevirtual 292, 3) := by decide +kernel
theorem dX5_execute_7 : decode cX5_execute 7 = .ok (.istore_n 1, 1) := by decide +kernel
theorem dX5_execute_8 : decode cX5_execute 8 = .ok (.aload_n 0, 1) := by decide +kernel
theorem dX5_execute_9 : decode cX5_execute 9 = .ok (.getfield 33, 3) := by decide +kernel
theorem dX5_execute_12 : decode cX5_execute 12 = .ok (.invokevirtual 295, 3) := by decide +kernel
theorem dX5_execute_15 : decode cX5_execute 15 = .ok (.iload_n 1, 1) := by decide +kernel
theorem dX5_execute_16 : decode cX5_execute 16 = .ok (.ifCond .ne 25, 3) := by decide +kernel
theorem dX5_execute_19 : decode cX5_execute 19 = .ok (.aload_n 0, 1) := by decide +kernel
theorem dX5_execute_20 : decode cX5_execute 20 = .ok (.aload_n 0, 1) := by decide +kernel
theorem dX5_execute_21 : decode cX5_execute 21 = .ok (.getfield 33, 3) := by decide +kernel
theorem dX5_execute_24 : decode cX5_execute 24 = .ok (.invokevirtual 298, 3) := by decide +kernel
theorem dX5_execute_27 : decode cX5_execute 27 = .ok (.putfield 60, 3) := by decide +kernel
theorem dX5_execute_30 : decode cX5_execute 30 = .ok (.new 75, 3) := by decide +kernel
theorem dX5_execute_33 : decode cX5_execute 33 = .ok (.dup, 1) := by decide +kernel
theorem dX5_execute_34 : decode cX5_execute 34 = .ok (.ldc_w 301, 3) := by decide +kernel
theorem dX5_execute_37 : decode cX5_execute 37 = .ok (.invokespecial 79, 3) := by decide +kernel
theorem dX5_execute_40 : decode cX5_execute 40 = .ok (.athrow, 1) := by decide +kernel
theorem dX5_execute_41 : decode cX5_execute 41 = .ok (.aload_n 0, 1) := by decide +kernel
theorem dX5_execute_42 : decode cX5_execute 42 = .ok (.getfield 49, 3) := by decide +kernel
theorem dX5_execute_45 : decode cX5_execute 45 = .ok (.aload_n 0, 1) := by decide +kernel
theorem dX5_execute_46 : decode cX5_execute 46 = .ok (.getfield 10, 3) := by decide +kernel
theorem dX5_execute_49 : decode cX5_execute 49 = .ok (.getfield 91, 3) := by decide +kernel
theorem dX5_execute_52 : decode cX5_execute 52 = .ok (.iconst 0, 1) := by decide +kernel
theorem dX5_execute_53 : decode cX5_execute 53 = .ok (.iconst 0, 1) := by decide +kernel
theorem dX5_execute_54 : decode cX5_execute 54 = .ok (.bipush 61, 2) := by decide +kernel
theorem dX5_execute_56 : decode cX5_execute 56 = .ok (.invokevirtual 303, 3) := by decide +kernel
theorem dX5_execute_59 : decode cX5_execute 59 = .ok (.iconst 0, 1) := by decide +kernel
theorem dX5_execute_60 : decode cX5_execute 60 = .ok (.istore_n 2, 1) := by decide +kernel
theorem dX5_execute_61 : decode cX5_execute 61 = .ok (.iload_n 2, 1) := by decide +kernel
theorem dX5_execute_62 : decode cX5_execute 62 = .ok (.aload_n 0, 1) := by decide +kernel
theorem dX5_execute_63 : decode cX5_execute 63 = .ok (.getfield 33, 3) := by decide +kernel
theorem dX5_execute_66 : decode cX5_execute 66 = .ok (.invokevirtual 307, 3) := by decide +kernel
theorem dX5_execute_69 : decode cX5_execute 69 = .ok (.if_icmp .ge 116, 3) := by decide +kernel
theorem dX5_execute_72 : decode cX5_execute 72 = .ok (.aload_n 0, 1) := by decide +kernel
theorem dX5_execute_73 : decode cX5_execute 73 = .ok (.getfield 33, 3) := by decide +kernel
theorem dX5_execute_76 : decode cX5_execute 76 = .ok (.iload_n 2, 1) := by decide +kernel
theorem dX5_execute_77 : decode cX5_execute 77 = .ok (.invokevirtual 310, 3) := by decide +kernel
theorem dX5_execute_80 : decode cX5_execute 80 = .ok (.istore_n 3, 1) := by decide +kernel
theorem dX5_execute_81 : decode cX5_execute 81 = .ok (.aload_n 0, 1) := by decide +kernel
theorem dX5_execute_82 : decode cX5_execute 82 = .ok (.getfield 33, 3) := by decide +kernel
theorem dX5_execute_85 : decode cX5_execute 85 = .ok (.iload_n 2, 1) := by decide +kernel
theorem dX5_execute_86 : decode cX5_execute 86 = .ok (.iconst 0, 1) := by decide +kernel
theorem dX5_execute_87 : decode cX5_execute 87 = .ok (.invokevirtual 313, 3) := by decide +kernel
theorem dX5_execute_90 : decode cX5_execute 90 = .ok (.istore 4, 2) := by decide +kernel
theorem dX5_execute_92 : decode cX5_execute 92 = .ok (.aload_n 0, 1) := by decide +kernel
theorem dX5_execute_93 : decode cX5_execute 93 = .ok (.getfield 33, 3) := by decide +kernel
theorem dX5_execute_96 : decode cX5_execute 96 = .ok (.iload_n 2, 1) := by decide +kernel
theorem dX5_execute_97 : decode cX5_execute 97 = .ok (.iconst 1, 1) := by decide +kernel
theorem dX5_execute_98 : decode cX5_execute 98 = .ok (.invokevirtual 313, 3) := by decide +kernel
theorem dX5_execute_101 : decode cX5_execute 101 = .ok (.istore 5, 2) := by decide +kernel
theorem dX5_execute_103 : decode cX5_execute 103 = .ok (.aload_n 0, 1) := by decide +kernel
theorem dX5_execute_104 : decode cX5_execute 104 = .ok (.getfield 33, 3) := by decide +kernel
theorem dX5_execute_107 : decode cX5_execute 107 = .ok (.iload_n 2, 1) := by decide +kernel
theorem dX5_execute_108 : decode cX5_execute 108 = .ok (.iconst 2, 1) := by decide +kernel
theorem dX5_execute_109 : decode cX5_execute 109 = .ok (.invokevirtual 313, 3) := by decide +kernel
theorem dX5_execute_112 : decode cX5_execute 112 = .ok (.istore 6, 2) := by decide +kernel
theorem dX5_execute_114 : decode cX5_execute 114 = .ok (.aload_n 0, 1) := by decide +kernel
theorem dX5_execute_115 : decode cX5_execute 115 = .ok (.getfield 10, 3) := by decide +kernel
theorem dX5_execute_118 : decode cX5_execute 118 = .ok (.iload_n 3, 1) := by decide +kernel
theorem dX5_execute_119 : decode cX5_execute 119 = .ok (.iload 4, 2) := by decide +kernel
theorem dX5_execute_121 : decode cX5_execute 121 = .ok (.iload 5, 2) := by decide +kernel
theorem dX5_execute_123 : decode cX5_execute 123 = .ok (.iload 6, 2) := by decide +kernel
theorem dX5_execute_125 : decode cX5_execute 125 = .ok (.invokevirtual 316, 3) := by decide +kernel
theorem dX5_execute_128 : decode cX5_execute 128 = .ok (.ifCond .ne 37, 3) := by decide +kernel
theorem dX5_execute_131 : decode cX5_execute 131 = .ok (.aload_n 0, 1) := by decide +kernel
theorem dX5_execute_132 : decode cX5_execute 132 = .ok (.getfield 10, 3) := by decide +kernel
theorem dX5_execute_135 : decode cX5_execute 135 = .ok (.getfield 91, 3) := by decide +kernel
theorem dX5_execute_138 : decode cX5_execute 138 = .ok (.aload_n 0, 1) := by decide +kernel
theorem dX5_execute_139 : decode cX5_execute 139 = .ok (.getfield 49, 3) := by decide +kernel
theorem dX5_execute_142 : decode cX5_execute 142 = .ok (.iconst 0, 1) := by decide +kernel
theorem dX5_execute_143 : decode cX5_execute 143 = .ok (.iconst 0, 1) := by decide +kernel
theorem dX5_execute_144 : decode cX5_execute 144 = .ok (.bipush 61, 2) := by decide +kernel
theorem dX5_execute_146 : decode cX5_execute 146 = .ok (.invokevirtual 303, 3) := by decide +kernel
theorem dX5_execute_149 : decode cX5_execute 149 = .ok (.aload_n 0, 1) := by decide +kernel
theorem dX5_execute_150 : decode cX5_execute 150 = .ok (.iload_n 2, 1) := by decide +kernel
theorem dX5_execute_151 : decode cX5_execute 151 = .ok (.putfield 64, 3) := by decide +kernel
theorem dX5_execute_154 : decode cX5_execute 154 = .ok (.new 86, 3) := by decide +kernel
theorem dX5_execute_157 : decode cX5_execute 157 = .ok (.dup, 1) := by decide +kernel
theorem dX5_execute_158 : decode cX5_execute 158 = .ok (.ldc_w 320, 3) := by decide +kernel
theorem dX5_execute_161 : decode cX5_execute 161 = .ok (.invokespecial 90, 3) := by decide +kernel
theorem dX5_execute_164 : decode cX5_execute 164 = .ok (.athrow, 1) := by decide +kernel
theorem dX5_execute_165 : decode cX5_execute 165 = .ok (.aload_n 0, 1) := by decide +kernel
theorem dX5_execute_166 : decode cX5_execute 166 = .ok (.getfield 10, 3) := by decide +kernel
theorem dX5_execute_169 : decode cX5_execute 169 = .ok (.iload_n 3, 1) := by decide +kernel
theorem dX5_execute_170 : decode cX5_execute 170 = .ok (.iload 4, 2) := by decide +kernel
theorem dX5_execute_172 : decode cX5_execute 172 = .ok (.iload 5, 2) := by decide +kernel
theorem dX5_execute_174 : decode cX5_execute 174 = .ok (.iload 6, 2) := by decide +kernel
theorem dX5_execute_176 : decode cX5_execute 176 = .ok (.invokevirtual 322, 3) := by decide +kernel
theorem dX5_execute_179 : decode cX5_execute 179 = .ok (.iinc 2 1, 3) := by decide +kernel
theorem dX5_execute_182 : decode cX5_execute 182 = .ok (.goto (-121), 3) := by decide +kernel
theorem dX5_execute_185 : decode cX5_execute 185 = .ok (.aload_n 0, 1) := by decide +kernel
theorem dX5_execute_186 : decode cX5_execute 186 = .ok (.getfield 26, 3) := by decide +kernel
theorem dX5_execute_189 : decode cX5_execute 189 = .ok (.aload_n 0, 1) := by decide +kernel
theorem dX5_execute_190 : decode cX5_execute 190 = .ok (.getfield 49, 3) := by decide +kernel
theorem dX5_execute_193 : decode cX5_execute 193 = .ok (.invokevirtual 94, 3) := by decide +kernel
theorem dX5_execute_196 : decode cX5_execute 196 = .ok (.aload_n 0, 1) := by decide +kernel
theorem dX5_execute_197 : decode cX5_execute 197 = .ok (.getfield 33, 3) := by decide +kernel
theorem dX5_execute_200 : decode cX5_execute 200 = .ok (.invokevirtual 307, 3) := by decide +kernel
theorem dX5_execute_203 : decode cX5_execute 203 = .ok (.ireturn, 1) := by decide +kernel
set_option maxRecDepth 20000 in
theorem ggX5_undo_X1_size : GoodIn wsX5_undo wsX1_size := goodIn_r _ [10, 11, 43, 44, 45] (by decide +kernel) (by decide +kernel)
set_option maxRecDepth 20000 in
theorem gX5_undo_X1_size : GoodIn wsX5_undo (wsV RX5 333 RX1 yX1_size wsX1_size) := goodIn_app (goodIn_of _ (by decide +kernel)) ggX5_undo_X1_size
set_option maxRecDepth 20000 in
theorem ggX5_undo_X1_takeBack : GoodIn wsX5_undo wsX1_takeBack := goodIn_ca (goodIn_r _ [15, 11, 16, 17, 18, 19, 20, 21, 22, 23, 24, 25, 26, 27, 28, 29, 30, 31, 43, 44, 45, 46] (by decide +kernel) (by decide +kernel)) (goodIn_sub (fun _ h => List.mem_cons_of_mem _ (List.mem_append_right _ h)) (by decide +kernel))
set_option maxRecDepth 20000 in
theorem gX5_undo_X1_takeBack : GoodIn wsX5_undo (wsV RX5 338 RX1 yX1_takeBack wsX1_takeBack) := goodIn_app (goodIn_of _ (by decide +kernel)) ggX5_undo_X1_takeBack
theorem dX5_undo_0 : decode cX5_undo 0 = .ok (.aload_n 0, 1) := by decide +kernel
theorem dX5_undo_1 : decode cX5_undo 1 = .ok (.getfield 26, 3) := by decide +kernel
theorem dX5_undo_4 : decode cX5_undo 4 = .ok (.invokevirtual 333, 3) := by decide +kernel
theorem dX5_undo_7 : decode cX5_undo 7 = .ok (.ifCond .ne 14, 3) := by decide +kernel
theorem dX5_undo_10 : decode cX5_undo 10 = .ok (.new 86, 3) := by decide +kernel
theorem dX5_undo_13 : decode cX5_undo 13 = .ok (.dup, 1) := by decide +kernel
theorem dX5_undo_14 : decode cX5_undo 14 = .ok (.ldc_w 336, 3) := by decide +kernel
theorem dX5_undo_17 : decode cX5_undo 17 = .ok (.invokespecial 90, 3) := by decide +kernel
theorem dX5_undo_20 : decode cX5_undo 20 = .ok (.athrow, 1) := by decide +kernel
theorem dX5_undo_21 : decode cX5_undo 21 = .ok (.aload_n 0, 1) := by decide +kernel
theorem dX5_undo_22 : decode cX5_undo 22 = .ok (.getfield 26, 3) := by decide +kernel
theorem dX5_undo_25 : decode cX5_undo 25 = .ok (.aload_n 0, 1) := by decide +kernel
theorem dX5_undo_26 : decode cX5_undo 26 = .ok (.getfield 10, 3) := by decide +kernel
theorem dX5_undo_29 : decode cX5_undo 29 = .ok (.getfield 91, 3) := by decide +kernel
theorem dX5_undo_32 : decode cX5_undo 32 = .ok (.invokevirtual 338, 3) := by decide +kernel
theorem dX5_undo_35 : decode cX5_undo 35 = .ok (.aload_n 0, 1) := by decide +kernel
theorem dX5_undo_36 : decode cX5_undo 36 = .ok (.getfield 26, 3) := by decide +kernel
theorem dX5_undo_39 : decode cX5_undo 39 = .ok (.invokevirtual 333, 3) := by decide +kernel
theorem dX5_undo_42 : decode cX5_undo 42 = .ok (.ireturn, 1) := by decide +kernel
set_option maxRecDepth 20000 in
theorem ggX5_requireMoon_X4_isMoon : GoodIn wsX5_requireMoon wsX4_isMoon := goodIn_ca (goodIn_r _ [8, 9, 10, 11, 7, 12, 13, 14, 15, 16, 17, 18, 19, 30, 31] (by decide +kernel) (by decide +kernel)) (goodIn_sub (fun _ h => List.mem_cons_of_mem _ (List.mem_append_right _ h)) (by decide +kernel))
set_option maxRecDepth 20000 in
theorem gX5_requireMoon_X4_isMoon : GoodIn wsX5_requireMoon (wsV RX5 346 RX4 yX4_isMoon wsX4_isMoon) := goodIn_app (goodIn_of _ (by decide +kernel)) ggX5_requireMoon_X4_isMoon
theorem dX5_requireMoon_0 : decode cX5_requireMoon 0 = .ok (.aload_n 0, 1) := by decide +kernel
theorem dX5_requireMoon_1 : decode cX5_requireMoon 1 = .ok (.getfield 10, 3) := by decide +kernel
theorem dX5_requireMoon_4 : decode cX5_requireMoon 4 = .ok (.iload_n 1, 1) := by decide +kernel
theorem dX5_requireMoon_5 : decode cX5_requireMoon 5 = .ok (.invokevirtual 346, 3) := by decide +kernel
theorem dX5_requireMoon_8 : decode cX5_requireMoon 8 = .ok (.ifCond .ne 14, 3) := by decide +kernel
theorem dX5_requireMoon_11 : decode cX5_requireMoon 11 = .ok (.new 261, 3) := by decide +kernel
theorem dX5_requireMoon_14 : decode cX5_requireMoon 14 = .ok (.dup, 1) := by decide +kernel
theorem dX5_requireMoon_15 : decode cX5_requireMoon 15 = .ok (.ldc_w 349, 3) := by decide +kernel
theorem dX5_requireMoon_18 : decode cX5_requireMoon 18 = .ok (.invokespecial 265, 3) := by decide +kernel
theorem dX5_requireMoon_21 : decode cX5_requireMoon 21 = .ok (.athrow, 1) := by decide +kernel
theorem dX5_requireMoon_22 : decode cX5_requireMoon 22 = .ok (.return_, 1) := by decide +kernel
set_option maxRecDepth 20000 in
theorem ggX5_requireTowel_X4_isTowel : GoodIn wsX5_requireTowel wsX4_isTowel := goodIn_ca (goodIn_r _ [8, 9, 10, 11, 7, 12, 13, 14, 15, 16, 17, 18, 19, 30, 31] (by decide +kernel) (by decide +kernel)) (goodIn_sub (fun _ h => List.mem_cons_of_mem _ (List.mem_append_right _ h)) (by decide +kernel))
set_option maxRecDepth 20000 in
theorem gX5_requireTowel_X4_isTowel : GoodIn wsX5_requireTowel (wsV RX5 351 RX4 yX4_isTowel wsX4_isTowel) := goodIn_app (goodIn_of _ (by decide +kernel)) ggX5_requireTowel_X4_isTowel
theorem dX5_requireTowel_0 : decode cX5_requireTowel 0 = .ok (.aload_n 0, 1) := by decide +kernel
theorem dX5_requireTowel_1 : decode cX5_requireTowel 1 = .ok (.getfield 10, 3) := by decide +kernel
theorem dX5_requireTowel_4 : decode cX5_requireTowel 4 = .ok (.iload_n 1, 1) := by decide +kernel
theorem dX5_requireTowel_5 : decode cX5_requireTowel 5 = .ok (.invokevirtual 351, 3) := by decide +kernel
theorem dX5_requireTowel_8 : decode cX5_requireTowel 8 = .ok (.ifCond .ne 14, 3) := by decide +kernel
theorem dX5_requireTowel_11 : decode cX5_requireTowel 11 = .ok (.new 261, 3) := by decide +kernel
theorem dX5_requireTowel_14 : decode cX5_requireTowel 14 = .ok (.dup, 1) := by decide +kernel
theorem dX5_requireTowel_15 : decode cX5_requireTowel 15 = .ok (.ldc_w 354, 3) := by decide +kernel
theorem dX5_requireTowel_18 : decode cX5_requireTowel 18 = .ok (.invokespecial 265, 3) := by decide +kernel
theorem dX5_requireTowel_21 : decode cX5_requireTowel 21 = .ok (.athrow, 1) := by decide +kernel
theorem dX5_requireTowel_22 : decode cX5_requireTowel 22 = .ok (.return_, 1) := by decide +kernel
set_option maxRecDepth 20000 in
theorem ggX5_requirePosition_X4_isPosition : GoodIn wsX5_requirePosition wsX4_isPosition := goodIn_r _ [6] (by decide +kernel) (by decide +kernel)
set_option maxRecDepth 20000 in
theorem gX5_requirePosition_X4_isPosition : GoodIn wsX5_requirePosition (va_wsS RX5 356 yX4_isPosition wsX4_isPosition) := goodIn_app (goodIn_of _ (by decide +kernel)) ggX5_requirePosition_X4_isPosition
theorem dX5_requirePosition_0 : decode cX5_requirePosition 0 = .ok (.iload_n 0, 1) := by decide +kernel
theorem dX5_requirePosition_1 : decode cX5_requirePosition 1 = .ok (.invokestatic 356, 3) := by decide +kernel
theorem dX5_requirePosition_4 : decode cX5_requirePosition 4 = .ok (.ifCond .ne 14, 3) := by decide +kernel
theorem dX5_requirePosition_7 : decode cX5_requirePosition 7 = .ok (.new 261, 3) := by decide +kernel
theorem dX5_requirePosition_10 : decode cX5_requirePosition 10 = .ok (.dup, 1) := by decide +kernel
theorem dX5_requirePosition_11 : decode cX5_requirePosition 11 = .ok (.ldc_w 359, 3) := by decide +kernel
theorem dX5_requirePosition_14 : decode cX5_requirePosition 14 = .ok (.invokespecial 265, 3) := by decide +kernel
theorem dX5_requirePosition_17 : decode cX5_requirePosition 17 = .ok (.athrow, 1) := by decide +kernel
theorem dX5_requirePosition_18 : decode cX5_requirePosition 18 = .ok (.return_, 1) := by decide +kernel
set_option maxRecDepth 20000 in
theorem ggX5_requirePlug_X4_isPlugged : GoodIn wsX5_requirePlug wsX4_isPlugged := goodIn_ca (goodIn_r _ [8, 9, 10, 11, 7, 12, 13, 14, 15, 16, 17, 18, 19, 30, 31] (by decide +kernel) (by decide +kernel)) (goodIn_sub (fun _ h => List.mem_cons_of_mem _ (List.mem_append_right _ h)) (by decide +kernel))
set_option maxRecDepth 20000 in
theorem gX5_requirePlug_X4_isPlugged : GoodIn wsX5_requirePlug (wsV RX5 151 RX4 yX4_isPlugged wsX4_isPlugged) := goodIn_app (goodIn_of _ (by decide +kernel)) ggX5_requirePlug_X4_isPlugged
theorem dX5_requirePlug_0 : decode cX5_requirePlug 0 = .ok (.aload_n 0, 1) := by decide +kernel
theorem dX5_requirePlug_1 : decode cX5_requirePlug 1 = .ok (.getfield 10, 3) := by decide +kernel
theorem dX5_requirePlug_4 : decode cX5_requirePlug 4 = .ok (.invokevirtual 151, 3) := by decide +kernel
theorem dX5_requirePlug_7 : decode cX5_requirePlug 7 = .ok (.ifCond .ne 13, 3) := by decide +kernel
theorem dX5_requirePlug_10 : decode cX5_requirePlug 10 = .ok (.new 326, 3) := by decide +kernel
theorem dX5_requirePlug_13 : decode cX5_requirePlug 13 = .ok (.dup, 1) := by decide +kernel
theorem dX5_requirePlug_14 : decode cX5_requirePlug 14 = .ok (.ldc 154, 2) := by decide +kernel
theorem dX5_requirePlug_16 : decode cX5_requirePlug 16 = .ok (.invokespecial 330, 3) := by decide +kernel
theorem dX5_requirePlug_19 : decode cX5_requirePlug 19 = .ok (.athrow, 1) := by decide +kernel
theorem dX5_requirePlug_20 : decode cX5_requirePlug 20 = .ok (.return_, 1) := by decide +kernel
theorem dX5_requireTideMinutes_0 : decode cX5_requireTideMinutes 0 = .ok (.iload_n 0, 1) := by decide +kernel
theorem dX5_requireTideMinutes_1 : decode cX5_requireTideMinutes 1 = .ok (.ifCond .lt 10, 3) := by decide +kernel
theorem dX5_requireTideMinutes_4 : decode cX5_requireTideMinutes 4 = .ok (.iload_n 0, 1) := by decide +kernel
theorem dX5_requireTideMinutes_5 : decode cX5_requireTideMinutes 5 = .ok (.sipush 144, 3) := by decide +kernel
theorem dX5_requireTideMinutes_8 : decode cX5_requireTideMinutes 8 = .ok (.if_icmp .le 13, 3) := by decide +kernel
theorem dX5_requireTideMinutes_11 : decode cX5_requireTideMinutes 11 = .ok (.new 75, 3) := by decide +kernel
theorem dX5_requireTideMinutes_14 : decode cX5_requireTideMinutes 14 = .ok (.dup, 1) := by decide +kernel
theorem dX5_requireTideMinutes_15 : decode cX5_requireTideMinutes 15 = .ok (.ldc 201, 2) := by decide +kernel
theorem dX5_requireTideMinutes_17 : decode cX5_requireTideMinutes 17 = .ok (.invokespecial 79, 3) := by decide +kernel
theorem dX5_requireTideMinutes_20 : decode cX5_requireTideMinutes 20 = .ok (.athrow, 1) := by decide +kernel
theorem dX5_requireTideMinutes_21 : decode cX5_requireTideMinutes 21 = .ok (.return_, 1) := by decide +kernel
theorem dX5_found_0 : decode cX5_found 0 = .ok (.iload_n 0, 1) := by decide +kernel
theorem dX5_found_1 : decode cX5_found 1 = .ok (.iconst (-1), 1) := by decide +kernel
theorem dX5_found_2 : decode cX5_found 2 = .ok (.if_icmp .ne 14, 3) := by decide +kernel
theorem dX5_found_5 : decode cX5_found 5 = .ok (.new 326, 3) := by decide +kernel
theorem dX5_found_8 : decode cX5_found 8 = .ok (.dup, 1) := by decide +kernel
theorem dX5_found_9 : decode cX5_found 9 = .ok (.ldc_w 361, 3) := by decide +kernel
theorem dX5_found_12 : decode cX5_found 12 = .ok (.invokespecial 330, 3) := by decide +kernel
theorem dX5_found_15 : decode cX5_found 15 = .ok (.athrow, 1) := by decide +kernel
theorem dX5_found_16 : decode cX5_found 16 = .ok (.iload_n 0, 1) := by decide +kernel
theorem dX5_found_17 : decode cX5_found 17 = .ok (.ireturn, 1) := by decide +kernel
