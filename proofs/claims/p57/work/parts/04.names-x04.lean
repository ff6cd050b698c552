set_option maxRecDepth 20000 in
theorem ggX0_init_X2_init : GoodIn wsX0_init wsX2_init := goodIn_r _ [12, 13, 2, 3, 14, 15, 16] (by decide +kernel) (by decide +kernel)
set_option maxRecDepth 20000 in
theorem gX0_init_X2_init : GoodIn wsX0_init (wsX2_init) := ggX0_init_X2_init
theorem dX0_init_0 : decode cX0_init 0 = .ok (.aload_n 0, 1) := by decide +kernel
theorem dX0_init_1 : decode cX0_init 1 = .ok (.invokespecial 3, 3) := by decide +kernel
theorem dX0_init_4 : decode cX0_init 4 = .ok (.aload_n 0, 1) := by decide +kernel
theorem dX0_init_5 : decode cX0_init 5 = .ok (.new 9, 3) := by decide +kernel
theorem dX0_init_8 : decode cX0_init 8 = .ok (.dup, 1) := by decide +kernel
theorem dX0_init_9 : decode cX0_init 9 = .ok (.iconst 5, 1) := by decide +kernel
theorem dX0_init_10 : decode cX0_init 10 = .ok (.invokespecial 11, 3) := by decide +kernel
theorem dX0_init_13 : decode cX0_init 13 = .ok (.putfield 14, 3) := by decide +kernel
theorem dX0_init_16 : decode cX0_init 16 = .ok (.aload_n 0, 1) := by decide +kernel
theorem dX0_init_17 : decode cX0_init 17 = .ok (.new 9, 3) := by decide +kernel
theorem dX0_init_20 : decode cX0_init 20 = .ok (.dup, 1) := by decide +kernel
theorem dX0_init_21 : decode cX0_init 21 = .ok (.iconst 5, 1) := by decide +kernel
theorem dX0_init_22 : decode cX0_init 22 = .ok (.invokespecial 11, 3) := by decide +kernel
theorem dX0_init_25 : decode cX0_init 25 = .ok (.putfield 20, 3) := by decide +kernel
theorem dX0_init_28 : decode cX0_init 28 = .ok (.aload_n 0, 1) := by decide +kernel
theorem dX0_init_29 : decode cX0_init 29 = .ok (.new 9, 3) := by decide +kernel
theorem dX0_init_32 : decode cX0_init 32 = .ok (.dup, 1) := by decide +kernel
theorem dX0_init_33 : decode cX0_init 33 = .ok (.iconst 5, 1) := by decide +kernel
theorem dX0_init_34 : decode cX0_init 34 = .ok (.invokespecial 11, 3) := by decide +kernel
theorem dX0_init_37 : decode cX0_init 37 = .ok (.putfield 23, 3) := by decide +kernel
theorem dX0_init_40 : decode cX0_init 40 = .ok (.return_, 1) := by decide +kernel
set_option maxRecDepth 20000 in
theorem ggX0_steppedTide_X4_moons : GoodIn wsX0_steppedTide wsX4_moons := goodIn_ca (goodIn_r _ [8, 9, 10, 11, 12, 13, 14, 15, 95, 96] (by decide +kernel) (by decide +kernel)) (goodIn_sub (fun _ h => List.mem_cons_of_mem _ (List.mem_append_left _ (List.mem_append_right _ h))) (by decide +kernel))
set_option maxRecDepth 20000 in
theorem gX0_steppedTide_X4_moons : GoodIn wsX0_steppedTide (wsV RX0 26 RX4 yX4_moons wsX4_moons) := goodIn_app (goodIn_of _ (by decide +kernel)) ggX0_steppedTide_X4_moons
set_option maxRecDepth 20000 in
theorem ggX0_steppedTide_X4_ageNow : GoodIn wsX0_steppedTide wsX4_ageNow := goodIn_ca (goodIn_r _ [19, 9, 10, 11, 12, 13, 14, 15, 95, 96] (by decide +kernel) (by decide +kernel)) (goodIn_sub (fun _ h => List.mem_cons_of_mem _ (List.mem_append_left _ (List.mem_append_right _ h))) (by decide +kernel))
set_option maxRecDepth 20000 in
theorem gX0_steppedTide_X4_ageNow : GoodIn wsX0_steppedTide (wsV RX0 32 RX4 yX4_ageNow wsX4_ageNow) := goodIn_app (goodIn_of _ (by decide +kernel)) ggX0_steppedTide_X4_ageNow
set_option maxRecDepth 20000 in
theorem ggX0_steppedTide_X2_put : GoodIn wsX0_steppedTide wsX2_put := goodIn_ca (goodIn_r _ [23, 15, 96] (by decide +kernel) (by decide +kernel)) (goodIn_sub (fun _ h => List.mem_cons_of_mem _ (List.mem_append_left _ (List.mem_append_right _ h))) (by decide +kernel))
set_option maxRecDepth 20000 in
theorem gX0_steppedTide_X2_put : GoodIn wsX0_steppedTide (wsV RX0 36 RX2 yX2_put wsX2_put) := goodIn_app (goodIn_of _ (by decide +kernel)) ggX0_steppedTide_X2_put
set_option maxRecDepth 20000 in
theorem ggX0_steppedTide_X4_placeAfter : GoodIn wsX0_steppedTide wsX4_placeAfter := goodIn_ca (goodIn_ca (goodIn_r _ [27, 9, 28, 17, 18, 7, 19, 10, 11, 12, 13, 14, 15, 29, 30, 31, 32, 95, 96] (by decide +kernel) (by decide +kernel)) (goodIn_sub (fun _ h => List.mem_cons_of_mem _ (List.mem_append_right _ h)) (by decide +kernel))) (goodIn_sub (fun _ h => List.mem_cons_of_mem _ (List.mem_append_left _ (List.mem_append_right _ h))) (by decide +kernel))
set_option maxRecDepth 20000 in
theorem gX0_steppedTide_X4_placeAfter : GoodIn wsX0_steppedTide (wsV RX0 40 RX4 yX4_placeAfter wsX4_placeAfter) := goodIn_app (goodIn_of _ (by decide +kernel)) ggX0_steppedTide_X4_placeAfter
set_option maxRecDepth 20000 in
theorem ggX0_steppedTide_X4_massAfter : GoodIn wsX0_steppedTide wsX4_massAfter := goodIn_ca (goodIn_r _ [36, 37, 38, 39, 40, 28, 17, 18, 7, 19, 9, 10, 11, 12, 13, 14, 15, 41, 42, 43, 44, 45, 46, 47, 48, 95, 96] (by decide +kernel) (by decide +kernel)) (goodIn_sub (fun _ h => List.mem_cons_of_mem _ (List.mem_append_left _ (List.mem_append_right _ h))) (by decide +kernel))
set_option maxRecDepth 20000 in
theorem gX0_steppedTide_X4_massAfter : GoodIn wsX0_steppedTide (wsV RX0 44 RX4 yX4_massAfter wsX4_massAfter) := goodIn_app (goodIn_of _ (by decide +kernel)) ggX0_steppedTide_X4_massAfter
set_option maxRecDepth 20000 in
theorem ggX0_steppedTide_X0_step : GoodIn wsX0_steppedTide wsX0_step := goodIn_ca (goodIn_ca (goodIn_r _ [53, 1, 2, 3, 54, 55, 56, 13, 57, 58, 11, 12, 14, 15, 59, 21, 22, 23, 60, 61, 30, 31, 7, 32, 9, 10, 20, 62, 46, 47, 48, 63, 42, 43, 44, 92, 93, 94, 96, 95] (by decide +kernel) (by decide +kernel)) (goodIn_sub (fun _ h => List.mem_cons_of_mem _ (List.mem_append_right _ h)) (by decide +kernel))) (goodIn_sub (fun _ h => List.mem_cons_of_mem _ (List.mem_append_left _ (List.mem_append_right _ h))) (by decide +kernel))
set_option maxRecDepth 20000 in
theorem gX0_steppedTide_X0_step : GoodIn wsX0_steppedTide (wsV RX0 47 RX0 yX0_step wsX0_step) := goodIn_app (goodIn_of _ (by decide +kernel)) ggX0_steppedTide_X0_step
set_option maxRecDepth 20000 in
theorem ggX0_steppedTide_X2_at : GoodIn wsX0_steppedTide wsX2_at := goodIn_ca (goodIn_r _ [14, 15, 96] (by decide +kernel) (by decide +kernel)) (goodIn_sub (fun _ h => List.mem_cons_of_mem _ (List.mem_append_left _ (List.mem_append_right _ h))) (by decide +kernel))
set_option maxRecDepth 20000 in
theorem gX0_steppedTide_X2_at : GoodIn wsX0_steppedTide (wsV RX0 51 RX2 yX2_at wsX2_at) := goodIn_app (goodIn_of _ (by decide +kernel)) ggX0_steppedTide_X2_at
set_option maxRecDepth 20000 in
theorem ggX0_steppedTide_X4_pull : GoodIn wsX0_steppedTide wsX4_pull := goodIn_ca (goodIn_r _ [67, 68, 69, 70, 7, 71, 9, 10, 11, 12, 13, 14, 15, 72, 73, 74, 75, 76, 39, 77, 78, 79, 80, 95, 96] (by decide +kernel) (by decide +kernel)) (goodIn_sub (fun _ h => List.mem_cons_of_mem _ (List.mem_append_left _ (List.mem_append_right _ h))) (by decide +kernel))
set_option maxRecDepth 20000 in
theorem gX0_steppedTide_X4_pull : GoodIn wsX0_steppedTide (wsV RX0 54 RX4 yX4_pull wsX4_pull) := goodIn_app (goodIn_of _ (by decide +kernel)) ggX0_steppedTide_X4_pull
set_option maxRecDepth 20000 in
theorem ggX0_steppedTide_X4_damped : GoodIn wsX0_steppedTide wsX4_damped := goodIn_ca (goodIn_r _ [84, 85, 86, 87, 7, 88, 9, 89, 90, 91, 10, 11, 12, 13, 14, 15, 95, 96] (by decide +kernel) (by decide +kernel)) (goodIn_sub (fun _ h => List.mem_cons_of_mem _ (List.mem_append_left _ (List.mem_append_right _ h))) (by decide +kernel))
set_option maxRecDepth 20000 in
theorem gX0_steppedTide_X4_damped : GoodIn wsX0_steppedTide (wsV RX0 58 RX4 yX4_damped wsX4_damped) := goodIn_app (goodIn_of _ (by decide +kernel)) ggX0_steppedTide_X4_damped
theorem dX0_steppedTide_0 : decode cX0_steppedTide 0 = .ok (.iconst 0, 1) := by decide +kernel
theorem dX0_steppedTide_1 : decode cX0_steppedTide 1 = .ok (.istore 4, 2) := by decide +kernel
theorem dX0_steppedTide_3 : decode cX0_steppedTide 3 = .ok (.iload 4, 2) := by decide +kernel
theorem dX0_steppedTide_5 : decode cX0_steppedTide 5 = .ok (.aload_n 1, 1) := by decide +kernel
theorem dX0_steppedTide_6 : decode cX0_steppedTide 6 = .ok (.invokevirtual 26, 3) := by decide +kernel
theorem dX0_steppedTide_9 : decode cX0_steppedTide 9 = .ok (.if_icmp .ge 56, 3) := by decide +kernel
theorem dX0_steppedTide_12 : decode cX0_steppedTide 12 = .ok (.aload_n 0, 1) := by decide +kernel
theorem dX0_steppedTide_13 : decode cX0_steppedTide 13 = .ok (.getfield 14, 3) := by decide +kernel
theorem dX0_steppedTide_16 : decode cX0_steppedTide 16 = .ok (.iload 4, 2) := by decide +kernel
theorem dX0_steppedTide_18 : decode cX0_steppedTide 18 = .ok (.aload_n 1, 1) := by decide +kernel
theorem dX0_steppedTide_19 : decode cX0_steppedTide 19 = .ok (.iload 4, 2) := by decide +kernel
theorem dX0_steppedTide_21 : decode cX0_steppedTide 21 = .ok (.invokevirtual 32, 3) := by decide +kernel
theorem dX0_steppedTide_24 : decode cX0_steppedTide 24 = .ok (.invokevirtual 36, 3) := by decide +kernel
theorem dX0_steppedTide_27 : decode cX0_steppedTide 27 = .ok (.aload_n 0, 1) := by decide +kernel
theorem dX0_steppedTide_28 : decode cX0_steppedTide 28 = .ok (.getfield 20, 3) := by decide +kernel
theorem dX0_steppedTide_31 : decode cX0_steppedTide 31 = .ok (.iload 4, 2) := by decide +kernel
theorem dX0_steppedTide_33 : decode cX0_steppedTide 33 = .ok (.aload_n 1, 1) := by decide +kernel
theorem dX0_steppedTide_34 : decode cX0_steppedTide 34 = .ok (.iload 4, 2) := by decide +kernel
theorem dX0_steppedTide_36 : decode cX0_steppedTide 36 = .ok (.iconst 0, 1) := by decide +kernel
theorem dX0_steppedTide_37 : decode cX0_steppedTide 37 = .ok (.invokevirtual 40, 3) := by decide +kernel
theorem dX0_steppedTide_40 : decode cX0_steppedTide 40 = .ok (.invokevirtual 36, 3) := by decide +kernel
theorem dX0_steppedTide_43 : decode cX0_steppedTide 43 = .ok (.aload_n 0, 1) := by decide +kernel
theorem dX0_steppedTide_44 : decode cX0_steppedTide 44 = .ok (.getfield 23, 3) := by decide +kernel
theorem dX0_steppedTide_47 : decode cX0_steppedTide 47 = .ok (.iload 4, 2) := by decide +kernel
theorem dX0_steppedTide_49 : decode cX0_steppedTide 49 = .ok (.aload_n 1, 1) := by decide +kernel
theorem dX0_steppedTide_50 : decode cX0_steppedTide 50 = .ok (.iload 4, 2) := by decide +kernel
theorem dX0_steppedTide_52 : decode cX0_steppedTide 52 = .ok (.iconst 0, 1) := by decide +kernel
theorem dX0_steppedTide_53 : decode cX0_steppedTide 53 = .ok (.invokevirtual 44, 3) := by decide +kernel
theorem dX0_steppedTide_56 : decode cX0_steppedTide 56 = .ok (.invokevirtual 36, 3) := by decide +kernel
theorem dX0_steppedTide_59 : decode cX0_steppedTide 59 = .ok (.iinc 4 1, 3) := by decide +kernel
theorem dX0_steppedTide_62 : decode cX0_steppedTide 62 = .ok (.goto (-59), 3) := by decide +kernel
theorem dX0_steppedTide_65 : decode cX0_steppedTide 65 = .ok (.iconst 0, 1) := by decide +kernel
theorem dX0_steppedTide_66 : decode cX0_steppedTide 66 = .ok (.istore 4, 2) := by decide +kernel
theorem dX0_steppedTide_68 : decode cX0_steppedTide 68 = .ok (.iload 4, 2) := by decide +kernel
theorem dX0_steppedTide_70 : decode cX0_steppedTide 70 = .ok (.iload_n 3, 1) := by decide +kernel
theorem dX0_steppedTide_71 : decode cX0_steppedTide 71 = .ok (.if_icmp .ge 34, 3) := by decide +kernel
theorem dX0_steppedTide_74 : decode cX0_steppedTide 74 = .ok (.iconst 0, 1) := by decide +kernel
theorem dX0_steppedTide_75 : decode cX0_steppedTide 75 = .ok (.istore 5, 2) := by decide +kernel
theorem dX0_steppedTide_77 : decode cX0_steppedTide 77 = .ok (.iload 5, 2) := by decide +kernel
theorem dX0_steppedTide_79 : decode cX0_steppedTide 79 = .ok (.aload_n 1, 1) := by decide +kernel
theorem dX0_steppedTide_80 : decode cX0_steppedTide 80 = .ok (.invokevirtual 26, 3) := by decide +kernel
theorem dX0_steppedTide_83 : decode cX0_steppedTide 83 = .ok (.if_icmp .ge 16, 3) := by decide +kernel
theorem dX0_steppedTide_86 : decode cX0_steppedTide 86 = .ok (.aload_n 0, 1) := by decide +kernel
theorem dX0_steppedTide_87 : decode cX0_steppedTide 87 = .ok (.aload_n 1, 1) := by decide +kernel
theorem dX0_steppedTide_88 : decode cX0_steppedTide 88 = .ok (.iload 5, 2) := by decide +kernel
theorem dX0_steppedTide_90 : decode cX0_steppedTide 90 = .ok (.invokevirtual 47, 3) := by decide +kernel
theorem dX0_steppedTide_93 : decode cX0_steppedTide 93 = .ok (.iinc 5 1, 3) := by decide +kernel
theorem dX0_steppedTide_96 : decode cX0_steppedTide 96 = .ok (.goto (-19), 3) := by decide +kernel
theorem dX0_steppedTide_99 : decode cX0_steppedTide 99 = .ok (.iinc 4 1, 3) := by decide +kernel
theorem dX0_steppedTide_102 : decode cX0_steppedTide 102 = .ok (.goto (-34), 3) := by decide +kernel
theorem dX0_steppedTide_105 : decode cX0_steppedTide 105 = .ok (.iconst 0, 1) := by decide +kernel
theorem dX0_steppedTide_106 : decode cX0_steppedTide 106 = .ok (.istore 4, 2) := by decide +kernel
theorem dX0_steppedTide_108 : decode cX0_steppedTide 108 = .ok (.iconst 0, 1) := by decide +kernel
theorem dX0_steppedTide_109 : decode cX0_steppedTide 109 = .ok (.istore 5, 2) := by decide +kernel
theorem dX0_steppedTide_111 : decode cX0_steppedTide 111 = .ok (.iload 5, 2) := by decide +kernel
theorem dX0_steppedTide_113 : decode cX0_steppedTide 113 = .ok (.aload_n 1, 1) := by decide +kernel
theorem dX0_steppedTide_114 : decode cX0_steppedTide 114 = .ok (.invokevirtual 26, 3) := by decide +kernel
theorem dX0_steppedTide_117 : decode cX0_steppedTide 117 = .ok (.if_icmp .ge 37, 3) := by decide +kernel
theorem dX0_steppedTide_120 : decode cX0_steppedTide 120 = .ok (.iload 4, 2) := by decide +kernel
theorem dX0_steppedTide_122 : decode cX0_steppedTide 122 = .ok (.aload_n 1, 1) := by decide +kernel
theorem dX0_steppedTide_123 : decode cX0_steppedTide 123 = .ok (.aload_n 0, 1) := by decide +kernel
theorem dX0_steppedTide_124 : decode cX0_steppedTide 124 = .ok (.getfield 23, 3) := by decide +kernel
theorem dX0_steppedTide_127 : decode cX0_steppedTide 127 = .ok (.iload 5, 2) := by decide +kernel
theorem dX0_steppedTide_129 : decode cX0_steppedTide 129 = .ok (.invokevirtual 51, 3) := by decide +kernel
theorem dX0_steppedTide_132 : decode cX0_steppedTide 132 = .ok (.aload_n 0, 1) := by decide +kernel
theorem dX0_steppedTide_133 : decode cX0_steppedTide 133 = .ok (.getfield 20, 3) := by decide +kernel
theorem dX0_steppedTide_136 : decode cX0_steppedTide 136 = .ok (.iload 5, 2) := by decide +kernel
theorem dX0_steppedTide_138 : decode cX0_steppedTide 138 = .ok (.invokevirtual 51, 3) := by decide +kernel
theorem dX0_steppedTide_141 : decode cX0_steppedTide 141 = .ok (.iload_n 2, 1) := by decide +kernel
theorem dX0_steppedTide_142 : decode cX0_steppedTide 142 = .ok (.invokevirtual 54, 3) := by decide +kernel
theorem dX0_steppedTide_145 : decode cX0_steppedTide 145 = .ok (.iadd, 1) := by decide +kernel
theorem dX0_steppedTide_146 : decode cX0_steppedTide 146 = .ok (.istore 4, 2) := by decide +kernel
theorem dX0_steppedTide_148 : decode cX0_steppedTide 148 = .ok (.iinc 5 1, 3) := by decide +kernel
theorem dX0_steppedTide_151 : decode cX0_steppedTide 151 = .ok (.goto (-40), 3) := by decide +kernel
theorem dX0_steppedTide_154 : decode cX0_steppedTide 154 = .ok (.aload_n 1, 1) := by decide +kernel
theorem dX0_steppedTide_155 : decode cX0_steppedTide 155 = .ok (.iload 4, 2) := by decide +kernel
theorem dX0_steppedTide_157 : decode cX0_steppedTide 157 = .ok (.iload_n 2, 1) := by decide +kernel
theorem dX0_steppedTide_158 : decode cX0_steppedTide 158 = .ok (.invokevirtual 58, 3) := by decide +kernel
theorem dX0_steppedTide_161 : decode cX0_steppedTide 161 = .ok (.ireturn, 1) := by decide +kernel
set_option maxRecDepth 20000 in
theorem ggX0_step_X2_add : GoodIn wsX0_step wsX2_add := goodIn_ca (goodIn_r _ [8, 9, 10, 11, 7, 12, 13, 14, 15, 16, 17, 38] (by decide +kernel) (by decide +kernel)) (goodIn_sub (fun _ h => List.mem_cons_of_mem _ (List.mem_append_right _ h)) (by decide +kernel))
set_option maxRecDepth 20000 in
theorem gX0_step_X2_add : GoodIn wsX0_step (wsV RX0 61 RX2 yX2_add wsX2_add) := goodIn_app (goodIn_of _ (by decide +kernel)) ggX0_step_X2_add
set_option maxRecDepth 20000 in
theorem ggX0_step_X2_at : GoodIn wsX0_step wsX2_at := goodIn_ca (goodIn_r _ [12, 13, 38] (by decide +kernel) (by decide +kernel)) (goodIn_sub (fun _ h => List.mem_cons_of_mem _ (List.mem_append_right _ h)) (by decide +kernel))
set_option maxRecDepth 20000 in
theorem gX0_step_X2_at : GoodIn wsX0_step (wsV RX0 51 RX2 yX2_at wsX2_at) := goodIn_app (goodIn_of _ (by decide +kernel)) ggX0_step_X2_at
set_option maxRecDepth 20000 in
theorem ggX0_step_X4_periodOf : GoodIn wsX0_step wsX4_periodOf := goodIn_ca (goodIn_r _ [23, 24, 25, 10, 11, 7, 12, 13, 39, 38] (by decide +kernel) (by decide +kernel)) (goodIn_sub (fun _ h => List.mem_cons_of_mem _ (List.mem_append_right _ h)) (by decide +kernel))
set_option maxRecDepth 20000 in
theorem gX0_step_X4_periodOf : GoodIn wsX0_step (wsV RX0 64 RX4 yX4_periodOf wsX4_periodOf) := goodIn_app (goodIn_of _ (by decide +kernel)) ggX0_step_X4_periodOf
set_option maxRecDepth 20000 in
theorem ggX0_step_X2_put : GoodIn wsX0_step wsX2_put := goodIn_ca (goodIn_r _ [17, 13, 38] (by decide +kernel) (by decide +kernel)) (goodIn_sub (fun _ h => List.mem_cons_of_mem _ (List.mem_append_right _ h)) (by decide +kernel))
set_option maxRecDepth 20000 in
theorem gX0_step_X2_put : GoodIn wsX0_step (wsV RX0 36 RX2 yX2_put wsX2_put) := goodIn_app (goodIn_of _ (by decide +kernel)) ggX0_step_X2_put
set_option maxRecDepth 20000 in
theorem ggX0_step_X4_kindOf : GoodIn wsX0_step wsX4_kindOf := goodIn_ca (goodIn_r _ [30, 24, 25, 10, 11, 7, 12, 13, 39, 38] (by decide +kernel) (by decide +kernel)) (goodIn_sub (fun _ h => List.mem_cons_of_mem _ (List.mem_append_right _ h)) (by decide +kernel))
set_option maxRecDepth 20000 in
theorem gX0_step_X4_kindOf : GoodIn wsX0_step (wsV RX0 67 RX4 yX4_kindOf wsX4_kindOf) := goodIn_app (goodIn_of _ (by decide +kernel)) ggX0_step_X4_kindOf
set_option maxRecDepth 20000 in
theorem ggX0_step_X4_firstMassOf : GoodIn wsX0_step wsX4_firstMassOf := goodIn_ca (goodIn_r _ [34, 24, 25, 10, 11, 7, 12, 13, 39, 38] (by decide +kernel) (by decide +kernel)) (goodIn_sub (fun _ h => List.mem_cons_of_mem _ (List.mem_append_right _ h)) (by decide +kernel))
set_option maxRecDepth 20000 in
theorem gX0_step_X4_firstMassOf : GoodIn wsX0_step (wsV RX0 70 RX4 yX4_firstMassOf wsX4_firstMassOf) := goodIn_app (goodIn_of _ (by decide +kernel)) ggX0_step_X4_firstMassOf
theorem dX0_step_0 : decode cX0_step 0 = .ok (.aload_n 0, 1) := by decide +kernel
theorem dX0_step_1 : decode cX0_step 1 = .ok (.getfield 14, 3) := by decide +kernel
theorem dX0_step_4 : decode cX0_step 4 = .ok (.iload_n 2, 1) := by decide +kernel
theorem dX0_step_5 : decode cX0_step 5 = .ok (.iconst 1, 1) := by decide +kernel
theorem dX0_step_6 : decode cX0_step 6 = .ok (.invokevirtual 61, 3) := by decide +kernel
theorem dX0_step_9 : decode cX0_step 9 = .ok (.aload_n 0, 1) := by decide +kernel
theorem dX0_step_10 : decode cX0_step 10 = .ok (.getfield 14, 3) := by decide +kernel
theorem dX0_step_13 : decode cX0_step 13 = .ok (.iload_n 2, 1) := by decide +kernel
theorem dX0_step_14 : decode cX0_step 14 = .ok (.invokevirtual 51, 3) := by decide +kernel
theorem dX0_step_17 : decode cX0_step 17 = .ok (.istore_n 3, 1) := by decide +kernel
theorem dX0_step_18 : decode cX0_step 18 = .ok (.aload_n 1, 1) := by decide +kernel
theorem dX0_step_19 : decode cX0_step 19 = .ok (.iload_n 2, 1) := by decide +kernel
theorem dX0_step_20 : decode cX0_step 20 = .ok (.invokevirtual 64, 3) := by decide +kernel
theorem dX0_step_23 : decode cX0_step 23 = .ok (.istore 4, 2) := by decide +kernel
theorem dX0_step_25 : decode cX0_step 25 = .ok (.iload 4, 2) := by decide +kernel
theorem dX0_step_27 : decode cX0_step 27 = .ok (.iconst 1, 1) := by decide +kernel
theorem dX0_step_28 : decode cX0_step 28 = .ok (.if_icmp .lt 31, 3) := by decide +kernel
theorem dX0_step_31 : decode cX0_step 31 = .ok (.iload_n 3, 1) := by decide +kernel
theorem dX0_step_32 : decode cX0_step 32 = .ok (.iload 4, 2) := by decide +kernel
theorem dX0_step_34 : decode cX0_step 34 = .ok (.irem, 1) := by decide +kernel
theorem dX0_step_35 : decode cX0_step 35 = .ok (.ifCond .ne 24, 3) := by decide +kernel
theorem dX0_step_38 : decode cX0_step 38 = .ok (.aload_n 0, 1) := by decide +kernel
theorem dX0_step_39 : decode cX0_step 39 = .ok (.getfield 20, 3) := by decide +kernel
theorem dX0_step_42 : decode cX0_step 42 = .ok (.iload_n 2, 1) := by decide +kernel
theorem dX0_step_43 : decode cX0_step 43 = .ok (.aload_n 0, 1) := by decide +kernel
theorem dX0_step_44 : decode cX0_step 44 = .ok (.getfield 20, 3) := by decide +kernel
theorem dX0_step_47 : decode cX0_step 47 = .ok (.iload_n 2, 1) := by decide +kernel
theorem dX0_step_48 : decode cX0_step 48 = .ok (.invokevirtual 51, 3) := by decide +kernel
theorem dX0_step_51 : decode cX0_step 51 = .ok (.iconst 1, 1) := by decide +kernel
theorem dX0_step_52 : decode cX0_step 52 = .ok (.iadd, 1) := by decide +kernel
theorem dX0_step_53 : decode cX0_step 53 = .ok (.bipush 12, 2) := by decide +kernel
theorem dX0_step_55 : decode cX0_step 55 = .ok (.irem, 1) := by decide +kernel
theorem dX0_step_56 : decode cX0_step 56 = .ok (.invokevirtual 36, 3) := by decide +kernel
theorem dX0_step_59 : decode cX0_step 59 = .ok (.aload_n 1, 1) := by decide +kernel
theorem dX0_step_60 : decode cX0_step 60 = .ok (.iload_n 2, 1) := by decide +kernel
theorem dX0_step_61 : decode cX0_step 61 = .ok (.invokevirtual 67, 3) := by decide +kernel
theorem dX0_step_64 : decode cX0_step 64 = .ok (.istore 5, 2) := by decide +kernel
theorem dX0_step_66 : decode cX0_step 66 = .ok (.iload 5, 2) := by decide +kernel
theorem dX0_step_68 : decode cX0_step 68 = .ok (.iconst 1, 1) := by decide +kernel
theorem dX0_step_69 : decode cX0_step 69 = .ok (.if_icmp .ne 30, 3) := by decide +kernel
theorem dX0_step_72 : decode cX0_step 72 = .ok (.iload_n 3, 1) := by decide +kernel
theorem dX0_step_73 : decode cX0_step 73 = .ok (.bipush 10, 2) := by decide +kernel
theorem dX0_step_75 : decode cX0_step 75 = .ok (.irem, 1) := by decide +kernel
theorem dX0_step_76 : decode cX0_step 76 = .ok (.ifCond .ne 23, 3) := by decide +kernel
theorem dX0_step_79 : decode cX0_step 79 = .ok (.aload_n 0, 1) := by decide +kernel
theorem dX0_step_80 : decode cX0_step 80 = .ok (.getfield 23, 3) := by decide +kernel
theorem dX0_step_83 : decode cX0_step 83 = .ok (.iload_n 2, 1) := by decide +kernel
theorem dX0_step_84 : decode cX0_step 84 = .ok (.invokevirtual 51, 3) := by decide +kernel
theorem dX0_step_87 : decode cX0_step 87 = .ok (.ifCond .le 12, 3) := by decide +kernel
theorem dX0_step_90 : decode cX0_step 90 = .ok (.aload_n 0, 1) := by decide +kernel
theorem dX0_step_91 : decode cX0_step 91 = .ok (.getfield 23, 3) := by decide +kernel
theorem dX0_step_94 : decode cX0_step 94 = .ok (.iload_n 2, 1) := by decide +kernel
theorem dX0_step_95 : decode cX0_step 95 = .ok (.iconst (-1), 1) := by decide +kernel
theorem dX0_step_96 : decode cX0_step 96 = .ok (.invokevirtual 61, 3) := by decide +kernel
theorem dX0_step_99 : decode cX0_step 99 = .ok (.iload 5, 2) := by decide +kernel
theorem dX0_step_101 : decode cX0_step 101 = .ok (.iconst 2, 1) := by decide +kernel
theorem dX0_step_102 : decode cX0_step 102 = .ok (.if_icmp .ne 33, 3) := by decide +kernel
theorem dX0_step_105 : decode cX0_step 105 = .ok (.aload_n 1, 1) := by decide +kernel
theorem dX0_step_106 : decode cX0_step 106 = .ok (.iload_n 2, 1) := by decide +kernel
theorem dX0_step_107 : decode cX0_step 107 = .ok (.invokevirtual 70, 3) := by decide +kernel
theorem dX0_step_110 : decode cX0_step 110 = .ok (.istore 6, 2) := by decide +kernel
theorem dX0_step_112 : decode cX0_step 112 = .ok (.aload_n 0, 1) := by decide +kernel
theorem dX0_step_113 : decode cX0_step 113 = .ok (.getfield 23, 3) := by decide +kernel
theorem dX0_step_116 : decode cX0_step 116 = .ok (.iload_n 2, 1) := by decide +kernel
theorem dX0_step_117 : decode cX0_step 117 = .ok (.iload_n 3, 1) := by decide +kernel
theorem dX0_step_118 : decode cX0_step 118 = .ok (.iconst 2, 1) := by decide +kernel
theorem dX0_step_119 : decode cX0_step 119 = .ok (.irem, 1) := by decide +kernel
theorem dX0_step_120 : decode cX0_step 120 = .ok (.ifCond .ne 8, 3) := by decide +kernel
theorem dX0_step_123 : decode cX0_step 123 = .ok (.iload 6, 2) := by decide +kernel
theorem dX0_step_125 : decode cX0_step 125 = .ok (.goto 7, 3) := by decide +kernel
theorem dX0_step_128 : decode cX0_step 128 = .ok (.iload 6, 2) := by decide +kernel
theorem dX0_step_130 : decode cX0_step 130 = .ok (.iconst 2, 1) := by decide +kernel
theorem dX0_step_131 : decode cX0_step 131 = .ok (.idiv, 1) := by decide +kernel
theorem dX0_step_132 : decode cX0_step 132 = .ok (.invokevirtual 36, 3) := by decide +kernel
theorem dX0_step_135 : decode cX0_step 135 = .ok (.return_, 1) := by decide +kernel
set_option maxRecDepth 20000 in
theorem ggX0_agreesIn_X4_tideAfter : GoodIn wsX0_agreesIn wsX4_tideAfter := goodIn_ca (goodIn_ca (goodIn_r _ [5, 6, 7, 8, 4, 9, 10, 11, 12, 13, 14, 15, 16, 17, 18, 19, 20, 21, 22, 23, 24, 25, 26, 27, 28, 29, 30, 31, 32, 33, 34, 35, 36, 37, 38, 39, 40, 41, 42, 43, 44, 45, 46, 47, 48, 49, 50, 51, 52, 53, 54, 55, 56, 57, 58, 59, 60, 61, 62, 63, 64, 65, 66, 67, 68, 69, 70, 71, 72, 105, 106] (by decide +kernel) (by decide +kernel)) (goodIn_sub (fun _ h => List.mem_cons_of_mem _ (List.mem_append_left _ (List.mem_append_right _ h))) (by decide +kernel))) (goodIn_sub (fun _ h => List.mem_cons_of_mem _ (List.mem_append_right _ h)) (by decide +kernel))
set_option maxRecDepth 20000 in
theorem gX0_agreesIn_X4_tideAfter : GoodIn wsX0_agreesIn (wsV RX0 73 RX4 yX4_tideAfter wsX4_tideAfter) := goodIn_app (goodIn_of _ (by decide +kernel)) ggX0_agreesIn_X4_tideAfter
set_option maxRecDepth 20000 in
theorem ggX0_agreesIn_X0_steppedTide : GoodIn wsX0_agreesIn wsX0_steppedTide := goodIn_ca (goodIn_ca (goodIn_r _ [77, 78, 79, 80, 81, 7, 8, 4, 9, 10, 11, 12, 13, 14, 15, 16, 82, 26, 27, 28, 83, 84, 85, 86, 87, 38, 39, 40, 25, 41, 42, 43, 44, 88, 18, 19, 20, 21, 22, 23, 24, 29, 30, 31, 32, 33, 34, 35, 36, 89, 90, 91, 76, 92, 93, 94, 95, 96, 97, 98, 99, 100, 101, 102, 103, 46, 47, 48, 49, 50, 51, 52, 53, 54, 55, 56, 57, 58, 59, 60, 61, 104, 63, 64, 65, 66, 67, 68, 69, 70, 71, 72, 107, 108, 109, 105, 106] (by decide +kernel) (by decide +kernel)) (goodIn_sub (fun _ h => List.mem_cons_of_mem _ (List.mem_append_left _ (List.mem_append_right _ h))) (by decide +kernel))) (goodIn_sub (fun _ h => List.mem_cons_of_mem _ (List.mem_append_right _ h)) (by decide +kernel))
set_option maxRecDepth 20000 in
theorem gX0_agreesIn_X0_steppedTide : GoodIn wsX0_agreesIn (wsV RX0 76 RX0 yX0_steppedTide wsX0_steppedTide) := goodIn_app (goodIn_of _ (by decide +kernel)) ggX0_agreesIn_X0_steppedTide
theorem dX0_agreesIn_0 : decode cX0_agreesIn 0 = .ok (.iconst 0, 1) := by decide +kernel
theorem dX0_agreesIn_1 : decode cX0_agreesIn 1 = .ok (.istore_n 3, 1) := by decide +kernel
theorem dX0_agreesIn_2 : decode cX0_agreesIn 2 = .ok (.iload_n 3, 1) := by decide +kernel
theorem dX0_agreesIn_3 : decode cX0_agreesIn 3 = .ok (.bipush 12, 2) := by decide +kernel
theorem dX0_agreesIn_5 : decode cX0_agreesIn 5 = .ok (.if_icmp .ge 27, 3) := by decide +kernel
theorem dX0_agreesIn_8 : decode cX0_agreesIn 8 = .ok (.aload_n 1, 1) := by decide +kernel
theorem dX0_agreesIn_9 : decode cX0_agreesIn 9 = .ok (.iload_n 3, 1) := by decide +kernel
theorem dX0_agreesIn_10 : decode cX0_agreesIn 10 = .ok (.iload_n 2, 1) := by decide +kernel
theorem dX0_agreesIn_11 : decode cX0_agreesIn 11 = .ok (.invokevirtual 73, 3) := by decide +kernel
theorem dX0_agreesIn_14 : decode cX0_agreesIn 14 = .ok (.aload_n 0, 1) := by decide +kernel
theorem dX0_agreesIn_15 : decode cX0_agreesIn 15 = .ok (.aload_n 1, 1) := by decide +kernel
theorem dX0_agreesIn_16 : decode cX0_agreesIn 16 = .ok (.iload_n 3, 1) := by decide +kernel
theorem dX0_agreesIn_17 : decode cX0_agreesIn 17 = .ok (.iload_n 2, 1) := by decide +kernel
theorem dX0_agreesIn_18 : decode cX0_agreesIn 18 = .ok (.invokevirtual 76, 3) := by decide +kernel
theorem dX0_agreesIn_21 : decode cX0_agreesIn 21 = .ok (.if_icmp .eq 5, 3) := by decide +kernel
theorem dX0_agreesIn_24 : decode cX0_agreesIn 24 = .ok (.iconst 0, 1) := by decide +kernel
theorem dX0_agreesIn_25 : decode cX0_agreesIn 25 = .ok (.ireturn, 1) := by decide +kernel
theorem dX0_agreesIn_26 : decode cX0_agreesIn 26 = .ok (.iinc 3 1, 3) := by decide +kernel
theorem dX0_agreesIn_29 : decode cX0_agreesIn 29 = .ok (.goto (-27), 3) := by decide +kernel
theorem dX0_agreesIn_32 : decode cX0_agreesIn 32 = .ok (.iconst 1, 1) := by decide +kernel
theorem dX0_agreesIn_33 : decode cX0_agreesIn 33 = .ok (.ireturn, 1) := by decide +kernel
set_option maxRecDepth 20000 in
theorem ggX0_highest_X4_tideAfter : GoodIn wsX0_highest wsX4_tideAfter := goodIn_ca (goodIn_ca (goodIn_r _ [5, 6, 7, 8, 4, 9, 10, 11, 12, 13, 14, 15, 16, 17, 18, 19, 20, 21, 22, 23, 24, 25, 26, 27, 28, 29, 30, 31, 32, 33, 34, 35, 36, 37, 38, 39, 40, 41, 42, 43, 44, 45, 46, 47, 48, 49, 50, 51, 52, 53, 54, 55, 56, 57, 58, 59, 60, 61, 62, 63, 64, 65, 66, 67, 68, 69, 70, 71, 72, 73, 74] (by decide +kernel) (by decide +kernel)) (goodIn_sub (fun _ h => List.mem_cons_of_mem _ (List.mem_append_left _ (List.mem_append_right _ h))) (by decide +kernel))) (goodIn_sub (fun _ h => List.mem_cons_of_mem _ (List.mem_append_right _ h)) (by decide +kernel))
set_option maxRecDepth 20000 in
theorem gX0_highest_X4_tideAfter : GoodIn wsX0_highest (wsV RX0 73 RX4 yX4_tideAfter wsX4_tideAfter) := goodIn_app (goodIn_of _ (by decide +kernel)) ggX0_highest_X4_tideAfter
theorem dX0_highest_0 : decode cX0_highest 0 = .ok (.iconst 0, 1) := by decide +kernel
theorem dX0_highest_1 : decode cX0_highest 1 = .ok (.istore_n 2, 1) := by decide +kernel
theorem dX0_highest_2 : decode cX0_highest 2 = .ok (.aload_n 0, 1) := by decide +kernel
theorem dX0_highest_3 : decode cX0_highest 3 = .ok (.iload_n 1, 1) := by decide +kernel
theorem dX0_highest_4 : decode cX0_highest 4 = .ok (.iconst 0, 1) := by decide +kernel
theorem dX0_highest_5 : decode cX0_highest 5 = .ok (.invokevirtual 73, 3) := by decide +kernel
theorem dX0_highest_8 : decode cX0_highest 8 = .ok (.istore_n 3, 1) := by decide +kernel
theorem dX0_highest_9 : decode cX0_highest 9 = .ok (.iconst 1, 1) := by decide +kernel
theorem dX0_highest_10 : decode cX0_highest 10 = .ok (.istore 4, 2) := by decide +kernel
theorem dX0_highest_12 : decode cX0_highest 12 = .ok (.iload 4, 2) := by decide +kernel
theorem dX0_highest_14 : decode cX0_highest 14 = .ok (.sipush 144, 3) := by decide +kernel
theorem dX0_highest_17 : decode cX0_highest 17 = .ok (.if_icmp .gt 30, 3) := by decide +kernel
theorem dX0_highest_20 : decode cX0_highest 20 = .ok (.aload_n 0, 1) := by decide +kernel
theorem dX0_highest_21 : decode cX0_highest 21 = .ok (.iload_n 1, 1) := by decide +kernel
theorem dX0_highest_22 : decode cX0_highest 22 = .ok (.iload 4, 2) := by decide +kernel
theorem dX0_highest_24 : decode cX0_highest 24 = .ok (.invokevirtual 73, 3) := by decide +kernel
theorem dX0_highest_27 : decode cX0_highest 27 = .ok (.istore 5, 2) := by decide +kernel
theorem dX0_highest_29 : decode cX0_highest 29 = .ok (.iload 5, 2) := by decide +kernel
theorem dX0_highest_31 : decode cX0_highest 31 = .ok (.iload_n 3, 1) := by decide +kernel
theorem dX0_highest_32 : decode cX0_highest 32 = .ok (.if_icmp .le 9, 3) := by decide +kernel
theorem dX0_highest_35 : decode cX0_highest 35 = .ok (.iload 5, 2) := by decide +kernel
theorem dX0_highest_37 : decode cX0_highest 37 = .ok (.istore_n 3, 1) := by decide +kernel
theorem dX0_highest_38 : decode cX0_highest 38 = .ok (.iload 4, 2) := by decide +kernel
theorem dX0_highest_40 : decode cX0_highest 40 = .ok (.istore_n 2, 1) := by decide +kernel
theorem dX0_highest_41 : decode cX0_highest 41 = .ok (.iinc 4 1, 3) := by decide +kernel
theorem dX0_highest_44 : decode cX0_highest 44 = .ok (.goto (-32), 3) := by decide +kernel
theorem dX0_highest_47 : decode cX0_highest 47 = .ok (.iload_n 2, 1) := by decide +kernel
theorem dX0_highest_48 : decode cX0_highest 48 = .ok (.ireturn, 1) := by decide +kernel
set_option maxRecDepth 20000 in
theorem ggX0_lowest_X4_tideAfter : GoodIn wsX0_lowest wsX4_tideAfter := goodIn_ca (goodIn_ca (goodIn_r _ [5, 6, 7, 8, 4, 9, 10, 11, 12, 13, 14, 15, 16, 17, 18, 19, 20, 21, 22, 23, 24, 25, 26, 27, 28, 29, 30, 31, 32, 33, 34, 35, 36, 37, 38, 39, 40, 41, 42, 43, 44, 45, 46, 47, 48, 49, 50, 51, 52, 53, 54, 55, 56, 57, 58, 59, 60, 61, 62, 63, 64, 65, 66, 67, 68, 69, 70, 71, 72, 73, 74] (by decide +kernel) (by decide +kernel)) (goodIn_sub (fun _ h => List.mem_cons_of_mem _ (List.mem_append_left _ (List.mem_append_right _ h))) (by decide +kernel))) (goodIn_sub (fun _ h => List.mem_cons_of_mem _ (List.mem_append_right _ h)) (by decide +kernel))
set_option maxRecDepth 20000 in
theorem gX0_lowest_X4_tideAfter : GoodIn wsX0_lowest (wsV RX0 73 RX4 yX4_tideAfter wsX4_tideAfter) := goodIn_app (goodIn_of _ (by decide +kernel)) ggX0_lowest_X4_tideAfter
theorem dX0_lowest_0 : decode cX0_lowest 0 = .ok (.iconst 0, 1) := by decide +kernel
theorem dX0_lowest_1 : decode cX0_lowest 1 = .ok (.istore_n 2, 1) := by decide +kernel
theorem dX0_lowest_2 : decode cX0_lowest 2 = .ok (.aload_n 0, 1) := by decide +kernel
theorem dX0_lowest_3 : decode cX0_lowest 3 = .ok (.iload_n 1, 1) := by decide +kernel
theorem dX0_lowest_4 : decode cX0_lowest 4 = .ok (.iconst 0, 1) := by decide +kernel
theorem dX0_lowest_5 : decode cX0_lowest 5 = .ok (.invokevirtual 73, 3) := by decide +kernel
theorem dX0_lowest_8 : decode cX0_lowest 8 = .ok (.istore_n 3, 1) := by decide +kernel
theorem dX0_lowest_9 : decode cX0_lowest 9 = .ok (.iconst 1, 1) := by decide +kernel
theorem dX0_lowest_10 : decode cX0_lowest 10 = .ok (.istore 4, 2) := by decide +kernel
theorem dX0_lowest_12 : decode cX0_lowest 12 = .ok (.iload 4, 2) := by decide +kernel
theorem dX0_lowest_14 : decode cX0_lowest 14 = .ok (.sipush 144, 3) := by decide +kernel
theorem dX0_lowest_17 : decode cX0_lowest 17 = .ok (.if_icmp .gt 30, 3) := by decide +kernel
theorem dX0_lowest_20 : decode cX0_lowest 20 = .ok (.aload_n 0, 1) := by decide +kernel
theorem dX0_lowest_21 : decode cX0_lowest 21 = .ok (.iload_n 1, 1) := by decide +kernel
theorem dX0_lowest_22 : decode cX0_lowest 22 = .ok (.iload 4, 2) := by decide +kernel
theorem dX0_lowest_24 : decode cX0_lowest 24 = .ok (.invokevirtual 73, 3) := by decide +kernel
theorem dX0_lowest_27 : decode cX0_lowest 27 = .ok (.istore 5, 2) := by decide +kernel
theorem dX0_lowest_29 : decode cX0_lowest 29 = .ok (.iload 5, 2) := by decide +kernel
theorem dX0_lowest_31 : decode cX0_lowest 31 = .ok (.iload_n 3, 1) := by decide +kernel
theorem dX0_lowest_32 : decode cX0_lowest 32 = .ok (.if_icmp .ge 9, 3) := by decide +kernel
theorem dX0_lowest_35 : decode cX0_lowest 35 = .ok (.iload 5, 2) := by decide +kernel
theorem dX0_lowest_37 : decode cX0_lowest 37 = .ok (.istore_n 3, 1) := by decide +kernel
theorem dX0_lowest_38 : decode cX0_lowest 38 = .ok (.iload 4, 2) := by decide +kernel
theorem dX0_lowest_40 : decode cX0_lowest 40 = .ok (.istore_n 2, 1) := by decide +kernel
theorem dX0_lowest_41 : decode cX0_lowest 41 = .ok (.iinc 4 1, 3) := by decide +kernel
theorem dX0_lowest_44 : decode cX0_lowest 44 = .ok (.goto (-32), 3) := by decide +kernel
theorem dX0_lowest_47 : decode cX0_lowest 47 = .ok (.iload_n 2, 1) := by decide +kernel
theorem dX0_lowest_48 : decode cX0_lowest 48 = .ok (.ireturn, 1) := by decide +kernel
set_option maxRecDepth 20000 in
theorem ggX0_eclipse_X4_plug : GoodIn wsX0_eclipse wsX4_plug := goodIn_ca (goodIn_r _ [5, 6, 7, 8, 9, 10, 11, 12, 31, 32] (by decide +kernel) (by decide +kernel)) (goodIn_sub (fun _ h => List.mem_cons_of_mem _ (List.mem_append_left _ (List.mem_append_right _ h))) (by decide +kernel))
set_option maxRecDepth 20000 in
theorem gX0_eclipse_X4_plug : GoodIn wsX0_eclipse (wsV RX0 80 RX4 yX4_plug wsX4_plug) := goodIn_app (goodIn_of _ (by decide +kernel)) ggX0_eclipse_X4_plug
set_option maxRecDepth 20000 in
theorem ggX0_eclipse_X4_placeAfter : GoodIn wsX0_eclipse wsX4_placeAfter := goodIn_ca (goodIn_ca (goodIn_r _ [16, 6, 17, 18, 19, 4, 20, 7, 8, 9, 10, 11, 12, 21, 22, 23, 24, 31, 32] (by decide +kernel) (by decide +kernel)) (goodIn_sub (fun _ h => List.mem_cons_of_mem _ (List.mem_append_right _ h)) (by decide +kernel))) (goodIn_sub (fun _ h => List.mem_cons_of_mem _ (List.mem_append_left _ (List.mem_append_right _ h))) (by decide +kernel))
set_option maxRecDepth 20000 in
theorem gX0_eclipse_X4_placeAfter : GoodIn wsX0_eclipse (wsV RX0 40 RX4 yX4_placeAfter wsX4_placeAfter) := goodIn_app (goodIn_of _ (by decide +kernel)) ggX0_eclipse_X4_placeAfter
set_option maxRecDepth 20000 in
theorem ggX0_eclipse_X0_untilMove : GoodIn wsX0_eclipse wsX0_untilMove := goodIn_ca (goodIn_ca (goodIn_r _ [28, 29, 22, 23, 4, 24, 6, 7, 8, 9, 10, 11, 12, 30, 18, 19, 20, 31, 32] (by decide +kernel) (by decide +kernel)) (goodIn_sub (fun _ h => List.mem_cons_of_mem _ (List.mem_append_right _ h)) (by decide +kernel))) (goodIn_sub (fun _ h => List.mem_cons_of_mem _ (List.mem_append_left _ (List.mem_append_right _ h))) (by decide +kernel))
set_option maxRecDepth 20000 in
theorem gX0_eclipse_X0_untilMove : GoodIn wsX0_eclipse (va_wsS RX0 83 yX0_untilMove wsX0_untilMove) := goodIn_app (goodIn_of _ (by decide +kernel)) ggX0_eclipse_X0_untilMove
set_option maxRecDepth 20000 in
theorem ggX0_eclipse_X4_periodOf : GoodIn wsX0_eclipse wsX4_periodOf := goodIn_ca (goodIn_r _ [24, 6, 7, 8, 9, 10, 11, 12, 31, 32] (by decide +kernel) (by decide +kernel)) (goodIn_sub (fun _ h => List.mem_cons_of_mem _ (List.mem_append_left _ (List.mem_append_right _ h))) (by decide +kernel))
set_option maxRecDepth 20000 in
theorem gX0_eclipse_X4_periodOf : GoodIn wsX0_eclipse (wsV RX0 64 RX4 yX4_periodOf wsX4_periodOf) := goodIn_app (goodIn_of _ (by decide +kernel)) ggX0_eclipse_X4_periodOf
theorem dX0_eclipse_0 : decode cX0_eclipse 0 = .ok (.aload_n 0, 1) := by decide +kernel
theorem dX0_eclipse_1 : decode cX0_eclipse 1 = .ok (.invokevirtual 80, 3) := by decide +kernel
theorem dX0_eclipse_4 : decode cX0_eclipse 4 = .ok (.bipush 6, 2) := by decide +kernel
theorem dX0_eclipse_6 : decode cX0_eclipse 6 = .ok (.iadd, 1) := by decide +kernel
theorem dX0_eclipse_7 : decode cX0_eclipse 7 = .ok (.bipush 12, 2) := by decide +kernel
theorem dX0_eclipse_9 : decode cX0_eclipse 9 = .ok (.iadd, 1) := by decide +kernel
theorem dX0_eclipse_10 : decode cX0_eclipse 10 = .ok (.aload_n 0, 1) := by decide +kernel
theorem dX0_eclipse_11 : decode cX0_eclipse 11 = .ok (.iload_n 1, 1) := by decide +kernel
theorem dX0_eclipse_12 : decode cX0_eclipse 12 = .ok (.iconst 0, 1) := by decide +kernel
theorem dX0_eclipse_13 : decode cX0_eclipse 13 = .ok (.invokevirtual 40, 3) := by decide +kernel
theorem dX0_eclipse_16 : decode cX0_eclipse 16 = .ok (.isub, 1) := by decide +kernel
theorem dX0_eclipse_17 : decode cX0_eclipse 17 = .ok (.bipush 12, 2) := by decide +kernel
theorem dX0_eclipse_19 : decode cX0_eclipse 19 = .ok (.irem, 1) := by decide +kernel
theorem dX0_eclipse_20 : decode cX0_eclipse 20 = .ok (.istore_n 2, 1) := by decide +kernel
theorem dX0_eclipse_21 : decode cX0_eclipse 21 = .ok (.iload_n 2, 1) := by decide +kernel
theorem dX0_eclipse_22 : decode cX0_eclipse 22 = .ok (.ifCond .ne 5, 3) := by decide +kernel
theorem dX0_eclipse_25 : decode cX0_eclipse 25 = .ok (.iconst 0, 1) := by decide +kernel
theorem dX0_eclipse_26 : decode cX0_eclipse 26 = .ok (.ireturn, 1) := by decide +kernel
theorem dX0_eclipse_27 : decode cX0_eclipse 27 = .ok (.aload_n 0, 1) := by decide +kernel
theorem dX0_eclipse_28 : decode cX0_eclipse 28 = .ok (.iload_n 1, 1) := by decide +kernel
theorem dX0_eclipse_29 : decode cX0_eclipse 29 = .ok (.iconst 0, 1) := by decide +kernel
theorem dX0_eclipse_30 : decode cX0_eclipse 30 = .ok (.invokestatic 83, 3) := by decide +kernel
theorem dX0_eclipse_33 : decode cX0_eclipse 33 = .ok (.iload_n 2, 1) := by decide +kernel
theorem dX0_eclipse_34 : decode cX0_eclipse 34 = .ok (.iconst 1, 1) := by decide +kernel
theorem dX0_eclipse_35 : decode cX0_eclipse 35 = .ok (.isub, 1) := by decide +kernel
theorem dX0_eclipse_36 : decode cX0_eclipse 36 = .ok (.aload_n 0, 1) := by decide +kernel
theorem dX0_eclipse_37 : decode cX0_eclipse 37 = .ok (.iload_n 1, 1) := by decide +kernel
theorem dX0_eclipse_38 : decode cX0_eclipse 38 = .ok (.invokevirtual 64, 3) := by decide +kernel
theorem dX0_eclipse_41 : decode cX0_eclipse 41 = .ok (.imul, 1) := by decide +kernel
theorem dX0_eclipse_42 : decode cX0_eclipse 42 = .ok (.iadd, 1) := by decide +kernel
theorem dX0_eclipse_43 : decode cX0_eclipse 43 = .ok (.ireturn, 1) := by decide +kernel
set_option maxRecDepth 20000 in
theorem ggX0_untilMove_X4_periodOf : GoodIn wsX0_untilMove wsX4_periodOf := goodIn_ca (goodIn_r _ [5, 6, 7, 8, 9, 10, 11, 12, 17, 18] (by decide +kernel) (by decide +kernel)) (goodIn_sub (fun _ h => List.mem_cons_of_mem _ (List.mem_append_right _ h)) (by decide +kernel))
set_option maxRecDepth 20000 in
theorem gX0_untilMove_X4_periodOf : GoodIn wsX0_untilMove (wsV RX0 64 RX4 yX4_periodOf wsX4_periodOf) := goodIn_app (goodIn_of _ (by decide +kernel)) ggX0_untilMove_X4_periodOf
set_option maxRecDepth 20000 in
theorem ggX0_untilMove_X4_ageNow : GoodIn wsX0_untilMove wsX4_ageNow := goodIn_ca (goodIn_r _ [16, 6, 7, 8, 9, 10, 11, 12, 17, 18] (by decide +kernel) (by decide +kernel)) (goodIn_sub (fun _ h => List.mem_cons_of_mem _ (List.mem_append_right _ h)) (by decide +kernel))
set_option maxRecDepth 20000 in
theorem gX0_untilMove_X4_ageNow : GoodIn wsX0_untilMove (wsV RX0 32 RX4 yX4_ageNow wsX4_ageNow) := goodIn_app (goodIn_of _ (by decide +kernel)) ggX0_untilMove_X4_ageNow
theorem dX0_untilMove_0 : decode cX0_untilMove 0 = .ok (.aload_n 0, 1) := by decide +kernel
theorem dX0_untilMove_1 : decode cX0_untilMove 1 = .ok (.iload_n 1, 1) := by decide +kernel
theorem dX0_untilMove_2 : decode cX0_untilMove 2 = .ok (.invokevirtual 64, 3) := by decide +kernel
theorem dX0_untilMove_5 : decode cX0_untilMove 5 = .ok (.istore_n 3, 1) := by decide +kernel
theorem dX0_untilMove_6 : decode cX0_untilMove 6 = .ok (.iload_n 3, 1) := by decide +kernel
theorem dX0_untilMove_7 : decode cX0_untilMove 7 = .ok (.iconst 1, 1) := by decide +kernel
theorem dX0_untilMove_8 : decode cX0_untilMove 8 = .ok (.if_icmp .ge 7, 3) := by decide +kernel
theorem dX0_untilMove_11 : decode cX0_untilMove 11 = .ok (.iconst 1, 1) := by decide +kernel
theorem dX0_untilMove_12 : decode cX0_untilMove 12 = .ok (.goto 14, 3) := by decide +kernel
theorem dX0_untilMove_15 : decode cX0_untilMove 15 = .ok (.iload_n 3, 1) := by decide +kernel
theorem dX0_untilMove_16 : decode cX0_untilMove 16 = .ok (.aload_n 0, 1) := by decide +kernel
theorem dX0_untilMove_17 : decode cX0_untilMove 17 = .ok (.iload_n 1, 1) := by decide +kernel
theorem dX0_untilMove_18 : decode cX0_untilMove 18 = .ok (.invokevirtual 32, 3) := by decide +kernel
theorem dX0_untilMove_21 : decode cX0_untilMove 21 = .ok (.iload_n 2, 1) := by decide +kernel
theorem dX0_untilMove_22 : decode cX0_untilMove 22 = .ok (.iadd, 1) := by decide +kernel
theorem dX0_untilMove_23 : decode cX0_untilMove 23 = .ok (.iload_n 3, 1) := by decide +kernel
theorem dX0_untilMove_24 : decode cX0_untilMove 24 = .ok (.irem, 1) := by decide +kernel
theorem dX0_untilMove_25 : decode cX0_untilMove 25 = .ok (.isub, 1) := by decide +kernel
theorem dX0_untilMove_26 : decode cX0_untilMove 26 = .ok (.ireturn, 1) := by decide +kernel
set_option maxRecDepth 20000 in
theorem ggX0_meetingByMinutes_X4_placeAfter : GoodIn wsX0_meetingByMinutes wsX4_placeAfter := goodIn_ca (goodIn_ca (goodIn_r _ [5, 6, 7, 8, 9, 4, 10, 11, 12, 13, 14, 15, 16, 17, 18, 19, 20, 21, 22] (by decide +kernel) (by decide +kernel)) (goodIn_sub (fun _ h => List.mem_cons_of_mem _ (List.mem_append_left _ (List.mem_append_right _ h))) (by decide +kernel))) (goodIn_sub (fun _ h => List.mem_cons_of_mem _ (List.mem_append_right _ h)) (by decide +kernel))
set_option maxRecDepth 20000 in
theorem gX0_meetingByMinutes_X4_placeAfter : GoodIn wsX0_meetingByMinutes (wsV RX0 40 RX4 yX4_placeAfter wsX4_placeAfter) := goodIn_app (goodIn_of _ (by decide +kernel)) ggX0_meetingByMinutes_X4_placeAfter
theorem dX0_meetingByMinutes_0 : decode cX0_meetingByMinutes 0 = .ok (.iconst 0, 1) := by decide +kernel
theorem dX0_meetingByMinutes_1 : decode cX0_meetingByMinutes 1 = .ok (.istore_n 3, 1) := by decide +kernel
theorem dX0_meetingByMinutes_2 : decode cX0_meetingByMinutes 2 = .ok (.iload_n 3, 1) := by decide +kernel
theorem dX0_meetingByMinutes_3 : decode cX0_meetingByMinutes 3 = .ok (.sipush 2000, 3) := by decide +kernel
theorem dX0_meetingByMinutes_6 : decode cX0_meetingByMinutes 6 = .ok (.if_icmp .gt 26, 3) := by decide +kernel
theorem dX0_meetingByMinutes_9 : decode cX0_meetingByMinutes 9 = .ok (.aload_n 0, 1) := by decide +kernel
theorem dX0_meetingByMinutes_10 : decode cX0_meetingByMinutes 10 = .ok (.iload_n 1, 1) := by decide +kernel
theorem dX0_meetingByMinutes_11 : decode cX0_meetingByMinutes 11 = .ok (.iload_n 3, 1) := by decide +kernel
theorem dX0_meetingByMinutes_12 : decode cX0_meetingByMinutes 12 = .ok (.invokevirtual 40, 3) := by decide +kernel
theorem dX0_meetingByMinutes_15 : decode cX0_meetingByMinutes 15 = .ok (.aload_n 0, 1) := by decide +kernel
theorem dX0_meetingByMinutes_16 : decode cX0_meetingByMinutes 16 = .ok (.iload_n 2, 1) := by decide +kernel
theorem dX0_meetingByMinutes_17 : decode cX0_meetingByMinutes 17 = .ok (.iload_n 3, 1) := by decide +kernel
theorem dX0_meetingByMinutes_18 : decode cX0_meetingByMinutes 18 = .ok (.invokevirtual 40, 3) := by decide +kernel
theorem dX0_meetingByMinutes_21 : decode cX0_meetingByMinutes 21 = .ok (.if_icmp .ne 5, 3) := by decide +kernel
theorem dX0_meetingByMinutes_24 : decode cX0_meetingByMinutes 24 = .ok (.iload_n 3, 1) := by decide +kernel
theorem dX0_meetingByMinutes_25 : decode cX0_meetingByMinutes 25 = .ok (.ireturn, 1) := by decide +kernel
theorem dX0_meetingByMinutes_26 : decode cX0_meetingByMinutes 26 = .ok (.iinc 3 1, 3) := by decide +kernel
theorem dX0_meetingByMinutes_29 : decode cX0_meetingByMinutes 29 = .ok (.goto (-27), 3) := by decide +kernel
theorem dX0_meetingByMinutes_32 : decode cX0_meetingByMinutes 32 = .ok (.iconst (-1), 1) := by decide +kernel
theorem dX0_meetingByMinutes_33 : decode cX0_meetingByMinutes 33 = .ok (.ireturn, 1) := by decide +kernel
set_option maxRecDepth 20000 in
theorem ggX0_meetingByMoves_X4_placeAfter : GoodIn wsX0_meetingByMoves wsX4_placeAfter := goodIn_ca (goodIn_ca (goodIn_r _ [9, 10, 11, 12, 13, 8, 14, 15, 16, 17, 18, 19, 20, 21, 22, 23, 24, 31, 32] (by decide +kernel) (by decide +kernel)) (goodIn_sub (fun _ h => List.mem_cons_of_mem _ (List.mem_append_left _ (List.mem_append_right _ h))) (by decide +kernel))) (goodIn_sub (fun _ h => List.mem_cons_of_mem _ (List.mem_append_right _ h)) (by decide +kernel))
set_option maxRecDepth 20000 in
theorem gX0_meetingByMoves_X4_placeAfter : GoodIn wsX0_meetingByMoves (wsV RX0 40 RX4 yX4_placeAfter wsX4_placeAfter) := goodIn_app (goodIn_of _ (by decide +kernel)) ggX0_meetingByMoves_X4_placeAfter
set_option maxRecDepth 20000 in
theorem ggX0_meetingByMoves_X0_untilMove : GoodIn wsX0_meetingByMoves wsX0_untilMove := goodIn_ca (goodIn_ca (goodIn_r _ [28, 29, 22, 23, 8, 24, 10, 15, 16, 17, 18, 19, 20, 30, 12, 13, 14, 31, 32] (by decide +kernel) (by decide +kernel)) (goodIn_sub (fun _ h => List.mem_cons_of_mem _ (List.mem_append_left _ (List.mem_append_right _ h))) (by decide +kernel))) (goodIn_sub (fun _ h => List.mem_cons_of_mem _ (List.mem_append_right _ h)) (by decide +kernel))
set_option maxRecDepth 20000 in
theorem gX0_meetingByMoves_X0_untilMove : GoodIn wsX0_meetingByMoves (va_wsS RX0 83 yX0_untilMove wsX0_untilMove) := goodIn_app (goodIn_of _ (by decide +kernel)) ggX0_meetingByMoves_X0_untilMove
theorem dX0_meetingByMoves_0 : decode cX0_meetingByMoves 0 = .ok (.iconst 0, 1) := by decide +kernel
theorem dX0_meetingByMoves_1 : decode cX0_meetingByMoves 1 = .ok (.istore_n 3, 1) := by decide +kernel
theorem dX0_meetingByMoves_2 : decode cX0_meetingByMoves 2 = .ok (.iconst 0, 1) := by decide +kernel
theorem dX0_meetingByMoves_3 : decode cX0_meetingByMoves 3 = .ok (.istore 4, 2) := by decide +kernel
theorem dX0_meetingByMoves_5 : decode cX0_meetingByMoves 5 = .ok (.iload 4, 2) := by decide +kernel
theorem dX0_meetingByMoves_7 : decode cX0_meetingByMoves 7 = .ok (.sipush 2000, 3) := by decide +kernel
theorem dX0_meetingByMoves_10 : decode cX0_meetingByMoves 10 = .ok (.if_icmp .gt 51, 3) := by decide +kernel
theorem dX0_meetingByMoves_13 : decode cX0_meetingByMoves 13 = .ok (.iload_n 3, 1) := by decide +kernel
theorem dX0_meetingByMoves_14 : decode cX0_meetingByMoves 14 = .ok (.sipush 2000, 3) := by decide +kernel
theorem dX0_meetingByMoves_17 : decode cX0_meetingByMoves 17 = .ok (.if_icmp .gt 44, 3) := by decide +kernel
theorem dX0_meetingByMoves_20 : decode cX0_meetingByMoves 20 = .ok (.aload_n 0, 1) := by decide +kernel
theorem dX0_meetingByMoves_21 : decode cX0_meetingByMoves 21 = .ok (.iload_n 1, 1) := by decide +kernel
theorem dX0_meetingByMoves_22 : decode cX0_meetingByMoves 22 = .ok (.iload_n 3, 1) := by decide +kernel
theorem dX0_meetingByMoves_23 : decode cX0_meetingByMoves 23 = .ok (.invokevirtual 40, 3) := by decide +kernel
theorem dX0_meetingByMoves_26 : decode cX0_meetingByMoves 26 = .ok (.aload_n 0, 1) := by decide +kernel
theorem dX0_meetingByMoves_27 : decode cX0_meetingByMoves 27 = .ok (.iload_n 2, 1) := by decide +kernel
theorem dX0_meetingByMoves_28 : decode cX0_meetingByMoves 28 = .ok (.iload_n 3, 1) := by decide +kernel
theorem dX0_meetingByMoves_29 : decode cX0_meetingByMoves 29 = .ok (.invokevirtual 40, 3) := by decide +kernel
theorem dX0_meetingByMoves_32 : decode cX0_meetingByMoves 32 = .ok (.if_icmp .ne 5, 3) := by decide +kernel
theorem dX0_meetingByMoves_35 : decode cX0_meetingByMoves 35 = .ok (.iload_n 3, 1) := by decide +kernel
theorem dX0_meetingByMoves_36 : decode cX0_meetingByMoves 36 = .ok (.ireturn, 1) := by decide +kernel
theorem dX0_meetingByMoves_37 : decode cX0_meetingByMoves 37 = .ok (.iload_n 3, 1) := by decide +kernel
theorem dX0_meetingByMoves_38 : decode cX0_meetingByMoves 38 = .ok (.aload_n 0, 1) := by decide +kernel
theorem dX0_meetingByMoves_39 : decode cX0_meetingByMoves 39 = .ok (.iload_n 1, 1) := by decide +kernel
theorem dX0_meetingByMoves_40 : decode cX0_meetingByMoves 40 = .ok (.iload_n 3, 1) := by decide +kernel
theorem dX0_meetingByMoves_41 : decode cX0_meetingByMoves 41 = .ok (.invokestatic 83, 3) := by decide +kernel
theorem dX0_meetingByMoves_44 : decode cX0_meetingByMoves 44 = .ok (.aload_n 0, 1) := by decide +kernel
theorem dX0_meetingByMoves_45 : decode cX0_meetingByMoves 45 = .ok (.iload_n 2, 1) := by decide +kernel
theorem dX0_meetingByMoves_46 : decode cX0_meetingByMoves 46 = .ok (.iload_n 3, 1) := by decide +kernel
theorem dX0_meetingByMoves_47 : decode cX0_meetingByMoves 47 = .ok (.invokestatic 83, 3) := by decide +kernel
theorem dX0_meetingByMoves_50 : decode cX0_meetingByMoves 50 = .ok (.invokestatic 86, 3) := by decide +kernel
theorem dX0_meetingByMoves_53 : decode cX0_meetingByMoves 53 = .ok (.iadd, 1) := by decide +kernel
theorem dX0_meetingByMoves_54 : decode cX0_meetingByMoves 54 = .ok (.istore_n 3, 1) := by decide +kernel
theorem dX0_meetingByMoves_55 : decode cX0_meetingByMoves 55 = .ok (.iinc 4 1, 3) := by decide +kernel
theorem dX0_meetingByMoves_58 : decode cX0_meetingByMoves 58 = .ok (.goto (-53), 3) := by decide +kernel
theorem dX0_meetingByMoves_61 : decode cX0_meetingByMoves 61 = .ok (.iconst (-1), 1) := by decide +kernel
theorem dX0_meetingByMoves_62 : decode cX0_meetingByMoves 62 = .ok (.ireturn, 1) := by decide +kernel
set_option maxRecDepth 20000 in
theorem ggX1_init_X2_init : GoodIn wsX1_init wsX2_init := goodIn_r _ [12, 13, 2, 3, 14, 15, 16] (by decide +kernel) (by decide +kernel)
set_option maxRecDepth 20000 in
theorem gX1_init_X2_init : GoodIn wsX1_init (wsX2_init) := ggX1_init_X2_init
theorem dX1_init_0 : decode cX1_init 0 = .ok (.aload_n 0, 1) := by decide +kernel
theorem dX1_init_1 : decode cX1_init 1 = .ok (.invokespecial 3, 3) := by decide +kernel
theorem dX1_init_4 : decode cX1_init 4 = .ok (.aload_n 0, 1) := by decide +kernel
theorem dX1_init_5 : decode cX1_init 5 = .ok (.new 9, 3) := by decide +kernel
theorem dX1_init_8 : decode cX1_init 8 = .ok (.dup, 1) := by decide +kernel
theorem dX1_init_9 : decode cX1_init 9 = .ok (.sipush 488, 3) := by decide +kernel
theorem dX1_init_12 : decode cX1_init 12 = .ok (.invokespecial 13, 3) := by decide +kernel
theorem dX1_init_15 : decode cX1_init 15 = .ok (.putfield 16, 3) := by decide +kernel
theorem dX1_init_18 : decode cX1_init 18 = .ok (.aload_n 0, 1) := by decide +kernel
theorem dX1_init_19 : decode cX1_init 19 = .ok (.iconst 0, 1) := by decide +kernel
theorem dX1_init_20 : decode cX1_init 20 = .ok (.putfield 22, 3) := by decide +kernel
theorem dX1_init_23 : decode cX1_init 23 = .ok (.aload_n 0, 1) := by decide +kernel
theorem dX1_init_24 : decode cX1_init 24 = .ok (.iconst 0, 1) := by decide +kernel
theorem dX1_init_25 : decode cX1_init 25 = .ok (.putfield 26, 3) := by decide +kernel
theorem dX1_init_28 : decode cX1_init 28 = .ok (.return_, 1) := by decide +kernel
theorem dX1_size_0 : decode cX1_size 0 = .ok (.aload_n 0, 1) := by decide +kernel
theorem dX1_size_1 : decode cX1_size 1 = .ok (.getfield 26, 3) := by decide +kernel
theorem dX1_size_4 : decode cX1_size 4 = .ok (.ireturn, 1) := by decide +kernel
set_option maxRecDepth 20000 in
theorem ggX1_keep_X2_copy : GoodIn wsX1_keep wsX2_copy := goodIn_ca (goodIn_r _ [12, 13, 14, 15, 11, 16, 17, 18, 19, 20, 21, 25] (by decide +kernel) (by decide +kernel)) (goodIn_sub (fun _ h => List.mem_cons_of_mem _ (List.mem_append_right _ h)) (by decide +kernel))
set_option maxRecDepth 20000 in
theorem gX1_keep_X2_copy : GoodIn wsX1_keep (wsV RX1 29 RX2 yX2_copy wsX2_copy) := goodIn_app (goodIn_of _ (by decide +kernel)) ggX1_keep_X2_copy
theorem dX1_keep_0 : decode cX1_keep 0 = .ok (.aload_n 0, 1) := by decide +kernel
theorem dX1_keep_1 : decode cX1_keep 1 = .ok (.getfield 16, 3) := by decide +kernel
theorem dX1_keep_4 : decode cX1_keep 4 = .ok (.aload_n 1, 1) := by decide +kernel
theorem dX1_keep_5 : decode cX1_keep 5 = .ok (.iconst 0, 1) := by decide +kernel
theorem dX1_keep_6 : decode cX1_keep 6 = .ok (.aload_n 0, 1) := by decide +kernel
theorem dX1_keep_7 : decode cX1_keep 7 = .ok (.getfield 22, 3) := by decide +kernel
theorem dX1_keep_10 : decode cX1_keep 10 = .ok (.bipush 61, 2) := by decide +kernel
theorem dX1_keep_12 : decode cX1_keep 12 = .ok (.imul, 1) := by decide +kernel
theorem dX1_keep_13 : decode cX1_keep 13 = .ok (.bipush 61, 2) := by decide +kernel
theorem dX1_keep_15 : decode cX1_keep 15 = .ok (.invokevirtual 29, 3) := by decide +kernel
theorem dX1_keep_18 : decode cX1_keep 18 = .ok (.aload_n 0, 1) := by decide +kernel
theorem dX1_keep_19 : decode cX1_keep 19 = .ok (.aload_n 0, 1) := by decide +kernel
theorem dX1_keep_20 : decode cX1_keep 20 = .ok (.getfield 22, 3) := by decide +kernel
theorem dX1_keep_23 : decode cX1_keep 23 = .ok (.iconst 1, 1) := by decide +kernel
theorem dX1_keep_24 : decode cX1_keep 24 = .ok (.iadd, 1) := by decide +kernel
theorem dX1_keep_25 : decode cX1_keep 25 = .ok (.bipush 8, 2) := by decide +kernel
theorem dX1_keep_27 : decode cX1_keep 27 = .ok (.irem, 1) := by decide +kernel
theorem dX1_keep_28 : decode cX1_keep 28 = .ok (.putfield 22, 3) := by decide +kernel
theorem dX1_keep_31 : decode cX1_keep 31 = .ok (.aload_n 0, 1) := by decide +kernel
theorem dX1_keep_32 : decode cX1_keep 32 = .ok (.aload_n 0, 1) := by decide +kernel
theorem dX1_keep_33 : decode cX1_keep 33 = .ok (.getfield 26, 3) := by decide +kernel
theorem dX1_keep_36 : decode cX1_keep 36 = .ok (.iconst 1, 1) := by decide +kernel
theorem dX1_keep_37 : decode cX1_keep 37 = .ok (.iadd, 1) := by decide +kernel
theorem dX1_keep_38 : decode cX1_keep 38 = .ok (.bipush 8, 2) := by decide +kernel
theorem dX1_keep_40 : decode cX1_keep 40 = .ok (.invokestatic 33, 3) := by decide +kernel
theorem dX1_keep_43 : decode cX1_keep 43 = .ok (.putfield 26, 3) := by decide +kernel
theorem dX1_keep_46 : decode cX1_keep 46 = .ok (.return_, 1) := by decide +kernel
set_option maxRecDepth 20000 in
theorem ggX1_takeBack_X2_copy : GoodIn wsX1_takeBack wsX2_copy := goodIn_ca (goodIn_r _ [8, 9, 10, 11, 7, 12, 13, 14, 15, 16, 17, 21] (by decide +kernel) (by decide +kernel)) (goodIn_sub (fun _ h => List.mem_cons_of_mem _ (List.mem_append_right _ h)) (by decide +kernel))
set_option maxRecDepth 20000 in
theorem gX1_takeBack_X2_copy : GoodIn wsX1_takeBack (wsV RX1 29 RX2 yX2_copy wsX2_copy) := goodIn_app (goodIn_of _ (by decide +kernel)) ggX1_takeBack_X2_copy
theorem dX1_takeBack_0 : decode cX1_takeBack 0 = .ok (.aload_n 0, 1) := by decide +kernel
theorem dX1_takeBack_1 : decode cX1_takeBack 1 = .ok (.getfield 26, 3) := by decide +kernel
theorem dX1_takeBack_4 : decode cX1_takeBack 4 = .ok (.ifCond .le 47, 3) := by decide +kernel
theorem dX1_takeBack_7 : decode cX1_takeBack 7 = .ok (.aload_n 0, 1) := by decide +kernel
theorem dX1_takeBack_8 : decode cX1_takeBack 8 = .ok (.dup, 1) := by decide +kernel
theorem dX1_takeBack_9 : decode cX1_takeBack 9 = .ok (.getfield 26, 3) := by decide +kernel
theorem dX1_takeBack_12 : decode cX1_takeBack 12 = .ok (.iconst 1, 1) := by decide +kernel
theorem dX1_takeBack_13 : decode cX1_takeBack 13 = .ok (.isub, 1) := by decide +kernel
theorem dX1_takeBack_14 : decode cX1_takeBack 14 = .ok (.putfield 26, 3) := by decide +kernel
theorem dX1_takeBack_17 : decode cX1_takeBack 17 = .ok (.aload_n 0, 1) := by decide +kernel
theorem dX1_takeBack_18 : decode cX1_takeBack 18 = .ok (.aload_n 0, 1) := by decide +kernel
theorem dX1_takeBack_19 : decode cX1_takeBack 19 = .ok (.getfield 22, 3) := by decide +kernel
theorem dX1_takeBack_22 : decode cX1_takeBack 22 = .ok (.bipush 8, 2) := by decide +kernel
theorem dX1_takeBack_24 : decode cX1_takeBack 24 = .ok (.iadd, 1) := by decide +kernel
theorem dX1_takeBack_25 : decode cX1_takeBack 25 = .ok (.iconst 1, 1) := by decide +kernel
theorem dX1_takeBack_26 : decode cX1_takeBack 26 = .ok (.isub, 1) := by decide +kernel
theorem dX1_takeBack_27 : decode cX1_takeBack 27 = .ok (.bipush 8, 2) := by decide +kernel
theorem dX1_takeBack_29 : decode cX1_takeBack 29 = .ok (.irem, 1) := by decide +kernel
theorem dX1_takeBack_30 : decode cX1_takeBack 30 = .ok (.putfield 22, 3) := by decide +kernel
theorem dX1_takeBack_33 : decode cX1_takeBack 33 = .ok (.aload_n 1, 1) := by decide +kernel
theorem dX1_takeBack_34 : decode cX1_takeBack 34 = .ok (.aload_n 0, 1) := by decide +kernel
theorem dX1_takeBack_35 : decode cX1_takeBack 35 = .ok (.getfield 16, 3) := by decide +kernel
theorem dX1_takeBack_38 : decode cX1_takeBack 38 = .ok (.aload_n 0, 1) := by decide +kernel
theorem dX1_takeBack_39 : decode cX1_takeBack 39 = .ok (.getfield 22, 3) := by decide +kernel
theorem dX1_takeBack_42 : decode cX1_takeBack 42 = .ok (.bipush 61, 2) := by decide +kernel
theorem dX1_takeBack_44 : decode cX1_takeBack 44 = .ok (.imul, 1) := by decide +kernel
theorem dX1_takeBack_45 : decode cX1_takeBack 45 = .ok (.iconst 0, 1) := by decide +kernel
theorem dX1_takeBack_46 : decode cX1_takeBack 46 = .ok (.bipush 61, 2) := by decide +kernel
theorem dX1_takeBack_48 : decode cX1_takeBack 48 = .ok (.invokevirtual 29, 3) := by decide +kernel
theorem dX1_takeBack_51 : decode cX1_takeBack 51 = .ok (.return_, 1) := by decide +kernel
theorem dX2_init_0 : decode cX2_init 0 = .ok (.aload_n 0, 1) := by decide +kernel
theorem dX2_init_1 : decode cX2_init 1 = .ok (.invokespecial 1, 3) := by decide +kernel
theorem dX2_init_4 : decode cX2_init 4 = .ok (.aload_n 0, 1) := by decide +kernel
theorem dX2_init_5 : decode cX2_init 5 = .ok (.iload_n 1, 1) := by decide +kernel
theorem dX2_init_6 : decode cX2_init 6 = .ok (.ifCond .ge 7, 3) := by decide +kernel
theorem dX2_init_9 : decode cX2_init 9 = .ok (.iconst 0, 1) := by decide +kernel
theorem dX2_init_10 : decode cX2_init 10 = .ok (.goto 4, 3) := by decide +kernel
theorem dX2_init_13 : decode cX2_init 13 = .ok (.iload_n 1, 1) := by decide +kernel
theorem dX2_init_14 : decode cX2_init 14 = .ok (.newarray .int, 2) := by decide +kernel
theorem dX2_init_16 : decode cX2_init 16 = .ok (.putfield 7, 3) := by decide +kernel
theorem dX2_init_19 : decode cX2_init 19 = .ok (.return_, 1) := by decide +kernel
theorem dX2_at_0 : decode cX2_at 0 = .ok (.iload_n 1, 1) := by decide +kernel
theorem dX2_at_1 : decode cX2_at 1 = .ok (.ifCond .lt 12, 3) := by decide +kernel
theorem dX2_at_4 : decode cX2_at 4 = .ok (.iload_n 1, 1) := by decide +kernel
theorem dX2_at_5 : decode cX2_at 5 = .ok (.aload_n 0, 1) := by decide +kernel
theorem dX2_at_6 : decode cX2_at 6 = .ok (.getfield 7, 3) := by decide +kernel
theorem dX2_at_9 : decode cX2_at 9 = .ok (.arraylength, 1) := by decide +kernel
theorem dX2_at_10 : decode cX2_at 10 = .ok (.if_icmp .lt 7, 3) := by decide +kernel
theorem dX2_at_13 : decode cX2_at 13 = .ok (.iconst 0, 1) := by decide +kernel
theorem dX2_at_14 : decode cX2_at 14 = .ok (.goto 9, 3) := by decide +kernel
theorem dX2_at_17 : decode cX2_at 17 = .ok (.aload_n 0, 1) := by decide +kernel
theorem dX2_at_18 : decode cX2_at 18 = .ok (.getfield 7, 3) := by decide +kernel
theorem dX2_at_21 : decode cX2_at 21 = .ok (.iload_n 1, 1) := by decide +kernel
theorem dX2_at_22 : decode cX2_at 22 = .ok (.iaload, 1) := by decide +kernel
theorem dX2_at_23 : decode cX2_at 23 = .ok (.ireturn, 1) := by decide +kernel
theorem dX2_put_0 : decode cX2_put 0 = .ok (.iload_n 1, 1) := by decide +kernel
theorem dX2_put_1 : decode cX2_put 1 = .ok (.ifCond .lt 19, 3) := by decide +kernel
theorem dX2_put_4 : decode cX2_put 4 = .ok (.iload_n 1, 1) := by decide +kernel
theorem dX2_put_5 : decode cX2_put 5 = .ok (.aload_n 0, 1) := by decide +kernel
theorem dX2_put_6 : decode cX2_put 6 = .ok (.getfield 7, 3) := by decide +kernel
theorem dX2_put_9 : decode cX2_put 9 = .ok (.arraylength, 1) := by decide +kernel
theorem dX2_put_10 : decode cX2_put 10 = .ok (.if_icmp .ge 10, 3) := by decide +kernel
theorem dX2_put_13 : decode cX2_put 13 = .ok (.aload_n 0, 1) := by decide +kernel
theorem dX2_put_14 : decode cX2_put 14 = .ok (.getfield 7, 3) := by decide +kernel
theorem dX2_put_17 : decode cX2_put 17 = .ok (.iload_n 1, 1) := by decide +kernel
theorem dX2_put_18 : decode cX2_put 18 = .ok (.iload_n 2, 1) := by decide +kernel
theorem dX2_put_19 : decode cX2_put 19 = .ok (.iastore, 1) := by decide +kernel
theorem dX2_put_20 : decode cX2_put 20 = .ok (.return_, 1) := by decide +kernel
set_option maxRecDepth 20000 in
theorem ggX2_add_X2_at : GoodIn wsX2_add wsX2_at := goodIn_ca (goodIn_r _ [5, 6, 11] (by decide +kernel) (by decide +kernel)) (goodIn_sub (fun _ h => List.mem_cons_of_mem _ (List.mem_append_right _ h)) (by decide +kernel))
set_option maxRecDepth 20000 in
theorem gX2_add_X2_at : GoodIn wsX2_add (wsV RX2 13 RX2 yX2_at wsX2_at) := goodIn_app (goodIn_of _ (by decide +kernel)) ggX2_add_X2_at
set_option maxRecDepth 20000 in
theorem ggX2_add_X2_put : GoodIn wsX2_add wsX2_put := goodIn_ca (goodIn_r _ [10, 6, 11] (by decide +kernel) (by decide +kernel)) (goodIn_sub (fun _ h => List.mem_cons_of_mem _ (List.mem_append_right _ h)) (by decide +kernel))
set_option maxRecDepth 20000 in
theorem gX2_add_X2_put : GoodIn wsX2_add (wsV RX2 17 RX2 yX2_put wsX2_put) := goodIn_app (goodIn_of _ (by decide +kernel)) ggX2_add_X2_put
theorem dX2_add_0 : decode cX2_add 0 = .ok (.aload_n 0, 1) := by decide +kernel
theorem dX2_add_1 : decode cX2_add 1 = .ok (.iload_n 1, 1) := by decide +kernel
theorem dX2_add_2 : decode cX2_add 2 = .ok (.aload_n 0, 1) := by decide +kernel
theorem dX2_add_3 : decode cX2_add 3 = .ok (.iload_n 1, 1) := by decide +kernel
theorem dX2_add_4 : decode cX2_add 4 = .ok (.invokevirtual 13, 3) := by decide +kernel
theorem dX2_add_7 : decode cX2_add 7 = .ok (.iload_n 2, 1) := by decide +kernel
theorem dX2_add_8 : decode cX2_add 8 = .ok (.iadd, 1) := by decide +kernel
theorem dX2_add_9 : decode cX2_add 9 = .ok (.invokevirtual 17, 3) := by decide +kernel
theorem dX2_add_12 : decode cX2_add 12 = .ok (.return_, 1) := by decide +kernel
set_option maxRecDepth 20000 in
theorem ggX2_copy_X2_at : GoodIn wsX2_copy wsX2_at := goodIn_ca (goodIn_r _ [5, 6, 11] (by decide +kernel) (by decide +kernel)) (goodIn_sub (fun _ h => List.mem_cons_of_mem _ (List.mem_append_right _ h)) (by decide +kernel))
set_option maxRecDepth 20000 in
theorem gX2_copy_X2_at : GoodIn wsX2_copy (wsV RX2 13 RX2 yX2_at wsX2_at) := goodIn_app (goodIn_of _ (by decide +kernel)) ggX2_copy_X2_at
set_option maxRecDepth 20000 in
theorem ggX2_copy_X2_put : GoodIn wsX2_copy wsX2_put := goodIn_ca (goodIn_r _ [10, 6, 11] (by decide +kernel) (by decide +kernel)) (goodIn_sub (fun _ h => List.mem_cons_of_mem _ (List.mem_append_right _ h)) (by decide +kernel))
set_option maxRecDepth 20000 in
theorem gX2_copy_X2_put : GoodIn wsX2_copy (wsV RX2 17 RX2 yX2_put wsX2_put) := goodIn_app (goodIn_of _ (by decide +kernel)) ggX2_copy_X2_put
theorem dX2_copy_0 : decode cX2_copy 0 = .ok (.iconst 0, 1) := by decide +kernel
theorem dX2_copy_1 : decode cX2_copy 1 = .ok (.istore 5, 2) := by decide +kernel
theorem dX2_copy_3 : decode cX2_copy 3 = .ok (.iload 5, 2) := by decide +kernel
theorem dX2_copy_5 : decode cX2_copy 5 = .ok (.iload 4, 2) := by decide +kernel
theorem dX2_copy_7 : decode cX2_copy 7 = .ok (.if_icmp .ge 25, 3) := by decide +kernel
theorem dX2_copy_10 : decode cX2_copy 10 = .ok (.aload_n 0, 1) := by decide +kernel
theorem dX2_copy_11 : decode cX2_copy 11 = .ok (.iload_n 3, 1) := by decide +kernel
theorem dX2_copy_12 : decode cX2_copy 12 = .ok (.iload 5, 2) := by decide +kernel
theorem dX2_copy_14 : decode cX2_copy 14 = .ok (.iadd, 1) := by decide +kernel
theorem dX2_copy_15 : decode cX2_copy 15 = .ok (.aload_n 1, 1) := by decide +kernel
theorem dX2_copy_16 : decode cX2_copy 16 = .ok (.iload_n 2, 1) := by decide +kernel
theorem dX2_copy_17 : decode cX2_copy 17 = .ok (.iload 5, 2) := by decide +kernel
theorem dX2_copy_19 : decode cX2_copy 19 = .ok (.iadd, 1) := by decide +kernel
theorem dX2_copy_20 : decode cX2_copy 20 = .ok (.invokevirtual 13, 3) := by decide +kernel
theorem dX2_copy_23 : decode cX2_copy 23 = .ok (.invokevirtual 17, 3) := by decide +kernel
theorem dX2_copy_26 : decode cX2_copy 26 = .ok (.iinc 5 1, 3) := by decide +kernel
theorem dX2_copy_29 : decode cX2_copy 29 = .ok (.goto (-26), 3) := by decide +kernel
theorem dX2_copy_32 : decode cX2_copy 32 = .ok (.return_, 1) := by decide +kernel
set_option maxRecDepth 20000 in
theorem ggX3_init_J4_init_da8c8 : GoodIn wsX3_init wsJ4_init_da8c8 := goodIn_r _ [17, 18, 19, 20, 21, 22, 2, 3, 23, 24, 25, 26, 27, 28, 29, 30, 31, 32, 33, 34, 41, 42, 43, 44] (by decide +kernel) (by decide +kernel)
set_option maxRecDepth 20000 in
theorem gX3_init_J4_init_da8c8 : GoodIn wsX3_init (wsJ4_init_da8c8) := ggX3_init_J4_init_da8c8
set_option maxRecDepth 20000 in
theorem ggX3_init_X2_init : GoodIn wsX3_init wsX2_init := goodIn_r _ [37, 38, 2, 3, 39, 40, 50] (by decide +kernel) (by decide +kernel)
set_option maxRecDepth 20000 in
theorem gX3_init_X2_init : GoodIn wsX3_init (wsX2_init) := ggX3_init_X2_init
theorem dX3_init_0 : decode cX3_init 0 = .ok (.aload_n 0, 1) := by decide +kernel
theorem dX3_init_1 : decode cX3_init 1 = .ok (.invokespecial 3, 3) := by decide +kernel
theorem dX3_init_4 : decode cX3_init 4 = .ok (.aload_n 0, 1) := by decide +kernel
theorem dX3_init_5 : decode cX3_init 5 = .ok (.new 9, 3) := by decide +kernel
theorem dX3_init_8 : decode cX3_init 8 = .ok (.dup, 1) := by decide +kernel
theorem dX3_init_9 : decode cX3_init 9 = .ok (.invokespecial 11, 3) := by decide +kernel
theorem dX3_init_12 : decode cX3_init 12 = .ok (.putfield 12, 3) := by decide +kernel
theorem dX3_init_15 : decode cX3_init 15 = .ok (.aload_n 0, 1) := by decide +kernel
theorem dX3_init_16 : decode cX3_init 16 = .ok (.new 18, 3) := by decide +kernel
theorem dX3_init_19 : decode cX3_init 19 = .ok (.dup, 1) := by decide +kernel
theorem dX3_init_20 : decode cX3_init 20 = .ok (.bipush 60, 2) := by decide +kernel
theorem dX3_init_22 : decode cX3_init 22 = .ok (.invokespecial 20, 3) := by decide +kernel
theorem dX3_init_25 : decode cX3_init 25 = .ok (.putfield 23, 3) := by decide +kernel
theorem dX3_init_28 : decode cX3_init 28 = .ok (.aload_n 0, 1) := by decide +kernel
theorem dX3_init_29 : decode cX3_init 29 = .ok (.iconst 0, 1) := by decide +kernel
theorem dX3_init_30 : decode cX3_init 30 = .ok (.putfield 27, 3) := by decide +kernel
theorem dX3_init_33 : decode cX3_init 33 = .ok (.aload_n 0, 1) := by decide +kernel
theorem dX3_init_34 : decode cX3_init 34 = .ok (.iconst 0, 1) := by decide +kernel
theorem dX3_init_35 : decode cX3_init 35 = .ok (.putfield 31, 3) := by decide +kernel
theorem dX3_init_38 : decode cX3_init 38 = .ok (.aload_n 0, 1) := by decide +kernel
theorem dX3_init_39 : decode cX3_init 39 = .ok (.iconst 0, 1) := by decide +kernel
theorem dX3_init_40 : decode cX3_init 40 = .ok (.putfield 34, 3) := by decide +kernel
theorem dX3_init_43 : decode cX3_init 43 = .ok (.return_, 1) := by decide +kernel
set_option maxRecDepth 20000 in
theorem ggX3_length_J4_length_8abf5 : GoodIn wsX3_length wsJ4_length_8abf5 := goodIn_r _ [6, 7, 8, 9, 10, 11, 12, 13, 19, 20, 21, 22] (by decide +kernel) (by decide +kernel)
set_option maxRecDepth 20000 in
theorem gX3_length_J4_length_8abf5 : GoodIn wsX3_length (wsV RX3 37 RJ4 yJ4_length_8abf5 wsJ4_length_8abf5) := goodIn_app (goodIn_of _ (by decide +kernel)) ggX3_length_J4_length_8abf5
theorem dX3_length_0 : decode cX3_length 0 = .ok (.aload_n 0, 1) := by decide +kernel
theorem dX3_length_1 : decode cX3_length 1 = .ok (.getfield 12, 3) := by decide +kernel
theorem dX3_length_4 : decode cX3_length 4 = .ok (.invokevirtual 37, 3) := by decide +kernel
theorem dX3_length_7 : decode cX3_length 7 = .ok (.ireturn, 1) := by decide +kernel
set_option maxRecDepth 20000 in
theorem ggX3_append_J4_append_cf468 : GoodIn wsX3_append wsJ4_append_cf468 := goodIn_r _ [6, 7, 8, 9, 10, 11, 12, 13, 14, 15, 16, 17, 18, 19, 20, 21, 22, 23, 24, 25, 26, 27, 28, 29, 30, 31, 32, 33, 34, 35, 36, 37, 38, 39, 40, 41, 42, 43, 44, 45, 46, 47, 48, 49, 50, 51, 52, 53, 54, 55, 56, 57, 58, 59, 60, 61, 62, 63, 64, 65, 66, 67, 68, 69, 70, 71, 72, 73, 74, 75, 76, 77, 78, 79, 80, 81, 82, 83, 84, 85, 86, 87, 88, 89, 90, 91, 92, 93, 94, 95, 96, 97, 98, 99, 100, 101, 102, 103, 104, 105, 106, 107, 108, 109, 110, 111, 112, 113, 114, 115, 116, 117, 118, 132, 133, 134, 135] (by decide +kernel) (by decide +kernel)
set_option maxRecDepth 20000 in
theorem gX3_append_J4_append_cf468 : GoodIn wsX3_append (wsV RX3 41 RJ4 yJ4_append_cf468 wsJ4_append_cf468) := goodIn_app (goodIn_of _ (by decide +kernel)) ggX3_append_J4_append_cf468
set_option maxRecDepth 20000 in
theorem ggX3_append_J4_length_8abf5 : GoodIn wsX3_append wsJ4_length_8abf5 := goodIn_r _ [122, 123, 124, 9, 125, 11, 126, 13, 132, 133, 134, 135] (by decide +kernel) (by decide +kernel)
set_option maxRecDepth 20000 in
theorem gX3_append_J4_length_8abf5 : GoodIn wsX3_append (wsV RX3 37 RJ4 yJ4_length_8abf5 wsJ4_length_8abf5) := goodIn_app (goodIn_of _ (by decide +kernel)) ggX3_append_J4_length_8abf5
theorem dX3_append_0 : decode cX3_append 0 = .ok (.aload_n 0, 1) := by decide +kernel
theorem dX3_append_1 : decode cX3_append 1 = .ok (.getfield 12, 3) := by decide +kernel
theorem dX3_append_4 : decode cX3_append 4 = .ok (.iload_n 1, 1) := by decide +kernel
theorem dX3_append_5 : decode cX3_append 5 = .ok (.invokevirtual 41, 3) := by decide +kernel
theorem dX3_append_8 : decode cX3_append 8 = .ok (.pop, 1) := by decide +kernel
theorem dX3_append_9 : decode cX3_append 9 = .ok (.aload_n 0, 1) := by decide +kernel
theorem dX3_append_10 : decode cX3_append 10 = .ok (.getfield 12, 3) := by decide +kernel
theorem dX3_append_13 : decode cX3_append 13 = .ok (.invokevirtual 37, 3) := by decide +kernel
theorem dX3_append_16 : decode cX3_append 16 = .ok (.ireturn, 1) := by decide +kernel
set_option maxRecDepth 20000 in
theorem ggX3_empty_J4_setLength_d00df : GoodIn wsX3_empty wsJ4_setLength_d00df := goodIn_r _ [6, 7, 8, 9, 10, 11, 12, 13, 14, 15, 16, 17, 18, 19, 20, 21, 22, 23, 24, 25, 26, 27, 28, 29, 30, 31, 32, 33, 34, 35, 36, 37, 38, 39, 40, 41, 42, 43, 44, 45, 46, 47, 48, 49, 50, 51, 52, 53, 54, 55, 56, 57, 58, 59, 60, 61, 62, 63, 64, 65, 66, 67, 68, 69, 70, 71, 72, 73, 74, 75, 76, 77, 78, 5, 79, 80, 81, 82, 83, 84, 85, 86, 92, 93, 94, 95, 96, 97, 98, 99, 100, 101, 102, 103, 104, 105, 106, 107] (by decide +kernel) (by decide +kernel)
set_option maxRecDepth 20000 in
theorem gX3_empty_J4_setLength_d00df : GoodIn wsX3_empty (wsV RX3 45 RJ4 yJ4_setLength_d00df wsJ4_setLength_d00df) := goodIn_app (goodIn_of _ (by decide +kernel)) ggX3_empty_J4_setLength_d00df
theorem dX3_empty_0 : decode cX3_empty 0 = .ok (.aload_n 0, 1) := by decide +kernel
theorem dX3_empty_1 : decode cX3_empty 1 = .ok (.getfield 12, 3) := by decide +kernel
theorem dX3_empty_4 : decode cX3_empty 4 = .ok (.iconst 0, 1) := by decide +kernel
theorem dX3_empty_5 : decode cX3_empty 5 = .ok (.invokevirtual 45, 3) := by decide +kernel
theorem dX3_empty_8 : decode cX3_empty 8 = .ok (.return_, 1) := by decide +kernel
theorem dX3_commands_0 : decode cX3_commands 0 = .ok (.aload_n 0, 1) := by decide +kernel
theorem dX3_commands_1 : decode cX3_commands 1 = .ok (.getfield 27, 3) := by decide +kernel
theorem dX3_commands_4 : decode cX3_commands 4 = .ok (.ireturn, 1) := by decide +kernel
set_option maxRecDepth 20000 in
theorem ggX3_commandAt_X2_at : GoodIn wsX3_commandAt wsX2_at := goodIn_ca (goodIn_r _ [6, 7, 13] (by decide +kernel) (by decide +kernel)) (goodIn_sub (fun _ h => List.mem_cons_of_mem _ (List.mem_append_right _ h)) (by decide +kernel))
set_option maxRecDepth 20000 in
theorem gX3_commandAt_X2_at : GoodIn wsX3_commandAt (wsV RX3 48 RX2 yX2_at wsX2_at) := goodIn_app (goodIn_of _ (by decide +kernel)) ggX3_commandAt_X2_at
theorem dX3_commandAt_0 : decode cX3_commandAt 0 = .ok (.aload_n 0, 1) := by decide +kernel
theorem dX3_commandAt_1 : decode cX3_commandAt 1 = .ok (.getfield 23, 3) := by decide +kernel
theorem dX3_commandAt_4 : decode cX3_commandAt 4 = .ok (.iload_n 1, 1) := by decide +kernel
theorem dX3_commandAt_5 : decode cX3_commandAt 5 = .ok (.iconst 4, 1) := by decide +kernel
theorem dX3_commandAt_6 : decode cX3_commandAt 6 = .ok (.imul, 1) := by decide +kernel
theorem dX3_commandAt_7 : decode cX3_commandAt 7 = .ok (.invokevirtual 48, 3) := by decide +kernel
theorem dX3_commandAt_10 : decode cX3_commandAt 10 = .ok (.ireturn, 1) := by decide +kernel
set_option maxRecDepth 20000 in
theorem ggX3_numberAt_X2_at : GoodIn wsX3_numberAt wsX2_at := goodIn_ca (goodIn_r _ [6, 7, 13] (by decide +kernel) (by decide +kernel)) (goodIn_sub (fun _ h => List.mem_cons_of_mem _ (List.mem_append_right _ h)) (by decide +kernel))
set_option maxRecDepth 20000 in
theorem gX3_numberAt_X2_at : GoodIn wsX3_numberAt (wsV RX3 48 RX2 yX2_at wsX2_at) := goodIn_app (goodIn_of _ (by decide +kernel)) ggX3_numberAt_X2_at
theorem dX3_numberAt_0 : decode cX3_numberAt 0 = .ok (.aload_n 0, 1) := by decide +kernel
theorem dX3_numberAt_1 : decode cX3_numberAt 1 = .ok (.getfield 23, 3) := by decide +kernel
theorem dX3_numberAt_4 : decode cX3_numberAt 4 = .ok (.iload_n 1, 1) := by decide +kernel
theorem dX3_numberAt_5 : decode cX3_numberAt 5 = .ok (.iconst 4, 1) := by decide +kernel
theorem dX3_numberAt_6 : decode cX3_numberAt 6 = .ok (.imul, 1) := by decide +kernel
theorem dX3_numberAt_7 : decode cX3_numberAt 7 = .ok (.iconst 1, 1) := by decide +kernel
theorem dX3_numberAt_8 : decode cX3_numberAt 8 = .ok (.iadd, 1) := by decide +kernel
theorem dX3_numberAt_9 : decode cX3_numberAt 9 = .ok (.iload_n 2, 1) := by decide +kernel
theorem dX3_numberAt_10 : decode cX3_numberAt 10 = .ok (.iadd, 1) := by decide +kernel
theorem dX3_numberAt_11 : decode cX3_numberAt 11 = .ok (.invokevirtual 48, 3) := by decide +kernel
theorem dX3_numberAt_14 : decode cX3_numberAt 14 = .ok (.ireturn, 1) := by decide +kernel
theorem dX3_errorPlace_0 : decode cX3_errorPlace 0 = .ok (.aload_n 0, 1) := by decide +kernel
theorem dX3_errorPlace_1 : decode cX3_errorPlace 1 = .ok (.getfield 31, 3) := by decide +kernel
theorem dX3_errorPlace_4 : decode cX3_errorPlace 4 = .ok (.ireturn, 1) := by decide +kernel
set_option maxRecDepth 20000 in
theorem ggX3_read_X3_readCommand : GoodIn wsX3_read wsX3_readCommand := goodIn_ca (goodIn_r _ [8, 9, 1, 10, 11, 12, 13, 7, 14, 2, 15, 16, 17, 18, 19, 20, 21, 22, 23, 24, 25, 26, 27, 28, 29, 30, 31, 32, 33, 34, 35, 36, 37, 38, 39, 40, 41, 3, 42, 43, 44, 45, 46, 47, 48, 49, 50, 51, 52, 53, 54, 55, 56, 57, 58, 59, 60, 61, 62, 63, 64, 65, 66, 67, 68, 69, 70, 71, 72, 73, 74, 75, 76, 77, 78, 79, 80, 81, 82, 83, 84, 85, 86, 87, 88, 89, 90, 91, 92, 93, 94, 95, 96, 97, 98, 99, 100, 101, 102, 103, 104, 105, 106, 107, 108, 109, 110, 111, 112, 113, 114, 115, 116, 117, 118, 119, 120, 121, 122, 123, 124, 125, 126, 127, 128, 129, 130, 131, 132, 133, 134, 135] (by decide +kernel) (by decide +kernel)) (goodIn_sub (fun _ h => List.mem_cons_of_mem _ (List.mem_append_right _ h)) (by decide +kernel))
set_option maxRecDepth 20000 in
theorem gX3_read_X3_readCommand : GoodIn wsX3_read (wsV RX3 51 RX3 yX3_readCommand wsX3_readCommand) := goodIn_app (goodIn_of _ (by decide +kernel)) ggX3_read_X3_readCommand
set_option maxRecDepth 20000 in
theorem ggX3_read_J4_length_8abf5 : GoodIn wsX3_read wsJ4_length_8abf5 := goodIn_r _ [46, 47, 48, 49, 50, 51, 52, 53, 131, 132, 133, 134] (by decide +kernel) (by decide +kernel)
set_option maxRecDepth 20000 in
theorem gX3_read_J4_length_8abf5 : GoodIn wsX3_read (wsV RX3 37 RJ4 yJ4_length_8abf5 wsJ4_length_8abf5) := goodIn_app (goodIn_of _ (by decide +kernel)) ggX3_read_J4_length_8abf5
set_option maxRecDepth 20000 in
theorem ggX3_read_X3_signAt : GoodIn wsX3_read wsX3_signAt := goodIn_r _ [41, 3, 42, 43, 44, 45, 46, 47, 48, 49, 50, 51, 52, 53, 54, 55, 56, 57, 58, 59, 60, 61, 62, 63, 64, 65, 17, 66, 67, 68, 29, 69, 70, 71, 72, 73, 74, 75, 76, 77, 78, 79, 80, 81, 82, 83, 84, 122, 123, 124, 125, 126, 131, 132, 133, 134] (by decide +kernel) (by decide +kernel)
set_option maxRecDepth 20000 in
theorem gX3_read_X3_signAt : GoodIn wsX3_read (wsV RX3 55 RX3 yX3_signAt wsX3_signAt) := goodIn_app (goodIn_of _ (by decide +kernel)) ggX3_read_X3_signAt
theorem dX3_read_0 : decode cX3_read 0 = .ok (.aload_n 0, 1) := by decide +kernel
theorem dX3_read_1 : decode cX3_read 1 = .ok (.iconst 0, 1) := by decide +kernel
theorem dX3_read_2 : decode cX3_read 2 = .ok (.putfield 27, 3) := by decide +kernel
theorem dX3_read_5 : decode cX3_read 5 = .ok (.aload_n 0, 1) := by decide +kernel
theorem dX3_read_6 : decode cX3_read 6 = .ok (.iconst 0, 1) := by decide +kernel
theorem dX3_read_7 : decode cX3_read 7 = .ok (.putfield 31, 3) := by decide +kernel
theorem dX3_read_10 : decode cX3_read 10 = .ok (.aload_n 0, 1) := by decide +kernel
theorem dX3_read_11 : decode cX3_read 11 = .ok (.getfield 27, 3) := by decide +kernel
theorem dX3_read_14 : decode cX3_read 14 = .ok (.bipush 15, 2) := by decide +kernel
theorem dX3_read_16 : decode cX3_read 16 = .ok (.if_icmp .ge 66, 3) := by decide +kernel
theorem dX3_read_19 : decode cX3_read 19 = .ok (.aload_n 0, 1) := by decide +kernel
theorem dX3_read_20 : decode cX3_read 20 = .ok (.invokevirtual 51, 3) := by decide +kernel
theorem dX3_read_23 : decode cX3_read 23 = .ok (.ifCond .ne 5, 3) := by decide +kernel
theorem dX3_read_26 : decode cX3_read 26 = .ok (.iconst 0, 1) := by decide +kernel
theorem dX3_read_27 : decode cX3_read 27 = .ok (.ireturn, 1) := by decide +kernel
theorem dX3_read_28 : decode cX3_read 28 = .ok (.aload_n 0, 1) := by decide +kernel
theorem dX3_read_29 : decode cX3_read 29 = .ok (.dup, 1) := by decide +kernel
theorem dX3_read_30 : decode cX3_read 30 = .ok (.getfield 27, 3) := by decide +kernel
theorem dX3_read_33 : decode cX3_read 33 = .ok (.iconst 1, 1) := by decide +kernel
theorem dX3_read_34 : decode cX3_read 34 = .ok (.iadd, 1) := by decide +kernel
theorem dX3_read_35 : decode cX3_read 35 = .ok (.putfield 27, 3) := by decide +kernel
theorem dX3_read_38 : decode cX3_read 38 = .ok (.aload_n 0, 1) := by decide +kernel
theorem dX3_read_39 : decode cX3_read 39 = .ok (.getfield 31, 3) := by decide +kernel
theorem dX3_read_42 : decode cX3_read 42 = .ok (.aload_n 0, 1) := by decide +kernel
theorem dX3_read_43 : decode cX3_read 43 = .ok (.getfield 12, 3) := by decide +kernel
theorem dX3_read_46 : decode cX3_read 46 = .ok (.invokevirtual 37, 3) := by decide +kernel
theorem dX3_read_49 : decode cX3_read 49 = .ok (.if_icmp .lt 5, 3) := by decide +kernel
theorem dX3_read_52 : decode cX3_read 52 = .ok (.iconst 1, 1) := by decide +kernel
theorem dX3_read_53 : decode cX3_read 53 = .ok (.ireturn, 1) := by decide +kernel
theorem dX3_read_54 : decode cX3_read 54 = .ok (.aload_n 0, 1) := by decide +kernel
theorem dX3_read_55 : decode cX3_read 55 = .ok (.aload_n 0, 1) := by decide +kernel
theorem dX3_read_56 : decode cX3_read 56 = .ok (.getfield 31, 3) := by decide +kernel
theorem dX3_read_59 : decode cX3_read 59 = .ok (.invokevirtual 55, 3) := by decide +kernel
theorem dX3_read_62 : decode cX3_read 62 = .ok (.bipush 59, 2) := by decide +kernel
theorem dX3_read_64 : decode cX3_read 64 = .ok (.if_icmp .eq 5, 3) := by decide +kernel
theorem dX3_read_67 : decode cX3_read 67 = .ok (.iconst 0, 1) := by decide +kernel
theorem dX3_read_68 : decode cX3_read 68 = .ok (.ireturn, 1) := by decide +kernel
theorem dX3_read_69 : decode cX3_read 69 = .ok (.aload_n 0, 1) := by decide +kernel
theorem dX3_read_70 : decode cX3_read 70 = .ok (.dup, 1) := by decide +kernel
theorem dX3_read_71 : decode cX3_read 71 = .ok (.getfield 31, 3) := by decide +kernel
theorem dX3_read_74 : decode cX3_read 74 = .ok (.iconst 1, 1) := by decide +kernel
theorem dX3_read_75 : decode cX3_read 75 = .ok (.iadd, 1) := by decide +kernel
theorem dX3_read_76 : decode cX3_read 76 = .ok (.putfield 31, 3) := by decide +kernel
theorem dX3_read_79 : decode cX3_read 79 = .ok (.goto (-69), 3) := by decide +kernel
theorem dX3_read_82 : decode cX3_read 82 = .ok (.iconst 0, 1) := by decide +kernel
theorem dX3_read_83 : decode cX3_read 83 = .ok (.ireturn, 1) := by decide +kernel
set_option maxRecDepth 20000 in
theorem ggX3_readCommand_X3_readWord : GoodIn wsX3_readCommand wsX3_readWord := goodIn_r _ [8, 9, 10, 11, 12, 13, 14, 15, 7, 16, 17, 18, 19, 20, 21, 22, 23, 24, 25, 26, 27, 28, 29, 30, 31, 32, 33, 34, 35, 36, 37, 38, 39, 40, 41, 42, 43, 44, 45, 46, 47, 48, 49, 50, 51, 52, 53, 54, 55, 56, 57, 58, 59, 60, 61, 62, 63, 64, 65, 66, 67, 68, 69, 70, 71, 72, 73, 74, 75, 76, 77, 78, 79, 80, 81, 82, 83, 84, 85, 86, 87, 88, 89, 90, 91, 92, 93, 94, 95, 96, 97, 98, 99, 100, 101, 118, 119, 120, 121, 122, 123, 124, 125, 126, 127, 128, 129, 130] (by decide +kernel) (by decide +kernel)
set_option maxRecDepth 20000 in
theorem gX3_readCommand_X3_readWord : GoodIn wsX3_readCommand (wsV RX3 59 RX3 yX3_readWord wsX3_readWord) := goodIn_app (goodIn_of _ (by decide +kernel)) ggX3_readCommand_X3_readWord
set_option maxRecDepth 20000 in
theorem ggX3_readCommand_X2_put : GoodIn wsX3_readCommand wsX2_put := goodIn_ca (goodIn_r _ [106, 107, 131] (by decide +kernel) (by decide +kernel)) (goodIn_sub (fun _ h => List.mem_cons_of_mem _ (List.mem_append_right _ h)) (by decide +kernel))
set_option maxRecDepth 20000 in
theorem gX3_readCommand_X2_put : GoodIn wsX3_readCommand (wsV RX3 62 RX2 yX2_put wsX2_put) := goodIn_app (goodIn_of _ (by decide +kernel)) ggX3_readCommand_X2_put
set_option maxRecDepth 20000 in
theorem ggX3_readCommand_X3_numbersOf : GoodIn wsX3_readCommand wsX3_numbersOf := goodIn_r _ [110] (by decide +kernel) (by decide +kernel)
set_option maxRecDepth 20000 in
theorem gX3_readCommand_X3_numbersOf : GoodIn wsX3_readCommand (va_wsS RX3 66 yX3_numbersOf wsX3_numbersOf) := goodIn_app (goodIn_of _ (by decide +kernel)) ggX3_readCommand_X3_numbersOf
set_option maxRecDepth 20000 in
theorem ggX3_readCommand_X3_readNumber : GoodIn wsX3_readCommand wsX3_readNumber := goodIn_r _ [114, 9, 3, 33, 34, 35, 7, 36, 37, 38, 39, 40, 41, 42, 43, 44, 45, 46, 47, 48, 49, 50, 51, 52, 53, 54, 55, 56, 57, 58, 59, 60, 61, 12, 62, 63, 64, 24, 65, 66, 67, 68, 69, 70, 71, 72, 73, 74, 75, 76, 77, 78, 79, 80, 115, 116, 117, 118, 119, 120, 121, 122, 127, 128, 129, 130] (by decide +kernel) (by decide +kernel)
set_option maxRecDepth 20000 in
theorem gX3_readCommand_X3_readNumber : GoodIn wsX3_readCommand (wsV RX3 69 RX3 yX3_readNumber wsX3_readNumber) := goodIn_app (goodIn_of _ (by decide +kernel)) ggX3_readCommand_X3_readNumber
theorem dX3_readCommand_0 : decode cX3_readCommand 0 = .ok (.aload_n 0, 1) := by decide +kernel
theorem dX3_readCommand_1 : decode cX3_readCommand 1 = .ok (.invokevirtual 59, 3) := by decide +kernel
theorem dX3_readCommand_4 : decode cX3_readCommand 4 = .ok (.istore_n 1, 1) := by decide +kernel
theorem dX3_readCommand_5 : decode cX3_readCommand 5 = .ok (.iload_n 1, 1) := by decide +kernel
theorem dX3_readCommand_6 : decode cX3_readCommand 6 = .ok (.iconst (-1), 1) := by decide +kernel
theorem dX3_readCommand_7 : decode cX3_readCommand 7 = .ok (.if_icmp .ne 5, 3) := by decide +kernel
theorem dX3_readCommand_10 : decode cX3_readCommand 10 = .ok (.iconst 0, 1) := by decide +kernel
theorem dX3_readCommand_11 : decode cX3_readCommand 11 = .ok (.ireturn, 1) := by decide +kernel
theorem dX3_readCommand_12 : decode cX3_readCommand 12 = .ok (.aload_n 0, 1) := by decide +kernel
theorem dX3_readCommand_13 : decode cX3_readCommand 13 = .ok (.getfield 23, 3) := by decide +kernel
theorem dX3_readCommand_16 : decode cX3_readCommand 16 = .ok (.aload_n 0, 1) := by decide +kernel
theorem dX3_readCommand_17 : decode cX3_readCommand 17 = .ok (.getfield 27, 3) := by decide +kernel
theorem dX3_readCommand_20 : decode cX3_readCommand 20 = .ok (.iconst 4, 1) := by decide +kernel
theorem dX3_readCommand_21 : decode cX3_readCommand 21 = .ok (.imul, 1) := by decide +kernel
theorem dX3_readCommand_22 : decode cX3_readCommand 22 = .ok (.iload_n 1, 1) := by decide +kernel
theorem dX3_readCommand_23 : decode cX3_readCommand 23 = .ok (.invokevirtual 62, 3) := by decide +kernel
theorem dX3_readCommand_26 : decode cX3_readCommand 26 = .ok (.iconst 0, 1) := by decide +kernel
theorem dX3_readCommand_27 : decode cX3_readCommand 27 = .ok (.istore_n 2, 1) := by decide +kernel
theorem dX3_readCommand_28 : decode cX3_readCommand 28 = .ok (.iload_n 2, 1) := by decide +kernel
theorem dX3_readCommand_29 : decode cX3_readCommand 29 = .ok (.iload_n 1, 1) := by decide +kernel
theorem dX3_readCommand_30 : decode cX3_readCommand 30 = .ok (.invokestatic 66, 3) := by decide +kernel
theorem dX3_readCommand_33 : decode cX3_readCommand 33 = .ok (.if_icmp .ge 50, 3) := by decide +kernel
theorem dX3_readCommand_36 : decode cX3_readCommand 36 = .ok (.aload_n 0, 1) := by decide +kernel
theorem dX3_readCommand_37 : decode cX3_readCommand 37 = .ok (.iload_n 1, 1) := by decide +kernel
theorem dX3_readCommand_38 : decode cX3_readCommand 38 = .ok (.bipush 10, 2) := by decide +kernel
theorem dX3_readCommand_40 : decode cX3_readCommand 40 = .ok (.if_icmp .ne 7, 3) := by decide +kernel
theorem dX3_readCommand_43 : decode cX3_readCommand 43 = .ok (.iconst 1, 1) := by decide +kernel
theorem dX3_readCommand_44 : decode cX3_readCommand 44 = .ok (.goto 4, 3) := by decide +kernel
theorem dX3_readCommand_47 : decode cX3_readCommand 47 = .ok (.iconst 0, 1) := by decide +kernel
theorem dX3_readCommand_48 : decode cX3_readCommand 48 = .ok (.invokevirtual 69, 3) := by decide +kernel
theorem dX3_readCommand_51 : decode cX3_readCommand 51 = .ok (.ifCond .ne 5, 3) := by decide +kernel
theorem dX3_readCommand_54 : decode cX3_readCommand 54 = .ok (.iconst 0, 1) := by decide +kernel
theorem dX3_readCommand_55 : decode cX3_readCommand 55 = .ok (.ireturn, 1) := by decide +kernel
theorem dX3_readCommand_56 : decode cX3_readCommand 56 = .ok (.aload_n 0, 1) := by decide +kernel
theorem dX3_readCommand_57 : decode cX3_readCommand 57 = .ok (.getfield 23, 3) := by decide +kernel
theorem dX3_readCommand_60 : decode cX3_readCommand 60 = .ok (.aload_n 0, 1) := by decide +kernel
theorem dX3_readCommand_61 : decode cX3_readCommand 61 = .ok (.getfield 27, 3) := by decide +kernel
theorem dX3_readCommand_64 : decode cX3_readCommand 64 = .ok (.iconst 4, 1) := by decide +kernel
theorem dX3_readCommand_65 : decode cX3_readCommand 65 = .ok (.imul, 1) := by decide +kernel
theorem dX3_readCommand_66 : decode cX3_readCommand 66 = .ok (.iconst 1, 1) := by decide +kernel
theorem dX3_readCommand_67 : decode cX3_readCommand 67 = .ok (.iadd, 1) := by decide +kernel
theorem dX3_readCommand_68 : decode cX3_readCommand 68 = .ok (.iload_n 2, 1) := by decide +kernel
theorem dX3_readCommand_69 : decode cX3_readCommand 69 = .ok (.iadd, 1) := by decide +kernel
theorem dX3_readCommand_70 : decode cX3_readCommand 70 = .ok (.aload_n 0, 1) := by decide +kernel
theorem dX3_readCommand_71 : decode cX3_readCommand 71 = .ok (.getfield 34, 3) := by decide +kernel
theorem dX3_readCommand_74 : decode cX3_readCommand 74 = .ok (.invokevirtual 62, 3) := by decide +kernel
theorem dX3_readCommand_77 : decode cX3_readCommand 77 = .ok (.iinc 2 1, 3) := by decide +kernel
theorem dX3_readCommand_80 : decode cX3_readCommand 80 = .ok (.goto (-52), 3) := by decide +kernel
theorem dX3_readCommand_83 : decode cX3_readCommand 83 = .ok (.iconst 1, 1) := by decide +kernel
theorem dX3_readCommand_84 : decode cX3_readCommand 84 = .ok (.ireturn, 1) := by decide +kernel
set_option maxRecDepth 20000 in
theorem ggX3_readWord_X3_wordOf : GoodIn wsX3_readWord wsX3_wordOf := goodIn_r _ [9] (by decide +kernel) (by decide +kernel)
set_option maxRecDepth 20000 in
theorem gX3_readWord_X3_wordOf : GoodIn wsX3_readWord (va_wsS RX3 73 yX3_wordOf wsX3_wordOf) := goodIn_app (goodIn_of _ (by decide +kernel)) ggX3_readWord_X3_wordOf
set_option maxRecDepth 20000 in
theorem ggX3_readWord_X3_sameSigns : GoodIn wsX3_readWord wsX3_sameSigns := goodIn_r _ [13, 1, 14, 15, 16, 17, 18, 19, 20, 21, 22, 23, 24, 25, 26, 27, 28, 8, 29, 30, 31, 32, 33, 34, 35, 36, 37, 38, 39, 40, 41, 42, 43, 44, 45, 46, 47, 48, 49, 50, 51, 52, 53, 54, 4, 55, 56, 57, 58, 59, 60, 61, 62, 63, 64, 65, 66, 67, 68, 69, 70, 71, 72, 73, 74, 75, 76, 77, 78, 79, 80, 81, 82, 83, 84, 85, 86, 87, 88, 89, 90, 91, 92, 93, 94, 95, 96, 97, 98, 99, 100, 101, 102, 103, 104, 105, 106, 107] (by decide +kernel) (by decide +kernel)
set_option maxRecDepth 20000 in
theorem gX3_readWord_X3_sameSigns : GoodIn wsX3_readWord (wsV RX3 77 RX3 yX3_sameSigns wsX3_sameSigns) := goodIn_app (goodIn_of _ (by decide +kernel)) ggX3_readWord_X3_sameSigns
set_option maxRecDepth 20000 in
theorem ggX3_readWord_J0_length_8abf5 : GoodIn wsX3_readWord wsJ0_length_8abf5 := goodIn_r _ [18, 19, 20, 21, 22, 17, 23, 24, 25, 100, 101, 102, 103] (by decide +kernel) (by decide +kernel)
set_option maxRecDepth 20000 in
theorem gX3_readWord_J0_length_8abf5 : GoodIn wsX3_readWord (wsV RX3 81 RJ0 yJ0_length_8abf5 wsJ0_length_8abf5) := goodIn_app (goodIn_of _ (by decide +kernel)) ggX3_readWord_J0_length_8abf5
theorem dX3_readWord_0 : decode cX3_readWord 0 = .ok (.iconst 0, 1) := by decide +kernel
theorem dX3_readWord_1 : decode cX3_readWord 1 = .ok (.istore_n 1, 1) := by decide +kernel
theorem dX3_readWord_2 : decode cX3_readWord 2 = .ok (.iconst 0, 1) := by decide +kernel
theorem dX3_readWord_3 : decode cX3_readWord 3 = .ok (.istore_n 2, 1) := by decide +kernel
theorem dX3_readWord_4 : decode cX3_readWord 4 = .ok (.iload_n 2, 1) := by decide +kernel
theorem dX3_readWord_5 : decode cX3_readWord 5 = .ok (.bipush 12, 2) := by decide +kernel
theorem dX3_readWord_7 : decode cX3_readWord 7 = .ok (.if_icmp .ge 50, 3) := by decide +kernel
theorem dX3_readWord_10 : decode cX3_readWord 10 = .ok (.iload_n 2, 1) := by decide +kernel
theorem dX3_readWord_11 : decode cX3_readWord 11 = .ok (.invokestatic 73, 3) := by decide +kernel
theorem dX3_readWord_14 : decode cX3_readWord 14 = .ok (.astore_n 3, 1) := by decide +kernel
theorem dX3_readWord_15 : decode cX3_readWord 15 = .ok (.aload_n 0, 1) := by decide +kernel
theorem dX3_readWord_16 : decode cX3_readWord 16 = .ok (.aload_n 3, 1) := by decide +kernel
theorem dX3_readWord_17 : decode cX3_readWord 17 = .ok (.invokevirtual 77, 3) := by decide +kernel
theorem dX3_readWord_20 : decode cX3_readWord 20 = .ok (.istore 4, 2) := by decide +kernel
theorem dX3_readWord_22 : decode cX3_readWord 22 = .ok (.iload 4, 2) := by decide +kernel
theorem dX3_readWord_24 : decode cX3_readWord 24 = .ok (.aload_n 3, 1) := by decide +kernel
theorem dX3_readWord_25 : decode cX3_readWord 25 = .ok (.invokevirtual 81, 3) := by decide +kernel
theorem dX3_readWord_28 : decode cX3_readWord 28 = .ok (.if_icmp .ne 16, 3) := by decide +kernel
theorem dX3_readWord_31 : decode cX3_readWord 31 = .ok (.aload_n 0, 1) := by decide +kernel
theorem dX3_readWord_32 : decode cX3_readWord 32 = .ok (.dup, 1) := by decide +kernel
theorem dX3_readWord_33 : decode cX3_readWord 33 = .ok (.getfield 31, 3) := by decide +kernel
theorem dX3_readWord_36 : decode cX3_readWord 36 = .ok (.iload 4, 2) := by decide +kernel
theorem dX3_readWord_38 : decode cX3_readWord 38 = .ok (.iadd, 1) := by decide +kernel
theorem dX3_readWord_39 : decode cX3_readWord 39 = .ok (.putfield 31, 3) := by decide +kernel
theorem dX3_readWord_42 : decode cX3_readWord 42 = .ok (.iload_n 2, 1) := by decide +kernel
theorem dX3_readWord_43 : decode cX3_readWord 43 = .ok (.ireturn, 1) := by decide +kernel
theorem dX3_readWord_44 : decode cX3_readWord 44 = .ok (.iload_n 1, 1) := by decide +kernel
theorem dX3_readWord_45 : decode cX3_readWord 45 = .ok (.iload 4, 2) := by decide +kernel
theorem dX3_readWord_47 : decode cX3_readWord 47 = .ok (.invokestatic 84, 3) := by decide +kernel
theorem dX3_readWord_50 : decode cX3_readWord 50 = .ok (.istore_n 1, 1) := by decide +kernel
theorem dX3_readWord_51 : decode cX3_readWord 51 = .ok (.iinc 2 1, 3) := by decide +kernel
theorem dX3_readWord_54 : decode cX3_readWord 54 = .ok (.goto (-50), 3) := by decide +kernel
theorem dX3_readWord_57 : decode cX3_readWord 57 = .ok (.aload_n 0, 1) := by decide +kernel
theorem dX3_readWord_58 : decode cX3_readWord 58 = .ok (.dup, 1) := by decide +kernel
theorem dX3_readWord_59 : decode cX3_readWord 59 = .ok (.getfield 31, 3) := by decide +kernel
theorem dX3_readWord_62 : decode cX3_readWord 62 = .ok (.iload_n 1, 1) := by decide +kernel
theorem dX3_readWord_63 : decode cX3_readWord 63 = .ok (.iadd, 1) := by decide +kernel
theorem dX3_readWord_64 : decode cX3_readWord 64 = .ok (.putfield 31, 3) := by decide +kernel
theorem dX3_readWord_67 : decode cX3_readWord 67 = .ok (.iconst (-1), 1) := by decide +kernel
theorem dX3_readWord_68 : decode cX3_readWord 68 = .ok (.ireturn, 1) := by decide +kernel
set_option maxRecDepth 20000 in
theorem ggX3_sameSigns_J0_length_8abf5 : GoodIn wsX3_sameSigns wsJ0_length_8abf5 := goodIn_r _ [6, 7, 8, 9, 10, 5, 11, 12, 13, 90, 91, 92, 93] (by decide +kernel) (by decide +kernel)
set_option maxRecDepth 20000 in
theorem gX3_sameSigns_J0_length_8abf5 : GoodIn wsX3_sameSigns (wsV RX3 81 RJ0 yJ0_length_8abf5 wsJ0_length_8abf5) := goodIn_app (goodIn_of _ (by decide +kernel)) ggX3_sameSigns_J0_length_8abf5
set_option maxRecDepth 20000 in
theorem ggX3_sameSigns_X3_signAt : GoodIn wsX3_sameSigns wsX3_signAt := goodIn_r _ [18, 19, 20, 21, 22, 23, 24, 25, 26, 27, 28, 29, 30, 31, 32, 33, 34, 35, 36, 37, 38, 39, 40, 41, 42, 43, 44, 45, 46, 47, 5, 48, 49, 50, 51, 52, 53, 54, 55, 56, 57, 58, 59, 60, 61, 62, 63, 85, 86, 87, 88, 89, 94, 95, 96, 97] (by decide +kernel) (by decide +kernel)
set_option maxRecDepth 20000 in
theorem gX3_sameSigns_X3_signAt : GoodIn wsX3_sameSigns (wsV RX3 55 RX3 yX3_signAt wsX3_signAt) := goodIn_app (goodIn_of _ (by decide +kernel)) ggX3_sameSigns_X3_signAt
set_option maxRecDepth 20000 in
theorem ggX3_sameSigns_J0_charAt_5068e : GoodIn wsX3_sameSigns wsJ0_charAt_5068e := goodIn_r _ [67, 7, 68, 69, 70, 5, 71, 12, 13, 72, 73, 74, 75, 76, 47, 48, 49, 50, 51, 52, 53, 77, 78, 56, 79, 80, 81, 82, 61, 62, 63, 83, 84, 55, 57, 58, 59, 60, 90, 91, 92, 93] (by decide +kernel) (by decide +kernel)
set_option maxRecDepth 20000 in
theorem gX3_sameSigns_J0_charAt_5068e : GoodIn wsX3_sameSigns (wsV RX3 90 RJ0 yJ0_charAt_5068e wsJ0_charAt_5068e) := goodIn_app (goodIn_of _ (by decide +kernel)) ggX3_sameSigns_J0_charAt_5068e
theorem dX3_sameSigns_0 : decode cX3_sameSigns 0 = .ok (.iconst 0, 1) := by decide +kernel
theorem dX3_sameSigns_1 : decode cX3_sameSigns 1 = .ok (.istore_n 2, 1) := by decide +kernel
theorem dX3_sameSigns_2 : decode cX3_sameSigns 2 = .ok (.iload_n 2, 1) := by decide +kernel
theorem dX3_sameSigns_3 : decode cX3_sameSigns 3 = .ok (.aload_n 1, 1) := by decide +kernel
theorem dX3_sameSigns_4 : decode cX3_sameSigns 4 = .ok (.invokevirtual 81, 3) := by decide +kernel
theorem dX3_sameSigns_7 : decode cX3_sameSigns 7 = .ok (.if_icmp .ge 27, 3) := by decide +kernel
theorem dX3_sameSigns_10 : decode cX3_sameSigns 10 = .ok (.aload_n 0, 1) := by decide +kernel
theorem dX3_sameSigns_11 : decode cX3_sameSigns 11 = .ok (.aload_n 0, 1) := by decide +kernel
theorem dX3_sameSigns_12 : decode cX3_sameSigns 12 = .ok (.getfield 31, 3) := by decide +kernel
theorem dX3_sameSigns_15 : decode cX3_sameSigns 15 = .ok (.iload_n 2, 1) := by decide +kernel
theorem dX3_sameSigns_16 : decode cX3_sameSigns 16 = .ok (.iadd, 1) := by decide +kernel
theorem dX3_sameSigns_17 : decode cX3_sameSigns 17 = .ok (.invokevirtual 55, 3) := by decide +kernel
theorem dX3_sameSigns_20 : decode cX3_sameSigns 20 = .ok (.aload_n 1, 1) := by decide +kernel
theorem dX3_sameSigns_21 : decode cX3_sameSigns 21 = .ok (.iload_n 2, 1) := by decide +kernel
theorem dX3_sameSigns_22 : decode cX3_sameSigns 22 = .ok (.invokevirtual 90, 3) := by decide +kernel
theorem dX3_sameSigns_25 : decode cX3_sameSigns 25 = .ok (.if_icmp .ne 9, 3) := by decide +kernel
theorem dX3_sameSigns_28 : decode cX3_sameSigns 28 = .ok (.iinc 2 1, 3) := by decide +kernel
theorem dX3_sameSigns_31 : decode cX3_sameSigns 31 = .ok (.goto (-29), 3) := by decide +kernel
theorem dX3_sameSigns_34 : decode cX3_sameSigns 34 = .ok (.iload_n 2, 1) := by decide +kernel
theorem dX3_sameSigns_35 : decode cX3_sameSigns 35 = .ok (.ireturn, 1) := by decide +kernel
set_option maxRecDepth 20000 in
theorem ggX3_readNumber_X3_signAt : GoodIn wsX3_readNumber wsX3_signAt := goodIn_r _ [7, 8, 9, 10, 11, 12, 13, 14, 15, 16, 17, 18, 19, 20, 21, 22, 23, 24, 25, 26, 27, 28, 29, 30, 31, 32, 33, 34, 35, 36, 37, 38, 39, 40, 41, 42, 43, 44, 45, 46, 47, 48, 49, 50, 51, 52, 53, 57, 58, 59, 60, 61, 62, 63, 64, 65] (by decide +kernel) (by decide +kernel)
set_option maxRecDepth 20000 in
theorem gX3_readNumber_X3_signAt : GoodIn wsX3_readNumber (wsV RX3 55 RX3 yX3_signAt wsX3_signAt) := goodIn_app (goodIn_of _ (by decide +kernel)) ggX3_readNumber_X3_signAt
set_option maxRecDepth 20000 in
theorem ggX3_readNumber_X3_isDigit : GoodIn wsX3_readNumber wsX3_isDigit := goodIn_r _ [56] (by decide +kernel) (by decide +kernel)
set_option maxRecDepth 20000 in
theorem gX3_readNumber_X3_isDigit : GoodIn wsX3_readNumber (va_wsS RX3 93 yX3_isDigit wsX3_isDigit) := goodIn_app (goodIn_of _ (by decide +kernel)) ggX3_readNumber_X3_isDigit
theorem dX3_readNumber_0 : decode cX3_readNumber 0 = .ok (.aload_n 0, 1) := by decide +kernel
theorem dX3_readNumber_1 : decode cX3_readNumber 1 = .ok (.aload_n 0, 1) := by decide +kernel
theorem dX3_readNumber_2 : decode cX3_readNumber 2 = .ok (.getfield 31, 3) := by decide +kernel
theorem dX3_readNumber_5 : decode cX3_readNumber 5 = .ok (.invokevirtual 55, 3) := by decide +kernel
theorem dX3_readNumber_8 : decode cX3_readNumber 8 = .ok (.bipush 32, 2) := by decide +kernel
theorem dX3_readNumber_10 : decode cX3_readNumber 10 = .ok (.if_icmp .eq 5, 3) := by decide +kernel
theorem dX3_readNumber_13 : decode cX3_readNumber 13 = .ok (.iconst 0, 1) := by decide +kernel
theorem dX3_readNumber_14 : decode cX3_readNumber 14 = .ok (.ireturn, 1) := by decide +kernel
theorem dX3_readNumber_15 : decode cX3_readNumber 15 = .ok (.aload_n 0, 1) := by decide +kernel
theorem dX3_readNumber_16 : decode cX3_readNumber 16 = .ok (.dup, 1) := by decide +kernel
theorem dX3_readNumber_17 : decode cX3_readNumber 17 = .ok (.getfield 31, 3) := by decide +kernel
theorem dX3_readNumber_20 : decode cX3_readNumber 20 = .ok (.iconst 1, 1) := by decide +kernel
theorem dX3_readNumber_21 : decode cX3_readNumber 21 = .ok (.iadd, 1) := by decide +kernel
theorem dX3_readNumber_22 : decode cX3_readNumber 22 = .ok (.putfield 31, 3) := by decide +kernel
theorem dX3_readNumber_25 : decode cX3_readNumber 25 = .ok (.iload_n 1, 1) := by decide +kernel
theorem dX3_readNumber_26 : decode cX3_readNumber 26 = .ok (.ifCond .eq 20, 3) := by decide +kernel
theorem dX3_readNumber_29 : decode cX3_readNumber 29 = .ok (.aload_n 0, 1) := by decide +kernel
theorem dX3_readNumber_30 : decode cX3_readNumber 30 = .ok (.aload_n 0, 1) := by decide +kernel
theorem dX3_readNumber_31 : decode cX3_readNumber 31 = .ok (.getfield 31, 3) := by decide +kernel
theorem dX3_readNumber_34 : decode cX3_readNumber 34 = .ok (.invokevirtual 55, 3) := by decide +kernel
theorem dX3_readNumber_37 : decode cX3_readNumber 37 = .ok (.bipush 45, 2) := by decide +kernel
theorem dX3_readNumber_39 : decode cX3_readNumber 39 = .ok (.if_icmp .ne 7, 3) := by decide +kernel
theorem dX3_readNumber_42 : decode cX3_readNumber 42 = .ok (.iconst 1, 1) := by decide +kernel
theorem dX3_readNumber_43 : decode cX3_readNumber 43 = .ok (.goto 4, 3) := by decide +kernel
theorem dX3_readNumber_46 : decode cX3_readNumber 46 = .ok (.iconst 0, 1) := by decide +kernel
theorem dX3_readNumber_47 : decode cX3_readNumber 47 = .ok (.istore_n 2, 1) := by decide +kernel
theorem dX3_readNumber_48 : decode cX3_readNumber 48 = .ok (.iload_n 2, 1) := by decide +kernel
theorem dX3_readNumber_49 : decode cX3_readNumber 49 = .ok (.ifCond .eq 13, 3) := by decide +kernel
theorem dX3_readNumber_52 : decode cX3_readNumber 52 = .ok (.aload_n 0, 1) := by decide +kernel
theorem dX3_readNumber_53 : decode cX3_readNumber 53 = .ok (.dup, 1) := by decide +kernel
theorem dX3_readNumber_54 : decode cX3_readNumber 54 = .ok (.getfield 31, 3) := by decide +kernel
theorem dX3_readNumber_57 : decode cX3_readNumber 57 = .ok (.iconst 1, 1) := by decide +kernel
theorem dX3_readNumber_58 : decode cX3_readNumber 58 = .ok (.iadd, 1) := by decide +kernel
theorem dX3_readNumber_59 : decode cX3_readNumber 59 = .ok (.putfield 31, 3) := by decide +kernel
theorem dX3_readNumber_62 : decode cX3_readNumber 62 = .ok (.aload_n 0, 1) := by decide +kernel
theorem dX3_readNumber_63 : decode cX3_readNumber 63 = .ok (.aload_n 0, 1) := by decide +kernel
theorem dX3_readNumber_64 : decode cX3_readNumber 64 = .ok (.getfield 31, 3) := by decide +kernel
theorem dX3_readNumber_67 : decode cX3_readNumber 67 = .ok (.invokevirtual 55, 3) := by decide +kernel
theorem dX3_readNumber_70 : decode cX3_readNumber 70 = .ok (.invokestatic 93, 3) := by decide +kernel
theorem dX3_readNumber_73 : decode cX3_readNumber 73 = .ok (.ifCond .ne 5, 3) := by decide +kernel
theorem dX3_readNumber_76 : decode cX3_readNumber 76 = .ok (.iconst 0, 1) := by decide +kernel
theorem dX3_readNumber_77 : decode cX3_readNumber 77 = .ok (.ireturn, 1) := by decide +kernel
theorem dX3_readNumber_78 : decode cX3_readNumber 78 = .ok (.aload_n 0, 1) := by decide +kernel
theorem dX3_readNumber_79 : decode cX3_readNumber 79 = .ok (.aload_n 0, 1) := by decide +kernel
theorem dX3_readNumber_80 : decode cX3_readNumber 80 = .ok (.aload_n 0, 1) := by decide +kernel
theorem dX3_readNumber_81 : decode cX3_readNumber 81 = .ok (.getfield 31, 3) := by decide +kernel
theorem dX3_readNumber_84 : decode cX3_readNumber 84 = .ok (.invokevirtual 55, 3) := by decide +kernel
theorem dX3_readNumber_87 : decode cX3_readNumber 87 = .ok (.bipush 48, 2) := by decide +kernel
theorem dX3_readNumber_89 : decode cX3_readNumber 89 = .ok (.isub, 1) := by decide +kernel
theorem dX3_readNumber_90 : decode cX3_readNumber 90 = .ok (.putfield 34, 3) := by decide +kernel
theorem dX3_readNumber_93 : decode cX3_readNumber 93 = .ok (.aload_n 0, 1) := by decide +kernel
theorem dX3_readNumber_94 : decode cX3_readNumber 94 = .ok (.dup, 1) := by decide +kernel
theorem dX3_readNumber_95 : decode cX3_readNumber 95 = .ok (.getfield 31, 3) := by decide +kernel
theorem dX3_readNumber_98 : decode cX3_readNumber 98 = .ok (.iconst 1, 1) := by decide +kernel
theorem dX3_readNumber_99 : decode cX3_readNumber 99 = .ok (.iadd, 1) := by decide +kernel
theorem dX3_readNumber_100 : decode cX3_readNumber 100 = .ok (.putfield 31, 3) := by decide +kernel
theorem dX3_readNumber_103 : decode cX3_readNumber 103 = .ok (.iload_n 2, 1) := by decide +kernel
theorem dX3_readNumber_104 : decode cX3_readNumber 104 = .ok (.ifCond .eq 15, 3) := by decide +kernel
theorem dX3_readNumber_107 : decode cX3_readNumber 107 = .ok (.aload_n 0, 1) := by decide +kernel
theorem dX3_readNumber_108 : decode cX3_readNumber 108 = .ok (.aload_n 0, 1) := by decide +kernel
theorem dX3_readNumber_109 : decode cX3_readNumber 109 = .ok (.getfield 34, 3) := by decide +kernel
theorem dX3_readNumber_112 : decode cX3_readNumber 112 = .ok (.ineg, 1) := by decide +kernel
theorem dX3_readNumber_113 : decode cX3_readNumber 113 = .ok (.putfield 34, 3) := by decide +kernel
theorem dX3_readNumber_116 : decode cX3_readNumber 116 = .ok (.goto 50, 3) := by decide +kernel
theorem dX3_readNumber_119 : decode cX3_readNumber 119 = .ok (.aload_n 0, 1) := by decide +kernel
theorem dX3_readNumber_120 : decode cX3_readNumber 120 = .ok (.aload_n 0, 1) := by decide +kernel
theorem dX3_readNumber_121 : decode cX3_readNumber 121 = .ok (.getfield 31, 3) := by decide +kernel
theorem dX3_readNumber_124 : decode cX3_readNumber 124 = .ok (.invokevirtual 55, 3) := by decide +kernel
theorem dX3_readNumber_127 : decode cX3_readNumber 127 = .ok (.invokestatic 93, 3) := by decide +kernel
theorem dX3_readNumber_130 : decode cX3_readNumber 130 = .ok (.ifCond .eq 36, 3) := by decide +kernel
theorem dX3_readNumber_133 : decode cX3_readNumber 133 = .ok (.aload_n 0, 1) := by decide +kernel
theorem dX3_readNumber_134 : decode cX3_readNumber 134 = .ok (.aload_n 0, 1) := by decide +kernel
theorem dX3_readNumber_135 : decode cX3_readNumber 135 = .ok (.getfield 34, 3) := by decide +kernel
theorem dX3_readNumber_138 : decode cX3_readNumber 138 = .ok (.bipush 10, 2) := by decide +kernel
theorem dX3_readNumber_140 : decode cX3_readNumber 140 = .ok (.imul, 1) := by decide +kernel
theorem dX3_readNumber_141 : decode cX3_readNumber 141 = .ok (.aload_n 0, 1) := by decide +kernel
theorem dX3_readNumber_142 : decode cX3_readNumber 142 = .ok (.aload_n 0, 1) := by decide +kernel
theorem dX3_readNumber_143 : decode cX3_readNumber 143 = .ok (.getfield 31, 3) := by decide +kernel
theorem dX3_readNumber_146 : decode cX3_readNumber 146 = .ok (.invokevirtual 55, 3) := by decide +kernel
theorem dX3_readNumber_149 : decode cX3_readNumber 149 = .ok (.iadd, 1) := by decide +kernel
theorem dX3_readNumber_150 : decode cX3_readNumber 150 = .ok (.bipush 48, 2) := by decide +kernel
theorem dX3_readNumber_152 : decode cX3_readNumber 152 = .ok (.isub, 1) := by decide +kernel
theorem dX3_readNumber_153 : decode cX3_readNumber 153 = .ok (.putfield 34, 3) := by decide +kernel
theorem dX3_readNumber_156 : decode cX3_readNumber 156 = .ok (.aload_n 0, 1) := by decide +kernel
theorem dX3_readNumber_157 : decode cX3_readNumber 157 = .ok (.dup, 1) := by decide +kernel
theorem dX3_readNumber_158 : decode cX3_readNumber 158 = .ok (.getfield 31, 3) := by decide +kernel
theorem dX3_readNumber_161 : decode cX3_readNumber 161 = .ok (.iconst 1, 1) := by decide +kernel
theorem dX3_readNumber_162 : decode cX3_readNumber 162 = .ok (.iadd, 1) := by decide +kernel
theorem dX3_readNumber_163 : decode cX3_readNumber 163 = .ok (.putfield 31, 3) := by decide +kernel
theorem dX3_readNumber_166 : decode cX3_readNumber 166 = .ok (.iconst 1, 1) := by decide +kernel
theorem dX3_readNumber_167 : decode cX3_readNumber 167 = .ok (.ireturn, 1) := by decide +kernel
set_option maxRecDepth 20000 in
theorem ggX3_signAt_J4_length_8abf5 : GoodIn wsX3_signAt wsJ4_length_8abf5 := goodIn_r _ [6, 7, 8, 9, 10, 11, 12, 13, 52, 53, 54, 55] (by decide +kernel) (by decide +kernel)
set_option maxRecDepth 20000 in
theorem gX3_signAt_J4_length_8abf5 : GoodIn wsX3_signAt (wsV RX3 37 RJ4 yJ4_length_8abf5 wsJ4_length_8abf5) := goodIn_app (goodIn_of _ (by decide +kernel)) ggX3_signAt_J4_length_8abf5
set_option maxRecDepth 20000 in
theorem ggX3_signAt_J4_charAt_5068e : GoodIn wsX3_signAt wsJ4_charAt_5068e := goodIn_r _ [17, 18, 19, 9, 20, 11, 21, 22, 23, 13, 24, 25, 26, 27, 28, 29, 30, 31, 32, 33, 34, 35, 36, 37, 38, 39, 40, 41, 42, 43, 44, 45, 46, 52, 53, 54, 55] (by decide +kernel) (by decide +kernel)
set_option maxRecDepth 20000 in
theorem gX3_signAt_J4_charAt_5068e : GoodIn wsX3_signAt (wsV RX3 97 RJ4 yJ4_charAt_5068e wsJ4_charAt_5068e) := goodIn_app (goodIn_of _ (by decide +kernel)) ggX3_signAt_J4_charAt_5068e
theorem dX3_signAt_0 : decode cX3_signAt 0 = .ok (.iload_n 1, 1) := by decide +kernel
theorem dX3_signAt_1 : decode cX3_signAt 1 = .ok (.ifCond .lt 25, 3) := by decide +kernel
theorem dX3_signAt_4 : decode cX3_signAt 4 = .ok (.iload_n 1, 1) := by decide +kernel
theorem dX3_signAt_5 : decode cX3_signAt 5 = .ok (.aload_n 0, 1) := by decide +kernel
theorem dX3_signAt_6 : decode cX3_signAt 6 = .ok (.getfield 12, 3) := by decide +kernel
theorem dX3_signAt_9 : decode cX3_signAt 9 = .ok (.invokevirtual 37, 3) := by decide +kernel
theorem dX3_signAt_12 : decode cX3_signAt 12 = .ok (.if_icmp .ge 14, 3) := by decide +kernel
theorem dX3_signAt_15 : decode cX3_signAt 15 = .ok (.aload_n 0, 1) := by decide +kernel
theorem dX3_signAt_16 : decode cX3_signAt 16 = .ok (.getfield 12, 3) := by decide +kernel
theorem dX3_signAt_19 : decode cX3_signAt 19 = .ok (.iload_n 1, 1) := by decide +kernel
theorem dX3_signAt_20 : decode cX3_signAt 20 = .ok (.invokevirtual 97, 3) := by decide +kernel
theorem dX3_signAt_23 : decode cX3_signAt 23 = .ok (.goto 4, 3) := by decide +kernel
theorem dX3_signAt_26 : decode cX3_signAt 26 = .ok (.iconst 0, 1) := by decide +kernel
theorem dX3_signAt_27 : decode cX3_signAt 27 = .ok (.ireturn, 1) := by decide +kernel
theorem dX3_isDigit_0 : decode cX3_isDigit 0 = .ok (.iload_n 0, 1) := by decide +kernel
theorem dX3_isDigit_1 : decode cX3_isDigit 1 = .ok (.bipush 48, 2) := by decide +kernel
theorem dX3_isDigit_3 : decode cX3_isDigit 3 = .ok (.if_icmp .lt 13, 3) := by decide +kernel
theorem dX3_isDigit_6 : decode cX3_isDigit 6 = .ok (.iload_n 0, 1) := by decide +kernel
theorem dX3_isDigit_7 : decode cX3_isDigit 7 = .ok (.bipush 57, 2) := by decide +kernel
theorem dX3_isDigit_9 : decode cX3_isDigit 9 = .ok (.if_icmp .gt 7, 3) := by decide +kernel
theorem dX3_isDigit_12 : decode cX3_isDigit 12 = .ok (.iconst 1, 1) := by decide +kernel
theorem dX3_isDigit_13 : decode cX3_isDigit 13 = .ok (.goto 4, 3) := by decide +kernel
theorem dX3_isDigit_16 : decode cX3_isDigit 16 = .ok (.iconst 0, 1) := by decide +kernel
theorem dX3_isDigit_17 : decode cX3_isDigit 17 = .ok (.ireturn, 1) := by decide +kernel
theorem dX3_wordOf_0 : decode cX3_wordOf 0 = .ok (.iload_n 0, 1) := by decide +kernel
theorem dX3_wordOf_1 : decode cX3_wordOf 1 = .ok (.tableswitch 92 0 10 #[59, 62, 65, 68, 71, 74, 77, 80, 83, 86, 89], 59) := by decide +kernel
theorem dX3_wordOf_60 : decode cX3_wordOf 60 = .ok (.ldc 98, 2) := by decide +kernel
theorem dX3_wordOf_62 : decode cX3_wordOf 62 = .ok (.areturn, 1) := by decide +kernel
theorem dX3_wordOf_63 : decode cX3_wordOf 63 = .ok (.ldc 100, 2) := by decide +kernel
theorem dX3_wordOf_65 : decode cX3_wordOf 65 = .ok (.areturn, 1) := by decide +kernel
theorem dX3_wordOf_66 : decode cX3_wordOf 66 = .ok (.ldc 102, 2) := by decide +kernel
theorem dX3_wordOf_68 : decode cX3_wordOf 68 = .ok (.areturn, 1) := by decide +kernel
theorem dX3_wordOf_69 : decode cX3_wordOf 69 = .ok (.ldc 104, 2) := by decide +kernel
theorem dX3_wordOf_71 : decode cX3_wordOf 71 = .ok (.areturn, 1) := by decide +kernel
theorem dX3_wordOf_72 : decode cX3_wordOf 72 = .ok (.ldc 106, 2) := by decide +kernel
theorem dX3_wordOf_74 : decode cX3_wordOf 74 = .ok (.areturn, 1) := by decide +kernel
theorem dX3_wordOf_75 : decode cX3_wordOf 75 = .ok (.ldc 108, 2) := by decide +kernel
theorem dX3_wordOf_77 : decode cX3_wordOf 77 = .ok (.areturn, 1) := by decide +kernel
theorem dX3_wordOf_78 : decode cX3_wordOf 78 = .ok (.ldc 110, 2) := by decide +kernel
theorem dX3_wordOf_80 : decode cX3_wordOf 80 = .ok (.areturn, 1) := by decide +kernel
theorem dX3_wordOf_81 : decode cX3_wordOf 81 = .ok (.ldc 112, 2) := by decide +kernel
theorem dX3_wordOf_83 : decode cX3_wordOf 83 = .ok (.areturn, 1) := by decide +kernel
theorem dX3_wordOf_84 : decode cX3_wordOf 84 = .ok (.ldc 114, 2) := by decide +kernel
theorem dX3_wordOf_86 : decode cX3_wordOf 86 = .ok (.areturn, 1) := by decide +kernel
theorem dX3_wordOf_87 : decode cX3_wordOf 87 = .ok (.ldc 116, 2) := by decide +kernel
theorem dX3_wordOf_89 : decode cX3_wordOf 89 = .ok (.areturn, 1) := by decide +kernel
theorem dX3_wordOf_90 : decode cX3_wordOf 90 = .ok (.ldc 118, 2) := by decide +kernel
theorem dX3_wordOf_92 : decode cX3_wordOf 92 = .ok (.areturn, 1) := by decide +kernel
theorem dX3_wordOf_93 : decode cX3_wordOf 93 = .ok (.ldc 120, 2) := by decide +kernel
theorem dX3_wordOf_95 : decode cX3_wordOf 95 = .ok (.areturn, 1) := by decide +kernel
theorem dX3_numbersOf_0 : decode cX3_numbersOf 0 = .ok (.iload_n 0, 1) := by decide +kernel
theorem dX3_numbersOf_1 : decode cX3_numbersOf 1 = .ok (.tableswitch 57 0 8 #[51, 51, 51, 57, 57, 57, 57, 55, 53], 51) := by decide +kernel
theorem dX3_numbersOf_52 : decode cX3_numbersOf 52 = .ok (.iconst 3, 1) := by decide +kernel
theorem dX3_numbersOf_53 : decode cX3_numbersOf 53 = .ok (.ireturn, 1) := by decide +kernel
theorem dX3_numbersOf_54 : decode cX3_numbersOf 54 = .ok (.iconst 2, 1) := by decide +kernel
theorem dX3_numbersOf_55 : decode cX3_numbersOf 55 = .ok (.ireturn, 1) := by decide +kernel
theorem dX3_numbersOf_56 : decode cX3_numbersOf 56 = .ok (.iconst 0, 1) := by decide +kernel
theorem dX3_numbersOf_57 : decode cX3_numbersOf 57 = .ok (.ireturn, 1) := by decide +kernel
theorem dX3_numbersOf_58 : decode cX3_numbersOf 58 = .ok (.iconst 1, 1) := by decide +kernel
theorem dX3_numbersOf_59 : decode cX3_numbersOf 59 = .ok (.ireturn, 1) := by decide +kernel
set_option maxRecDepth 20000 in
theorem ggX4_init_X2_init : GoodIn wsX4_init wsX2_init := goodIn_r _ [10, 11, 2, 3, 12, 13, 18] (by decide +kernel) (by decide +kernel)
set_option maxRecDepth 20000 in
theorem gX4_init_X2_init : GoodIn wsX4_init (wsX2_init) := ggX4_init_X2_init
set_option maxRecDepth 20000 in
theorem ggX4_init_X2_put : GoodIn wsX4_init wsX2_put := goodIn_ca (goodIn_r _ [17, 13, 18] (by decide +kernel) (by decide +kernel)) (goodIn_sub (fun _ h => List.mem_cons_of_mem _ (List.mem_append_right _ h)) (by decide +kernel))
set_option maxRecDepth 20000 in
theorem gX4_init_X2_put : GoodIn wsX4_init (wsV RX4 20 RX2 yX2_put wsX2_put) := goodIn_app (goodIn_of _ (by decide +kernel)) ggX4_init_X2_put
theorem dX4_init_0 : decode cX4_init 0 = .ok (.aload_n 0, 1) := by decide +kernel
theorem dX4_init_1 : decode cX4_init 1 = .ok (.invokespecial 5, 3) := by decide +kernel
theorem dX4_init_4 : decode cX4_init 4 = .ok (.aload_n 0, 1) := by decide +kernel
theorem dX4_init_5 : decode cX4_init 5 = .ok (.new 11, 3) := by decide +kernel
theorem dX4_init_8 : decode cX4_init 8 = .ok (.dup, 1) := by decide +kernel
theorem dX4_init_9 : decode cX4_init 9 = .ok (.bipush 61, 2) := by decide +kernel
theorem dX4_init_11 : decode cX4_init 11 = .ok (.invokespecial 13, 3) := by decide +kernel
theorem dX4_init_14 : decode cX4_init 14 = .ok (.putfield 16, 3) := by decide +kernel
theorem dX4_init_17 : decode cX4_init 17 = .ok (.aload_n 0, 1) := by decide +kernel
theorem dX4_init_18 : decode cX4_init 18 = .ok (.getfield 16, 3) := by decide +kernel
theorem dX4_init_21 : decode cX4_init 21 = .ok (.iconst 1, 1) := by decide +kernel
theorem dX4_init_22 : decode cX4_init 22 = .ok (.bipush 20, 2) := by decide +kernel
theorem dX4_init_24 : decode cX4_init 24 = .ok (.invokevirtual 20, 3) := by decide +kernel
theorem dX4_init_27 : decode cX4_init 27 = .ok (.aload_n 0, 1) := by decide +kernel
theorem dX4_init_28 : decode cX4_init 28 = .ok (.getfield 16, 3) := by decide +kernel
theorem dX4_init_31 : decode cX4_init 31 = .ok (.iconst 5, 1) := by decide +kernel
theorem dX4_init_32 : decode cX4_init 32 = .ok (.iconst (-1), 1) := by decide +kernel
theorem dX4_init_33 : decode cX4_init 33 = .ok (.invokevirtual 20, 3) := by decide +kernel
theorem dX4_init_36 : decode cX4_init 36 = .ok (.return_, 1) := by decide +kernel
theorem dX4_isPosition_0 : decode cX4_isPosition 0 = .ok (.iload_n 0, 1) := by decide +kernel
theorem dX4_isPosition_1 : decode cX4_isPosition 1 = .ok (.ifCond .lt 13, 3) := by decide +kernel
theorem dX4_isPosition_4 : decode cX4_isPosition 4 = .ok (.iload_n 0, 1) := by decide +kernel
theorem dX4_isPosition_5 : decode cX4_isPosition 5 = .ok (.bipush 12, 2) := by decide +kernel
theorem dX4_isPosition_7 : decode cX4_isPosition 7 = .ok (.if_icmp .ge 7, 3) := by decide +kernel
theorem dX4_isPosition_10 : decode cX4_isPosition 10 = .ok (.iconst 1, 1) := by decide +kernel
theorem dX4_isPosition_11 : decode cX4_isPosition 11 = .ok (.goto 4, 3) := by decide +kernel
theorem dX4_isPosition_14 : decode cX4_isPosition 14 = .ok (.iconst 0, 1) := by decide +kernel
theorem dX4_isPosition_15 : decode cX4_isPosition 15 = .ok (.ireturn, 1) := by decide +kernel
set_option maxRecDepth 20000 in
theorem ggX4_isMoonShape_X4_isPosition : GoodIn wsX4_isMoonShape wsX4_isPosition := goodIn_r _ [4] (by decide +kernel) (by decide +kernel)
set_option maxRecDepth 20000 in
theorem gX4_isMoonShape_X4_isPosition : GoodIn wsX4_isMoonShape (va_wsS RX4 24 yX4_isPosition wsX4_isPosition) := goodIn_app (goodIn_of _ (by decide +kernel)) ggX4_isMoonShape_X4_isPosition
theorem dX4_isMoonShape_0 : decode cX4_isMoonShape 0 = .ok (.iload_n 0, 1) := by decide +kernel
theorem dX4_isMoonShape_1 : decode cX4_isMoonShape 1 = .ok (.iconst 1, 1) := by decide +kernel
theorem dX4_isMoonShape_2 : decode cX4_isMoonShape 2 = .ok (.if_icmp .lt 31, 3) := by decide +kernel
theorem dX4_isMoonShape_5 : decode cX4_isMoonShape 5 = .ok (.iload_n 0, 1) := by decide +kernel
theorem dX4_isMoonShape_6 : decode cX4_isMoonShape 6 = .ok (.bipush 6, 2) := by decide +kernel
theorem dX4_isMoonShape_8 : decode cX4_isMoonShape 8 = .ok (.if_icmp .gt 25, 3) := by decide +kernel
theorem dX4_isMoonShape_11 : decode cX4_isMoonShape 11 = .ok (.iload_n 1, 1) := by decide +kernel
theorem dX4_isMoonShape_12 : decode cX4_isMoonShape 12 = .ok (.invokestatic 24, 3) := by decide +kernel
theorem dX4_isMoonShape_15 : decode cX4_isMoonShape 15 = .ok (.ifCond .eq 18, 3) := by decide +kernel
theorem dX4_isMoonShape_18 : decode cX4_isMoonShape 18 = .ok (.iload_n 2, 1) := by decide +kernel
theorem dX4_isMoonShape_19 : decode cX4_isMoonShape 19 = .ok (.iconst 1, 1) := by decide +kernel
theorem dX4_isMoonShape_20 : decode cX4_isMoonShape 20 = .ok (.if_icmp .lt 13, 3) := by decide +kernel
theorem dX4_isMoonShape_23 : decode cX4_isMoonShape 23 = .ok (.iload_n 2, 1) := by decide +kernel
theorem dX4_isMoonShape_24 : decode cX4_isMoonShape 24 = .ok (.bipush 12, 2) := by decide +kernel
theorem dX4_isMoonShape_26 : decode cX4_isMoonShape 26 = .ok (.if_icmp .gt 7, 3) := by decide +kernel
theorem dX4_isMoonShape_29 : decode cX4_isMoonShape 29 = .ok (.iconst 1, 1) := by decide +kernel
theorem dX4_isMoonShape_30 : decode cX4_isMoonShape 30 = .ok (.goto 4, 3) := by decide +kernel
theorem dX4_isMoonShape_33 : decode cX4_isMoonShape 33 = .ok (.iconst 0, 1) := by decide +kernel
theorem dX4_isMoonShape_34 : decode cX4_isMoonShape 34 = .ok (.ireturn, 1) := by decide +kernel
theorem dX4_isHeight_0 : decode cX4_isHeight 0 = .ok (.iload_n 0, 1) := by decide +kernel
theorem dX4_isHeight_1 : decode cX4_isHeight 1 = .ok (.ifCond .lt 13, 3) := by decide +kernel
theorem dX4_isHeight_4 : decode cX4_isHeight 4 = .ok (.iload_n 0, 1) := by decide +kernel
theorem dX4_isHeight_5 : decode cX4_isHeight 5 = .ok (.bipush 60, 2) := by decide +kernel
theorem dX4_isHeight_7 : decode cX4_isHeight 7 = .ok (.if_icmp .gt 7, 3) := by decide +kernel
theorem dX4_isHeight_10 : decode cX4_isHeight 10 = .ok (.iconst 1, 1) := by decide +kernel
theorem dX4_isHeight_11 : decode cX4_isHeight 11 = .ok (.goto 4, 3) := by decide +kernel
theorem dX4_isHeight_14 : decode cX4_isHeight 14 = .ok (.iconst 0, 1) := by decide +kernel
theorem dX4_isHeight_15 : decode cX4_isHeight 15 = .ok (.ireturn, 1) := by decide +kernel
theorem dX4_isFlow_0 : decode cX4_isFlow 0 = .ok (.iload_n 0, 1) := by decide +kernel
theorem dX4_isFlow_1 : decode cX4_isFlow 1 = .ok (.bipush (-3), 2) := by decide +kernel
theorem dX4_isFlow_3 : decode cX4_isFlow 3 = .ok (.if_icmp .lt 12, 3) := by decide +kernel
theorem dX4_isFlow_6 : decode cX4_isFlow 6 = .ok (.iload_n 0, 1) := by decide +kernel
theorem dX4_isFlow_7 : decode cX4_isFlow 7 = .ok (.iconst 3, 1) := by decide +kernel
theorem dX4_isFlow_8 : decode cX4_isFlow 8 = .ok (.if_icmp .gt 7, 3) := by decide +kernel
theorem dX4_isFlow_11 : decode cX4_isFlow 11 = .ok (.iconst 1, 1) := by decide +kernel
theorem dX4_isFlow_12 : decode cX4_isFlow 12 = .ok (.goto 4, 3) := by decide +kernel
theorem dX4_isFlow_15 : decode cX4_isFlow 15 = .ok (.iconst 0, 1) := by decide +kernel
theorem dX4_isFlow_16 : decode cX4_isFlow 16 = .ok (.ireturn, 1) := by decide +kernel
theorem dX4_isWait_0 : decode cX4_isWait 0 = .ok (.iload_n 0, 1) := by decide +kernel
theorem dX4_isWait_1 : decode cX4_isWait 1 = .ok (.iconst 1, 1) := by decide +kernel
theorem dX4_isWait_2 : decode cX4_isWait 2 = .ok (.if_icmp .lt 13, 3) := by decide +kernel
theorem dX4_isWait_5 : decode cX4_isWait 5 = .ok (.iload_n 0, 1) := by decide +kernel
theorem dX4_isWait_6 : decode cX4_isWait 6 = .ok (.bipush 60, 2) := by decide +kernel
theorem dX4_isWait_8 : decode cX4_isWait 8 = .ok (.if_icmp .gt 7, 3) := by decide +kernel
theorem dX4_isWait_11 : decode cX4_isWait 11 = .ok (.iconst 1, 1) := by decide +kernel
theorem dX4_isWait_12 : decode cX4_isWait 12 = .ok (.goto 4, 3) := by decide +kernel
theorem dX4_isWait_15 : decode cX4_isWait 15 = .ok (.iconst 0, 1) := by decide +kernel
theorem dX4_isWait_16 : decode cX4_isWait 16 = .ok (.ireturn, 1) := by decide +kernel
set_option maxRecDepth 20000 in
theorem ggX4_isMoon_X4_moons : GoodIn wsX4_isMoon wsX4_moons := goodIn_ca (goodIn_r _ [5, 6, 7, 8, 9, 10, 11, 12, 13, 14] (by decide +kernel) (by decide +kernel)) (goodIn_sub (fun _ h => List.mem_cons_of_mem _ (List.mem_append_right _ h)) (by decide +kernel))
set_option maxRecDepth 20000 in
theorem gX4_isMoon_X4_moons : GoodIn wsX4_isMoon (wsV RX4 28 RX4 yX4_moons wsX4_moons) := goodIn_app (goodIn_of _ (by decide +kernel)) ggX4_isMoon_X4_moons
theorem dX4_isMoon_0 : decode cX4_isMoon 0 = .ok (.iload_n 1, 1) := by decide +kernel
theorem dX4_isMoon_1 : decode cX4_isMoon 1 = .ok (.ifCond .lt 15, 3) := by decide +kernel
theorem dX4_isMoon_4 : decode cX4_isMoon 4 = .ok (.iload_n 1, 1) := by decide +kernel
theorem dX4_isMoon_5 : decode cX4_isMoon 5 = .ok (.aload_n 0, 1) := by decide +kernel
theorem dX4_isMoon_6 : decode cX4_isMoon 6 = .ok (.invokevirtual 28, 3) := by decide +kernel
theorem dX4_isMoon_9 : decode cX4_isMoon 9 = .ok (.if_icmp .ge 7, 3) := by decide +kernel
theorem dX4_isMoon_12 : decode cX4_isMoon 12 = .ok (.iconst 1, 1) := by decide +kernel
theorem dX4_isMoon_13 : decode cX4_isMoon 13 = .ok (.goto 4, 3) := by decide +kernel
theorem dX4_isMoon_16 : decode cX4_isMoon 16 = .ok (.iconst 0, 1) := by decide +kernel
theorem dX4_isMoon_17 : decode cX4_isMoon 17 = .ok (.ireturn, 1) := by decide +kernel
set_option maxRecDepth 20000 in
theorem ggX4_hasMoonRoom_X4_moons : GoodIn wsX4_hasMoonRoom wsX4_moons := goodIn_ca (goodIn_r _ [5, 6, 7, 8, 9, 10, 11, 12, 13, 14] (by decide +kernel) (by decide +kernel)) (goodIn_sub (fun _ h => List.mem_cons_of_mem _ (List.mem_append_right _ h)) (by decide +kernel))
set_option maxRecDepth 20000 in
theorem gX4_hasMoonRoom_X4_moons : GoodIn wsX4_hasMoonRoom (wsV RX4 28 RX4 yX4_moons wsX4_moons) := goodIn_app (goodIn_of _ (by decide +kernel)) ggX4_hasMoonRoom_X4_moons
theorem dX4_hasMoonRoom_0 : decode cX4_hasMoonRoom 0 = .ok (.aload_n 0, 1) := by decide +kernel
theorem dX4_hasMoonRoom_1 : decode cX4_hasMoonRoom 1 = .ok (.invokevirtual 28, 3) := by decide +kernel
theorem dX4_hasMoonRoom_4 : decode cX4_hasMoonRoom 4 = .ok (.iconst 5, 1) := by decide +kernel
theorem dX4_hasMoonRoom_5 : decode cX4_hasMoonRoom 5 = .ok (.if_icmp .ge 7, 3) := by decide +kernel
theorem dX4_hasMoonRoom_8 : decode cX4_hasMoonRoom 8 = .ok (.iconst 1, 1) := by decide +kernel
theorem dX4_hasMoonRoom_9 : decode cX4_hasMoonRoom 9 = .ok (.goto 4, 3) := by decide +kernel
theorem dX4_hasMoonRoom_12 : decode cX4_hasMoonRoom 12 = .ok (.iconst 0, 1) := by decide +kernel
theorem dX4_hasMoonRoom_13 : decode cX4_hasMoonRoom 13 = .ok (.ireturn, 1) := by decide +kernel
set_option maxRecDepth 20000 in
theorem ggX4_isTowel_X4_towels : GoodIn wsX4_isTowel wsX4_towels := goodIn_ca (goodIn_r _ [5, 6, 7, 8, 9, 10, 11, 12, 13, 14] (by decide +kernel) (by decide +kernel)) (goodIn_sub (fun _ h => List.mem_cons_of_mem _ (List.mem_append_right _ h)) (by decide +kernel))
set_option maxRecDepth 20000 in
theorem gX4_isTowel_X4_towels : GoodIn wsX4_isTowel (wsV RX4 32 RX4 yX4_towels wsX4_towels) := goodIn_app (goodIn_of _ (by decide +kernel)) ggX4_isTowel_X4_towels
theorem dX4_isTowel_0 : decode cX4_isTowel 0 = .ok (.iload_n 1, 1) := by decide +kernel
theorem dX4_isTowel_1 : decode cX4_isTowel 1 = .ok (.ifCond .lt 15, 3) := by decide +kernel
theorem dX4_isTowel_4 : decode cX4_isTowel 4 = .ok (.iload_n 1, 1) := by decide +kernel
theorem dX4_isTowel_5 : decode cX4_isTowel 5 = .ok (.aload_n 0, 1) := by decide +kernel
theorem dX4_isTowel_6 : decode cX4_isTowel 6 = .ok (.invokevirtual 32, 3) := by decide +kernel
theorem dX4_isTowel_9 : decode cX4_isTowel 9 = .ok (.if_icmp .ge 7, 3) := by decide +kernel
theorem dX4_isTowel_12 : decode cX4_isTowel 12 = .ok (.iconst 1, 1) := by decide +kernel
theorem dX4_isTowel_13 : decode cX4_isTowel 13 = .ok (.goto 4, 3) := by decide +kernel
theorem dX4_isTowel_16 : decode cX4_isTowel 16 = .ok (.iconst 0, 1) := by decide +kernel
theorem dX4_isTowel_17 : decode cX4_isTowel 17 = .ok (.ireturn, 1) := by decide +kernel
set_option maxRecDepth 20000 in
theorem ggX4_canPutToe_X4_isToeAt : GoodIn wsX4_canPutToe wsX4_isToeAt := goodIn_ca (goodIn_r _ [5, 6, 7, 8, 4, 9, 10, 11, 12, 13, 14, 15, 20, 21] (by decide +kernel) (by decide +kernel)) (goodIn_sub (fun _ h => List.mem_cons_of_mem _ (List.mem_append_right _ h)) (by decide +kernel))
set_option maxRecDepth 20000 in
theorem gX4_canPutToe_X4_isToeAt : GoodIn wsX4_canPutToe (wsV RX4 35 RX4 yX4_isToeAt wsX4_isToeAt) := goodIn_app (goodIn_of _ (by decide +kernel)) ggX4_canPutToe_X4_isToeAt
set_option maxRecDepth 20000 in
theorem ggX4_canPutToe_X4_toes : GoodIn wsX4_canPutToe wsX4_toes := goodIn_ca (goodIn_r _ [19, 6, 10, 11, 12, 13, 14, 15, 20, 21] (by decide +kernel) (by decide +kernel)) (goodIn_sub (fun _ h => List.mem_cons_of_mem _ (List.mem_append_right _ h)) (by decide +kernel))
set_option maxRecDepth 20000 in
theorem gX4_canPutToe_X4_toes : GoodIn wsX4_canPutToe (wsV RX4 38 RX4 yX4_toes wsX4_toes) := goodIn_app (goodIn_of _ (by decide +kernel)) ggX4_canPutToe_X4_toes
theorem dX4_canPutToe_0 : decode cX4_canPutToe 0 = .ok (.aload_n 0, 1) := by decide +kernel
theorem dX4_canPutToe_1 : decode cX4_canPutToe 1 = .ok (.iload_n 1, 1) := by decide +kernel
theorem dX4_canPutToe_2 : decode cX4_canPutToe 2 = .ok (.invokevirtual 35, 3) := by decide +kernel
theorem dX4_canPutToe_5 : decode cX4_canPutToe 5 = .ok (.ifCond .ne 15, 3) := by decide +kernel
theorem dX4_canPutToe_8 : decode cX4_canPutToe 8 = .ok (.aload_n 0, 1) := by decide +kernel
theorem dX4_canPutToe_9 : decode cX4_canPutToe 9 = .ok (.invokevirtual 38, 3) := by decide +kernel
theorem dX4_canPutToe_12 : decode cX4_canPutToe 12 = .ok (.iconst 4, 1) := by decide +kernel
theorem dX4_canPutToe_13 : decode cX4_canPutToe 13 = .ok (.if_icmp .ge 7, 3) := by decide +kernel
theorem dX4_canPutToe_16 : decode cX4_canPutToe 16 = .ok (.iconst 1, 1) := by decide +kernel
theorem dX4_canPutToe_17 : decode cX4_canPutToe 17 = .ok (.goto 4, 3) := by decide +kernel
theorem dX4_canPutToe_20 : decode cX4_canPutToe 20 = .ok (.iconst 0, 1) := by decide +kernel
theorem dX4_canPutToe_21 : decode cX4_canPutToe 21 = .ok (.ireturn, 1) := by decide +kernel
set_option maxRecDepth 20000 in
theorem ggX4_canPutTowel_X4_isTowelAt : GoodIn wsX4_canPutTowel wsX4_isTowelAt := goodIn_ca (goodIn_r _ [5, 6, 7, 8, 4, 9, 10, 11, 12, 13, 14, 15, 16, 17, 18, 19, 20, 21, 22] (by decide +kernel) (by decide +kernel)) (goodIn_sub (fun _ h => List.mem_cons_of_mem _ (List.mem_append_right _ h)) (by decide +kernel))
set_option maxRecDepth 20000 in
theorem gX4_canPutTowel_X4_isTowelAt : GoodIn wsX4_canPutTowel (wsV RX4 41 RX4 yX4_isTowelAt wsX4_isTowelAt) := goodIn_app (goodIn_of _ (by decide +kernel)) ggX4_canPutTowel_X4_isTowelAt
set_option maxRecDepth 20000 in
theorem ggX4_canPutTowel_X4_towels : GoodIn wsX4_canPutTowel wsX4_towels := goodIn_ca (goodIn_r _ [9, 10, 11, 12, 13, 14, 15, 16, 21, 22] (by decide +kernel) (by decide +kernel)) (goodIn_sub (fun _ h => List.mem_cons_of_mem _ (List.mem_append_right _ h)) (by decide +kernel))
set_option maxRecDepth 20000 in
theorem gX4_canPutTowel_X4_towels : GoodIn wsX4_canPutTowel (wsV RX4 32 RX4 yX4_towels wsX4_towels) := goodIn_app (goodIn_of _ (by decide +kernel)) ggX4_canPutTowel_X4_towels
theorem dX4_canPutTowel_0 : decode cX4_canPutTowel 0 = .ok (.aload_n 0, 1) := by decide +kernel
theorem dX4_canPutTowel_1 : decode cX4_canPutTowel 1 = .ok (.iload_n 1, 1) := by decide +kernel
theorem dX4_canPutTowel_2 : decode cX4_canPutTowel 2 = .ok (.invokevirtual 41, 3) := by decide +kernel
theorem dX4_canPutTowel_5 : decode cX4_canPutTowel 5 = .ok (.ifCond .ne 15, 3) := by decide +kernel
theorem dX4_canPutTowel_8 : decode cX4_canPutTowel 8 = .ok (.aload_n 0, 1) := by decide +kernel
theorem dX4_canPutTowel_9 : decode cX4_canPutTowel 9 = .ok (.invokevirtual 32, 3) := by decide +kernel
theorem dX4_canPutTowel_12 : decode cX4_canPutTowel 12 = .ok (.iconst 4, 1) := by decide +kernel
theorem dX4_canPutTowel_13 : decode cX4_canPutTowel 13 = .ok (.if_icmp .ge 7, 3) := by decide +kernel
theorem dX4_canPutTowel_16 : decode cX4_canPutTowel 16 = .ok (.iconst 1, 1) := by decide +kernel
theorem dX4_canPutTowel_17 : decode cX4_canPutTowel 17 = .ok (.goto 4, 3) := by decide +kernel
theorem dX4_canPutTowel_20 : decode cX4_canPutTowel 20 = .ok (.iconst 0, 1) := by decide +kernel
theorem dX4_canPutTowel_21 : decode cX4_canPutTowel 21 = .ok (.ireturn, 1) := by decide +kernel
set_option maxRecDepth 20000 in
theorem ggX4_allows_X4_isMoonShape : GoodIn wsX4_allows wsX4_isMoonShape := goodIn_r _ [4, 5, 6, 3, 7] (by decide +kernel) (by decide +kernel)
set_option maxRecDepth 20000 in
theorem gX4_allows_X4_isMoonShape : GoodIn wsX4_allows (va_wsS RX4 44 yX4_isMoonShape wsX4_isMoonShape) := goodIn_app (goodIn_of _ (by decide +kernel)) ggX4_allows_X4_isMoonShape
set_option maxRecDepth 20000 in
theorem ggX4_allows_X4_hasMoonRoom : GoodIn wsX4_allows wsX4_hasMoonRoom := goodIn_ca (goodIn_r _ [11, 12, 13, 14, 3, 15, 16, 17, 18, 19, 20, 21, 22, 76, 77] (by decide +kernel) (by decide +kernel)) (goodIn_sub (fun _ h => List.mem_cons_of_mem _ (List.mem_append_right _ h)) (by decide +kernel))
set_option maxRecDepth 20000 in
theorem gX4_allows_X4_hasMoonRoom : GoodIn wsX4_allows (wsV RX4 48 RX4 yX4_hasMoonRoom wsX4_hasMoonRoom) := goodIn_app (goodIn_of _ (by decide +kernel)) ggX4_allows_X4_hasMoonRoom
set_option maxRecDepth 20000 in
theorem ggX4_allows_X4_isMoon : GoodIn wsX4_allows wsX4_isMoon := goodIn_ca (goodIn_r _ [26, 12, 13, 14, 3, 15, 16, 17, 18, 19, 20, 21, 22, 76, 77] (by decide +kernel) (by decide +kernel)) (goodIn_sub (fun _ h => List.mem_cons_of_mem _ (List.mem_append_right _ h)) (by decide +kernel))
set_option maxRecDepth 20000 in
theorem gX4_allows_X4_isMoon : GoodIn wsX4_allows (wsV RX4 52 RX4 yX4_isMoon wsX4_isMoon) := goodIn_app (goodIn_of _ (by decide +kernel)) ggX4_allows_X4_isMoon
set_option maxRecDepth 20000 in
theorem ggX4_allows_X4_isPosition : GoodIn wsX4_allows wsX4_isPosition := goodIn_r _ [7] (by decide +kernel) (by decide +kernel)
set_option maxRecDepth 20000 in
theorem gX4_allows_X4_isPosition : GoodIn wsX4_allows (va_wsS RX4 24 yX4_isPosition wsX4_isPosition) := goodIn_app (goodIn_of _ (by decide +kernel)) ggX4_allows_X4_isPosition
set_option maxRecDepth 20000 in
theorem ggX4_allows_X4_canPutToe : GoodIn wsX4_allows wsX4_canPutToe := goodIn_ca (goodIn_r _ [30, 31, 32, 33, 3, 34, 16, 5, 6, 7, 17, 18, 19, 20, 21, 22, 35, 36, 37, 38, 76, 77] (by decide +kernel) (by decide +kernel)) (goodIn_sub (fun _ h => List.mem_cons_of_mem _ (List.mem_append_right _ h)) (by decide +kernel))
set_option maxRecDepth 20000 in
theorem gX4_allows_X4_canPutToe : GoodIn wsX4_allows (wsV RX4 55 RX4 yX4_canPutToe wsX4_canPutToe) := goodIn_app (goodIn_of _ (by decide +kernel)) ggX4_allows_X4_canPutToe
set_option maxRecDepth 20000 in
theorem ggX4_allows_X4_isToeAt : GoodIn wsX4_allows wsX4_isToeAt := goodIn_ca (goodIn_r _ [34, 16, 5, 6, 3, 7, 17, 18, 19, 20, 21, 22, 76, 77] (by decide +kernel) (by decide +kernel)) (goodIn_sub (fun _ h => List.mem_cons_of_mem _ (List.mem_append_right _ h)) (by decide +kernel))
set_option maxRecDepth 20000 in
theorem gX4_allows_X4_isToeAt : GoodIn wsX4_allows (wsV RX4 35 RX4 yX4_isToeAt wsX4_isToeAt) := goodIn_app (goodIn_of _ (by decide +kernel)) ggX4_allows_X4_isToeAt
set_option maxRecDepth 20000 in
theorem ggX4_allows_X4_isPlugged : GoodIn wsX4_allows wsX4_isPlugged := goodIn_ca (goodIn_r _ [42, 43, 44, 45, 3, 46, 16, 17, 18, 19, 20, 21, 22, 76, 77] (by decide +kernel) (by decide +kernel)) (goodIn_sub (fun _ h => List.mem_cons_of_mem _ (List.mem_append_right _ h)) (by decide +kernel))
set_option maxRecDepth 20000 in
theorem gX4_allows_X4_isPlugged : GoodIn wsX4_allows (wsV RX4 58 RX4 yX4_isPlugged wsX4_isPlugged) := goodIn_app (goodIn_of _ (by decide +kernel)) ggX4_allows_X4_isPlugged
set_option maxRecDepth 20000 in
theorem ggX4_allows_X4_isHeight : GoodIn wsX4_allows wsX4_isHeight := goodIn_r _ [49] (by decide +kernel) (by decide +kernel)
set_option maxRecDepth 20000 in
theorem gX4_allows_X4_isHeight : GoodIn wsX4_allows (va_wsS RX4 61 yX4_isHeight wsX4_isHeight) := goodIn_app (goodIn_of _ (by decide +kernel)) ggX4_allows_X4_isHeight
set_option maxRecDepth 20000 in
theorem ggX4_allows_X4_canPutTowel : GoodIn wsX4_allows wsX4_canPutTowel := goodIn_ca (goodIn_r _ [53, 54, 55, 56, 3, 57, 58, 59, 60, 61, 16, 17, 18, 19, 20, 21, 22, 62, 63, 64, 65, 76, 77] (by decide +kernel) (by decide +kernel)) (goodIn_sub (fun _ h => List.mem_cons_of_mem _ (List.mem_append_right _ h)) (by decide +kernel))
set_option maxRecDepth 20000 in
theorem gX4_allows_X4_canPutTowel : GoodIn wsX4_allows (wsV RX4 64 RX4 yX4_canPutTowel wsX4_canPutTowel) := goodIn_app (goodIn_of _ (by decide +kernel)) ggX4_allows_X4_canPutTowel
set_option maxRecDepth 20000 in
theorem ggX4_allows_X4_isTowel : GoodIn wsX4_allows wsX4_isTowel := goodIn_ca (goodIn_r _ [69, 58, 59, 60, 3, 61, 16, 17, 18, 19, 20, 21, 22, 76, 77] (by decide +kernel) (by decide +kernel)) (goodIn_sub (fun _ h => List.mem_cons_of_mem _ (List.mem_append_right _ h)) (by decide +kernel))
set_option maxRecDepth 20000 in
theorem gX4_allows_X4_isTowel : GoodIn wsX4_allows (wsV RX4 67 RX4 yX4_isTowel wsX4_isTowel) := goodIn_app (goodIn_of _ (by decide +kernel)) ggX4_allows_X4_isTowel
set_option maxRecDepth 20000 in
theorem ggX4_allows_X4_isFlow : GoodIn wsX4_allows wsX4_isFlow := goodIn_r _ [72] (by decide +kernel) (by decide +kernel)
set_option maxRecDepth 20000 in
theorem gX4_allows_X4_isFlow : GoodIn wsX4_allows (va_wsS RX4 70 yX4_isFlow wsX4_isFlow) := goodIn_app (goodIn_of _ (by decide +kernel)) ggX4_allows_X4_isFlow
set_option maxRecDepth 20000 in
theorem ggX4_allows_X4_isWait : GoodIn wsX4_allows wsX4_isWait := goodIn_r _ [75] (by decide +kernel) (by decide +kernel)
set_option maxRecDepth 20000 in
theorem gX4_allows_X4_isWait : GoodIn wsX4_allows (va_wsS RX4 73 yX4_isWait wsX4_isWait) := goodIn_app (goodIn_of _ (by decide +kernel)) ggX4_allows_X4_isWait
theorem dX4_allows_0 : decode cX4_allows 0 = .ok (.iload_n 1, 1) := by decide +kernel
theorem dX4_allows_1 : decode cX4_allows 1 = .ok (.tableswitch 188 0 11 #[63, 63, 63, 86, 92, 113, 134, 139, 144, 172, 178, 183], 63) := by decide +kernel
theorem dX4_allows_64 : decode cX4_allows 64 = .ok (.iload_n 2, 1) := by decide +kernel
theorem dX4_allows_65 : decode cX4_allows 65 = .ok (.iload_n 3, 1) := by decide +kernel
theorem dX4_allows_66 : decode cX4_allows 66 = .ok (.iload 4, 2) := by decide +kernel
theorem dX4_allows_68 : decode cX4_allows 68 = .ok (.invokestatic 44, 3) := by decide +kernel
theorem dX4_allows_71 : decode cX4_allows 71 = .ok (.ifCond .eq 14, 3) := by decide +kernel
theorem dX4_allows_74 : decode cX4_allows 74 = .ok (.aload_n 0, 1) := by decide +kernel
theorem dX4_allows_75 : decode cX4_allows 75 = .ok (.invokevirtual 48, 3) := by decide +kernel
theorem dX4_allows_78 : decode cX4_allows 78 = .ok (.ifCond .eq 7, 3) := by decide +kernel
theorem dX4_allows_81 : decode cX4_allows 81 = .ok (.iconst 1, 1) := by decide +kernel
theorem dX4_allows_82 : decode cX4_allows 82 = .ok (.goto 4, 3) := by decide +kernel
theorem dX4_allows_85 : decode cX4_allows 85 = .ok (.iconst 0, 1) := by decide +kernel
theorem dX4_allows_86 : decode cX4_allows 86 = .ok (.ireturn, 1) := by decide +kernel
theorem dX4_allows_87 : decode cX4_allows 87 = .ok (.aload_n 0, 1) := by decide +kernel
theorem dX4_allows_88 : decode cX4_allows 88 = .ok (.iload_n 2, 1) := by decide +kernel
theorem dX4_allows_89 : decode cX4_allows 89 = .ok (.invokevirtual 52, 3) := by decide +kernel
theorem dX4_allows_92 : decode cX4_allows 92 = .ok (.ireturn, 1) := by decide +kernel
theorem dX4_allows_93 : decode cX4_allows 93 = .ok (.iload_n 2, 1) := by decide +kernel
theorem dX4_allows_94 : decode cX4_allows 94 = .ok (.invokestatic 24, 3) := by decide +kernel
theorem dX4_allows_97 : decode cX4_allows 97 = .ok (.ifCond .eq 15, 3) := by decide +kernel
theorem dX4_allows_100 : decode cX4_allows 100 = .ok (.aload_n 0, 1) := by decide +kernel
theorem dX4_allows_101 : decode cX4_allows 101 = .ok (.iload_n 2, 1) := by decide +kernel
theorem dX4_allows_102 : decode cX4_allows 102 = .ok (.invokevirtual 55, 3) := by decide +kernel
theorem dX4_allows_105 : decode cX4_allows 105 = .ok (.ifCond .eq 7, 3) := by decide +kernel
theorem dX4_allows_108 : decode cX4_allows 108 = .ok (.iconst 1, 1) := by decide +kernel
theorem dX4_allows_109 : decode cX4_allows 109 = .ok (.goto 4, 3) := by decide +kernel
theorem dX4_allows_112 : decode cX4_allows 112 = .ok (.iconst 0, 1) := by decide +kernel
theorem dX4_allows_113 : decode cX4_allows 113 = .ok (.ireturn, 1) := by decide +kernel
theorem dX4_allows_114 : decode cX4_allows 114 = .ok (.iload_n 2, 1) := by decide +kernel
theorem dX4_allows_115 : decode cX4_allows 115 = .ok (.invokestatic 24, 3) := by decide +kernel
theorem dX4_allows_118 : decode cX4_allows 118 = .ok (.ifCond .eq 15, 3) := by decide +kernel
theorem dX4_allows_121 : decode cX4_allows 121 = .ok (.aload_n 0, 1) := by decide +kernel
theorem dX4_allows_122 : decode cX4_allows 122 = .ok (.iload_n 2, 1) := by decide +kernel
theorem dX4_allows_123 : decode cX4_allows 123 = .ok (.invokevirtual 35, 3) := by decide +kernel
theorem dX4_allows_126 : decode cX4_allows 126 = .ok (.ifCond .eq 7, 3) := by decide +kernel
theorem dX4_allows_129 : decode cX4_allows 129 = .ok (.iconst 1, 1) := by decide +kernel
theorem dX4_allows_130 : decode cX4_allows 130 = .ok (.goto 4, 3) := by decide +kernel
theorem dX4_allows_133 : decode cX4_allows 133 = .ok (.iconst 0, 1) := by decide +kernel
theorem dX4_allows_134 : decode cX4_allows 134 = .ok (.ireturn, 1) := by decide +kernel
theorem dX4_allows_135 : decode cX4_allows 135 = .ok (.iload_n 2, 1) := by decide +kernel
theorem dX4_allows_136 : decode cX4_allows 136 = .ok (.invokestatic 24, 3) := by decide +kernel
theorem dX4_allows_139 : decode cX4_allows 139 = .ok (.ireturn, 1) := by decide +kernel
theorem dX4_allows_140 : decode cX4_allows 140 = .ok (.aload_n 0, 1) := by decide +kernel
theorem dX4_allows_141 : decode cX4_allows 141 = .ok (.invokevirtual 58, 3) := by decide +kernel
theorem dX4_allows_144 : decode cX4_allows 144 = .ok (.ireturn, 1) := by decide +kernel
theorem dX4_allows_145 : decode cX4_allows 145 = .ok (.iload_n 2, 1) := by decide +kernel
theorem dX4_allows_146 : decode cX4_allows 146 = .ok (.invokestatic 24, 3) := by decide +kernel
theorem dX4_allows_149 : decode cX4_allows 149 = .ok (.ifCond .eq 22, 3) := by decide +kernel
theorem dX4_allows_152 : decode cX4_allows 152 = .ok (.iload_n 3, 1) := by decide +kernel
theorem dX4_allows_153 : decode cX4_allows 153 = .ok (.invokestatic 61, 3) := by decide +kernel
theorem dX4_allows_156 : decode cX4_allows 156 = .ok (.ifCond .eq 15, 3) := by decide +kernel
theorem dX4_allows_159 : decode cX4_allows 159 = .ok (.aload_n 0, 1) := by decide +kernel
theorem dX4_allows_160 : decode cX4_allows 160 = .ok (.iload_n 2, 1) := by decide +kernel
theorem dX4_allows_161 : decode cX4_allows 161 = .ok (.invokevirtual 64, 3) := by decide +kernel
theorem dX4_allows_164 : decode cX4_allows 164 = .ok (.ifCond .eq 7, 3) := by decide +kernel
theorem dX4_allows_167 : decode cX4_allows 167 = .ok (.iconst 1, 1) := by decide +kernel
theorem dX4_allows_168 : decode cX4_allows 168 = .ok (.goto 4, 3) := by decide +kernel
theorem dX4_allows_171 : decode cX4_allows 171 = .ok (.iconst 0, 1) := by decide +kernel
theorem dX4_allows_172 : decode cX4_allows 172 = .ok (.ireturn, 1) := by decide +kernel
theorem dX4_allows_173 : decode cX4_allows 173 = .ok (.aload_n 0, 1) := by decide +kernel
theorem dX4_allows_174 : decode cX4_allows 174 = .ok (.iload_n 2, 1) := by decide +kernel
theorem dX4_allows_175 : decode cX4_allows 175 = .ok (.invokevirtual 67, 3) := by decide +kernel
theorem dX4_allows_178 : decode cX4_allows 178 = .ok (.ireturn, 1) := by decide +kernel
theorem dX4_allows_179 : decode cX4_allows 179 = .ok (.iload_n 2, 1) := by decide +kernel
theorem dX4_allows_180 : decode cX4_allows 180 = .ok (.invokestatic 70, 3) := by decide +kernel
theorem dX4_allows_183 : decode cX4_allows 183 = .ok (.ireturn, 1) := by decide +kernel
theorem dX4_allows_184 : decode cX4_allows 184 = .ok (.iload_n 2, 1) := by decide +kernel
theorem dX4_allows_185 : decode cX4_allows 185 = .ok (.invokestatic 73, 3) := by decide +kernel
theorem dX4_allows_188 : decode cX4_allows 188 = .ok (.ireturn, 1) := by decide +kernel
theorem dX4_allows_189 : decode cX4_allows 189 = .ok (.iconst 0, 1) := by decide +kernel
theorem dX4_allows_190 : decode cX4_allows 190 = .ok (.ireturn, 1) := by decide +kernel
set_option maxRecDepth 20000 in
theorem ggX4_obey_X4_putMoon : GoodIn wsX4_obey wsX4_putMoon := goodIn_ca (goodIn_r _ [5, 6, 7, 8, 9, 4, 10, 11, 12, 13, 14, 15, 16, 17, 18, 19, 20, 151, 152] (by decide +kernel) (by decide +kernel)) (goodIn_sub (fun _ h => List.mem_cons_of_mem _ (List.mem_append_left _ (List.mem_append_right _ h))) (by decide +kernel))
set_option maxRecDepth 20000 in
theorem gX4_obey_X4_putMoon : GoodIn wsX4_obey (wsV RX4 76 RX4 yX4_putMoon wsX4_putMoon) := goodIn_app (goodIn_of _ (by decide +kernel)) ggX4_obey_X4_putMoon
set_option maxRecDepth 20000 in
theorem ggX4_obey_X4_dropMoon : GoodIn wsX4_obey wsX4_dropMoon := goodIn_ca (goodIn_r _ [24, 6, 7, 8, 9, 4, 10, 11, 12, 13, 14, 15, 16, 25, 26, 27, 28, 29, 30, 18, 19, 20, 17, 151, 152] (by decide +kernel) (by decide +kernel)) (goodIn_sub (fun _ h => List.mem_cons_of_mem _ (List.mem_append_left _ (List.mem_append_right _ h))) (by decide +kernel))
set_option maxRecDepth 20000 in
theorem gX4_obey_X4_dropMoon : GoodIn wsX4_obey (wsV RX4 80 RX4 yX4_dropMoon wsX4_dropMoon) := goodIn_app (goodIn_of _ (by decide +kernel)) ggX4_obey_X4_dropMoon
set_option maxRecDepth 20000 in
theorem ggX4_obey_X4_putToe : GoodIn wsX4_obey wsX4_putToe := goodIn_ca (goodIn_r _ [34, 6, 17, 18, 19, 14, 20, 16, 35, 36, 37, 4, 38, 11, 12, 13, 15, 151, 152] (by decide +kernel) (by decide +kernel)) (goodIn_sub (fun _ h => List.mem_cons_of_mem _ (List.mem_append_left _ (List.mem_append_right _ h))) (by decide +kernel))
set_option maxRecDepth 20000 in
theorem gX4_obey_X4_putToe : GoodIn wsX4_obey (wsV RX4 84 RX4 yX4_putToe wsX4_putToe) := goodIn_app (goodIn_of _ (by decide +kernel)) ggX4_obey_X4_putToe
set_option maxRecDepth 20000 in
theorem ggX4_obey_X4_dropToe : GoodIn wsX4_obey wsX4_dropToe := goodIn_ca (goodIn_r _ [42, 6, 17, 18, 19, 14, 20, 16, 35, 36, 37, 4, 38, 11, 12, 13, 15, 151, 152] (by decide +kernel) (by decide +kernel)) (goodIn_sub (fun _ h => List.mem_cons_of_mem _ (List.mem_append_left _ (List.mem_append_right _ h))) (by decide +kernel))
set_option maxRecDepth 20000 in
theorem gX4_obey_X4_dropToe : GoodIn wsX4_obey (wsV RX4 87 RX4 yX4_dropToe wsX4_dropToe) := goodIn_app (goodIn_of _ (by decide +kernel)) ggX4_obey_X4_dropToe
set_option maxRecDepth 20000 in
theorem ggX4_obey_X4_putPlug : GoodIn wsX4_obey wsX4_putPlug := goodIn_ca (goodIn_r _ [46, 6, 47, 48, 49, 4, 50, 11, 12, 13, 14, 15, 16, 17, 18, 19, 20, 151, 152] (by decide +kernel) (by decide +kernel)) (goodIn_sub (fun _ h => List.mem_cons_of_mem _ (List.mem_append_left _ (List.mem_append_right _ h))) (by decide +kernel))
set_option maxRecDepth 20000 in
theorem gX4_obey_X4_putPlug : GoodIn wsX4_obey (wsV RX4 90 RX4 yX4_putPlug wsX4_putPlug) := goodIn_app (goodIn_of _ (by decide +kernel)) ggX4_obey_X4_putPlug
set_option maxRecDepth 20000 in
theorem ggX4_obey_X4_putTowel : GoodIn wsX4_obey wsX4_putTowel := goodIn_ca (goodIn_r _ [54, 6, 55, 56, 57, 4, 58, 11, 12, 13, 14, 15, 16, 17, 18, 19, 20, 151, 152] (by decide +kernel) (by decide +kernel)) (goodIn_sub (fun _ h => List.mem_cons_of_mem _ (List.mem_append_left _ (List.mem_append_right _ h))) (by decide +kernel))
set_option maxRecDepth 20000 in
theorem gX4_obey_X4_putTowel : GoodIn wsX4_obey (wsV RX4 93 RX4 yX4_putTowel wsX4_putTowel) := goodIn_app (goodIn_of _ (by decide +kernel)) ggX4_obey_X4_putTowel
set_option maxRecDepth 20000 in
theorem ggX4_obey_X4_wring : GoodIn wsX4_obey wsX4_wring := goodIn_ca (goodIn_r _ [62, 6, 63, 64, 65, 66, 67, 68, 69, 4, 70, 11, 12, 13, 14, 15, 16, 17, 18, 19, 20, 71, 72, 73, 74, 29, 30, 151, 152] (by decide +kernel) (by decide +kernel)) (goodIn_sub (fun _ h => List.mem_cons_of_mem _ (List.mem_append_left _ (List.mem_append_right _ h))) (by decide +kernel))
set_option maxRecDepth 20000 in
theorem gX4_obey_X4_wring : GoodIn wsX4_obey (wsV RX4 97 RX4 yX4_wring wsX4_wring) := goodIn_app (goodIn_of _ (by decide +kernel)) ggX4_obey_X4_wring
set_option maxRecDepth 20000 in
theorem ggX4_obey_X4_turnTaps : GoodIn wsX4_obey wsX4_turnTaps := goodIn_ca (goodIn_r _ [78, 6, 11, 12, 13, 14, 15, 16, 17, 18, 19, 20, 151, 152] (by decide +kernel) (by decide +kernel)) (goodIn_sub (fun _ h => List.mem_cons_of_mem _ (List.mem_append_left _ (List.mem_append_right _ h))) (by decide +kernel))
set_option maxRecDepth 20000 in
theorem gX4_obey_X4_turnTaps : GoodIn wsX4_obey (wsV RX4 100 RX4 yX4_turnTaps wsX4_turnTaps) := goodIn_app (goodIn_of _ (by decide +kernel)) ggX4_obey_X4_turnTaps
set_option maxRecDepth 20000 in
theorem ggX4_obey_X4_pass : GoodIn wsX4_obey wsX4_pass := goodIn_ca (goodIn_ca (goodIn_r _ [82, 6, 71, 72, 73, 14, 74, 29, 12, 13, 15, 16, 30, 18, 19, 20, 83, 84, 85, 4, 86, 63, 64, 65, 66, 87, 88, 89, 11, 17, 55, 56, 57, 58, 67, 68, 69, 70, 90, 91, 92, 93, 7, 8, 9, 10, 94, 95, 96, 97, 98, 99, 100, 101, 102, 103, 104, 105, 106, 107, 108, 109, 110, 111, 112, 113, 114, 115, 116, 117, 118, 119, 120, 121, 122, 123, 124, 125, 126, 127, 128, 129, 130, 131, 132, 133, 134, 135, 136, 137, 138, 139, 140, 141, 142, 143, 144, 145, 146, 147, 148, 149, 150, 151, 152] (by decide +kernel) (by decide +kernel)) (goodIn_sub (fun _ h => List.mem_cons_of_mem _ (List.mem_append_left _ (List.mem_append_right _ h))) (by decide +kernel))) (goodIn_sub (fun _ h => List.mem_cons_of_mem _ (List.mem_append_right _ h)) (by decide +kernel))
set_option maxRecDepth 20000 in
theorem gX4_obey_X4_pass : GoodIn wsX4_obey (wsV RX4 103 RX4 yX4_pass wsX4_pass) := goodIn_app (goodIn_of _ (by decide +kernel)) ggX4_obey_X4_pass
theorem dX4_obey_0 : decode cX4_obey 0 = .ok (.iload_n 1, 1) := by decide +kernel
theorem dX4_obey_1 : decode cX4_obey 1 = .ok (.tableswitch 184 0 11 #[63, 76, 89, 102, 111, 120, 129, 138, 147, 157, 166, 175], 63) := by decide +kernel
theorem dX4_obey_64 : decode cX4_obey 64 = .ok (.aload_n 0, 1) := by decide +kernel
theorem dX4_obey_65 : decode cX4_obey 65 = .ok (.iconst 0, 1) := by decide +kernel
theorem dX4_obey_66 : decode cX4_obey 66 = .ok (.iload_n 2, 1) := by decide +kernel
theorem dX4_obey_67 : decode cX4_obey 67 = .ok (.iload_n 3, 1) := by decide +kernel
theorem dX4_obey_68 : decode cX4_obey 68 = .ok (.iload 4, 2) := by decide +kernel
theorem dX4_obey_70 : decode cX4_obey 70 = .ok (.invokevirtual 76, 3) := by decide +kernel
theorem dX4_obey_73 : decode cX4_obey 73 = .ok (.pop, 1) := by decide +kernel
theorem dX4_obey_74 : decode cX4_obey 74 = .ok (.goto 111, 3) := by decide +kernel
theorem dX4_obey_77 : decode cX4_obey 77 = .ok (.aload_n 0, 1) := by decide +kernel
theorem dX4_obey_78 : decode cX4_obey 78 = .ok (.iconst 1, 1) := by decide +kernel
theorem dX4_obey_79 : decode cX4_obey 79 = .ok (.iload_n 2, 1) := by decide +kernel
theorem dX4_obey_80 : decode cX4_obey 80 = .ok (.iload_n 3, 1) := by decide +kernel
theorem dX4_obey_81 : decode cX4_obey 81 = .ok (.iload 4, 2) := by decide +kernel
theorem dX4_obey_83 : decode cX4_obey 83 = .ok (.invokevirtual 76, 3) := by decide +kernel
theorem dX4_obey_86 : decode cX4_obey 86 = .ok (.pop, 1) := by decide +kernel
theorem dX4_obey_87 : decode cX4_obey 87 = .ok (.goto 98, 3) := by decide +kernel
theorem dX4_obey_90 : decode cX4_obey 90 = .ok (.aload_n 0, 1) := by decide +kernel
theorem dX4_obey_91 : decode cX4_obey 91 = .ok (.iconst 2, 1) := by decide +kernel
theorem dX4_obey_92 : decode cX4_obey 92 = .ok (.iload_n 2, 1) := by decide +kernel
theorem dX4_obey_93 : decode cX4_obey 93 = .ok (.iload_n 3, 1) := by decide +kernel
theorem dX4_obey_94 : decode cX4_obey 94 = .ok (.iload 4, 2) := by decide +kernel
theorem dX4_obey_96 : decode cX4_obey 96 = .ok (.invokevirtual 76, 3) := by decide +kernel
theorem dX4_obey_99 : decode cX4_obey 99 = .ok (.pop, 1) := by decide +kernel
theorem dX4_obey_100 : decode cX4_obey 100 = .ok (.goto 85, 3) := by decide +kernel
theorem dX4_obey_103 : decode cX4_obey 103 = .ok (.aload_n 0, 1) := by decide +kernel
theorem dX4_obey_104 : decode cX4_obey 104 = .ok (.iload_n 2, 1) := by decide +kernel
theorem dX4_obey_105 : decode cX4_obey 105 = .ok (.invokevirtual 80, 3) := by decide +kernel
theorem dX4_obey_108 : decode cX4_obey 108 = .ok (.pop, 1) := by decide +kernel
theorem dX4_obey_109 : decode cX4_obey 109 = .ok (.goto 76, 3) := by decide +kernel
theorem dX4_obey_112 : decode cX4_obey 112 = .ok (.aload_n 0, 1) := by decide +kernel
theorem dX4_obey_113 : decode cX4_obey 113 = .ok (.iload_n 2, 1) := by decide +kernel
theorem dX4_obey_114 : decode cX4_obey 114 = .ok (.invokevirtual 84, 3) := by decide +kernel
theorem dX4_obey_117 : decode cX4_obey 117 = .ok (.pop, 1) := by decide +kernel
theorem dX4_obey_118 : decode cX4_obey 118 = .ok (.goto 67, 3) := by decide +kernel
theorem dX4_obey_121 : decode cX4_obey 121 = .ok (.aload_n 0, 1) := by decide +kernel
theorem dX4_obey_122 : decode cX4_obey 122 = .ok (.iload_n 2, 1) := by decide +kernel
theorem dX4_obey_123 : decode cX4_obey 123 = .ok (.invokevirtual 87, 3) := by decide +kernel
theorem dX4_obey_126 : decode cX4_obey 126 = .ok (.pop, 1) := by decide +kernel
theorem dX4_obey_127 : decode cX4_obey 127 = .ok (.goto 58, 3) := by decide +kernel
theorem dX4_obey_130 : decode cX4_obey 130 = .ok (.aload_n 0, 1) := by decide +kernel
theorem dX4_obey_131 : decode cX4_obey 131 = .ok (.iload_n 2, 1) := by decide +kernel
theorem dX4_obey_132 : decode cX4_obey 132 = .ok (.invokevirtual 90, 3) := by decide +kernel
theorem dX4_obey_135 : decode cX4_obey 135 = .ok (.pop, 1) := by decide +kernel
theorem dX4_obey_136 : decode cX4_obey 136 = .ok (.goto 49, 3) := by decide +kernel
theorem dX4_obey_139 : decode cX4_obey 139 = .ok (.aload_n 0, 1) := by decide +kernel
theorem dX4_obey_140 : decode cX4_obey 140 = .ok (.iconst (-1), 1) := by decide +kernel
theorem dX4_obey_141 : decode cX4_obey 141 = .ok (.invokevirtual 90, 3) := by decide +kernel
theorem dX4_obey_144 : decode cX4_obey 144 = .ok (.pop, 1) := by decide +kernel
theorem dX4_obey_145 : decode cX4_obey 145 = .ok (.goto 40, 3) := by decide +kernel
theorem dX4_obey_148 : decode cX4_obey 148 = .ok (.aload_n 0, 1) := by decide +kernel
theorem dX4_obey_149 : decode cX4_obey 149 = .ok (.iload_n 2, 1) := by decide +kernel
theorem dX4_obey_150 : decode cX4_obey 150 = .ok (.iload_n 3, 1) := by decide +kernel
theorem dX4_obey_151 : decode cX4_obey 151 = .ok (.invokevirtual 93, 3) := by decide +kernel
theorem dX4_obey_154 : decode cX4_obey 154 = .ok (.pop, 1) := by decide +kernel
theorem dX4_obey_155 : decode cX4_obey 155 = .ok (.goto 30, 3) := by decide +kernel
theorem dX4_obey_158 : decode cX4_obey 158 = .ok (.aload_n 0, 1) := by decide +kernel
theorem dX4_obey_159 : decode cX4_obey 159 = .ok (.iload_n 2, 1) := by decide +kernel
theorem dX4_obey_160 : decode cX4_obey 160 = .ok (.invokevirtual 97, 3) := by decide +kernel
theorem dX4_obey_163 : decode cX4_obey 163 = .ok (.pop, 1) := by decide +kernel
theorem dX4_obey_164 : decode cX4_obey 164 = .ok (.goto 21, 3) := by decide +kernel
theorem dX4_obey_167 : decode cX4_obey 167 = .ok (.aload_n 0, 1) := by decide +kernel
theorem dX4_obey_168 : decode cX4_obey 168 = .ok (.iload_n 2, 1) := by decide +kernel
theorem dX4_obey_169 : decode cX4_obey 169 = .ok (.invokevirtual 100, 3) := by decide +kernel
theorem dX4_obey_172 : decode cX4_obey 172 = .ok (.pop, 1) := by decide +kernel
theorem dX4_obey_173 : decode cX4_obey 173 = .ok (.goto 12, 3) := by decide +kernel
theorem dX4_obey_176 : decode cX4_obey 176 = .ok (.aload_n 0, 1) := by decide +kernel
theorem dX4_obey_177 : decode cX4_obey 177 = .ok (.iload_n 2, 1) := by decide +kernel
theorem dX4_obey_178 : decode cX4_obey 178 = .ok (.invokevirtual 103, 3) := by decide +kernel
theorem dX4_obey_181 : decode cX4_obey 181 = .ok (.pop, 1) := by decide +kernel
theorem dX4_obey_182 : decode cX4_obey 182 = .ok (.goto 3, 3) := by decide +kernel
theorem dX4_obey_185 : decode cX4_obey 185 = .ok (.return_, 1) := by decide +kernel
set_option maxRecDepth 20000 in
theorem ggX4_moons_X2_at : GoodIn wsX4_moons wsX2_at := goodIn_ca (goodIn_r _ [6, 7, 9] (by decide +kernel) (by decide +kernel)) (goodIn_sub (fun _ h => List.mem_cons_of_mem _ (List.mem_append_right _ h)) (by decide +kernel))
set_option maxRecDepth 20000 in
theorem gX4_moons_X2_at : GoodIn wsX4_moons (wsV RX4 106 RX2 yX2_at wsX2_at) := goodIn_app (goodIn_of _ (by decide +kernel)) ggX4_moons_X2_at
theorem dX4_moons_0 : decode cX4_moons 0 = .ok (.aload_n 0, 1) := by decide +kernel
theorem dX4_moons_1 : decode cX4_moons 1 = .ok (.getfield 16, 3) := by decide +kernel
theorem dX4_moons_4 : decode cX4_moons 4 = .ok (.bipush 6, 2) := by decide +kernel
theorem dX4_moons_6 : decode cX4_moons 6 = .ok (.invokevirtual 106, 3) := by decide +kernel
theorem dX4_moons_9 : decode cX4_moons 9 = .ok (.ireturn, 1) := by decide +kernel
set_option maxRecDepth 20000 in
theorem ggX4_putMoon_X4_moons : GoodIn wsX4_putMoon wsX4_moons := goodIn_ca (goodIn_r _ [6, 1, 7, 8, 9, 10, 11, 12, 17, 18] (by decide +kernel) (by decide +kernel)) (goodIn_sub (fun _ h => List.mem_cons_of_mem _ (List.mem_append_right _ h)) (by decide +kernel))
set_option maxRecDepth 20000 in
theorem gX4_putMoon_X4_moons : GoodIn wsX4_putMoon (wsV RX4 28 RX4 yX4_moons wsX4_moons) := goodIn_app (goodIn_of _ (by decide +kernel)) ggX4_putMoon_X4_moons
set_option maxRecDepth 20000 in
theorem ggX4_putMoon_X2_put : GoodIn wsX4_putMoon wsX2_put := goodIn_ca (goodIn_r _ [16, 12, 18] (by decide +kernel) (by decide +kernel)) (goodIn_sub (fun _ h => List.mem_cons_of_mem _ (List.mem_append_right _ h)) (by decide +kernel))
set_option maxRecDepth 20000 in
theorem gX4_putMoon_X2_put : GoodIn wsX4_putMoon (wsV RX4 20 RX2 yX2_put wsX2_put) := goodIn_app (goodIn_of _ (by decide +kernel)) ggX4_putMoon_X2_put
set_option maxRecDepth 20000 in
theorem ggX4_putMoon_X2_at : GoodIn wsX4_putMoon wsX2_at := goodIn_ca (goodIn_r _ [11, 12, 18] (by decide +kernel) (by decide +kernel)) (goodIn_sub (fun _ h => List.mem_cons_of_mem _ (List.mem_append_right _ h)) (by decide +kernel))
set_option maxRecDepth 20000 in
theorem gX4_putMoon_X2_at : GoodIn wsX4_putMoon (wsV RX4 106 RX2 yX2_at wsX2_at) := goodIn_app (goodIn_of _ (by decide +kernel)) ggX4_putMoon_X2_at
theorem dX4_putMoon_0 : decode cX4_putMoon 0 = .ok (.aload_n 0, 1) := by decide +kernel
theorem dX4_putMoon_1 : decode cX4_putMoon 1 = .ok (.invokevirtual 28, 3) := by decide +kernel
theorem dX4_putMoon_4 : decode cX4_putMoon 4 = .ok (.istore 5, 2) := by decide +kernel
theorem dX4_putMoon_6 : decode cX4_putMoon 6 = .ok (.bipush 20, 2) := by decide +kernel
theorem dX4_putMoon_8 : decode cX4_putMoon 8 = .ok (.iload 5, 2) := by decide +kernel
theorem dX4_putMoon_10 : decode cX4_putMoon 10 = .ok (.iconst 5, 1) := by decide +kernel
theorem dX4_putMoon_11 : decode cX4_putMoon 11 = .ok (.imul, 1) := by decide +kernel
theorem dX4_putMoon_12 : decode cX4_putMoon 12 = .ok (.iadd, 1) := by decide +kernel
theorem dX4_putMoon_13 : decode cX4_putMoon 13 = .ok (.istore 6, 2) := by decide +kernel
theorem dX4_putMoon_15 : decode cX4_putMoon 15 = .ok (.aload_n 0, 1) := by decide +kernel
theorem dX4_putMoon_16 : decode cX4_putMoon 16 = .ok (.getfield 16, 3) := by decide +kernel
theorem dX4_putMoon_19 : decode cX4_putMoon 19 = .ok (.iload 6, 2) := by decide +kernel
theorem dX4_putMoon_21 : decode cX4_putMoon 21 = .ok (.iconst 0, 1) := by decide +kernel
theorem dX4_putMoon_22 : decode cX4_putMoon 22 = .ok (.iadd, 1) := by decide +kernel
theorem dX4_putMoon_23 : decode cX4_putMoon 23 = .ok (.iload_n 1, 1) := by decide +kernel
theorem dX4_putMoon_24 : decode cX4_putMoon 24 = .ok (.invokevirtual 20, 3) := by decide +kernel
theorem dX4_putMoon_27 : decode cX4_putMoon 27 = .ok (.aload_n 0, 1) := by decide +kernel
theorem dX4_putMoon_28 : decode cX4_putMoon 28 = .ok (.getfield 16, 3) := by decide +kernel
theorem dX4_putMoon_31 : decode cX4_putMoon 31 = .ok (.iload 6, 2) := by decide +kernel
theorem dX4_putMoon_33 : decode cX4_putMoon 33 = .ok (.iconst 1, 1) := by decide +kernel
theorem dX4_putMoon_34 : decode cX4_putMoon 34 = .ok (.iadd, 1) := by decide +kernel
theorem dX4_putMoon_35 : decode cX4_putMoon 35 = .ok (.iload_n 2, 1) := by decide +kernel
theorem dX4_putMoon_36 : decode cX4_putMoon 36 = .ok (.invokevirtual 20, 3) := by decide +kernel
theorem dX4_putMoon_39 : decode cX4_putMoon 39 = .ok (.aload_n 0, 1) := by decide +kernel
theorem dX4_putMoon_40 : decode cX4_putMoon 40 = .ok (.getfield 16, 3) := by decide +kernel
theorem dX4_putMoon_43 : decode cX4_putMoon 43 = .ok (.iload 6, 2) := by decide +kernel
theorem dX4_putMoon_45 : decode cX4_putMoon 45 = .ok (.iconst 2, 1) := by decide +kernel
theorem dX4_putMoon_46 : decode cX4_putMoon 46 = .ok (.iadd, 1) := by decide +kernel
theorem dX4_putMoon_47 : decode cX4_putMoon 47 = .ok (.iload_n 3, 1) := by decide +kernel
theorem dX4_putMoon_48 : decode cX4_putMoon 48 = .ok (.invokevirtual 20, 3) := by decide +kernel
theorem dX4_putMoon_51 : decode cX4_putMoon 51 = .ok (.aload_n 0, 1) := by decide +kernel
theorem dX4_putMoon_52 : decode cX4_putMoon 52 = .ok (.getfield 16, 3) := by decide +kernel
theorem dX4_putMoon_55 : decode cX4_putMoon 55 = .ok (.iload 6, 2) := by decide +kernel
theorem dX4_putMoon_57 : decode cX4_putMoon 57 = .ok (.iconst 3, 1) := by decide +kernel
theorem dX4_putMoon_58 : decode cX4_putMoon 58 = .ok (.iadd, 1) := by decide +kernel
theorem dX4_putMoon_59 : decode cX4_putMoon 59 = .ok (.iload 4, 2) := by decide +kernel
theorem dX4_putMoon_61 : decode cX4_putMoon 61 = .ok (.invokevirtual 20, 3) := by decide +kernel
theorem dX4_putMoon_64 : decode cX4_putMoon 64 = .ok (.aload_n 0, 1) := by decide +kernel
theorem dX4_putMoon_65 : decode cX4_putMoon 65 = .ok (.getfield 16, 3) := by decide +kernel
theorem dX4_putMoon_68 : decode cX4_putMoon 68 = .ok (.iload 6, 2) := by decide +kernel
theorem dX4_putMoon_70 : decode cX4_putMoon 70 = .ok (.iconst 4, 1) := by decide +kernel
theorem dX4_putMoon_71 : decode cX4_putMoon 71 = .ok (.iadd, 1) := by decide +kernel
theorem dX4_putMoon_72 : decode cX4_putMoon 72 = .ok (.aload_n 0, 1) := by decide +kernel
theorem dX4_putMoon_73 : decode cX4_putMoon 73 = .ok (.getfield 16, 3) := by decide +kernel
theorem dX4_putMoon_76 : decode cX4_putMoon 76 = .ok (.iconst 0, 1) := by decide +kernel
theorem dX4_putMoon_77 : decode cX4_putMoon 77 = .ok (.invokevirtual 106, 3) := by decide +kernel
theorem dX4_putMoon_80 : decode cX4_putMoon 80 = .ok (.invokevirtual 20, 3) := by decide +kernel
theorem dX4_putMoon_83 : decode cX4_putMoon 83 = .ok (.aload_n 0, 1) := by decide +kernel
theorem dX4_putMoon_84 : decode cX4_putMoon 84 = .ok (.getfield 16, 3) := by decide +kernel
theorem dX4_putMoon_87 : decode cX4_putMoon 87 = .ok (.bipush 6, 2) := by decide +kernel
theorem dX4_putMoon_89 : decode cX4_putMoon 89 = .ok (.iload 5, 2) := by decide +kernel
theorem dX4_putMoon_91 : decode cX4_putMoon 91 = .ok (.iconst 1, 1) := by decide +kernel
theorem dX4_putMoon_92 : decode cX4_putMoon 92 = .ok (.iadd, 1) := by decide +kernel
theorem dX4_putMoon_93 : decode cX4_putMoon 93 = .ok (.invokevirtual 20, 3) := by decide +kernel
theorem dX4_putMoon_96 : decode cX4_putMoon 96 = .ok (.iload 5, 2) := by decide +kernel
theorem dX4_putMoon_98 : decode cX4_putMoon 98 = .ok (.ireturn, 1) := by decide +kernel
set_option maxRecDepth 20000 in
theorem ggX4_dropMoon_X4_moons : GoodIn wsX4_dropMoon wsX4_moons := goodIn_ca (goodIn_r _ [6, 1, 7, 8, 9, 10, 11, 12, 23, 24] (by decide +kernel) (by decide +kernel)) (goodIn_sub (fun _ h => List.mem_cons_of_mem _ (List.mem_append_right _ h)) (by decide +kernel))
set_option maxRecDepth 20000 in
theorem gX4_dropMoon_X4_moons : GoodIn wsX4_dropMoon (wsV RX4 28 RX4 yX4_moons wsX4_moons) := goodIn_app (goodIn_of _ (by decide +kernel)) ggX4_dropMoon_X4_moons
set_option maxRecDepth 20000 in
theorem ggX4_dropMoon_X2_copy : GoodIn wsX4_dropMoon wsX2_copy := goodIn_ca (goodIn_r _ [16, 17, 8, 9, 10, 11, 12, 18, 19, 20, 21, 24] (by decide +kernel) (by decide +kernel)) (goodIn_sub (fun _ h => List.mem_cons_of_mem _ (List.mem_append_right _ h)) (by decide +kernel))
set_option maxRecDepth 20000 in
theorem gX4_dropMoon_X2_copy : GoodIn wsX4_dropMoon (wsV RX4 109 RX2 yX2_copy wsX2_copy) := goodIn_app (goodIn_of _ (by decide +kernel)) ggX4_dropMoon_X2_copy
set_option maxRecDepth 20000 in
theorem ggX4_dropMoon_X2_put : GoodIn wsX4_dropMoon wsX2_put := goodIn_ca (goodIn_r _ [21, 12, 24] (by decide +kernel) (by decide +kernel)) (goodIn_sub (fun _ h => List.mem_cons_of_mem _ (List.mem_append_right _ h)) (by decide +kernel))
set_option maxRecDepth 20000 in
theorem gX4_dropMoon_X2_put : GoodIn wsX4_dropMoon (wsV RX4 20 RX2 yX2_put wsX2_put) := goodIn_app (goodIn_of _ (by decide +kernel)) ggX4_dropMoon_X2_put
theorem dX4_dropMoon_0 : decode cX4_dropMoon 0 = .ok (.aload_n 0, 1) := by decide +kernel
theorem dX4_dropMoon_1 : decode cX4_dropMoon 1 = .ok (.invokevirtual 28, 3) := by decide +kernel
theorem dX4_dropMoon_4 : decode cX4_dropMoon 4 = .ok (.iconst 1, 1) := by decide +kernel
theorem dX4_dropMoon_5 : decode cX4_dropMoon 5 = .ok (.isub, 1) := by decide +kernel
theorem dX4_dropMoon_6 : decode cX4_dropMoon 6 = .ok (.istore_n 2, 1) := by decide +kernel
theorem dX4_dropMoon_7 : decode cX4_dropMoon 7 = .ok (.bipush 20, 2) := by decide +kernel
theorem dX4_dropMoon_9 : decode cX4_dropMoon 9 = .ok (.iload_n 1, 1) := by decide +kernel
theorem dX4_dropMoon_10 : decode cX4_dropMoon 10 = .ok (.iconst 5, 1) := by decide +kernel
theorem dX4_dropMoon_11 : decode cX4_dropMoon 11 = .ok (.imul, 1) := by decide +kernel
theorem dX4_dropMoon_12 : decode cX4_dropMoon 12 = .ok (.iadd, 1) := by decide +kernel
theorem dX4_dropMoon_13 : decode cX4_dropMoon 13 = .ok (.istore_n 3, 1) := by decide +kernel
theorem dX4_dropMoon_14 : decode cX4_dropMoon 14 = .ok (.aload_n 0, 1) := by decide +kernel
theorem dX4_dropMoon_15 : decode cX4_dropMoon 15 = .ok (.getfield 16, 3) := by decide +kernel
theorem dX4_dropMoon_18 : decode cX4_dropMoon 18 = .ok (.aload_n 0, 1) := by decide +kernel
theorem dX4_dropMoon_19 : decode cX4_dropMoon 19 = .ok (.getfield 16, 3) := by decide +kernel
theorem dX4_dropMoon_22 : decode cX4_dropMoon 22 = .ok (.iload_n 3, 1) := by decide +kernel
theorem dX4_dropMoon_23 : decode cX4_dropMoon 23 = .ok (.iconst 5, 1) := by decide +kernel
theorem dX4_dropMoon_24 : decode cX4_dropMoon 24 = .ok (.iadd, 1) := by decide +kernel
theorem dX4_dropMoon_25 : decode cX4_dropMoon 25 = .ok (.iload_n 3, 1) := by decide +kernel
theorem dX4_dropMoon_26 : decode cX4_dropMoon 26 = .ok (.iload_n 2, 1) := by decide +kernel
theorem dX4_dropMoon_27 : decode cX4_dropMoon 27 = .ok (.iload_n 1, 1) := by decide +kernel
theorem dX4_dropMoon_28 : decode cX4_dropMoon 28 = .ok (.isub, 1) := by decide +kernel
theorem dX4_dropMoon_29 : decode cX4_dropMoon 29 = .ok (.iconst 5, 1) := by decide +kernel
theorem dX4_dropMoon_30 : decode cX4_dropMoon 30 = .ok (.imul, 1) := by decide +kernel
theorem dX4_dropMoon_31 : decode cX4_dropMoon 31 = .ok (.invokevirtual 109, 3) := by decide +kernel
theorem dX4_dropMoon_34 : decode cX4_dropMoon 34 = .ok (.aload_n 0, 1) := by decide +kernel
theorem dX4_dropMoon_35 : decode cX4_dropMoon 35 = .ok (.getfield 16, 3) := by decide +kernel
theorem dX4_dropMoon_38 : decode cX4_dropMoon 38 = .ok (.bipush 6, 2) := by decide +kernel
theorem dX4_dropMoon_40 : decode cX4_dropMoon 40 = .ok (.iload_n 2, 1) := by decide +kernel
theorem dX4_dropMoon_41 : decode cX4_dropMoon 41 = .ok (.invokevirtual 20, 3) := by decide +kernel
theorem dX4_dropMoon_44 : decode cX4_dropMoon 44 = .ok (.iload_n 2, 1) := by decide +kernel
theorem dX4_dropMoon_45 : decode cX4_dropMoon 45 = .ok (.ireturn, 1) := by decide +kernel
set_option maxRecDepth 20000 in
theorem ggX4_kindOf_X2_at : GoodIn wsX4_kindOf wsX2_at := goodIn_ca (goodIn_r _ [6, 7, 9] (by decide +kernel) (by decide +kernel)) (goodIn_sub (fun _ h => List.mem_cons_of_mem _ (List.mem_append_right _ h)) (by decide +kernel))
set_option maxRecDepth 20000 in
theorem gX4_kindOf_X2_at : GoodIn wsX4_kindOf (wsV RX4 106 RX2 yX2_at wsX2_at) := goodIn_app (goodIn_of _ (by decide +kernel)) ggX4_kindOf_X2_at
theorem dX4_kindOf_0 : decode cX4_kindOf 0 = .ok (.aload_n 0, 1) := by decide +kernel
theorem dX4_kindOf_1 : decode cX4_kindOf 1 = .ok (.getfield 16, 3) := by decide +kernel
theorem dX4_kindOf_4 : decode cX4_kindOf 4 = .ok (.bipush 20, 2) := by decide +kernel
theorem dX4_kindOf_6 : decode cX4_kindOf 6 = .ok (.iload_n 1, 1) := by decide +kernel
theorem dX4_kindOf_7 : decode cX4_kindOf 7 = .ok (.iconst 5, 1) := by decide +kernel
theorem dX4_kindOf_8 : decode cX4_kindOf 8 = .ok (.imul, 1) := by decide +kernel
theorem dX4_kindOf_9 : decode cX4_kindOf 9 = .ok (.iadd, 1) := by decide +kernel
theorem dX4_kindOf_10 : decode cX4_kindOf 10 = .ok (.iconst 0, 1) := by decide +kernel
theorem dX4_kindOf_11 : decode cX4_kindOf 11 = .ok (.iadd, 1) := by decide +kernel
theorem dX4_kindOf_12 : decode cX4_kindOf 12 = .ok (.invokevirtual 106, 3) := by decide +kernel
theorem dX4_kindOf_15 : decode cX4_kindOf 15 = .ok (.ireturn, 1) := by decide +kernel
set_option maxRecDepth 20000 in
theorem ggX4_periodOf_X2_at : GoodIn wsX4_periodOf wsX2_at := goodIn_ca (goodIn_r _ [6, 7, 9] (by decide +kernel) (by decide +kernel)) (goodIn_sub (fun _ h => List.mem_cons_of_mem _ (List.mem_append_right _ h)) (by decide +kernel))
set_option maxRecDepth 20000 in
theorem gX4_periodOf_X2_at : GoodIn wsX4_periodOf (wsV RX4 106 RX2 yX2_at wsX2_at) := goodIn_app (goodIn_of _ (by decide +kernel)) ggX4_periodOf_X2_at
theorem dX4_periodOf_0 : decode cX4_periodOf 0 = .ok (.aload_n 0, 1) := by decide +kernel
theorem dX4_periodOf_1 : decode cX4_periodOf 1 = .ok (.getfield 16, 3) := by decide +kernel
theorem dX4_periodOf_4 : decode cX4_periodOf 4 = .ok (.bipush 20, 2) := by decide +kernel
theorem dX4_periodOf_6 : decode cX4_periodOf 6 = .ok (.iload_n 1, 1) := by decide +kernel
theorem dX4_periodOf_7 : decode cX4_periodOf 7 = .ok (.iconst 5, 1) := by decide +kernel
theorem dX4_periodOf_8 : decode cX4_periodOf 8 = .ok (.imul, 1) := by decide +kernel
theorem dX4_periodOf_9 : decode cX4_periodOf 9 = .ok (.iadd, 1) := by decide +kernel
theorem dX4_periodOf_10 : decode cX4_periodOf 10 = .ok (.iconst 3, 1) := by decide +kernel
theorem dX4_periodOf_11 : decode cX4_periodOf 11 = .ok (.iadd, 1) := by decide +kernel
theorem dX4_periodOf_12 : decode cX4_periodOf 12 = .ok (.invokevirtual 106, 3) := by decide +kernel
theorem dX4_periodOf_15 : decode cX4_periodOf 15 = .ok (.ireturn, 1) := by decide +kernel
set_option maxRecDepth 20000 in
theorem ggX4_firstMassOf_X2_at : GoodIn wsX4_firstMassOf wsX2_at := goodIn_ca (goodIn_r _ [6, 7, 9] (by decide +kernel) (by decide +kernel)) (goodIn_sub (fun _ h => List.mem_cons_of_mem _ (List.mem_append_right _ h)) (by decide +kernel))
set_option maxRecDepth 20000 in
theorem gX4_firstMassOf_X2_at : GoodIn wsX4_firstMassOf (wsV RX4 106 RX2 yX2_at wsX2_at) := goodIn_app (goodIn_of _ (by decide +kernel)) ggX4_firstMassOf_X2_at
theorem dX4_firstMassOf_0 : decode cX4_firstMassOf 0 = .ok (.aload_n 0, 1) := by decide +kernel
theorem dX4_firstMassOf_1 : decode cX4_firstMassOf 1 = .ok (.getfield 16, 3) := by decide +kernel
theorem dX4_firstMassOf_4 : decode cX4_firstMassOf 4 = .ok (.bipush 20, 2) := by decide +kernel
theorem dX4_firstMassOf_6 : decode cX4_firstMassOf 6 = .ok (.iload_n 1, 1) := by decide +kernel
theorem dX4_firstMassOf_7 : decode cX4_firstMassOf 7 = .ok (.iconst 5, 1) := by decide +kernel
theorem dX4_firstMassOf_8 : decode cX4_firstMassOf 8 = .ok (.imul, 1) := by decide +kernel
theorem dX4_firstMassOf_9 : decode cX4_firstMassOf 9 = .ok (.iadd, 1) := by decide +kernel
theorem dX4_firstMassOf_10 : decode cX4_firstMassOf 10 = .ok (.iconst 1, 1) := by decide +kernel
theorem dX4_firstMassOf_11 : decode cX4_firstMassOf 11 = .ok (.iadd, 1) := by decide +kernel
theorem dX4_firstMassOf_12 : decode cX4_firstMassOf 12 = .ok (.invokevirtual 106, 3) := by decide +kernel
theorem dX4_firstMassOf_15 : decode cX4_firstMassOf 15 = .ok (.ireturn, 1) := by decide +kernel
set_option maxRecDepth 20000 in
theorem ggX4_ageNow_X2_at : GoodIn wsX4_ageNow wsX2_at := goodIn_ca (goodIn_r _ [6, 7, 9] (by decide +kernel) (by decide +kernel)) (goodIn_sub (fun _ h => List.mem_cons_of_mem _ (List.mem_append_right _ h)) (by decide +kernel))
set_option maxRecDepth 20000 in
theorem gX4_ageNow_X2_at : GoodIn wsX4_ageNow (wsV RX4 106 RX2 yX2_at wsX2_at) := goodIn_app (goodIn_of _ (by decide +kernel)) ggX4_ageNow_X2_at
theorem dX4_ageNow_0 : decode cX4_ageNow 0 = .ok (.aload_n 0, 1) := by decide +kernel
theorem dX4_ageNow_1 : decode cX4_ageNow 1 = .ok (.getfield 16, 3) := by decide +kernel
theorem dX4_ageNow_4 : decode cX4_ageNow 4 = .ok (.iconst 0, 1) := by decide +kernel
theorem dX4_ageNow_5 : decode cX4_ageNow 5 = .ok (.invokevirtual 106, 3) := by decide +kernel
theorem dX4_ageNow_8 : decode cX4_ageNow 8 = .ok (.aload_n 0, 1) := by decide +kernel
theorem dX4_ageNow_9 : decode cX4_ageNow 9 = .ok (.getfield 16, 3) := by decide +kernel
theorem dX4_ageNow_12 : decode cX4_ageNow 12 = .ok (.bipush 20, 2) := by decide +kernel
theorem dX4_ageNow_14 : decode cX4_ageNow 14 = .ok (.iload_n 1, 1) := by decide +kernel
theorem dX4_ageNow_15 : decode cX4_ageNow 15 = .ok (.iconst 5, 1) := by decide +kernel
theorem dX4_ageNow_16 : decode cX4_ageNow 16 = .ok (.imul, 1) := by decide +kernel
theorem dX4_ageNow_17 : decode cX4_ageNow 17 = .ok (.iadd, 1) := by decide +kernel
theorem dX4_ageNow_18 : decode cX4_ageNow 18 = .ok (.iconst 4, 1) := by decide +kernel
theorem dX4_ageNow_19 : decode cX4_ageNow 19 = .ok (.iadd, 1) := by decide +kernel
theorem dX4_ageNow_20 : decode cX4_ageNow 20 = .ok (.invokevirtual 106, 3) := by decide +kernel
theorem dX4_ageNow_23 : decode cX4_ageNow 23 = .ok (.isub, 1) := by decide +kernel
theorem dX4_ageNow_24 : decode cX4_ageNow 24 = .ok (.ireturn, 1) := by decide +kernel
set_option maxRecDepth 20000 in
theorem ggX4_placeAfter_X4_ageNow : GoodIn wsX4_placeAfter wsX4_ageNow := goodIn_ca (goodIn_r _ [6, 1, 7, 8, 9, 10, 11, 12, 17, 18] (by decide +kernel) (by decide +kernel)) (goodIn_sub (fun _ h => List.mem_cons_of_mem _ (List.mem_append_right _ h)) (by decide +kernel))
set_option maxRecDepth 20000 in
theorem gX4_placeAfter_X4_ageNow : GoodIn wsX4_placeAfter (wsV RX4 113 RX4 yX4_ageNow wsX4_ageNow) := goodIn_app (goodIn_of _ (by decide +kernel)) ggX4_placeAfter_X4_ageNow
set_option maxRecDepth 20000 in
theorem ggX4_placeAfter_X4_periodOf : GoodIn wsX4_placeAfter wsX4_periodOf := goodIn_ca (goodIn_r _ [16, 1, 7, 8, 9, 10, 11, 12, 17, 18] (by decide +kernel) (by decide +kernel)) (goodIn_sub (fun _ h => List.mem_cons_of_mem _ (List.mem_append_right _ h)) (by decide +kernel))
set_option maxRecDepth 20000 in
theorem gX4_placeAfter_X4_periodOf : GoodIn wsX4_placeAfter (wsV RX4 116 RX4 yX4_periodOf wsX4_periodOf) := goodIn_app (goodIn_of _ (by decide +kernel)) ggX4_placeAfter_X4_periodOf
set_option maxRecDepth 20000 in
theorem ggX4_placeAfter_X2_at : GoodIn wsX4_placeAfter wsX2_at := goodIn_ca (goodIn_r _ [11, 12, 18] (by decide +kernel) (by decide +kernel)) (goodIn_sub (fun _ h => List.mem_cons_of_mem _ (List.mem_append_right _ h)) (by decide +kernel))
set_option maxRecDepth 20000 in
theorem gX4_placeAfter_X2_at : GoodIn wsX4_placeAfter (wsV RX4 106 RX2 yX2_at wsX2_at) := goodIn_app (goodIn_of _ (by decide +kernel)) ggX4_placeAfter_X2_at
theorem dX4_placeAfter_0 : decode cX4_placeAfter 0 = .ok (.aload_n 0, 1) := by decide +kernel
theorem dX4_placeAfter_1 : decode cX4_placeAfter 1 = .ok (.iload_n 1, 1) := by decide +kernel
theorem dX4_placeAfter_2 : decode cX4_placeAfter 2 = .ok (.invokevirtual 113, 3) := by decide +kernel
theorem dX4_placeAfter_5 : decode cX4_placeAfter 5 = .ok (.iload_n 2, 1) := by decide +kernel
theorem dX4_placeAfter_6 : decode cX4_placeAfter 6 = .ok (.iadd, 1) := by decide +kernel
theorem dX4_placeAfter_7 : decode cX4_placeAfter 7 = .ok (.istore_n 3, 1) := by decide +kernel
theorem dX4_placeAfter_8 : decode cX4_placeAfter 8 = .ok (.aload_n 0, 1) := by decide +kernel
theorem dX4_placeAfter_9 : decode cX4_placeAfter 9 = .ok (.iload_n 1, 1) := by decide +kernel
theorem dX4_placeAfter_10 : decode cX4_placeAfter 10 = .ok (.invokevirtual 116, 3) := by decide +kernel
theorem dX4_placeAfter_13 : decode cX4_placeAfter 13 = .ok (.istore 4, 2) := by decide +kernel
theorem dX4_placeAfter_15 : decode cX4_placeAfter 15 = .ok (.iload 4, 2) := by decide +kernel
theorem dX4_placeAfter_17 : decode cX4_placeAfter 17 = .ok (.iconst 1, 1) := by decide +kernel
theorem dX4_placeAfter_18 : decode cX4_placeAfter 18 = .ok (.if_icmp .ge 7, 3) := by decide +kernel
theorem dX4_placeAfter_21 : decode cX4_placeAfter 21 = .ok (.iconst 0, 1) := by decide +kernel
theorem dX4_placeAfter_22 : decode cX4_placeAfter 22 = .ok (.goto 7, 3) := by decide +kernel
theorem dX4_placeAfter_25 : decode cX4_placeAfter 25 = .ok (.iload_n 3, 1) := by decide +kernel
theorem dX4_placeAfter_26 : decode cX4_placeAfter 26 = .ok (.iload 4, 2) := by decide +kernel
theorem dX4_placeAfter_28 : decode cX4_placeAfter 28 = .ok (.idiv, 1) := by decide +kernel
theorem dX4_placeAfter_29 : decode cX4_placeAfter 29 = .ok (.istore 5, 2) := by decide +kernel
theorem dX4_placeAfter_31 : decode cX4_placeAfter 31 = .ok (.aload_n 0, 1) := by decide +kernel
theorem dX4_placeAfter_32 : decode cX4_placeAfter 32 = .ok (.getfield 16, 3) := by decide +kernel
theorem dX4_placeAfter_35 : decode cX4_placeAfter 35 = .ok (.bipush 20, 2) := by decide +kernel
theorem dX4_placeAfter_37 : decode cX4_placeAfter 37 = .ok (.iload_n 1, 1) := by decide +kernel
theorem dX4_placeAfter_38 : decode cX4_placeAfter 38 = .ok (.iconst 5, 1) := by decide +kernel
theorem dX4_placeAfter_39 : decode cX4_placeAfter 39 = .ok (.imul, 1) := by decide +kernel
theorem dX4_placeAfter_40 : decode cX4_placeAfter 40 = .ok (.iadd, 1) := by decide +kernel
theorem dX4_placeAfter_41 : decode cX4_placeAfter 41 = .ok (.iconst 2, 1) := by decide +kernel
theorem dX4_placeAfter_42 : decode cX4_placeAfter 42 = .ok (.iadd, 1) := by decide +kernel
theorem dX4_placeAfter_43 : decode cX4_placeAfter 43 = .ok (.invokevirtual 106, 3) := by decide +kernel
theorem dX4_placeAfter_46 : decode cX4_placeAfter 46 = .ok (.iload 5, 2) := by decide +kernel
theorem dX4_placeAfter_48 : decode cX4_placeAfter 48 = .ok (.iadd, 1) := by decide +kernel
theorem dX4_placeAfter_49 : decode cX4_placeAfter 49 = .ok (.bipush 12, 2) := by decide +kernel
theorem dX4_placeAfter_51 : decode cX4_placeAfter 51 = .ok (.irem, 1) := by decide +kernel
theorem dX4_placeAfter_52 : decode cX4_placeAfter 52 = .ok (.ireturn, 1) := by decide +kernel
set_option maxRecDepth 20000 in
theorem ggX4_massAfter_X4_ageNow : GoodIn wsX4_massAfter wsX4_ageNow := goodIn_ca (goodIn_r _ [9, 10, 11, 12, 13, 14, 15, 16, 25, 26] (by decide +kernel) (by decide +kernel)) (goodIn_sub (fun _ h => List.mem_cons_of_mem _ (List.mem_append_right _ h)) (by decide +kernel))
set_option maxRecDepth 20000 in
theorem gX4_massAfter_X4_ageNow : GoodIn wsX4_massAfter (wsV RX4 113 RX4 yX4_ageNow wsX4_ageNow) := goodIn_app (goodIn_of _ (by decide +kernel)) ggX4_massAfter_X4_ageNow
set_option maxRecDepth 20000 in
theorem ggX4_massAfter_X4_firstMassOf : GoodIn wsX4_massAfter wsX4_firstMassOf := goodIn_ca (goodIn_r _ [20, 10, 11, 12, 13, 14, 15, 16, 25, 26] (by decide +kernel) (by decide +kernel)) (goodIn_sub (fun _ h => List.mem_cons_of_mem _ (List.mem_append_right _ h)) (by decide +kernel))
set_option maxRecDepth 20000 in
theorem gX4_massAfter_X4_firstMassOf : GoodIn wsX4_massAfter (wsV RX4 119 RX4 yX4_firstMassOf wsX4_firstMassOf) := goodIn_app (goodIn_of _ (by decide +kernel)) ggX4_massAfter_X4_firstMassOf
set_option maxRecDepth 20000 in
theorem ggX4_massAfter_X4_kindOf : GoodIn wsX4_massAfter wsX4_kindOf := goodIn_ca (goodIn_r _ [24, 10, 11, 12, 13, 14, 15, 16, 25, 26] (by decide +kernel) (by decide +kernel)) (goodIn_sub (fun _ h => List.mem_cons_of_mem _ (List.mem_append_right _ h)) (by decide +kernel))
set_option maxRecDepth 20000 in
theorem gX4_massAfter_X4_kindOf : GoodIn wsX4_massAfter (wsV RX4 122 RX4 yX4_kindOf wsX4_kindOf) := goodIn_app (goodIn_of _ (by decide +kernel)) ggX4_massAfter_X4_kindOf
theorem dX4_massAfter_0 : decode cX4_massAfter 0 = .ok (.aload_n 0, 1) := by decide +kernel
theorem dX4_massAfter_1 : decode cX4_massAfter 1 = .ok (.iload_n 1, 1) := by decide +kernel
theorem dX4_massAfter_2 : decode cX4_massAfter 2 = .ok (.invokevirtual 113, 3) := by decide +kernel
theorem dX4_massAfter_5 : decode cX4_massAfter 5 = .ok (.iload_n 2, 1) := by decide +kernel
theorem dX4_massAfter_6 : decode cX4_massAfter 6 = .ok (.iadd, 1) := by decide +kernel
theorem dX4_massAfter_7 : decode cX4_massAfter 7 = .ok (.istore_n 3, 1) := by decide +kernel
theorem dX4_massAfter_8 : decode cX4_massAfter 8 = .ok (.aload_n 0, 1) := by decide +kernel
theorem dX4_massAfter_9 : decode cX4_massAfter 9 = .ok (.iload_n 1, 1) := by decide +kernel
theorem dX4_massAfter_10 : decode cX4_massAfter 10 = .ok (.invokevirtual 119, 3) := by decide +kernel
theorem dX4_massAfter_13 : decode cX4_massAfter 13 = .ok (.istore 4, 2) := by decide +kernel
theorem dX4_massAfter_15 : decode cX4_massAfter 15 = .ok (.aload_n 0, 1) := by decide +kernel
theorem dX4_massAfter_16 : decode cX4_massAfter 16 = .ok (.iload_n 1, 1) := by decide +kernel
theorem dX4_massAfter_17 : decode cX4_massAfter 17 = .ok (.invokevirtual 122, 3) := by decide +kernel
theorem dX4_massAfter_20 : decode cX4_massAfter 20 = .ok (.istore 5, 2) := by decide +kernel
theorem dX4_massAfter_22 : decode cX4_massAfter 22 = .ok (.iload 5, 2) := by decide +kernel
theorem dX4_massAfter_24 : decode cX4_massAfter 24 = .ok (.iconst 1, 1) := by decide +kernel
theorem dX4_massAfter_25 : decode cX4_massAfter 25 = .ok (.if_icmp .ne 15, 3) := by decide +kernel
theorem dX4_massAfter_28 : decode cX4_massAfter 28 = .ok (.iconst 0, 1) := by decide +kernel
theorem dX4_massAfter_29 : decode cX4_massAfter 29 = .ok (.iload 4, 2) := by decide +kernel
theorem dX4_massAfter_31 : decode cX4_massAfter 31 = .ok (.iload_n 3, 1) := by decide +kernel
theorem dX4_massAfter_32 : decode cX4_massAfter 32 = .ok (.bipush 10, 2) := by decide +kernel
theorem dX4_massAfter_34 : decode cX4_massAfter 34 = .ok (.idiv, 1) := by decide +kernel
theorem dX4_massAfter_35 : decode cX4_massAfter 35 = .ok (.isub, 1) := by decide +kernel
theorem dX4_massAfter_36 : decode cX4_massAfter 36 = .ok (.invokestatic 125, 3) := by decide +kernel
theorem dX4_massAfter_39 : decode cX4_massAfter 39 = .ok (.ireturn, 1) := by decide +kernel
theorem dX4_massAfter_40 : decode cX4_massAfter 40 = .ok (.iload 5, 2) := by decide +kernel
theorem dX4_massAfter_42 : decode cX4_massAfter 42 = .ok (.iconst 2, 1) := by decide +kernel
theorem dX4_massAfter_43 : decode cX4_massAfter 43 = .ok (.if_icmp .ne 14, 3) := by decide +kernel
theorem dX4_massAfter_46 : decode cX4_massAfter 46 = .ok (.iload_n 3, 1) := by decide +kernel
theorem dX4_massAfter_47 : decode cX4_massAfter 47 = .ok (.iconst 2, 1) := by decide +kernel
theorem dX4_massAfter_48 : decode cX4_massAfter 48 = .ok (.irem, 1) := by decide +kernel
theorem dX4_massAfter_49 : decode cX4_massAfter 49 = .ok (.ifCond .eq 8, 3) := by decide +kernel
theorem dX4_massAfter_52 : decode cX4_massAfter 52 = .ok (.iload 4, 2) := by decide +kernel
theorem dX4_massAfter_54 : decode cX4_massAfter 54 = .ok (.iconst 2, 1) := by decide +kernel
theorem dX4_massAfter_55 : decode cX4_massAfter 55 = .ok (.idiv, 1) := by decide +kernel
theorem dX4_massAfter_56 : decode cX4_massAfter 56 = .ok (.ireturn, 1) := by decide +kernel
theorem dX4_massAfter_57 : decode cX4_massAfter 57 = .ok (.iload 4, 2) := by decide +kernel
theorem dX4_massAfter_59 : decode cX4_massAfter 59 = .ok (.ireturn, 1) := by decide +kernel
set_option maxRecDepth 20000 in
theorem ggX4_isToeAt_X4_isPosition : GoodIn wsX4_isToeAt wsX4_isPosition := goodIn_r _ [5] (by decide +kernel) (by decide +kernel)
set_option maxRecDepth 20000 in
theorem gX4_isToeAt_X4_isPosition : GoodIn wsX4_isToeAt (va_wsS RX4 24 yX4_isPosition wsX4_isPosition) := goodIn_app (goodIn_of _ (by decide +kernel)) ggX4_isToeAt_X4_isPosition
set_option maxRecDepth 20000 in
theorem ggX4_isToeAt_X2_at : GoodIn wsX4_isToeAt wsX2_at := goodIn_ca (goodIn_r _ [10, 11, 13] (by decide +kernel) (by decide +kernel)) (goodIn_sub (fun _ h => List.mem_cons_of_mem _ (List.mem_append_right _ h)) (by decide +kernel))
set_option maxRecDepth 20000 in
theorem gX4_isToeAt_X2_at : GoodIn wsX4_isToeAt (wsV RX4 106 RX2 yX2_at wsX2_at) := goodIn_app (goodIn_of _ (by decide +kernel)) ggX4_isToeAt_X2_at
theorem dX4_isToeAt_0 : decode cX4_isToeAt 0 = .ok (.iload_n 1, 1) := by decide +kernel
theorem dX4_isToeAt_1 : decode cX4_isToeAt 1 = .ok (.invokestatic 24, 3) := by decide +kernel
theorem dX4_isToeAt_4 : decode cX4_isToeAt 4 = .ok (.ifCond .eq 22, 3) := by decide +kernel
theorem dX4_isToeAt_7 : decode cX4_isToeAt 7 = .ok (.aload_n 0, 1) := by decide +kernel
theorem dX4_isToeAt_8 : decode cX4_isToeAt 8 = .ok (.getfield 16, 3) := by decide +kernel
theorem dX4_isToeAt_11 : decode cX4_isToeAt 11 = .ok (.bipush 8, 2) := by decide +kernel
theorem dX4_isToeAt_13 : decode cX4_isToeAt 13 = .ok (.iload_n 1, 1) := by decide +kernel
theorem dX4_isToeAt_14 : decode cX4_isToeAt 14 = .ok (.iadd, 1) := by decide +kernel
theorem dX4_isToeAt_15 : decode cX4_isToeAt 15 = .ok (.invokevirtual 106, 3) := by decide +kernel
theorem dX4_isToeAt_18 : decode cX4_isToeAt 18 = .ok (.iconst 1, 1) := by decide +kernel
theorem dX4_isToeAt_19 : decode cX4_isToeAt 19 = .ok (.if_icmp .ne 7, 3) := by decide +kernel
theorem dX4_isToeAt_22 : decode cX4_isToeAt 22 = .ok (.iconst 1, 1) := by decide +kernel
theorem dX4_isToeAt_23 : decode cX4_isToeAt 23 = .ok (.goto 4, 3) := by decide +kernel
theorem dX4_isToeAt_26 : decode cX4_isToeAt 26 = .ok (.iconst 0, 1) := by decide +kernel
theorem dX4_isToeAt_27 : decode cX4_isToeAt 27 = .ok (.ireturn, 1) := by decide +kernel
set_option maxRecDepth 20000 in
theorem ggX4_toes_X2_at : GoodIn wsX4_toes wsX2_at := goodIn_ca (goodIn_r _ [6, 7, 9] (by decide +kernel) (by decide +kernel)) (goodIn_sub (fun _ h => List.mem_cons_of_mem _ (List.mem_append_right _ h)) (by decide +kernel))
set_option maxRecDepth 20000 in
theorem gX4_toes_X2_at : GoodIn wsX4_toes (wsV RX4 106 RX2 yX2_at wsX2_at) := goodIn_app (goodIn_of _ (by decide +kernel)) ggX4_toes_X2_at
theorem dX4_toes_0 : decode cX4_toes 0 = .ok (.iconst 0, 1) := by decide +kernel
theorem dX4_toes_1 : decode cX4_toes 1 = .ok (.istore_n 1, 1) := by decide +kernel
theorem dX4_toes_2 : decode cX4_toes 2 = .ok (.iconst 0, 1) := by decide +kernel
theorem dX4_toes_3 : decode cX4_toes 3 = .ok (.istore_n 2, 1) := by decide +kernel
theorem dX4_toes_4 : decode cX4_toes 4 = .ok (.iload_n 2, 1) := by decide +kernel
theorem dX4_toes_5 : decode cX4_toes 5 = .ok (.bipush 12, 2) := by decide +kernel
theorem dX4_toes_7 : decode cX4_toes 7 = .ok (.if_icmp .ge 23, 3) := by decide +kernel
theorem dX4_toes_10 : decode cX4_toes 10 = .ok (.iload_n 1, 1) := by decide +kernel
theorem dX4_toes_11 : decode cX4_toes 11 = .ok (.aload_n 0, 1) := by decide +kernel
theorem dX4_toes_12 : decode cX4_toes 12 = .ok (.getfield 16, 3) := by decide +kernel
theorem dX4_toes_15 : decode cX4_toes 15 = .ok (.bipush 8, 2) := by decide +kernel
theorem dX4_toes_17 : decode cX4_toes 17 = .ok (.iload_n 2, 1) := by decide +kernel
theorem dX4_toes_18 : decode cX4_toes 18 = .ok (.iadd, 1) := by decide +kernel
theorem dX4_toes_19 : decode cX4_toes 19 = .ok (.invokevirtual 106, 3) := by decide +kernel
theorem dX4_toes_22 : decode cX4_toes 22 = .ok (.iadd, 1) := by decide +kernel
theorem dX4_toes_23 : decode cX4_toes 23 = .ok (.istore_n 1, 1) := by decide +kernel
theorem dX4_toes_24 : decode cX4_toes 24 = .ok (.iinc 2 1, 3) := by decide +kernel
theorem dX4_toes_27 : decode cX4_toes 27 = .ok (.goto (-23), 3) := by decide +kernel
theorem dX4_toes_30 : decode cX4_toes 30 = .ok (.iload_n 1, 1) := by decide +kernel
theorem dX4_toes_31 : decode cX4_toes 31 = .ok (.ireturn, 1) := by decide +kernel
set_option maxRecDepth 20000 in
theorem ggX4_putToe_X2_put : GoodIn wsX4_putToe wsX2_put := goodIn_ca (goodIn_r _ [6, 7, 18] (by decide +kernel) (by decide +kernel)) (goodIn_sub (fun _ h => List.mem_cons_of_mem _ (List.mem_append_right _ h)) (by decide +kernel))
set_option maxRecDepth 20000 in
theorem gX4_putToe_X2_put : GoodIn wsX4_putToe (wsV RX4 20 RX2 yX2_put wsX2_put) := goodIn_app (goodIn_of _ (by decide +kernel)) ggX4_putToe_X2_put
set_option maxRecDepth 20000 in
theorem ggX4_putToe_X4_toes : GoodIn wsX4_putToe wsX4_toes := goodIn_ca (goodIn_r _ [12, 1, 13, 14, 15, 5, 16, 7, 17, 18] (by decide +kernel) (by decide +kernel)) (goodIn_sub (fun _ h => List.mem_cons_of_mem _ (List.mem_append_right _ h)) (by decide +kernel))
set_option maxRecDepth 20000 in
theorem gX4_putToe_X4_toes : GoodIn wsX4_putToe (wsV RX4 38 RX4 yX4_toes wsX4_toes) := goodIn_app (goodIn_of _ (by decide +kernel)) ggX4_putToe_X4_toes
theorem dX4_putToe_0 : decode cX4_putToe 0 = .ok (.aload_n 0, 1) := by decide +kernel
theorem dX4_putToe_1 : decode cX4_putToe 1 = .ok (.getfield 16, 3) := by decide +kernel
theorem dX4_putToe_4 : decode cX4_putToe 4 = .ok (.bipush 8, 2) := by decide +kernel
theorem dX4_putToe_6 : decode cX4_putToe 6 = .ok (.iload_n 1, 1) := by decide +kernel
theorem dX4_putToe_7 : decode cX4_putToe 7 = .ok (.iadd, 1) := by decide +kernel
theorem dX4_putToe_8 : decode cX4_putToe 8 = .ok (.iconst 1, 1) := by decide +kernel
theorem dX4_putToe_9 : decode cX4_putToe 9 = .ok (.invokevirtual 20, 3) := by decide +kernel
theorem dX4_putToe_12 : decode cX4_putToe 12 = .ok (.aload_n 0, 1) := by decide +kernel
theorem dX4_putToe_13 : decode cX4_putToe 13 = .ok (.invokevirtual 38, 3) := by decide +kernel
theorem dX4_putToe_16 : decode cX4_putToe 16 = .ok (.ireturn, 1) := by decide +kernel
set_option maxRecDepth 20000 in
theorem ggX4_dropToe_X2_put : GoodIn wsX4_dropToe wsX2_put := goodIn_ca (goodIn_r _ [6, 7, 18] (by decide +kernel) (by decide +kernel)) (goodIn_sub (fun _ h => List.mem_cons_of_mem _ (List.mem_append_right _ h)) (by decide +kernel))
set_option maxRecDepth 20000 in
theorem gX4_dropToe_X2_put : GoodIn wsX4_dropToe (wsV RX4 20 RX2 yX2_put wsX2_put) := goodIn_app (goodIn_of _ (by decide +kernel)) ggX4_dropToe_X2_put
set_option maxRecDepth 20000 in
theorem ggX4_dropToe_X4_toes : GoodIn wsX4_dropToe wsX4_toes := goodIn_ca (goodIn_r _ [12, 1, 13, 14, 15, 5, 16, 7, 17, 18] (by decide +kernel) (by decide +kernel)) (goodIn_sub (fun _ h => List.mem_cons_of_mem _ (List.mem_append_right _ h)) (by decide +kernel))
set_option maxRecDepth 20000 in
theorem gX4_dropToe_X4_toes : GoodIn wsX4_dropToe (wsV RX4 38 RX4 yX4_toes wsX4_toes) := goodIn_app (goodIn_of _ (by decide +kernel)) ggX4_dropToe_X4_toes
theorem dX4_dropToe_0 : decode cX4_dropToe 0 = .ok (.aload_n 0, 1) := by decide +kernel
theorem dX4_dropToe_1 : decode cX4_dropToe 1 = .ok (.getfield 16, 3) := by decide +kernel
theorem dX4_dropToe_4 : decode cX4_dropToe 4 = .ok (.bipush 8, 2) := by decide +kernel
theorem dX4_dropToe_6 : decode cX4_dropToe 6 = .ok (.iload_n 1, 1) := by decide +kernel
theorem dX4_dropToe_7 : decode cX4_dropToe 7 = .ok (.iadd, 1) := by decide +kernel
theorem dX4_dropToe_8 : decode cX4_dropToe 8 = .ok (.iconst 0, 1) := by decide +kernel
theorem dX4_dropToe_9 : decode cX4_dropToe 9 = .ok (.invokevirtual 20, 3) := by decide +kernel
theorem dX4_dropToe_12 : decode cX4_dropToe 12 = .ok (.aload_n 0, 1) := by decide +kernel
theorem dX4_dropToe_13 : decode cX4_dropToe 13 = .ok (.invokevirtual 38, 3) := by decide +kernel
theorem dX4_dropToe_16 : decode cX4_dropToe 16 = .ok (.ireturn, 1) := by decide +kernel
set_option maxRecDepth 20000 in
theorem ggX4_plug_X2_at : GoodIn wsX4_plug wsX2_at := goodIn_ca (goodIn_r _ [6, 7, 9] (by decide +kernel) (by decide +kernel)) (goodIn_sub (fun _ h => List.mem_cons_of_mem _ (List.mem_append_right _ h)) (by decide +kernel))
set_option maxRecDepth 20000 in
theorem gX4_plug_X2_at : GoodIn wsX4_plug (wsV RX4 106 RX2 yX2_at wsX2_at) := goodIn_app (goodIn_of _ (by decide +kernel)) ggX4_plug_X2_at
theorem dX4_plug_0 : decode cX4_plug 0 = .ok (.aload_n 0, 1) := by decide +kernel
theorem dX4_plug_1 : decode cX4_plug 1 = .ok (.getfield 16, 3) := by decide +kernel
theorem dX4_plug_4 : decode cX4_plug 4 = .ok (.iconst 5, 1) := by decide +kernel
theorem dX4_plug_5 : decode cX4_plug 5 = .ok (.invokevirtual 106, 3) := by decide +kernel
theorem dX4_plug_8 : decode cX4_plug 8 = .ok (.ireturn, 1) := by decide +kernel
set_option maxRecDepth 20000 in
theorem ggX4_isPlugged_X4_plug : GoodIn wsX4_isPlugged wsX4_plug := goodIn_ca (goodIn_r _ [5, 6, 7, 8, 9, 10, 11, 12, 13, 14] (by decide +kernel) (by decide +kernel)) (goodIn_sub (fun _ h => List.mem_cons_of_mem _ (List.mem_append_right _ h)) (by decide +kernel))
set_option maxRecDepth 20000 in
theorem gX4_isPlugged_X4_plug : GoodIn wsX4_isPlugged (wsV RX4 130 RX4 yX4_plug wsX4_plug) := goodIn_app (goodIn_of _ (by decide +kernel)) ggX4_isPlugged_X4_plug
theorem dX4_isPlugged_0 : decode cX4_isPlugged 0 = .ok (.aload_n 0, 1) := by decide +kernel
theorem dX4_isPlugged_1 : decode cX4_isPlugged 1 = .ok (.invokevirtual 130, 3) := by decide +kernel
theorem dX4_isPlugged_4 : decode cX4_isPlugged 4 = .ok (.iconst (-1), 1) := by decide +kernel
theorem dX4_isPlugged_5 : decode cX4_isPlugged 5 = .ok (.if_icmp .eq 7, 3) := by decide +kernel
theorem dX4_isPlugged_8 : decode cX4_isPlugged 8 = .ok (.iconst 1, 1) := by decide +kernel
theorem dX4_isPlugged_9 : decode cX4_isPlugged 9 = .ok (.goto 4, 3) := by decide +kernel
theorem dX4_isPlugged_12 : decode cX4_isPlugged 12 = .ok (.iconst 0, 1) := by decide +kernel
theorem dX4_isPlugged_13 : decode cX4_isPlugged 13 = .ok (.ireturn, 1) := by decide +kernel
set_option maxRecDepth 20000 in
theorem ggX4_putPlug_X4_plug : GoodIn wsX4_putPlug wsX4_plug := goodIn_ca (goodIn_r _ [6, 1, 7, 8, 9, 10, 11, 12, 17, 18] (by decide +kernel) (by decide +kernel)) (goodIn_sub (fun _ h => List.mem_cons_of_mem _ (List.mem_append_right _ h)) (by decide +kernel))
set_option maxRecDepth 20000 in
theorem gX4_putPlug_X4_plug : GoodIn wsX4_putPlug (wsV RX4 130 RX4 yX4_plug wsX4_plug) := goodIn_app (goodIn_of _ (by decide +kernel)) ggX4_putPlug_X4_plug
set_option maxRecDepth 20000 in
theorem ggX4_putPlug_X2_put : GoodIn wsX4_putPlug wsX2_put := goodIn_ca (goodIn_r _ [16, 12, 18] (by decide +kernel) (by decide +kernel)) (goodIn_sub (fun _ h => List.mem_cons_of_mem _ (List.mem_append_right _ h)) (by decide +kernel))
set_option maxRecDepth 20000 in
theorem gX4_putPlug_X2_put : GoodIn wsX4_putPlug (wsV RX4 20 RX2 yX2_put wsX2_put) := goodIn_app (goodIn_of _ (by decide +kernel)) ggX4_putPlug_X2_put
theorem dX4_putPlug_0 : decode cX4_putPlug 0 = .ok (.aload_n 0, 1) := by decide +kernel
theorem dX4_putPlug_1 : decode cX4_putPlug 1 = .ok (.invokevirtual 130, 3) := by decide +kernel
theorem dX4_putPlug_4 : decode cX4_putPlug 4 = .ok (.istore_n 2, 1) := by decide +kernel
theorem dX4_putPlug_5 : decode cX4_putPlug 5 = .ok (.aload_n 0, 1) := by decide +kernel
theorem dX4_putPlug_6 : decode cX4_putPlug 6 = .ok (.getfield 16, 3) := by decide +kernel
theorem dX4_putPlug_9 : decode cX4_putPlug 9 = .ok (.iconst 5, 1) := by decide +kernel
theorem dX4_putPlug_10 : decode cX4_putPlug 10 = .ok (.iload_n 1, 1) := by decide +kernel
theorem dX4_putPlug_11 : decode cX4_putPlug 11 = .ok (.invokevirtual 20, 3) := by decide +kernel
theorem dX4_putPlug_14 : decode cX4_putPlug 14 = .ok (.iload_n 2, 1) := by decide +kernel
theorem dX4_putPlug_15 : decode cX4_putPlug 15 = .ok (.ireturn, 1) := by decide +kernel
set_option maxRecDepth 20000 in
theorem ggX4_towels_X2_at : GoodIn wsX4_towels wsX2_at := goodIn_ca (goodIn_r _ [6, 7, 9] (by decide +kernel) (by decide +kernel)) (goodIn_sub (fun _ h => List.mem_cons_of_mem _ (List.mem_append_right _ h)) (by decide +kernel))
set_option maxRecDepth 20000 in
theorem gX4_towels_X2_at : GoodIn wsX4_towels (wsV RX4 106 RX2 yX2_at wsX2_at) := goodIn_app (goodIn_of _ (by decide +kernel)) ggX4_towels_X2_at
theorem dX4_towels_0 : decode cX4_towels 0 = .ok (.aload_n 0, 1) := by decide +kernel
theorem dX4_towels_1 : decode cX4_towels 1 = .ok (.getfield 16, 3) := by decide +kernel
theorem dX4_towels_4 : decode cX4_towels 4 = .ok (.bipush 7, 2) := by decide +kernel
theorem dX4_towels_6 : decode cX4_towels 6 = .ok (.invokevirtual 106, 3) := by decide +kernel
theorem dX4_towels_9 : decode cX4_towels 9 = .ok (.ireturn, 1) := by decide +kernel
set_option maxRecDepth 20000 in
theorem ggX4_ofTowel_X2_at : GoodIn wsX4_ofTowel wsX2_at := goodIn_ca (goodIn_r _ [6, 7, 9] (by decide +kernel) (by decide +kernel)) (goodIn_sub (fun _ h => List.mem_cons_of_mem _ (List.mem_append_right _ h)) (by decide +kernel))
set_option maxRecDepth 20000 in
theorem gX4_ofTowel_X2_at : GoodIn wsX4_ofTowel (wsV RX4 106 RX2 yX2_at wsX2_at) := goodIn_app (goodIn_of _ (by decide +kernel)) ggX4_ofTowel_X2_at
theorem dX4_ofTowel_0 : decode cX4_ofTowel 0 = .ok (.aload_n 0, 1) := by decide +kernel
theorem dX4_ofTowel_1 : decode cX4_ofTowel 1 = .ok (.getfield 16, 3) := by decide +kernel
theorem dX4_ofTowel_4 : decode cX4_ofTowel 4 = .ok (.bipush 45, 2) := by decide +kernel
theorem dX4_ofTowel_6 : decode cX4_ofTowel 6 = .ok (.iload_n 1, 1) := by decide +kernel
theorem dX4_ofTowel_7 : decode cX4_ofTowel 7 = .ok (.iconst 4, 1) := by decide +kernel
theorem dX4_ofTowel_8 : decode cX4_ofTowel 8 = .ok (.imul, 1) := by decide +kernel
theorem dX4_ofTowel_9 : decode cX4_ofTowel 9 = .ok (.iadd, 1) := by decide +kernel
theorem dX4_ofTowel_10 : decode cX4_ofTowel 10 = .ok (.iload_n 2, 1) := by decide +kernel
theorem dX4_ofTowel_11 : decode cX4_ofTowel 11 = .ok (.iadd, 1) := by decide +kernel
theorem dX4_ofTowel_12 : decode cX4_ofTowel 12 = .ok (.invokevirtual 106, 3) := by decide +kernel
theorem dX4_ofTowel_15 : decode cX4_ofTowel 15 = .ok (.ireturn, 1) := by decide +kernel
set_option maxRecDepth 20000 in
theorem ggX4_isTowelAt_X4_towels : GoodIn wsX4_isTowelAt wsX4_towels := goodIn_ca (goodIn_r _ [5, 6, 7, 8, 9, 10, 11, 12, 17, 18] (by decide +kernel) (by decide +kernel)) (goodIn_sub (fun _ h => List.mem_cons_of_mem _ (List.mem_append_right _ h)) (by decide +kernel))
set_option maxRecDepth 20000 in
theorem gX4_isTowelAt_X4_towels : GoodIn wsX4_isTowelAt (wsV RX4 32 RX4 yX4_towels wsX4_towels) := goodIn_app (goodIn_of _ (by decide +kernel)) ggX4_isTowelAt_X4_towels
set_option maxRecDepth 20000 in
theorem ggX4_isTowelAt_X4_ofTowel : GoodIn wsX4_isTowelAt wsX4_ofTowel := goodIn_ca (goodIn_r _ [16, 6, 7, 8, 9, 10, 11, 12, 17, 18] (by decide +kernel) (by decide +kernel)) (goodIn_sub (fun _ h => List.mem_cons_of_mem _ (List.mem_append_right _ h)) (by decide +kernel))
set_option maxRecDepth 20000 in
theorem gX4_isTowelAt_X4_ofTowel : GoodIn wsX4_isTowelAt (wsV RX4 133 RX4 yX4_ofTowel wsX4_ofTowel) := goodIn_app (goodIn_of _ (by decide +kernel)) ggX4_isTowelAt_X4_ofTowel
theorem dX4_isTowelAt_0 : decode cX4_isTowelAt 0 = .ok (.iconst 0, 1) := by decide +kernel
theorem dX4_isTowelAt_1 : decode cX4_isTowelAt 1 = .ok (.istore_n 2, 1) := by decide +kernel
theorem dX4_isTowelAt_2 : decode cX4_isTowelAt 2 = .ok (.iload_n 2, 1) := by decide +kernel
theorem dX4_isTowelAt_3 : decode cX4_isTowelAt 3 = .ok (.aload_n 0, 1) := by decide +kernel
theorem dX4_isTowelAt_4 : decode cX4_isTowelAt 4 = .ok (.invokevirtual 32, 3) := by decide +kernel
theorem dX4_isTowelAt_7 : decode cX4_isTowelAt 7 = .ok (.if_icmp .ge 21, 3) := by decide +kernel
theorem dX4_isTowelAt_10 : decode cX4_isTowelAt 10 = .ok (.aload_n 0, 1) := by decide +kernel
theorem dX4_isTowelAt_11 : decode cX4_isTowelAt 11 = .ok (.iload_n 2, 1) := by decide +kernel
theorem dX4_isTowelAt_12 : decode cX4_isTowelAt 12 = .ok (.iconst 0, 1) := by decide +kernel
theorem dX4_isTowelAt_13 : decode cX4_isTowelAt 13 = .ok (.invokevirtual 133, 3) := by decide +kernel
theorem dX4_isTowelAt_16 : decode cX4_isTowelAt 16 = .ok (.iload_n 1, 1) := by decide +kernel
theorem dX4_isTowelAt_17 : decode cX4_isTowelAt 17 = .ok (.if_icmp .ne 5, 3) := by decide +kernel
theorem dX4_isTowelAt_20 : decode cX4_isTowelAt 20 = .ok (.iconst 1, 1) := by decide +kernel
theorem dX4_isTowelAt_21 : decode cX4_isTowelAt 21 = .ok (.ireturn, 1) := by decide +kernel
theorem dX4_isTowelAt_22 : decode cX4_isTowelAt 22 = .ok (.iinc 2 1, 3) := by decide +kernel
theorem dX4_isTowelAt_25 : decode cX4_isTowelAt 25 = .ok (.goto (-23), 3) := by decide +kernel
theorem dX4_isTowelAt_28 : decode cX4_isTowelAt 28 = .ok (.iconst 0, 1) := by decide +kernel
theorem dX4_isTowelAt_29 : decode cX4_isTowelAt 29 = .ok (.ireturn, 1) := by decide +kernel
set_option maxRecDepth 20000 in
theorem ggX4_putTowel_X4_towels : GoodIn wsX4_putTowel wsX4_towels := goodIn_ca (goodIn_r _ [6, 1, 7, 8, 9, 10, 11, 12, 17, 18] (by decide +kernel) (by decide +kernel)) (goodIn_sub (fun _ h => List.mem_cons_of_mem _ (List.mem_append_right _ h)) (by decide +kernel))
set_option maxRecDepth 20000 in
theorem gX4_putTowel_X4_towels : GoodIn wsX4_putTowel (wsV RX4 32 RX4 yX4_towels wsX4_towels) := goodIn_app (goodIn_of _ (by decide +kernel)) ggX4_putTowel_X4_towels
set_option maxRecDepth 20000 in
theorem ggX4_putTowel_X2_put : GoodIn wsX4_putTowel wsX2_put := goodIn_ca (goodIn_r _ [16, 12, 18] (by decide +kernel) (by decide +kernel)) (goodIn_sub (fun _ h => List.mem_cons_of_mem _ (List.mem_append_right _ h)) (by decide +kernel))
set_option maxRecDepth 20000 in
theorem gX4_putTowel_X2_put : GoodIn wsX4_putTowel (wsV RX4 20 RX2 yX2_put wsX2_put) := goodIn_app (goodIn_of _ (by decide +kernel)) ggX4_putTowel_X2_put
theorem dX4_putTowel_0 : decode cX4_putTowel 0 = .ok (.aload_n 0, 1) := by decide +kernel
theorem dX4_putTowel_1 : decode cX4_putTowel 1 = .ok (.invokevirtual 32, 3) := by decide +kernel
theorem dX4_putTowel_4 : decode cX4_putTowel 4 = .ok (.istore_n 3, 1) := by decide +kernel
theorem dX4_putTowel_5 : decode cX4_putTowel 5 = .ok (.bipush 45, 2) := by decide +kernel
theorem dX4_putTowel_7 : decode cX4_putTowel 7 = .ok (.iload_n 3, 1) := by decide +kernel
theorem dX4_putTowel_8 : decode cX4_putTowel 8 = .ok (.iconst 4, 1) := by decide +kernel
theorem dX4_putTowel_9 : decode cX4_putTowel 9 = .ok (.imul, 1) := by decide +kernel
theorem dX4_putTowel_10 : decode cX4_putTowel 10 = .ok (.iadd, 1) := by decide +kernel
theorem dX4_putTowel_11 : decode cX4_putTowel 11 = .ok (.istore 4, 2) := by decide +kernel
theorem dX4_putTowel_13 : decode cX4_putTowel 13 = .ok (.aload_n 0, 1) := by decide +kernel
theorem dX4_putTowel_14 : decode cX4_putTowel 14 = .ok (.getfield 16, 3) := by decide +kernel
theorem dX4_putTowel_17 : decode cX4_putTowel 17 = .ok (.iload 4, 2) := by decide +kernel
theorem dX4_putTowel_19 : decode cX4_putTowel 19 = .ok (.iconst 0, 1) := by decide +kernel
theorem dX4_putTowel_20 : decode cX4_putTowel 20 = .ok (.iadd, 1) := by decide +kernel
theorem dX4_putTowel_21 : decode cX4_putTowel 21 = .ok (.iload_n 1, 1) := by decide +kernel
theorem dX4_putTowel_22 : decode cX4_putTowel 22 = .ok (.invokevirtual 20, 3) := by decide +kernel
theorem dX4_putTowel_25 : decode cX4_putTowel 25 = .ok (.aload_n 0, 1) := by decide +kernel
theorem dX4_putTowel_26 : decode cX4_putTowel 26 = .ok (.getfield 16, 3) := by decide +kernel
theorem dX4_putTowel_29 : decode cX4_putTowel 29 = .ok (.iload 4, 2) := by decide +kernel
theorem dX4_putTowel_31 : decode cX4_putTowel 31 = .ok (.iconst 1, 1) := by decide +kernel
theorem dX4_putTowel_32 : decode cX4_putTowel 32 = .ok (.iadd, 1) := by decide +kernel
theorem dX4_putTowel_33 : decode cX4_putTowel 33 = .ok (.iload_n 2, 1) := by decide +kernel
theorem dX4_putTowel_34 : decode cX4_putTowel 34 = .ok (.invokevirtual 20, 3) := by decide +kernel
theorem dX4_putTowel_37 : decode cX4_putTowel 37 = .ok (.aload_n 0, 1) := by decide +kernel
theorem dX4_putTowel_38 : decode cX4_putTowel 38 = .ok (.getfield 16, 3) := by decide +kernel
theorem dX4_putTowel_41 : decode cX4_putTowel 41 = .ok (.iload 4, 2) := by decide +kernel
theorem dX4_putTowel_43 : decode cX4_putTowel 43 = .ok (.iconst 2, 1) := by decide +kernel
theorem dX4_putTowel_44 : decode cX4_putTowel 44 = .ok (.iadd, 1) := by decide +kernel
theorem dX4_putTowel_45 : decode cX4_putTowel 45 = .ok (.iconst 0, 1) := by decide +kernel
theorem dX4_putTowel_46 : decode cX4_putTowel 46 = .ok (.invokevirtual 20, 3) := by decide +kernel
theorem dX4_putTowel_49 : decode cX4_putTowel 49 = .ok (.aload_n 0, 1) := by decide +kernel
theorem dX4_putTowel_50 : decode cX4_putTowel 50 = .ok (.getfield 16, 3) := by decide +kernel
theorem dX4_putTowel_53 : decode cX4_putTowel 53 = .ok (.iload 4, 2) := by decide +kernel
theorem dX4_putTowel_55 : decode cX4_putTowel 55 = .ok (.iconst 3, 1) := by decide +kernel
theorem dX4_putTowel_56 : decode cX4_putTowel 56 = .ok (.iadd, 1) := by decide +kernel
theorem dX4_putTowel_57 : decode cX4_putTowel 57 = .ok (.iconst 0, 1) := by decide +kernel
theorem dX4_putTowel_58 : decode cX4_putTowel 58 = .ok (.invokevirtual 20, 3) := by decide +kernel
theorem dX4_putTowel_61 : decode cX4_putTowel 61 = .ok (.aload_n 0, 1) := by decide +kernel
theorem dX4_putTowel_62 : decode cX4_putTowel 62 = .ok (.getfield 16, 3) := by decide +kernel
theorem dX4_putTowel_65 : decode cX4_putTowel 65 = .ok (.bipush 7, 2) := by decide +kernel
theorem dX4_putTowel_67 : decode cX4_putTowel 67 = .ok (.iload_n 3, 1) := by decide +kernel
theorem dX4_putTowel_68 : decode cX4_putTowel 68 = .ok (.iconst 1, 1) := by decide +kernel
theorem dX4_putTowel_69 : decode cX4_putTowel 69 = .ok (.iadd, 1) := by decide +kernel
theorem dX4_putTowel_70 : decode cX4_putTowel 70 = .ok (.invokevirtual 20, 3) := by decide +kernel
theorem dX4_putTowel_73 : decode cX4_putTowel 73 = .ok (.iload_n 3, 1) := by decide +kernel
theorem dX4_putTowel_74 : decode cX4_putTowel 74 = .ok (.ireturn, 1) := by decide +kernel
set_option maxRecDepth 20000 in
theorem ggX4_dropTowel_X4_wring : GoodIn wsX4_dropTowel wsX4_wring := goodIn_ca (goodIn_r _ [6, 1, 7, 8, 9, 10, 11, 12, 13, 5, 14, 15, 16, 17, 18, 19, 20, 21, 22, 23, 24, 25, 26, 27, 28, 29, 30, 39, 40] (by decide +kernel) (by decide +kernel)) (goodIn_sub (fun _ h => List.mem_cons_of_mem _ (List.mem_append_right _ h)) (by decide +kernel))
set_option maxRecDepth 20000 in
theorem gX4_dropTowel_X4_wring : GoodIn wsX4_dropTowel (wsV RX4 97 RX4 yX4_wring wsX4_wring) := goodIn_app (goodIn_of _ (by decide +kernel)) ggX4_dropTowel_X4_wring
set_option maxRecDepth 20000 in
theorem ggX4_dropTowel_X4_towels : GoodIn wsX4_dropTowel wsX4_towels := goodIn_ca (goodIn_r _ [34, 1, 15, 16, 17, 18, 19, 20, 39, 40] (by decide +kernel) (by decide +kernel)) (goodIn_sub (fun _ h => List.mem_cons_of_mem _ (List.mem_append_right _ h)) (by decide +kernel))
set_option maxRecDepth 20000 in
theorem gX4_dropTowel_X4_towels : GoodIn wsX4_dropTowel (wsV RX4 32 RX4 yX4_towels wsX4_towels) := goodIn_app (goodIn_of _ (by decide +kernel)) ggX4_dropTowel_X4_towels
set_option maxRecDepth 20000 in
theorem ggX4_dropTowel_X2_copy : GoodIn wsX4_dropTowel wsX2_copy := goodIn_ca (goodIn_r _ [38, 29, 16, 17, 18, 19, 20, 30, 22, 23, 24, 40] (by decide +kernel) (by decide +kernel)) (goodIn_sub (fun _ h => List.mem_cons_of_mem _ (List.mem_append_right _ h)) (by decide +kernel))
set_option maxRecDepth 20000 in
theorem gX4_dropTowel_X2_copy : GoodIn wsX4_dropTowel (wsV RX4 109 RX2 yX2_copy wsX2_copy) := goodIn_app (goodIn_of _ (by decide +kernel)) ggX4_dropTowel_X2_copy
set_option maxRecDepth 20000 in
theorem ggX4_dropTowel_X2_put : GoodIn wsX4_dropTowel wsX2_put := goodIn_ca (goodIn_r _ [24, 20, 40] (by decide +kernel) (by decide +kernel)) (goodIn_sub (fun _ h => List.mem_cons_of_mem _ (List.mem_append_right _ h)) (by decide +kernel))
set_option maxRecDepth 20000 in
theorem gX4_dropTowel_X2_put : GoodIn wsX4_dropTowel (wsV RX4 20 RX2 yX2_put wsX2_put) := goodIn_app (goodIn_of _ (by decide +kernel)) ggX4_dropTowel_X2_put
theorem dX4_dropTowel_0 : decode cX4_dropTowel 0 = .ok (.aload_n 0, 1) := by decide +kernel
theorem dX4_dropTowel_1 : decode cX4_dropTowel 1 = .ok (.iload_n 1, 1) := by decide +kernel
theorem dX4_dropTowel_2 : decode cX4_dropTowel 2 = .ok (.invokevirtual 97, 3) := by decide +kernel
theorem dX4_dropTowel_5 : decode cX4_dropTowel 5 = .ok (.pop, 1) := by decide +kernel
theorem dX4_dropTowel_6 : decode cX4_dropTowel 6 = .ok (.aload_n 0, 1) := by decide +kernel
theorem dX4_dropTowel_7 : decode cX4_dropTowel 7 = .ok (.invokevirtual 32, 3) := by decide +kernel
theorem dX4_dropTowel_10 : decode cX4_dropTowel 10 = .ok (.iconst 1, 1) := by decide +kernel
theorem dX4_dropTowel_11 : decode cX4_dropTowel 11 = .ok (.isub, 1) := by decide +kernel
theorem dX4_dropTowel_12 : decode cX4_dropTowel 12 = .ok (.istore_n 2, 1) := by decide +kernel
theorem dX4_dropTowel_13 : decode cX4_dropTowel 13 = .ok (.bipush 45, 2) := by decide +kernel
theorem dX4_dropTowel_15 : decode cX4_dropTowel 15 = .ok (.iload_n 1, 1) := by decide +kernel
theorem dX4_dropTowel_16 : decode cX4_dropTowel 16 = .ok (.iconst 4, 1) := by decide +kernel
theorem dX4_dropTowel_17 : decode cX4_dropTowel 17 = .ok (.imul, 1) := by decide +kernel
theorem dX4_dropTowel_18 : decode cX4_dropTowel 18 = .ok (.iadd, 1) := by decide +kernel
theorem dX4_dropTowel_19 : decode cX4_dropTowel 19 = .ok (.istore_n 3, 1) := by decide +kernel
theorem dX4_dropTowel_20 : decode cX4_dropTowel 20 = .ok (.aload_n 0, 1) := by decide +kernel
theorem dX4_dropTowel_21 : decode cX4_dropTowel 21 = .ok (.getfield 16, 3) := by decide +kernel
theorem dX4_dropTowel_24 : decode cX4_dropTowel 24 = .ok (.aload_n 0, 1) := by decide +kernel
theorem dX4_dropTowel_25 : decode cX4_dropTowel 25 = .ok (.getfield 16, 3) := by decide +kernel
theorem dX4_dropTowel_28 : decode cX4_dropTowel 28 = .ok (.iload_n 3, 1) := by decide +kernel
theorem dX4_dropTowel_29 : decode cX4_dropTowel 29 = .ok (.iconst 4, 1) := by decide +kernel
theorem dX4_dropTowel_30 : decode cX4_dropTowel 30 = .ok (.iadd, 1) := by decide +kernel
theorem dX4_dropTowel_31 : decode cX4_dropTowel 31 = .ok (.iload_n 3, 1) := by decide +kernel
theorem dX4_dropTowel_32 : decode cX4_dropTowel 32 = .ok (.iload_n 2, 1) := by decide +kernel
theorem dX4_dropTowel_33 : decode cX4_dropTowel 33 = .ok (.iload_n 1, 1) := by decide +kernel
theorem dX4_dropTowel_34 : decode cX4_dropTowel 34 = .ok (.isub, 1) := by decide +kernel
theorem dX4_dropTowel_35 : decode cX4_dropTowel 35 = .ok (.iconst 4, 1) := by decide +kernel
theorem dX4_dropTowel_36 : decode cX4_dropTowel 36 = .ok (.imul, 1) := by decide +kernel
theorem dX4_dropTowel_37 : decode cX4_dropTowel 37 = .ok (.invokevirtual 109, 3) := by decide +kernel
theorem dX4_dropTowel_40 : decode cX4_dropTowel 40 = .ok (.aload_n 0, 1) := by decide +kernel
theorem dX4_dropTowel_41 : decode cX4_dropTowel 41 = .ok (.getfield 16, 3) := by decide +kernel
theorem dX4_dropTowel_44 : decode cX4_dropTowel 44 = .ok (.bipush 7, 2) := by decide +kernel
theorem dX4_dropTowel_46 : decode cX4_dropTowel 46 = .ok (.iload_n 2, 1) := by decide +kernel
theorem dX4_dropTowel_47 : decode cX4_dropTowel 47 = .ok (.invokevirtual 20, 3) := by decide +kernel
theorem dX4_dropTowel_50 : decode cX4_dropTowel 50 = .ok (.iload_n 2, 1) := by decide +kernel
theorem dX4_dropTowel_51 : decode cX4_dropTowel 51 = .ok (.ireturn, 1) := by decide +kernel
set_option maxRecDepth 20000 in
theorem ggX4_wring_X4_ofTowel : GoodIn wsX4_wring wsX4_ofTowel := goodIn_ca (goodIn_r _ [10, 1, 11, 12, 13, 14, 15, 16, 27, 28] (by decide +kernel) (by decide +kernel)) (goodIn_sub (fun _ h => List.mem_cons_of_mem _ (List.mem_append_right _ h)) (by decide +kernel))
set_option maxRecDepth 20000 in
theorem gX4_wring_X4_ofTowel : GoodIn wsX4_wring (wsV RX4 133 RX4 yX4_ofTowel wsX4_ofTowel) := goodIn_app (goodIn_of _ (by decide +kernel)) ggX4_wring_X4_ofTowel
set_option maxRecDepth 20000 in
theorem ggX4_wring_X2_at : GoodIn wsX4_wring wsX2_at := goodIn_ca (goodIn_r _ [15, 16, 28] (by decide +kernel) (by decide +kernel)) (goodIn_sub (fun _ h => List.mem_cons_of_mem _ (List.mem_append_right _ h)) (by decide +kernel))
set_option maxRecDepth 20000 in
theorem gX4_wring_X2_at : GoodIn wsX4_wring (wsV RX4 106 RX2 yX2_at wsX2_at) := goodIn_app (goodIn_of _ (by decide +kernel)) ggX4_wring_X2_at
set_option maxRecDepth 20000 in
theorem ggX4_wring_X2_put : GoodIn wsX4_wring wsX2_put := goodIn_ca (goodIn_r _ [20, 16, 28] (by decide +kernel) (by decide +kernel)) (goodIn_sub (fun _ h => List.mem_cons_of_mem _ (List.mem_append_right _ h)) (by decide +kernel))
set_option maxRecDepth 20000 in
theorem gX4_wring_X2_put : GoodIn wsX4_wring (wsV RX4 20 RX2 yX2_put wsX2_put) := goodIn_app (goodIn_of _ (by decide +kernel)) ggX4_wring_X2_put
set_option maxRecDepth 20000 in
theorem ggX4_wring_X2_add : GoodIn wsX4_wring wsX2_add := goodIn_ca (goodIn_r _ [24, 25, 12, 13, 14, 15, 16, 26, 18, 19, 20, 28] (by decide +kernel) (by decide +kernel)) (goodIn_sub (fun _ h => List.mem_cons_of_mem _ (List.mem_append_right _ h)) (by decide +kernel))
set_option maxRecDepth 20000 in
theorem gX4_wring_X2_add : GoodIn wsX4_wring (wsV RX4 139 RX2 yX2_add wsX2_add) := goodIn_app (goodIn_of _ (by decide +kernel)) ggX4_wring_X2_add
theorem dX4_wring_0 : decode cX4_wring 0 = .ok (.aload_n 0, 1) := by decide +kernel
theorem dX4_wring_1 : decode cX4_wring 1 = .ok (.iload_n 1, 1) := by decide +kernel
theorem dX4_wring_2 : decode cX4_wring 2 = .ok (.iconst 2, 1) := by decide +kernel
theorem dX4_wring_3 : decode cX4_wring 3 = .ok (.invokevirtual 133, 3) := by decide +kernel
theorem dX4_wring_6 : decode cX4_wring 6 = .ok (.istore_n 2, 1) := by decide +kernel
theorem dX4_wring_7 : decode cX4_wring 7 = .ok (.iload_n 2, 1) := by decide +kernel
theorem dX4_wring_8 : decode cX4_wring 8 = .ok (.bipush 40, 2) := by decide +kernel
theorem dX4_wring_10 : decode cX4_wring 10 = .ok (.aload_n 0, 1) := by decide +kernel
theorem dX4_wring_11 : decode cX4_wring 11 = .ok (.getfield 16, 3) := by decide +kernel
theorem dX4_wring_14 : decode cX4_wring 14 = .ok (.iconst 1, 1) := by decide +kernel
theorem dX4_wring_15 : decode cX4_wring 15 = .ok (.invokevirtual 106, 3) := by decide +kernel
theorem dX4_wring_18 : decode cX4_wring 18 = .ok (.isub, 1) := by decide +kernel
theorem dX4_wring_19 : decode cX4_wring 19 = .ok (.invokestatic 136, 3) := by decide +kernel
theorem dX4_wring_22 : decode cX4_wring 22 = .ok (.istore_n 3, 1) := by decide +kernel
theorem dX4_wring_23 : decode cX4_wring 23 = .ok (.aload_n 0, 1) := by decide +kernel
theorem dX4_wring_24 : decode cX4_wring 24 = .ok (.getfield 16, 3) := by decide +kernel
theorem dX4_wring_27 : decode cX4_wring 27 = .ok (.bipush 45, 2) := by decide +kernel
theorem dX4_wring_29 : decode cX4_wring 29 = .ok (.iload_n 1, 1) := by decide +kernel
theorem dX4_wring_30 : decode cX4_wring 30 = .ok (.iconst 4, 1) := by decide +kernel
theorem dX4_wring_31 : decode cX4_wring 31 = .ok (.imul, 1) := by decide +kernel
theorem dX4_wring_32 : decode cX4_wring 32 = .ok (.iadd, 1) := by decide +kernel
theorem dX4_wring_33 : decode cX4_wring 33 = .ok (.iconst 2, 1) := by decide +kernel
theorem dX4_wring_34 : decode cX4_wring 34 = .ok (.iadd, 1) := by decide +kernel
theorem dX4_wring_35 : decode cX4_wring 35 = .ok (.iconst 0, 1) := by decide +kernel
theorem dX4_wring_36 : decode cX4_wring 36 = .ok (.invokevirtual 20, 3) := by decide +kernel
theorem dX4_wring_39 : decode cX4_wring 39 = .ok (.aload_n 0, 1) := by decide +kernel
theorem dX4_wring_40 : decode cX4_wring 40 = .ok (.getfield 16, 3) := by decide +kernel
theorem dX4_wring_43 : decode cX4_wring 43 = .ok (.iconst 1, 1) := by decide +kernel
theorem dX4_wring_44 : decode cX4_wring 44 = .ok (.iload_n 3, 1) := by decide +kernel
theorem dX4_wring_45 : decode cX4_wring 45 = .ok (.invokevirtual 139, 3) := by decide +kernel
theorem dX4_wring_48 : decode cX4_wring 48 = .ok (.aload_n 0, 1) := by decide +kernel
theorem dX4_wring_49 : decode cX4_wring 49 = .ok (.getfield 16, 3) := by decide +kernel
theorem dX4_wring_52 : decode cX4_wring 52 = .ok (.iconst 3, 1) := by decide +kernel
theorem dX4_wring_53 : decode cX4_wring 53 = .ok (.iload_n 2, 1) := by decide +kernel
theorem dX4_wring_54 : decode cX4_wring 54 = .ok (.iload_n 3, 1) := by decide +kernel
theorem dX4_wring_55 : decode cX4_wring 55 = .ok (.isub, 1) := by decide +kernel
theorem dX4_wring_56 : decode cX4_wring 56 = .ok (.invokevirtual 139, 3) := by decide +kernel
theorem dX4_wring_59 : decode cX4_wring 59 = .ok (.iload_n 2, 1) := by decide +kernel
theorem dX4_wring_60 : decode cX4_wring 60 = .ok (.iload_n 3, 1) := by decide +kernel
theorem dX4_wring_61 : decode cX4_wring 61 = .ok (.isub, 1) := by decide +kernel
theorem dX4_wring_62 : decode cX4_wring 62 = .ok (.ireturn, 1) := by decide +kernel
set_option maxRecDepth 20000 in
theorem ggX4_turnTaps_X2_at : GoodIn wsX4_turnTaps wsX2_at := goodIn_ca (goodIn_r _ [6, 7, 13] (by decide +kernel) (by decide +kernel)) (goodIn_sub (fun _ h => List.mem_cons_of_mem _ (List.mem_append_right _ h)) (by decide +kernel))
set_option maxRecDepth 20000 in
theorem gX4_turnTaps_X2_at : GoodIn wsX4_turnTaps (wsV RX4 106 RX2 yX2_at wsX2_at) := goodIn_app (goodIn_of _ (by decide +kernel)) ggX4_turnTaps_X2_at
set_option maxRecDepth 20000 in
theorem ggX4_turnTaps_X2_put : GoodIn wsX4_turnTaps wsX2_put := goodIn_ca (goodIn_r _ [11, 7, 13] (by decide +kernel) (by decide +kernel)) (goodIn_sub (fun _ h => List.mem_cons_of_mem _ (List.mem_append_right _ h)) (by decide +kernel))
set_option maxRecDepth 20000 in
theorem gX4_turnTaps_X2_put : GoodIn wsX4_turnTaps (wsV RX4 20 RX2 yX2_put wsX2_put) := goodIn_app (goodIn_of _ (by decide +kernel)) ggX4_turnTaps_X2_put
theorem dX4_turnTaps_0 : decode cX4_turnTaps 0 = .ok (.aload_n 0, 1) := by decide +kernel
theorem dX4_turnTaps_1 : decode cX4_turnTaps 1 = .ok (.getfield 16, 3) := by decide +kernel
theorem dX4_turnTaps_4 : decode cX4_turnTaps 4 = .ok (.iconst 2, 1) := by decide +kernel
theorem dX4_turnTaps_5 : decode cX4_turnTaps 5 = .ok (.invokevirtual 106, 3) := by decide +kernel
theorem dX4_turnTaps_8 : decode cX4_turnTaps 8 = .ok (.istore_n 2, 1) := by decide +kernel
theorem dX4_turnTaps_9 : decode cX4_turnTaps 9 = .ok (.aload_n 0, 1) := by decide +kernel
theorem dX4_turnTaps_10 : decode cX4_turnTaps 10 = .ok (.getfield 16, 3) := by decide +kernel
theorem dX4_turnTaps_13 : decode cX4_turnTaps 13 = .ok (.iconst 2, 1) := by decide +kernel
theorem dX4_turnTaps_14 : decode cX4_turnTaps 14 = .ok (.iload_n 1, 1) := by decide +kernel
theorem dX4_turnTaps_15 : decode cX4_turnTaps 15 = .ok (.invokevirtual 20, 3) := by decide +kernel
theorem dX4_turnTaps_18 : decode cX4_turnTaps 18 = .ok (.iload_n 2, 1) := by decide +kernel
theorem dX4_turnTaps_19 : decode cX4_turnTaps 19 = .ok (.ireturn, 1) := by decide +kernel
theorem dX4_distance_0 : decode cX4_distance 0 = .ok (.iload_n 0, 1) := by decide +kernel
theorem dX4_distance_1 : decode cX4_distance 1 = .ok (.iload_n 1, 1) := by decide +kernel
theorem dX4_distance_2 : decode cX4_distance 2 = .ok (.isub, 1) := by decide +kernel
theorem dX4_distance_3 : decode cX4_distance 3 = .ok (.invokestatic 142, 3) := by decide +kernel
theorem dX4_distance_6 : decode cX4_distance 6 = .ok (.istore_n 2, 1) := by decide +kernel
theorem dX4_distance_7 : decode cX4_distance 7 = .ok (.iload_n 2, 1) := by decide +kernel
theorem dX4_distance_8 : decode cX4_distance 8 = .ok (.bipush 12, 2) := by decide +kernel
theorem dX4_distance_10 : decode cX4_distance 10 = .ok (.iload_n 2, 1) := by decide +kernel
theorem dX4_distance_11 : decode cX4_distance 11 = .ok (.isub, 1) := by decide +kernel
theorem dX4_distance_12 : decode cX4_distance 12 = .ok (.invokestatic 136, 3) := by decide +kernel
theorem dX4_distance_15 : decode cX4_distance 15 = .ok (.ireturn, 1) := by decide +kernel
set_option maxRecDepth 20000 in
theorem ggX4_eclipsesAt_X2_at : GoodIn wsX4_eclipsesAt wsX2_at := goodIn_ca (goodIn_r _ [6, 7, 20] (by decide +kernel) (by decide +kernel)) (goodIn_sub (fun _ h => List.mem_cons_of_mem _ (List.mem_append_right _ h)) (by decide +kernel))
set_option maxRecDepth 20000 in
theorem gX4_eclipsesAt_X2_at : GoodIn wsX4_eclipsesAt (wsV RX4 106 RX2 yX2_at wsX2_at) := goodIn_app (goodIn_of _ (by decide +kernel)) ggX4_eclipsesAt_X2_at
set_option maxRecDepth 20000 in
theorem ggX4_eclipsesAt_X4_distance : GoodIn wsX4_eclipsesAt wsX4_distance := goodIn_r _ [11, 12, 13, 14, 15, 16, 17, 18] (by decide +kernel) (by decide +kernel)
set_option maxRecDepth 20000 in
theorem gX4_eclipsesAt_X4_distance : GoodIn wsX4_eclipsesAt (va_wsS RX4 145 yX4_distance wsX4_distance) := goodIn_app (goodIn_of _ (by decide +kernel)) ggX4_eclipsesAt_X4_distance
theorem dX4_eclipsesAt_0 : decode cX4_eclipsesAt 0 = .ok (.aload_n 0, 1) := by decide +kernel
theorem dX4_eclipsesAt_1 : decode cX4_eclipsesAt 1 = .ok (.getfield 16, 3) := by decide +kernel
theorem dX4_eclipsesAt_4 : decode cX4_eclipsesAt 4 = .ok (.iconst 5, 1) := by decide +kernel
theorem dX4_eclipsesAt_5 : decode cX4_eclipsesAt 5 = .ok (.invokevirtual 106, 3) := by decide +kernel
theorem dX4_eclipsesAt_8 : decode cX4_eclipsesAt 8 = .ok (.istore_n 2, 1) := by decide +kernel
theorem dX4_eclipsesAt_9 : decode cX4_eclipsesAt 9 = .ok (.iload_n 2, 1) := by decide +kernel
theorem dX4_eclipsesAt_10 : decode cX4_eclipsesAt 10 = .ok (.iconst (-1), 1) := by decide +kernel
theorem dX4_eclipsesAt_11 : decode cX4_eclipsesAt 11 = .ok (.if_icmp .eq 17, 3) := by decide +kernel
theorem dX4_eclipsesAt_14 : decode cX4_eclipsesAt 14 = .ok (.iload_n 1, 1) := by decide +kernel
theorem dX4_eclipsesAt_15 : decode cX4_eclipsesAt 15 = .ok (.iload_n 2, 1) := by decide +kernel
theorem dX4_eclipsesAt_16 : decode cX4_eclipsesAt 16 = .ok (.invokestatic 145, 3) := by decide +kernel
theorem dX4_eclipsesAt_19 : decode cX4_eclipsesAt 19 = .ok (.bipush 6, 2) := by decide +kernel
theorem dX4_eclipsesAt_21 : decode cX4_eclipsesAt 21 = .ok (.if_icmp .ne 7, 3) := by decide +kernel
theorem dX4_eclipsesAt_24 : decode cX4_eclipsesAt 24 = .ok (.iconst 1, 1) := by decide +kernel
theorem dX4_eclipsesAt_25 : decode cX4_eclipsesAt 25 = .ok (.goto 4, 3) := by decide +kernel
theorem dX4_eclipsesAt_28 : decode cX4_eclipsesAt 28 = .ok (.iconst 0, 1) := by decide +kernel
theorem dX4_eclipsesAt_29 : decode cX4_eclipsesAt 29 = .ok (.ireturn, 1) := by decide +kernel
set_option maxRecDepth 20000 in
theorem ggX4_tideAfter_X4_moons : GoodIn wsX4_tideAfter wsX4_moons := goodIn_ca (goodIn_r _ [5, 6, 7, 8, 9, 10, 11, 12, 69, 70] (by decide +kernel) (by decide +kernel)) (goodIn_sub (fun _ h => List.mem_cons_of_mem _ (List.mem_append_left _ (List.mem_append_right _ h))) (by decide +kernel))
set_option maxRecDepth 20000 in
theorem gX4_tideAfter_X4_moons : GoodIn wsX4_tideAfter (wsV RX4 28 RX4 yX4_moons wsX4_moons) := goodIn_app (goodIn_of _ (by decide +kernel)) ggX4_tideAfter_X4_moons
set_option maxRecDepth 20000 in
theorem ggX4_tideAfter_X4_massAfter : GoodIn wsX4_tideAfter wsX4_massAfter := goodIn_ca (goodIn_r _ [16, 17, 18, 19, 20, 21, 22, 23, 4, 24, 6, 7, 8, 9, 10, 11, 12, 25, 26, 27, 28, 29, 30, 31, 32, 69, 70] (by decide +kernel) (by decide +kernel)) (goodIn_sub (fun _ h => List.mem_cons_of_mem _ (List.mem_append_left _ (List.mem_append_right _ h))) (by decide +kernel))
set_option maxRecDepth 20000 in
theorem gX4_tideAfter_X4_massAfter : GoodIn wsX4_tideAfter (wsV RX4 148 RX4 yX4_massAfter wsX4_massAfter) := goodIn_app (goodIn_of _ (by decide +kernel)) ggX4_tideAfter_X4_massAfter
set_option maxRecDepth 20000 in
theorem ggX4_tideAfter_X4_placeAfter : GoodIn wsX4_tideAfter wsX4_placeAfter := goodIn_ca (goodIn_ca (goodIn_r _ [36, 6, 21, 22, 23, 4, 24, 7, 8, 9, 10, 11, 12, 37, 38, 39, 40, 69, 70] (by decide +kernel) (by decide +kernel)) (goodIn_sub (fun _ h => List.mem_cons_of_mem _ (List.mem_append_right _ h)) (by decide +kernel))) (goodIn_sub (fun _ h => List.mem_cons_of_mem _ (List.mem_append_left _ (List.mem_append_right _ h))) (by decide +kernel))
set_option maxRecDepth 20000 in
theorem gX4_tideAfter_X4_placeAfter : GoodIn wsX4_tideAfter (wsV RX4 151 RX4 yX4_placeAfter wsX4_placeAfter) := goodIn_app (goodIn_of _ (by decide +kernel)) ggX4_tideAfter_X4_placeAfter
set_option maxRecDepth 20000 in
theorem ggX4_tideAfter_X4_pull : GoodIn wsX4_tideAfter wsX4_pull := goodIn_ca (goodIn_r _ [44, 45, 46, 47, 4, 48, 6, 7, 8, 9, 10, 11, 12, 49, 50, 51, 52, 53, 19, 54, 55, 56, 57, 69, 70] (by decide +kernel) (by decide +kernel)) (goodIn_sub (fun _ h => List.mem_cons_of_mem _ (List.mem_append_left _ (List.mem_append_right _ h))) (by decide +kernel))
set_option maxRecDepth 20000 in
theorem gX4_tideAfter_X4_pull : GoodIn wsX4_tideAfter (wsV RX4 154 RX4 yX4_pull wsX4_pull) := goodIn_app (goodIn_of _ (by decide +kernel)) ggX4_tideAfter_X4_pull
set_option maxRecDepth 20000 in
theorem ggX4_tideAfter_X4_damped : GoodIn wsX4_tideAfter wsX4_damped := goodIn_ca (goodIn_r _ [61, 62, 63, 64, 4, 65, 6, 66, 67, 68, 7, 8, 9, 10, 11, 12, 69, 70] (by decide +kernel) (by decide +kernel)) (goodIn_sub (fun _ h => List.mem_cons_of_mem _ (List.mem_append_left _ (List.mem_append_right _ h))) (by decide +kernel))
set_option maxRecDepth 20000 in
theorem gX4_tideAfter_X4_damped : GoodIn wsX4_tideAfter (wsV RX4 158 RX4 yX4_damped wsX4_damped) := goodIn_app (goodIn_of _ (by decide +kernel)) ggX4_tideAfter_X4_damped
theorem dX4_tideAfter_0 : decode cX4_tideAfter 0 = .ok (.iconst 0, 1) := by decide +kernel
theorem dX4_tideAfter_1 : decode cX4_tideAfter 1 = .ok (.istore_n 3, 1) := by decide +kernel
theorem dX4_tideAfter_2 : decode cX4_tideAfter 2 = .ok (.iconst 0, 1) := by decide +kernel
theorem dX4_tideAfter_3 : decode cX4_tideAfter 3 = .ok (.istore 4, 2) := by decide +kernel
theorem dX4_tideAfter_5 : decode cX4_tideAfter 5 = .ok (.iload 4, 2) := by decide +kernel
theorem dX4_tideAfter_7 : decode cX4_tideAfter 7 = .ok (.aload_n 0, 1) := by decide +kernel
theorem dX4_tideAfter_8 : decode cX4_tideAfter 8 = .ok (.invokevirtual 28, 3) := by decide +kernel
theorem dX4_tideAfter_11 : decode cX4_tideAfter 11 = .ok (.if_icmp .ge 31, 3) := by decide +kernel
theorem dX4_tideAfter_14 : decode cX4_tideAfter 14 = .ok (.iload_n 3, 1) := by decide +kernel
theorem dX4_tideAfter_15 : decode cX4_tideAfter 15 = .ok (.aload_n 0, 1) := by decide +kernel
theorem dX4_tideAfter_16 : decode cX4_tideAfter 16 = .ok (.aload_n 0, 1) := by decide +kernel
theorem dX4_tideAfter_17 : decode cX4_tideAfter 17 = .ok (.iload 4, 2) := by decide +kernel
theorem dX4_tideAfter_19 : decode cX4_tideAfter 19 = .ok (.iload_n 2, 1) := by decide +kernel
theorem dX4_tideAfter_20 : decode cX4_tideAfter 20 = .ok (.invokevirtual 148, 3) := by decide +kernel
theorem dX4_tideAfter_23 : decode cX4_tideAfter 23 = .ok (.aload_n 0, 1) := by decide +kernel
theorem dX4_tideAfter_24 : decode cX4_tideAfter 24 = .ok (.iload 4, 2) := by decide +kernel
theorem dX4_tideAfter_26 : decode cX4_tideAfter 26 = .ok (.iload_n 2, 1) := by decide +kernel
theorem dX4_tideAfter_27 : decode cX4_tideAfter 27 = .ok (.invokevirtual 151, 3) := by decide +kernel
theorem dX4_tideAfter_30 : decode cX4_tideAfter 30 = .ok (.iload_n 1, 1) := by decide +kernel
theorem dX4_tideAfter_31 : decode cX4_tideAfter 31 = .ok (.invokevirtual 154, 3) := by decide +kernel
theorem dX4_tideAfter_34 : decode cX4_tideAfter 34 = .ok (.iadd, 1) := by decide +kernel
theorem dX4_tideAfter_35 : decode cX4_tideAfter 35 = .ok (.istore_n 3, 1) := by decide +kernel
theorem dX4_tideAfter_36 : decode cX4_tideAfter 36 = .ok (.iinc 4 1, 3) := by decide +kernel
theorem dX4_tideAfter_39 : decode cX4_tideAfter 39 = .ok (.goto (-34), 3) := by decide +kernel
theorem dX4_tideAfter_42 : decode cX4_tideAfter 42 = .ok (.aload_n 0, 1) := by decide +kernel
theorem dX4_tideAfter_43 : decode cX4_tideAfter 43 = .ok (.iload_n 3, 1) := by decide +kernel
theorem dX4_tideAfter_44 : decode cX4_tideAfter 44 = .ok (.iload_n 1, 1) := by decide +kernel
theorem dX4_tideAfter_45 : decode cX4_tideAfter 45 = .ok (.invokevirtual 158, 3) := by decide +kernel
theorem dX4_tideAfter_48 : decode cX4_tideAfter 48 = .ok (.ireturn, 1) := by decide +kernel
set_option maxRecDepth 20000 in
theorem ggX4_pull_X4_eclipsesAt : GoodIn wsX4_pull wsX4_eclipsesAt := goodIn_ca (goodIn_r _ [5, 6, 7, 8, 9, 10, 11, 12, 13, 14, 4, 15, 16, 17, 18, 19, 20, 21, 22, 23, 24] (by decide +kernel) (by decide +kernel)) (goodIn_sub (fun _ h => List.mem_cons_of_mem _ (List.mem_append_right _ h)) (by decide +kernel))
set_option maxRecDepth 20000 in
theorem gX4_pull_X4_eclipsesAt : GoodIn wsX4_pull (wsV RX4 161 RX4 yX4_eclipsesAt wsX4_eclipsesAt) := goodIn_app (goodIn_of _ (by decide +kernel)) ggX4_pull_X4_eclipsesAt
set_option maxRecDepth 20000 in
theorem ggX4_pull_X4_distance : GoodIn wsX4_pull wsX4_distance := goodIn_r _ [15, 16, 17, 18, 19, 20, 21, 22] (by decide +kernel) (by decide +kernel)
set_option maxRecDepth 20000 in
theorem gX4_pull_X4_distance : GoodIn wsX4_pull (va_wsS RX4 145 yX4_distance wsX4_distance) := goodIn_app (goodIn_of _ (by decide +kernel)) ggX4_pull_X4_distance
theorem dX4_pull_0 : decode cX4_pull 0 = .ok (.aload_n 0, 1) := by decide +kernel
theorem dX4_pull_1 : decode cX4_pull 1 = .ok (.iload_n 2, 1) := by decide +kernel
theorem dX4_pull_2 : decode cX4_pull 2 = .ok (.invokevirtual 161, 3) := by decide +kernel
theorem dX4_pull_5 : decode cX4_pull 5 = .ok (.ifCond .eq 7, 3) := by decide +kernel
theorem dX4_pull_8 : decode cX4_pull 8 = .ok (.iconst 0, 1) := by decide +kernel
theorem dX4_pull_9 : decode cX4_pull 9 = .ok (.goto 12, 3) := by decide +kernel
theorem dX4_pull_12 : decode cX4_pull 12 = .ok (.iload_n 1, 1) := by decide +kernel
theorem dX4_pull_13 : decode cX4_pull 13 = .ok (.iconst 3, 1) := by decide +kernel
theorem dX4_pull_14 : decode cX4_pull 14 = .ok (.iload_n 2, 1) := by decide +kernel
theorem dX4_pull_15 : decode cX4_pull 15 = .ok (.iload_n 3, 1) := by decide +kernel
theorem dX4_pull_16 : decode cX4_pull 16 = .ok (.invokestatic 145, 3) := by decide +kernel
theorem dX4_pull_19 : decode cX4_pull 19 = .ok (.isub, 1) := by decide +kernel
theorem dX4_pull_20 : decode cX4_pull 20 = .ok (.imul, 1) := by decide +kernel
theorem dX4_pull_21 : decode cX4_pull 21 = .ok (.ireturn, 1) := by decide +kernel
set_option maxRecDepth 20000 in
theorem ggX4_damped_X4_isToeAt : GoodIn wsX4_damped wsX4_isToeAt := goodIn_ca (goodIn_r _ [5, 6, 7, 8, 4, 9, 10, 11, 12, 13, 14, 15, 16, 17] (by decide +kernel) (by decide +kernel)) (goodIn_sub (fun _ h => List.mem_cons_of_mem _ (List.mem_append_right _ h)) (by decide +kernel))
set_option maxRecDepth 20000 in
theorem gX4_damped_X4_isToeAt : GoodIn wsX4_damped (wsV RX4 35 RX4 yX4_isToeAt wsX4_isToeAt) := goodIn_app (goodIn_of _ (by decide +kernel)) ggX4_damped_X4_isToeAt
theorem dX4_damped_0 : decode cX4_damped 0 = .ok (.aload_n 0, 1) := by decide +kernel
theorem dX4_damped_1 : decode cX4_damped 1 = .ok (.iload_n 2, 1) := by decide +kernel
theorem dX4_damped_2 : decode cX4_damped 2 = .ok (.invokevirtual 35, 3) := by decide +kernel
theorem dX4_damped_5 : decode cX4_damped 5 = .ok (.ifCond .eq 9, 3) := by decide +kernel
theorem dX4_damped_8 : decode cX4_damped 8 = .ok (.iload_n 1, 1) := by decide +kernel
theorem dX4_damped_9 : decode cX4_damped 9 = .ok (.iconst 2, 1) := by decide +kernel
theorem dX4_damped_10 : decode cX4_damped 10 = .ok (.idiv, 1) := by decide +kernel
theorem dX4_damped_11 : decode cX4_damped 11 = .ok (.goto 4, 3) := by decide +kernel
theorem dX4_damped_14 : decode cX4_damped 14 = .ok (.iload_n 1, 1) := by decide +kernel
theorem dX4_damped_15 : decode cX4_damped 15 = .ok (.ireturn, 1) := by decide +kernel
set_option maxRecDepth 20000 in
theorem ggX4_level_X2_at : GoodIn wsX4_level wsX2_at := goodIn_ca (goodIn_r _ [10, 11, 74] (by decide +kernel) (by decide +kernel)) (goodIn_sub (fun _ h => List.mem_cons_of_mem _ (List.mem_append_left _ (List.mem_append_right _ h))) (by decide +kernel))
set_option maxRecDepth 20000 in
theorem gX4_level_X2_at : GoodIn wsX4_level (wsV RX4 106 RX2 yX2_at wsX2_at) := goodIn_app (goodIn_of _ (by decide +kernel)) ggX4_level_X2_at
set_option maxRecDepth 20000 in
theorem ggX4_level_X4_tideAfter : GoodIn wsX4_level wsX4_tideAfter := goodIn_ca (goodIn_ca (goodIn_r _ [16, 17, 18, 19, 15, 20, 1, 6, 7, 8, 9, 10, 11, 21, 22, 23, 24, 2, 3, 4, 5, 25, 26, 27, 28, 29, 30, 31, 32, 33, 34, 35, 36, 37, 38, 39, 40, 41, 42, 43, 44, 45, 46, 47, 48, 49, 50, 51, 52, 53, 54, 55, 56, 57, 58, 59, 60, 61, 62, 63, 64, 65, 66, 67, 68, 69, 70, 71, 72, 73, 74] (by decide +kernel) (by decide +kernel)) (goodIn_sub (fun _ h => List.mem_cons_of_mem _ (List.mem_append_left _ (List.mem_append_right _ h))) (by decide +kernel))) (goodIn_sub (fun _ h => List.mem_cons_of_mem _ (List.mem_append_right _ h)) (by decide +kernel))
set_option maxRecDepth 20000 in
theorem gX4_level_X4_tideAfter : GoodIn wsX4_level (wsV RX4 164 RX4 yX4_tideAfter wsX4_tideAfter) := goodIn_app (goodIn_of _ (by decide +kernel)) ggX4_level_X4_tideAfter
theorem dX4_level_0 : decode cX4_level 0 = .ok (.iconst 0, 1) := by decide +kernel
theorem dX4_level_1 : decode cX4_level 1 = .ok (.aload_n 0, 1) := by decide +kernel
theorem dX4_level_2 : decode cX4_level 2 = .ok (.getfield 16, 3) := by decide +kernel
theorem dX4_level_5 : decode cX4_level 5 = .ok (.iconst 1, 1) := by decide +kernel
theorem dX4_level_6 : decode cX4_level 6 = .ok (.invokevirtual 106, 3) := by decide +kernel
theorem dX4_level_9 : decode cX4_level 9 = .ok (.aload_n 0, 1) := by decide +kernel
theorem dX4_level_10 : decode cX4_level 10 = .ok (.iload_n 1, 1) := by decide +kernel
theorem dX4_level_11 : decode cX4_level 11 = .ok (.iconst 0, 1) := by decide +kernel
theorem dX4_level_12 : decode cX4_level 12 = .ok (.invokevirtual 164, 3) := by decide +kernel
theorem dX4_level_15 : decode cX4_level 15 = .ok (.iadd, 1) := by decide +kernel
theorem dX4_level_16 : decode cX4_level 16 = .ok (.invokestatic 125, 3) := by decide +kernel
theorem dX4_level_19 : decode cX4_level 19 = .ok (.ireturn, 1) := by decide +kernel
set_option maxRecDepth 20000 in
theorem ggX4_keepsWater_X2_at : GoodIn wsX4_keepsWater wsX2_at := goodIn_ca (goodIn_r _ [6, 7, 18] (by decide +kernel) (by decide +kernel)) (goodIn_sub (fun _ h => List.mem_cons_of_mem _ (List.mem_append_right _ h)) (by decide +kernel))
set_option maxRecDepth 20000 in
theorem gX4_keepsWater_X2_at : GoodIn wsX4_keepsWater (wsV RX4 106 RX2 yX2_at wsX2_at) := goodIn_app (goodIn_of _ (by decide +kernel)) ggX4_keepsWater_X2_at
set_option maxRecDepth 20000 in
theorem ggX4_keepsWater_X4_towels : GoodIn wsX4_keepsWater wsX4_towels := goodIn_ca (goodIn_r _ [12, 1, 2, 3, 4, 5, 6, 7, 17, 18] (by decide +kernel) (by decide +kernel)) (goodIn_sub (fun _ h => List.mem_cons_of_mem _ (List.mem_append_right _ h)) (by decide +kernel))
set_option maxRecDepth 20000 in
theorem gX4_keepsWater_X4_towels : GoodIn wsX4_keepsWater (wsV RX4 32 RX4 yX4_towels wsX4_towels) := goodIn_app (goodIn_of _ (by decide +kernel)) ggX4_keepsWater_X4_towels
set_option maxRecDepth 20000 in
theorem ggX4_keepsWater_X4_ofTowel : GoodIn wsX4_keepsWater wsX4_ofTowel := goodIn_ca (goodIn_r _ [16, 1, 2, 3, 4, 5, 6, 7, 17, 18] (by decide +kernel) (by decide +kernel)) (goodIn_sub (fun _ h => List.mem_cons_of_mem _ (List.mem_append_right _ h)) (by decide +kernel))
set_option maxRecDepth 20000 in
theorem gX4_keepsWater_X4_ofTowel : GoodIn wsX4_keepsWater (wsV RX4 133 RX4 yX4_ofTowel wsX4_ofTowel) := goodIn_app (goodIn_of _ (by decide +kernel)) ggX4_keepsWater_X4_ofTowel
theorem dX4_keepsWater_0 : decode cX4_keepsWater 0 = .ok (.aload_n 0, 1) := by decide +kernel
theorem dX4_keepsWater_1 : decode cX4_keepsWater 1 = .ok (.getfield 16, 3) := by decide +kernel
theorem dX4_keepsWater_4 : decode cX4_keepsWater 4 = .ok (.iconst 1, 1) := by decide +kernel
theorem dX4_keepsWater_5 : decode cX4_keepsWater 5 = .ok (.invokevirtual 106, 3) := by decide +kernel
theorem dX4_keepsWater_8 : decode cX4_keepsWater 8 = .ok (.aload_n 0, 1) := by decide +kernel
theorem dX4_keepsWater_9 : decode cX4_keepsWater 9 = .ok (.getfield 16, 3) := by decide +kernel
theorem dX4_keepsWater_12 : decode cX4_keepsWater 12 = .ok (.iconst 3, 1) := by decide +kernel
theorem dX4_keepsWater_13 : decode cX4_keepsWater 13 = .ok (.invokevirtual 106, 3) := by decide +kernel
theorem dX4_keepsWater_16 : decode cX4_keepsWater 16 = .ok (.iadd, 1) := by decide +kernel
theorem dX4_keepsWater_17 : decode cX4_keepsWater 17 = .ok (.istore_n 1, 1) := by decide +kernel
theorem dX4_keepsWater_18 : decode cX4_keepsWater 18 = .ok (.iconst 0, 1) := by decide +kernel
theorem dX4_keepsWater_19 : decode cX4_keepsWater 19 = .ok (.istore_n 2, 1) := by decide +kernel
theorem dX4_keepsWater_20 : decode cX4_keepsWater 20 = .ok (.iload_n 2, 1) := by decide +kernel
theorem dX4_keepsWater_21 : decode cX4_keepsWater 21 = .ok (.aload_n 0, 1) := by decide +kernel
theorem dX4_keepsWater_22 : decode cX4_keepsWater 22 = .ok (.invokevirtual 32, 3) := by decide +kernel
theorem dX4_keepsWater_25 : decode cX4_keepsWater 25 = .ok (.if_icmp .ge 18, 3) := by decide +kernel
theorem dX4_keepsWater_28 : decode cX4_keepsWater 28 = .ok (.iload_n 1, 1) := by decide +kernel
theorem dX4_keepsWater_29 : decode cX4_keepsWater 29 = .ok (.aload_n 0, 1) := by decide +kernel
theorem dX4_keepsWater_30 : decode cX4_keepsWater 30 = .ok (.iload_n 2, 1) := by decide +kernel
theorem dX4_keepsWater_31 : decode cX4_keepsWater 31 = .ok (.iconst 2, 1) := by decide +kernel
theorem dX4_keepsWater_32 : decode cX4_keepsWater 32 = .ok (.invokevirtual 133, 3) := by decide +kernel
theorem dX4_keepsWater_35 : decode cX4_keepsWater 35 = .ok (.iadd, 1) := by decide +kernel
theorem dX4_keepsWater_36 : decode cX4_keepsWater 36 = .ok (.istore_n 1, 1) := by decide +kernel
theorem dX4_keepsWater_37 : decode cX4_keepsWater 37 = .ok (.iinc 2 1, 3) := by decide +kernel
theorem dX4_keepsWater_40 : decode cX4_keepsWater 40 = .ok (.goto (-20), 3) := by decide +kernel
theorem dX4_keepsWater_43 : decode cX4_keepsWater 43 = .ok (.bipush 20, 2) := by decide +kernel
theorem dX4_keepsWater_45 : decode cX4_keepsWater 45 = .ok (.aload_n 0, 1) := by decide +kernel
theorem dX4_keepsWater_46 : decode cX4_keepsWater 46 = .ok (.getfield 16, 3) := by decide +kernel
theorem dX4_keepsWater_49 : decode cX4_keepsWater 49 = .ok (.iconst 4, 1) := by decide +kernel
theorem dX4_keepsWater_50 : decode cX4_keepsWater 50 = .ok (.invokevirtual 106, 3) := by decide +kernel
theorem dX4_keepsWater_53 : decode cX4_keepsWater 53 = .ok (.iadd, 1) := by decide +kernel
theorem dX4_keepsWater_54 : decode cX4_keepsWater 54 = .ok (.iload_n 1, 1) := by decide +kernel
theorem dX4_keepsWater_55 : decode cX4_keepsWater 55 = .ok (.if_icmp .ne 7, 3) := by decide +kernel
theorem dX4_keepsWater_58 : decode cX4_keepsWater 58 = .ok (.iconst 1, 1) := by decide +kernel
theorem dX4_keepsWater_59 : decode cX4_keepsWater 59 = .ok (.goto 4, 3) := by decide +kernel
theorem dX4_keepsWater_62 : decode cX4_keepsWater 62 = .ok (.iconst 0, 1) := by decide +kernel
theorem dX4_keepsWater_63 : decode cX4_keepsWater 63 = .ok (.ireturn, 1) := by decide +kernel
set_option maxRecDepth 20000 in
theorem ggX4_pass_X2_add : GoodIn wsX4_pass wsX2_add := goodIn_ca (goodIn_r _ [6, 7, 8, 9, 5, 10, 11, 12, 13, 14, 15, 104] (by decide +kernel) (by decide +kernel)) (goodIn_sub (fun _ h => List.mem_cons_of_mem _ (List.mem_append_left _ (List.mem_append_right _ h))) (by decide +kernel))
set_option maxRecDepth 20000 in
theorem gX4_pass_X2_add : GoodIn wsX4_pass (wsV RX4 139 RX2 yX2_add wsX2_add) := goodIn_app (goodIn_of _ (by decide +kernel)) ggX4_pass_X2_add
set_option maxRecDepth 20000 in
theorem ggX4_pass_X4_runTaps : GoodIn wsX4_pass wsX4_runTaps := goodIn_ca (goodIn_r _ [20, 1, 21, 22, 23, 24, 25, 26, 27, 28, 8, 9, 5, 10, 11, 29, 13, 14, 15, 2, 3, 4, 6, 7, 12, 103, 104] (by decide +kernel) (by decide +kernel)) (goodIn_sub (fun _ h => List.mem_cons_of_mem _ (List.mem_append_left _ (List.mem_append_right _ h))) (by decide +kernel))
set_option maxRecDepth 20000 in
theorem gX4_pass_X4_runTaps : GoodIn wsX4_pass (wsV RX4 167 RX4 yX4_runTaps wsX4_runTaps) := goodIn_app (goodIn_of _ (by decide +kernel)) ggX4_pass_X4_runTaps
set_option maxRecDepth 20000 in
theorem ggX4_pass_X4_towels : GoodIn wsX4_pass wsX4_towels := goodIn_ca (goodIn_r _ [33, 1, 28, 8, 9, 5, 10, 11, 103, 104] (by decide +kernel) (by decide +kernel)) (goodIn_sub (fun _ h => List.mem_cons_of_mem _ (List.mem_append_left _ (List.mem_append_right _ h))) (by decide +kernel))
set_option maxRecDepth 20000 in
theorem gX4_pass_X4_towels : GoodIn wsX4_pass (wsV RX4 32 RX4 yX4_towels wsX4_towels) := goodIn_app (goodIn_of _ (by decide +kernel)) ggX4_pass_X4_towels
set_option maxRecDepth 20000 in
theorem ggX4_pass_X4_ofTowel : GoodIn wsX4_pass wsX4_ofTowel := goodIn_ca (goodIn_r _ [37, 1, 28, 8, 9, 5, 10, 11, 103, 104] (by decide +kernel) (by decide +kernel)) (goodIn_sub (fun _ h => List.mem_cons_of_mem _ (List.mem_append_left _ (List.mem_append_right _ h))) (by decide +kernel))
set_option maxRecDepth 20000 in
theorem gX4_pass_X4_ofTowel : GoodIn wsX4_pass (wsV RX4 133 RX4 yX4_ofTowel wsX4_ofTowel) := goodIn_app (goodIn_of _ (by decide +kernel)) ggX4_pass_X4_ofTowel
set_option maxRecDepth 20000 in
theorem ggX4_pass_X4_tideAfter : GoodIn wsX4_pass wsX4_tideAfter := goodIn_ca (goodIn_ca (goodIn_r _ [41, 42, 43, 44, 19, 45, 1, 28, 8, 9, 5, 10, 11, 46, 47, 48, 49, 25, 26, 23, 27, 50, 51, 52, 53, 54, 55, 56, 57, 58, 59, 60, 61, 62, 63, 64, 65, 66, 67, 68, 69, 70, 71, 72, 73, 74, 75, 76, 77, 78, 79, 80, 81, 82, 83, 21, 22, 24, 84, 85, 86, 87, 88, 89, 90, 91, 92, 93, 94, 103, 104] (by decide +kernel) (by decide +kernel)) (goodIn_sub (fun _ h => List.mem_cons_of_mem _ (List.mem_append_left _ (List.mem_append_right _ h))) (by decide +kernel))) (goodIn_sub (fun _ h => List.mem_cons_of_mem _ (List.mem_append_right _ h)) (by decide +kernel))
set_option maxRecDepth 20000 in
theorem gX4_pass_X4_tideAfter : GoodIn wsX4_pass (wsV RX4 164 RX4 yX4_tideAfter wsX4_tideAfter) := goodIn_app (goodIn_of _ (by decide +kernel)) ggX4_pass_X4_tideAfter
set_option maxRecDepth 20000 in
theorem ggX4_pass_X4_isFlooded : GoodIn wsX4_pass wsX4_isFlooded := goodIn_ca (goodIn_r _ [98, 1, 28, 8, 9, 5, 10, 11, 34, 35, 36, 19, 37, 103, 104] (by decide +kernel) (by decide +kernel)) (goodIn_sub (fun _ h => List.mem_cons_of_mem _ (List.mem_append_left _ (List.mem_append_right _ h))) (by decide +kernel))
set_option maxRecDepth 20000 in
theorem gX4_pass_X4_isFlooded : GoodIn wsX4_pass (wsV RX4 170 RX4 yX4_isFlooded wsX4_isFlooded) := goodIn_app (goodIn_of _ (by decide +kernel)) ggX4_pass_X4_isFlooded
set_option maxRecDepth 20000 in
theorem ggX4_pass_X4_soak : GoodIn wsX4_pass wsX4_soak := goodIn_ca (goodIn_r _ [102, 1, 2, 3, 4, 5, 6, 7, 8, 9, 10, 11, 12, 13, 14, 15, 103, 104] (by decide +kernel) (by decide +kernel)) (goodIn_sub (fun _ h => List.mem_cons_of_mem _ (List.mem_append_left _ (List.mem_append_right _ h))) (by decide +kernel))
set_option maxRecDepth 20000 in
theorem gX4_pass_X4_soak : GoodIn wsX4_pass (wsV RX4 174 RX4 yX4_soak wsX4_soak) := goodIn_app (goodIn_of _ (by decide +kernel)) ggX4_pass_X4_soak
theorem dX4_pass_0 : decode cX4_pass 0 = .ok (.iconst 0, 1) := by decide +kernel
theorem dX4_pass_1 : decode cX4_pass 1 = .ok (.istore_n 2, 1) := by decide +kernel
theorem dX4_pass_2 : decode cX4_pass 2 = .ok (.iconst 0, 1) := by decide +kernel
theorem dX4_pass_3 : decode cX4_pass 3 = .ok (.istore_n 3, 1) := by decide +kernel
theorem dX4_pass_4 : decode cX4_pass 4 = .ok (.iload_n 3, 1) := by decide +kernel
theorem dX4_pass_5 : decode cX4_pass 5 = .ok (.iload_n 1, 1) := by decide +kernel
theorem dX4_pass_6 : decode cX4_pass 6 = .ok (.if_icmp .ge 70, 3) := by decide +kernel
theorem dX4_pass_9 : decode cX4_pass 9 = .ok (.aload_n 0, 1) := by decide +kernel
theorem dX4_pass_10 : decode cX4_pass 10 = .ok (.getfield 16, 3) := by decide +kernel
theorem dX4_pass_13 : decode cX4_pass 13 = .ok (.iconst 0, 1) := by decide +kernel
theorem dX4_pass_14 : decode cX4_pass 14 = .ok (.iconst 1, 1) := by decide +kernel
theorem dX4_pass_15 : decode cX4_pass 15 = .ok (.invokevirtual 139, 3) := by decide +kernel
theorem dX4_pass_18 : decode cX4_pass 18 = .ok (.aload_n 0, 1) := by decide +kernel
theorem dX4_pass_19 : decode cX4_pass 19 = .ok (.invokevirtual 167, 3) := by decide +kernel
theorem dX4_pass_22 : decode cX4_pass 22 = .ok (.iconst 0, 1) := by decide +kernel
theorem dX4_pass_23 : decode cX4_pass 23 = .ok (.istore 4, 2) := by decide +kernel
theorem dX4_pass_25 : decode cX4_pass 25 = .ok (.iload 4, 2) := by decide +kernel
theorem dX4_pass_27 : decode cX4_pass 27 = .ok (.aload_n 0, 1) := by decide +kernel
theorem dX4_pass_28 : decode cX4_pass 28 = .ok (.invokevirtual 32, 3) := by decide +kernel
theorem dX4_pass_31 : decode cX4_pass 31 = .ok (.if_icmp .ge 39, 3) := by decide +kernel
theorem dX4_pass_34 : decode cX4_pass 34 = .ok (.aload_n 0, 1) := by decide +kernel
theorem dX4_pass_35 : decode cX4_pass 35 = .ok (.iload 4, 2) := by decide +kernel
theorem dX4_pass_37 : decode cX4_pass 37 = .ok (.aload_n 0, 1) := by decide +kernel
theorem dX4_pass_38 : decode cX4_pass 38 = .ok (.aload_n 0, 1) := by decide +kernel
theorem dX4_pass_39 : decode cX4_pass 39 = .ok (.iload 4, 2) := by decide +kernel
theorem dX4_pass_41 : decode cX4_pass 41 = .ok (.iconst 0, 1) := by decide +kernel
theorem dX4_pass_42 : decode cX4_pass 42 = .ok (.invokevirtual 133, 3) := by decide +kernel
theorem dX4_pass_45 : decode cX4_pass 45 = .ok (.iconst 0, 1) := by decide +kernel
theorem dX4_pass_46 : decode cX4_pass 46 = .ok (.invokevirtual 164, 3) := by decide +kernel
theorem dX4_pass_49 : decode cX4_pass 49 = .ok (.invokevirtual 170, 3) := by decide +kernel
theorem dX4_pass_52 : decode cX4_pass 52 = .ok (.ifCond .eq 12, 3) := by decide +kernel
theorem dX4_pass_55 : decode cX4_pass 55 = .ok (.aload_n 0, 1) := by decide +kernel
theorem dX4_pass_56 : decode cX4_pass 56 = .ok (.iload 4, 2) := by decide +kernel
theorem dX4_pass_58 : decode cX4_pass 58 = .ok (.invokevirtual 174, 3) := by decide +kernel
theorem dX4_pass_61 : decode cX4_pass 61 = .ok (.iinc 2 1, 3) := by decide +kernel
theorem dX4_pass_64 : decode cX4_pass 64 = .ok (.iinc 4 1, 3) := by decide +kernel
theorem dX4_pass_67 : decode cX4_pass 67 = .ok (.goto (-42), 3) := by decide +kernel
theorem dX4_pass_70 : decode cX4_pass 70 = .ok (.iinc 3 1, 3) := by decide +kernel
theorem dX4_pass_73 : decode cX4_pass 73 = .ok (.goto (-69), 3) := by decide +kernel
theorem dX4_pass_76 : decode cX4_pass 76 = .ok (.iload_n 2, 1) := by decide +kernel
theorem dX4_pass_77 : decode cX4_pass 77 = .ok (.ireturn, 1) := by decide +kernel
set_option maxRecDepth 20000 in
theorem ggX4_runTaps_X2_at : GoodIn wsX4_runTaps wsX2_at := goodIn_ca (goodIn_r _ [13, 14, 26] (by decide +kernel) (by decide +kernel)) (goodIn_sub (fun _ h => List.mem_cons_of_mem _ (List.mem_append_right _ h)) (by decide +kernel))
set_option maxRecDepth 20000 in
theorem gX4_runTaps_X2_at : GoodIn wsX4_runTaps (wsV RX4 106 RX2 yX2_at wsX2_at) := goodIn_app (goodIn_of _ (by decide +kernel)) ggX4_runTaps_X2_at
set_option maxRecDepth 20000 in
theorem ggX4_runTaps_X2_put : GoodIn wsX4_runTaps wsX2_put := goodIn_ca (goodIn_r _ [18, 14, 26] (by decide +kernel) (by decide +kernel)) (goodIn_sub (fun _ h => List.mem_cons_of_mem _ (List.mem_append_right _ h)) (by decide +kernel))
set_option maxRecDepth 20000 in
theorem gX4_runTaps_X2_put : GoodIn wsX4_runTaps (wsV RX4 20 RX2 yX2_put wsX2_put) := goodIn_app (goodIn_of _ (by decide +kernel)) ggX4_runTaps_X2_put
set_option maxRecDepth 20000 in
theorem ggX4_runTaps_X2_add : GoodIn wsX4_runTaps wsX2_add := goodIn_ca (goodIn_r _ [22, 23, 10, 11, 12, 13, 14, 24, 16, 17, 18, 26] (by decide +kernel) (by decide +kernel)) (goodIn_sub (fun _ h => List.mem_cons_of_mem _ (List.mem_append_right _ h)) (by decide +kernel))
set_option maxRecDepth 20000 in
theorem gX4_runTaps_X2_add : GoodIn wsX4_runTaps (wsV RX4 139 RX2 yX2_add wsX2_add) := goodIn_app (goodIn_of _ (by decide +kernel)) ggX4_runTaps_X2_add
theorem dX4_runTaps_0 : decode cX4_runTaps 0 = .ok (.aload_n 0, 1) := by decide +kernel
theorem dX4_runTaps_1 : decode cX4_runTaps 1 = .ok (.getfield 16, 3) := by decide +kernel
theorem dX4_runTaps_4 : decode cX4_runTaps 4 = .ok (.iconst 0, 1) := by decide +kernel
theorem dX4_runTaps_5 : decode cX4_runTaps 5 = .ok (.invokevirtual 106, 3) := by decide +kernel
theorem dX4_runTaps_8 : decode cX4_runTaps 8 = .ok (.bipush 12, 2) := by decide +kernel
theorem dX4_runTaps_10 : decode cX4_runTaps 10 = .ok (.irem, 1) := by decide +kernel
theorem dX4_runTaps_11 : decode cX4_runTaps 11 = .ok (.ifCond .eq 4, 3) := by decide +kernel
theorem dX4_runTaps_14 : decode cX4_runTaps 14 = .ok (.return_, 1) := by decide +kernel
theorem dX4_runTaps_15 : decode cX4_runTaps 15 = .ok (.aload_n 0, 1) := by decide +kernel
theorem dX4_runTaps_16 : decode cX4_runTaps 16 = .ok (.getfield 16, 3) := by decide +kernel
theorem dX4_runTaps_19 : decode cX4_runTaps 19 = .ok (.iconst 1, 1) := by decide +kernel
theorem dX4_runTaps_20 : decode cX4_runTaps 20 = .ok (.invokevirtual 106, 3) := by decide +kernel
theorem dX4_runTaps_23 : decode cX4_runTaps 23 = .ok (.istore_n 1, 1) := by decide +kernel
theorem dX4_runTaps_24 : decode cX4_runTaps 24 = .ok (.iconst 0, 1) := by decide +kernel
theorem dX4_runTaps_25 : decode cX4_runTaps 25 = .ok (.bipush 40, 2) := by decide +kernel
theorem dX4_runTaps_27 : decode cX4_runTaps 27 = .ok (.iload_n 1, 1) := by decide +kernel
theorem dX4_runTaps_28 : decode cX4_runTaps 28 = .ok (.aload_n 0, 1) := by decide +kernel
theorem dX4_runTaps_29 : decode cX4_runTaps 29 = .ok (.getfield 16, 3) := by decide +kernel
theorem dX4_runTaps_32 : decode cX4_runTaps 32 = .ok (.iconst 2, 1) := by decide +kernel
theorem dX4_runTaps_33 : decode cX4_runTaps 33 = .ok (.invokevirtual 106, 3) := by decide +kernel
theorem dX4_runTaps_36 : decode cX4_runTaps 36 = .ok (.iadd, 1) := by decide +kernel
theorem dX4_runTaps_37 : decode cX4_runTaps 37 = .ok (.invokestatic 136, 3) := by decide +kernel
theorem dX4_runTaps_40 : decode cX4_runTaps 40 = .ok (.invokestatic 125, 3) := by decide +kernel
theorem dX4_runTaps_43 : decode cX4_runTaps 43 = .ok (.istore_n 2, 1) := by decide +kernel
theorem dX4_runTaps_44 : decode cX4_runTaps 44 = .ok (.aload_n 0, 1) := by decide +kernel
theorem dX4_runTaps_45 : decode cX4_runTaps 45 = .ok (.getfield 16, 3) := by decide +kernel
theorem dX4_runTaps_48 : decode cX4_runTaps 48 = .ok (.iconst 1, 1) := by decide +kernel
theorem dX4_runTaps_49 : decode cX4_runTaps 49 = .ok (.iload_n 2, 1) := by decide +kernel
theorem dX4_runTaps_50 : decode cX4_runTaps 50 = .ok (.invokevirtual 20, 3) := by decide +kernel
theorem dX4_runTaps_53 : decode cX4_runTaps 53 = .ok (.aload_n 0, 1) := by decide +kernel
theorem dX4_runTaps_54 : decode cX4_runTaps 54 = .ok (.getfield 16, 3) := by decide +kernel
theorem dX4_runTaps_57 : decode cX4_runTaps 57 = .ok (.iconst 4, 1) := by decide +kernel
theorem dX4_runTaps_58 : decode cX4_runTaps 58 = .ok (.iload_n 2, 1) := by decide +kernel
theorem dX4_runTaps_59 : decode cX4_runTaps 59 = .ok (.iload_n 1, 1) := by decide +kernel
theorem dX4_runTaps_60 : decode cX4_runTaps 60 = .ok (.isub, 1) := by decide +kernel
theorem dX4_runTaps_61 : decode cX4_runTaps 61 = .ok (.invokevirtual 139, 3) := by decide +kernel
theorem dX4_runTaps_64 : decode cX4_runTaps 64 = .ok (.return_, 1) := by decide +kernel
set_option maxRecDepth 20000 in
theorem ggX4_isFlooded_X2_at : GoodIn wsX4_isFlooded wsX2_at := goodIn_ca (goodIn_r _ [6, 7, 14] (by decide +kernel) (by decide +kernel)) (goodIn_sub (fun _ h => List.mem_cons_of_mem _ (List.mem_append_right _ h)) (by decide +kernel))
set_option maxRecDepth 20000 in
theorem gX4_isFlooded_X2_at : GoodIn wsX4_isFlooded (wsV RX4 106 RX2 yX2_at wsX2_at) := goodIn_app (goodIn_of _ (by decide +kernel)) ggX4_isFlooded_X2_at
set_option maxRecDepth 20000 in
theorem ggX4_isFlooded_X4_ofTowel : GoodIn wsX4_isFlooded wsX4_ofTowel := goodIn_ca (goodIn_r _ [12, 1, 2, 3, 4, 5, 6, 7, 13, 14] (by decide +kernel) (by decide +kernel)) (goodIn_sub (fun _ h => List.mem_cons_of_mem _ (List.mem_append_right _ h)) (by decide +kernel))
set_option maxRecDepth 20000 in
theorem gX4_isFlooded_X4_ofTowel : GoodIn wsX4_isFlooded (wsV RX4 133 RX4 yX4_ofTowel wsX4_ofTowel) := goodIn_app (goodIn_of _ (by decide +kernel)) ggX4_isFlooded_X4_ofTowel
theorem dX4_isFlooded_0 : decode cX4_isFlooded 0 = .ok (.aload_n 0, 1) := by decide +kernel
theorem dX4_isFlooded_1 : decode cX4_isFlooded 1 = .ok (.getfield 16, 3) := by decide +kernel
theorem dX4_isFlooded_4 : decode cX4_isFlooded 4 = .ok (.iconst 1, 1) := by decide +kernel
theorem dX4_isFlooded_5 : decode cX4_isFlooded 5 = .ok (.invokevirtual 106, 3) := by decide +kernel
theorem dX4_isFlooded_8 : decode cX4_isFlooded 8 = .ok (.istore_n 3, 1) := by decide +kernel
theorem dX4_isFlooded_9 : decode cX4_isFlooded 9 = .ok (.iload_n 3, 1) := by decide +kernel
theorem dX4_isFlooded_10 : decode cX4_isFlooded 10 = .ok (.iload_n 2, 1) := by decide +kernel
theorem dX4_isFlooded_11 : decode cX4_isFlooded 11 = .ok (.iadd, 1) := by decide +kernel
theorem dX4_isFlooded_12 : decode cX4_isFlooded 12 = .ok (.aload_n 0, 1) := by decide +kernel
theorem dX4_isFlooded_13 : decode cX4_isFlooded 13 = .ok (.iload_n 1, 1) := by decide +kernel
theorem dX4_isFlooded_14 : decode cX4_isFlooded 14 = .ok (.iconst 1, 1) := by decide +kernel
theorem dX4_isFlooded_15 : decode cX4_isFlooded 15 = .ok (.invokevirtual 133, 3) := by decide +kernel
theorem dX4_isFlooded_18 : decode cX4_isFlooded 18 = .ok (.if_icmp .le 22, 3) := by decide +kernel
theorem dX4_isFlooded_21 : decode cX4_isFlooded 21 = .ok (.aload_n 0, 1) := by decide +kernel
theorem dX4_isFlooded_22 : decode cX4_isFlooded 22 = .ok (.iload_n 1, 1) := by decide +kernel
theorem dX4_isFlooded_23 : decode cX4_isFlooded 23 = .ok (.iconst 2, 1) := by decide +kernel
theorem dX4_isFlooded_24 : decode cX4_isFlooded 24 = .ok (.invokevirtual 133, 3) := by decide +kernel
theorem dX4_isFlooded_27 : decode cX4_isFlooded 27 = .ok (.iconst 5, 1) := by decide +kernel
theorem dX4_isFlooded_28 : decode cX4_isFlooded 28 = .ok (.if_icmp .ge 12, 3) := by decide +kernel
theorem dX4_isFlooded_31 : decode cX4_isFlooded 31 = .ok (.iload_n 3, 1) := by decide +kernel
theorem dX4_isFlooded_32 : decode cX4_isFlooded 32 = .ok (.iconst 1, 1) := by decide +kernel
theorem dX4_isFlooded_33 : decode cX4_isFlooded 33 = .ok (.if_icmp .lt 7, 3) := by decide +kernel
theorem dX4_isFlooded_36 : decode cX4_isFlooded 36 = .ok (.iconst 1, 1) := by decide +kernel
theorem dX4_isFlooded_37 : decode cX4_isFlooded 37 = .ok (.goto 4, 3) := by decide +kernel
theorem dX4_isFlooded_40 : decode cX4_isFlooded 40 = .ok (.iconst 0, 1) := by decide +kernel
theorem dX4_isFlooded_41 : decode cX4_isFlooded 41 = .ok (.ireturn, 1) := by decide +kernel
set_option maxRecDepth 20000 in
theorem ggX4_soak_X2_add : GoodIn wsX4_soak wsX2_add := goodIn_ca (goodIn_r _ [6, 7, 8, 9, 5, 10, 11, 12, 13, 14, 15, 17] (by decide +kernel) (by decide +kernel)) (goodIn_sub (fun _ h => List.mem_cons_of_mem _ (List.mem_append_right _ h)) (by decide +kernel))
set_option maxRecDepth 20000 in
theorem gX4_soak_X2_add : GoodIn wsX4_soak (wsV RX4 139 RX2 yX2_add wsX2_add) := goodIn_app (goodIn_of _ (by decide +kernel)) ggX4_soak_X2_add
theorem dX4_soak_0 : decode cX4_soak 0 = .ok (.bipush 45, 2) := by decide +kernel
theorem dX4_soak_2 : decode cX4_soak 2 = .ok (.iload_n 1, 1) := by decide +kernel
theorem dX4_soak_3 : decode cX4_soak 3 = .ok (.iconst 4, 1) := by decide +kernel
theorem dX4_soak_4 : decode cX4_soak 4 = .ok (.imul, 1) := by decide +kernel
theorem dX4_soak_5 : decode cX4_soak 5 = .ok (.iadd, 1) := by decide +kernel
theorem dX4_soak_6 : decode cX4_soak 6 = .ok (.istore_n 2, 1) := by decide +kernel
theorem dX4_soak_7 : decode cX4_soak 7 = .ok (.aload_n 0, 1) := by decide +kernel
theorem dX4_soak_8 : decode cX4_soak 8 = .ok (.getfield 16, 3) := by decide +kernel
theorem dX4_soak_11 : decode cX4_soak 11 = .ok (.iload_n 2, 1) := by decide +kernel
theorem dX4_soak_12 : decode cX4_soak 12 = .ok (.iconst 2, 1) := by decide +kernel
theorem dX4_soak_13 : decode cX4_soak 13 = .ok (.iadd, 1) := by decide +kernel
theorem dX4_soak_14 : decode cX4_soak 14 = .ok (.iconst 1, 1) := by decide +kernel
theorem dX4_soak_15 : decode cX4_soak 15 = .ok (.invokevirtual 139, 3) := by decide +kernel
theorem dX4_soak_18 : decode cX4_soak 18 = .ok (.aload_n 0, 1) := by decide +kernel
theorem dX4_soak_19 : decode cX4_soak 19 = .ok (.getfield 16, 3) := by decide +kernel
theorem dX4_soak_22 : decode cX4_soak 22 = .ok (.iload_n 2, 1) := by decide +kernel
theorem dX4_soak_23 : decode cX4_soak 23 = .ok (.iconst 3, 1) := by decide +kernel
theorem dX4_soak_24 : decode cX4_soak 24 = .ok (.iadd, 1) := by decide +kernel
theorem dX4_soak_25 : decode cX4_soak 25 = .ok (.iconst 1, 1) := by decide +kernel
theorem dX4_soak_26 : decode cX4_soak 26 = .ok (.invokevirtual 139, 3) := by decide +kernel
theorem dX4_soak_29 : decode cX4_soak 29 = .ok (.aload_n 0, 1) := by decide +kernel
theorem dX4_soak_30 : decode cX4_soak 30 = .ok (.getfield 16, 3) := by decide +kernel
theorem dX4_soak_33 : decode cX4_soak 33 = .ok (.iconst 1, 1) := by decide +kernel
theorem dX4_soak_34 : decode cX4_soak 34 = .ok (.iconst (-1), 1) := by decide +kernel
theorem dX4_soak_35 : decode cX4_soak 35 = .ok (.invokevirtual 139, 3) := by decide +kernel
theorem dX4_soak_38 : decode cX4_soak 38 = .ok (.return_, 1) := by decide +kernel
