theorem dX6_init_0 : decode cX6_init 0 = .ok (.aload_n 0, 1) := by decide +kernel
theorem dX6_init_1 : decode cX6_init 1 = .ok (.invokespecial 3, 3) := by decide +kernel
theorem dX6_init_4 : decode cX6_init 4 = .ok (.aload_n 0, 1) := by decide +kernel
theorem dX6_init_5 : decode cX6_init 5 = .ok (.bipush 60, 2) := by decide +kernel
theorem dX6_init_7 : decode cX6_init 7 = .ok (.newarray .int, 2) := by decide +kernel
theorem dX6_init_9 : decode cX6_init 9 = .ok (.putfield 9, 3) := by decide +kernel
theorem dX6_init_12 : decode cX6_init 12 = .ok (.aload_n 0, 1) := by decide +kernel
theorem dX6_init_13 : decode cX6_init 13 = .ok (.bipush 60, 2) := by decide +kernel
theorem dX6_init_15 : decode cX6_init 15 = .ok (.newarray .int, 2) := by decide +kernel
theorem dX6_init_17 : decode cX6_init 17 = .ok (.putfield 13, 3) := by decide +kernel
theorem dX6_init_20 : decode cX6_init 20 = .ok (.aload_n 0, 1) := by decide +kernel
theorem dX6_init_21 : decode cX6_init 21 = .ok (.bipush 60, 2) := by decide +kernel
theorem dX6_init_23 : decode cX6_init 23 = .ok (.newarray .int, 2) := by decide +kernel
theorem dX6_init_25 : decode cX6_init 25 = .ok (.putfield 16, 3) := by decide +kernel
theorem dX6_init_28 : decode cX6_init 28 = .ok (.aload_n 0, 1) := by decide +kernel
theorem dX6_init_29 : decode cX6_init 29 = .ok (.sipush 480, 3) := by decide +kernel
theorem dX6_init_32 : decode cX6_init 32 = .ok (.newarray .int, 2) := by decide +kernel
theorem dX6_init_34 : decode cX6_init 34 = .ok (.putfield 19, 3) := by decide +kernel
theorem dX6_init_37 : decode cX6_init 37 = .ok (.aload_n 0, 1) := by decide +kernel
theorem dX6_init_38 : decode cX6_init 38 = .ok (.bipush 90, 2) := by decide +kernel
theorem dX6_init_40 : decode cX6_init 40 = .ok (.newarray .char, 2) := by decide +kernel
theorem dX6_init_42 : decode cX6_init 42 = .ok (.putfield 22, 3) := by decide +kernel
theorem dX6_init_45 : decode cX6_init 45 = .ok (.aload_n 0, 1) := by decide +kernel
theorem dX6_init_46 : decode cX6_init 46 = .ok (.bipush 60, 2) := by decide +kernel
theorem dX6_init_48 : decode cX6_init 48 = .ok (.newarray .char, 2) := by decide +kernel
theorem dX6_init_50 : decode cX6_init 50 = .ok (.putfield 26, 3) := by decide +kernel
theorem dX6_init_53 : decode cX6_init 53 = .ok (.aload_n 0, 1) := by decide +kernel
theorem dX6_init_54 : decode cX6_init 54 = .ok (.iconst (-1), 1) := by decide +kernel
theorem dX6_init_55 : decode cX6_init 55 = .ok (.putfield 29, 3) := by decide +kernel
theorem dX6_init_58 : decode cX6_init 58 = .ok (.aload_n 0, 1) := by decide +kernel
theorem dX6_init_59 : decode cX6_init 59 = .ok (.iconst (-1), 1) := by decide +kernel
theorem dX6_init_60 : decode cX6_init 60 = .ok (.putfield 33, 3) := by decide +kernel
theorem dX6_init_63 : decode cX6_init 63 = .ok (.aload_n 0, 1) := by decide +kernel
theorem dX6_init_64 : decode cX6_init 64 = .ok (.sipush 240, 3) := by decide +kernel
theorem dX6_init_67 : decode cX6_init 67 = .ok (.newarray .int, 2) := by decide +kernel
theorem dX6_init_69 : decode cX6_init 69 = .ok (.putfield 36, 3) := by decide +kernel
theorem dX6_init_72 : decode cX6_init 72 = .ok (.aload_n 0, 1) := by decide +kernel
theorem dX6_init_73 : decode cX6_init 73 = .ok (.getfield 9, 3) := by decide +kernel
theorem dX6_init_76 : decode cX6_init 76 = .ok (.iconst 3, 1) := by decide +kernel
theorem dX6_init_77 : decode cX6_init 77 = .ok (.bipush 20, 2) := by decide +kernel
theorem dX6_init_79 : decode cX6_init 79 = .ok (.iastore, 1) := by decide +kernel
theorem dX6_init_80 : decode cX6_init 80 = .ok (.aload_n 0, 1) := by decide +kernel
theorem dX6_init_81 : decode cX6_init 81 = .ok (.getfield 9, 3) := by decide +kernel
theorem dX6_init_84 : decode cX6_init 84 = .ok (.bipush 6, 2) := by decide +kernel
theorem dX6_init_86 : decode cX6_init 86 = .ok (.iconst (-1), 1) := by decide +kernel
theorem dX6_init_87 : decode cX6_init 87 = .ok (.iastore, 1) := by decide +kernel
theorem dX6_init_88 : decode cX6_init 88 = .ok (.return_, 1) := by decide +kernel
theorem dX6_thrown_0 : decode cX6_thrown 0 = .ok (.aload_n 0, 1) := by decide +kernel
theorem dX6_thrown_1 : decode cX6_thrown 1 = .ok (.getfield 39, 3) := by decide +kernel
theorem dX6_thrown_4 : decode cX6_thrown 4 = .ok (.ireturn, 1) := by decide +kernel
theorem dX6_in_0 : decode cX6_in 0 = .ok (.iload_n 0, 1) := by decide +kernel
theorem dX6_in_1 : decode cX6_in 1 = .ok (.iload_n 1, 1) := by decide +kernel
theorem dX6_in_2 : decode cX6_in 2 = .ok (.if_icmp .lt 12, 3) := by decide +kernel
theorem dX6_in_5 : decode cX6_in 5 = .ok (.iload_n 0, 1) := by decide +kernel
theorem dX6_in_6 : decode cX6_in 6 = .ok (.iload_n 2, 1) := by decide +kernel
theorem dX6_in_7 : decode cX6_in 7 = .ok (.if_icmp .gt 7, 3) := by decide +kernel
theorem dX6_in_10 : decode cX6_in 10 = .ok (.iconst 1, 1) := by decide +kernel
theorem dX6_in_11 : decode cX6_in 11 = .ok (.goto 4, 3) := by decide +kernel
theorem dX6_in_14 : decode cX6_in 14 = .ok (.iconst 0, 1) := by decide +kernel
theorem dX6_in_15 : decode cX6_in 15 = .ok (.ireturn, 1) := by decide +kernel
theorem dX6_keep_0 : decode cX6_keep 0 = .ok (.aload_n 0, 1) := by decide +kernel
theorem dX6_keep_1 : decode cX6_keep 1 = .ok (.iconst 0, 1) := by decide +kernel
theorem dX6_keep_2 : decode cX6_keep 2 = .ok (.putfield 39, 3) := by decide +kernel
theorem dX6_keep_5 : decode cX6_keep 5 = .ok (.aload_n 0, 1) := by decide +kernel
theorem dX6_keep_6 : decode cX6_keep 6 = .ok (.getfield 9, 3) := by decide +kernel
theorem dX6_keep_9 : decode cX6_keep 9 = .ok (.iconst 0, 1) := by decide +kernel
theorem dX6_keep_10 : decode cX6_keep 10 = .ok (.aload_n 0, 1) := by decide +kernel
theorem dX6_keep_11 : decode cX6_keep 11 = .ok (.getfield 13, 3) := by decide +kernel
theorem dX6_keep_14 : decode cX6_keep 14 = .ok (.iconst 0, 1) := by decide +kernel
theorem dX6_keep_15 : decode cX6_keep 15 = .ok (.bipush 60, 2) := by decide +kernel
theorem dX6_keep_17 : decode cX6_keep 17 = .ok (.invokestatic 42, 3) := by decide +kernel
theorem dX6_keep_20 : decode cX6_keep 20 = .ok (.return_, 1) := by decide +kernel
theorem dX6_ends_0 : decode cX6_ends 0 = .ok (.aload_n 0, 1) := by decide +kernel
theorem dX6_ends_1 : decode cX6_ends 1 = .ok (.getfield 39, 3) := by decide +kernel
theorem dX6_ends_4 : decode cX6_ends 4 = .ok (.ifCond .le 20, 3) := by decide +kernel
theorem dX6_ends_7 : decode cX6_ends 7 = .ok (.aload_n 0, 1) := by decide +kernel
theorem dX6_ends_8 : decode cX6_ends 8 = .ok (.getfield 13, 3) := by decide +kernel
theorem dX6_ends_11 : decode cX6_ends 11 = .ok (.iconst 0, 1) := by decide +kernel
theorem dX6_ends_12 : decode cX6_ends 12 = .ok (.aload_n 0, 1) := by decide +kernel
theorem dX6_ends_13 : decode cX6_ends 13 = .ok (.getfield 9, 3) := by decide +kernel
theorem dX6_ends_16 : decode cX6_ends 16 = .ok (.iconst 0, 1) := by decide +kernel
theorem dX6_ends_17 : decode cX6_ends 17 = .ok (.bipush 60, 2) := by decide +kernel
theorem dX6_ends_19 : decode cX6_ends 19 = .ok (.invokestatic 42, 3) := by decide +kernel
theorem dX6_ends_22 : decode cX6_ends 22 = .ok (.iconst 0, 1) := by decide +kernel
theorem dX6_ends_23 : decode cX6_ends 23 = .ok (.ireturn, 1) := by decide +kernel
theorem dX6_ends_24 : decode cX6_ends 24 = .ok (.aload_n 0, 1) := by decide +kernel
theorem dX6_ends_25 : decode cX6_ends 25 = .ok (.getfield 48, 3) := by decide +kernel
theorem dX6_ends_28 : decode cX6_ends 28 = .ok (.bipush 8, 2) := by decide +kernel
theorem dX6_ends_30 : decode cX6_ends 30 = .ok (.if_icmp .ne 30, 3) := by decide +kernel
theorem dX6_ends_33 : decode cX6_ends 33 = .ok (.aload_n 0, 1) := by decide +kernel
theorem dX6_ends_34 : decode cX6_ends 34 = .ok (.getfield 19, 3) := by decide +kernel
theorem dX6_ends_37 : decode cX6_ends 37 = .ok (.bipush 60, 2) := by decide +kernel
theorem dX6_ends_39 : decode cX6_ends 39 = .ok (.aload_n 0, 1) := by decide +kernel
theorem dX6_ends_40 : decode cX6_ends 40 = .ok (.getfield 19, 3) := by decide +kernel
theorem dX6_ends_43 : decode cX6_ends 43 = .ok (.iconst 0, 1) := by decide +kernel
theorem dX6_ends_44 : decode cX6_ends 44 = .ok (.sipush 420, 3) := by decide +kernel
theorem dX6_ends_47 : decode cX6_ends 47 = .ok (.invokestatic 42, 3) := by decide +kernel
theorem dX6_ends_50 : decode cX6_ends 50 = .ok (.aload_n 0, 1) := by decide +kernel
theorem dX6_ends_51 : decode cX6_ends 51 = .ok (.dup, 1) := by decide +kernel
theorem dX6_ends_52 : decode cX6_ends 52 = .ok (.getfield 48, 3) := by decide +kernel
theorem dX6_ends_55 : decode cX6_ends 55 = .ok (.iconst 1, 1) := by decide +kernel
theorem dX6_ends_56 : decode cX6_ends 56 = .ok (.isub, 1) := by decide +kernel
theorem dX6_ends_57 : decode cX6_ends 57 = .ok (.putfield 48, 3) := by decide +kernel
theorem dX6_ends_60 : decode cX6_ends 60 = .ok (.aload_n 0, 1) := by decide +kernel
theorem dX6_ends_61 : decode cX6_ends 61 = .ok (.getfield 13, 3) := by decide +kernel
theorem dX6_ends_64 : decode cX6_ends 64 = .ok (.iconst 0, 1) := by decide +kernel
theorem dX6_ends_65 : decode cX6_ends 65 = .ok (.aload_n 0, 1) := by decide +kernel
theorem dX6_ends_66 : decode cX6_ends 66 = .ok (.getfield 19, 3) := by decide +kernel
theorem dX6_ends_69 : decode cX6_ends 69 = .ok (.bipush 60, 2) := by decide +kernel
theorem dX6_ends_71 : decode cX6_ends 71 = .ok (.aload_n 0, 1) := by decide +kernel
theorem dX6_ends_72 : decode cX6_ends 72 = .ok (.getfield 48, 3) := by decide +kernel
theorem dX6_ends_75 : decode cX6_ends 75 = .ok (.imul, 1) := by decide +kernel
theorem dX6_ends_76 : decode cX6_ends 76 = .ok (.bipush 60, 2) := by decide +kernel
theorem dX6_ends_78 : decode cX6_ends 78 = .ok (.invokestatic 42, 3) := by decide +kernel
theorem dX6_ends_81 : decode cX6_ends 81 = .ok (.aload_n 0, 1) := by decide +kernel
theorem dX6_ends_82 : decode cX6_ends 82 = .ok (.dup, 1) := by decide +kernel
theorem dX6_ends_83 : decode cX6_ends 83 = .ok (.getfield 48, 3) := by decide +kernel
theorem dX6_ends_86 : decode cX6_ends 86 = .ok (.iconst 1, 1) := by decide +kernel
theorem dX6_ends_87 : decode cX6_ends 87 = .ok (.iadd, 1) := by decide +kernel
theorem dX6_ends_88 : decode cX6_ends 88 = .ok (.putfield 48, 3) := by decide +kernel
theorem dX6_ends_91 : decode cX6_ends 91 = .ok (.iload_n 1, 1) := by decide +kernel
theorem dX6_ends_92 : decode cX6_ends 92 = .ok (.ireturn, 1) := by decide +kernel
theorem dX6_fails_0 : decode cX6_fails 0 = .ok (.aload_n 0, 1) := by decide +kernel
theorem dX6_fails_1 : decode cX6_fails 1 = .ok (.iload_n 1, 1) := by decide +kernel
theorem dX6_fails_2 : decode cX6_fails 2 = .ok (.putfield 39, 3) := by decide +kernel
theorem dX6_fails_5 : decode cX6_fails 5 = .ok (.iconst 0, 1) := by decide +kernel
theorem dX6_fails_6 : decode cX6_fails 6 = .ok (.ireturn, 1) := by decide +kernel
theorem dX6_isThere_0 : decode cX6_isThere 0 = .ok (.aload_n 0, 1) := by decide +kernel
theorem dX6_isThere_1 : decode cX6_isThere 1 = .ok (.iload_n 1, 1) := by decide +kernel
theorem dX6_isThere_2 : decode cX6_isThere 2 = .ok (.ifCond .eq 7, 3) := by decide +kernel
theorem dX6_isThere_5 : decode cX6_isThere 5 = .ok (.iconst 0, 1) := by decide +kernel
theorem dX6_isThere_6 : decode cX6_isThere 6 = .ok (.goto 4, 3) := by decide +kernel
theorem dX6_isThere_9 : decode cX6_isThere 9 = .ok (.iconst 1, 1) := by decide +kernel
theorem dX6_isThere_10 : decode cX6_isThere 10 = .ok (.putfield 39, 3) := by decide +kernel
theorem dX6_isThere_13 : decode cX6_isThere 13 = .ok (.iload_n 1, 1) := by decide +kernel
theorem dX6_isThere_14 : decode cX6_isThere 14 = .ok (.ireturn, 1) := by decide +kernel
set_option maxRecDepth 20000 in
theorem ggX6_isPosition_X6_in : GoodIn wsX6_isPosition wsX6_in := goodIn_r _ [4] (by decide +kernel) (by decide +kernel)
set_option maxRecDepth 20000 in
theorem gX6_isPosition_X6_in : GoodIn wsX6_isPosition (va_wsS RX6 51 yX6_in wsX6_in) := goodIn_app (goodIn_of _ (by decide +kernel)) ggX6_isPosition_X6_in
theorem dX6_isPosition_0 : decode cX6_isPosition 0 = .ok (.iload_n 0, 1) := by decide +kernel
theorem dX6_isPosition_1 : decode cX6_isPosition 1 = .ok (.iconst 0, 1) := by decide +kernel
theorem dX6_isPosition_2 : decode cX6_isPosition 2 = .ok (.bipush 11, 2) := by decide +kernel
theorem dX6_isPosition_4 : decode cX6_isPosition 4 = .ok (.invokestatic 51, 3) := by decide +kernel
theorem dX6_isPosition_7 : decode cX6_isPosition 7 = .ok (.ireturn, 1) := by decide +kernel
set_option maxRecDepth 20000 in
theorem ggX6_isMoon_X6_in : GoodIn wsX6_isMoon wsX6_in := goodIn_r _ [5] (by decide +kernel) (by decide +kernel)
set_option maxRecDepth 20000 in
theorem gX6_isMoon_X6_in : GoodIn wsX6_isMoon (va_wsS RX6 51 yX6_in wsX6_in) := goodIn_app (goodIn_of _ (by decide +kernel)) ggX6_isMoon_X6_in
theorem dX6_isMoon_0 : decode cX6_isMoon 0 = .ok (.iload_n 1, 1) := by decide +kernel
theorem dX6_isMoon_1 : decode cX6_isMoon 1 = .ok (.iconst 0, 1) := by decide +kernel
theorem dX6_isMoon_2 : decode cX6_isMoon 2 = .ok (.aload_n 0, 1) := by decide +kernel
theorem dX6_isMoon_3 : decode cX6_isMoon 3 = .ok (.getfield 9, 3) := by decide +kernel
theorem dX6_isMoon_6 : decode cX6_isMoon 6 = .ok (.iconst 0, 1) := by decide +kernel
theorem dX6_isMoon_7 : decode cX6_isMoon 7 = .ok (.iaload, 1) := by decide +kernel
theorem dX6_isMoon_8 : decode cX6_isMoon 8 = .ok (.iconst 1, 1) := by decide +kernel
theorem dX6_isMoon_9 : decode cX6_isMoon 9 = .ok (.isub, 1) := by decide +kernel
theorem dX6_isMoon_10 : decode cX6_isMoon 10 = .ok (.invokestatic 51, 3) := by decide +kernel
theorem dX6_isMoon_13 : decode cX6_isMoon 13 = .ok (.ireturn, 1) := by decide +kernel
set_option maxRecDepth 20000 in
theorem ggX6_isTowel_X6_in : GoodIn wsX6_isTowel wsX6_in := goodIn_r _ [5] (by decide +kernel) (by decide +kernel)
set_option maxRecDepth 20000 in
theorem gX6_isTowel_X6_in : GoodIn wsX6_isTowel (va_wsS RX6 51 yX6_in wsX6_in) := goodIn_app (goodIn_of _ (by decide +kernel)) ggX6_isTowel_X6_in
theorem dX6_isTowel_0 : decode cX6_isTowel 0 = .ok (.iload_n 1, 1) := by decide +kernel
theorem dX6_isTowel_1 : decode cX6_isTowel 1 = .ok (.iconst 0, 1) := by decide +kernel
theorem dX6_isTowel_2 : decode cX6_isTowel 2 = .ok (.aload_n 0, 1) := by decide +kernel
theorem dX6_isTowel_3 : decode cX6_isTowel 3 = .ok (.getfield 9, 3) := by decide +kernel
theorem dX6_isTowel_6 : decode cX6_isTowel 6 = .ok (.iconst 1, 1) := by decide +kernel
theorem dX6_isTowel_7 : decode cX6_isTowel 7 = .ok (.iaload, 1) := by decide +kernel
theorem dX6_isTowel_8 : decode cX6_isTowel 8 = .ok (.iconst 1, 1) := by decide +kernel
theorem dX6_isTowel_9 : decode cX6_isTowel 9 = .ok (.isub, 1) := by decide +kernel
theorem dX6_isTowel_10 : decode cX6_isTowel 10 = .ok (.invokestatic 51, 3) := by decide +kernel
theorem dX6_isTowel_13 : decode cX6_isTowel 13 = .ok (.ireturn, 1) := by decide +kernel
theorem dX6_ofMoon_0 : decode cX6_ofMoon 0 = .ok (.aload_n 0, 1) := by decide +kernel
theorem dX6_ofMoon_1 : decode cX6_ofMoon 1 = .ok (.getfield 9, 3) := by decide +kernel
theorem dX6_ofMoon_4 : decode cX6_ofMoon 4 = .ok (.bipush 19, 2) := by decide +kernel
theorem dX6_ofMoon_6 : decode cX6_ofMoon 6 = .ok (.iconst 5, 1) := by decide +kernel
theorem dX6_ofMoon_7 : decode cX6_ofMoon 7 = .ok (.iload_n 1, 1) := by decide +kernel
theorem dX6_ofMoon_8 : decode cX6_ofMoon 8 = .ok (.imul, 1) := by decide +kernel
theorem dX6_ofMoon_9 : decode cX6_ofMoon 9 = .ok (.iadd, 1) := by decide +kernel
theorem dX6_ofMoon_10 : decode cX6_ofMoon 10 = .ok (.iload_n 2, 1) := by decide +kernel
theorem dX6_ofMoon_11 : decode cX6_ofMoon 11 = .ok (.iadd, 1) := by decide +kernel
theorem dX6_ofMoon_12 : decode cX6_ofMoon 12 = .ok (.iaload, 1) := by decide +kernel
theorem dX6_ofMoon_13 : decode cX6_ofMoon 13 = .ok (.ireturn, 1) := by decide +kernel
set_option maxRecDepth 20000 in
theorem ggX6_ageIn_X6_ofMoon : GoodIn wsX6_ageIn wsX6_ofMoon := goodIn_ca (goodIn_r _ [6, 1, 7, 8, 9, 10, 11, 12, 13, 14, 15, 16, 17, 18, 19, 20, 21, 22, 23] (by decide +kernel) (by decide +kernel)) (goodIn_sub (fun _ h => List.mem_cons_of_mem _ (List.mem_append_right _ h)) (by decide +kernel))
set_option maxRecDepth 20000 in
theorem gX6_ageIn_X6_ofMoon : GoodIn wsX6_ageIn (wsV RX6 55 RX6 yX6_ofMoon wsX6_ofMoon) := goodIn_app (goodIn_of _ (by decide +kernel)) ggX6_ageIn_X6_ofMoon
theorem dX6_ageIn_0 : decode cX6_ageIn 0 = .ok (.aload_n 0, 1) := by decide +kernel
theorem dX6_ageIn_1 : decode cX6_ageIn 1 = .ok (.getfield 9, 3) := by decide +kernel
theorem dX6_ageIn_4 : decode cX6_ageIn 4 = .ok (.iconst 2, 1) := by decide +kernel
theorem dX6_ageIn_5 : decode cX6_ageIn 5 = .ok (.iaload, 1) := by decide +kernel
theorem dX6_ageIn_6 : decode cX6_ageIn 6 = .ok (.iload_n 2, 1) := by decide +kernel
theorem dX6_ageIn_7 : decode cX6_ageIn 7 = .ok (.iadd, 1) := by decide +kernel
theorem dX6_ageIn_8 : decode cX6_ageIn 8 = .ok (.aload_n 0, 1) := by decide +kernel
theorem dX6_ageIn_9 : decode cX6_ageIn 9 = .ok (.iload_n 1, 1) := by decide +kernel
theorem dX6_ageIn_10 : decode cX6_ageIn 10 = .ok (.iconst 4, 1) := by decide +kernel
theorem dX6_ageIn_11 : decode cX6_ageIn 11 = .ok (.invokevirtual 55, 3) := by decide +kernel
theorem dX6_ageIn_14 : decode cX6_ageIn 14 = .ok (.isub, 1) := by decide +kernel
theorem dX6_ageIn_15 : decode cX6_ageIn 15 = .ok (.ireturn, 1) := by decide +kernel
set_option maxRecDepth 20000 in
theorem ggX6_placeIn_X6_ofMoon : GoodIn wsX6_placeIn wsX6_ofMoon := goodIn_ca (goodIn_r _ [5, 6, 11, 12, 13, 14, 15, 16, 17, 18, 19, 20, 21, 22, 23, 24, 25, 26, 27] (by decide +kernel) (by decide +kernel)) (goodIn_sub (fun _ h => List.mem_cons_of_mem _ (List.mem_append_right _ h)) (by decide +kernel))
set_option maxRecDepth 20000 in
theorem gX6_placeIn_X6_ofMoon : GoodIn wsX6_placeIn (wsV RX6 55 RX6 yX6_ofMoon wsX6_ofMoon) := goodIn_app (goodIn_of _ (by decide +kernel)) ggX6_placeIn_X6_ofMoon
set_option maxRecDepth 20000 in
theorem ggX6_placeIn_X6_ageIn : GoodIn wsX6_placeIn wsX6_ageIn := goodIn_ca (goodIn_r _ [10, 6, 1, 2, 3, 4, 5, 11, 12, 13, 14, 15, 16, 17, 18, 19, 20, 21, 22, 23, 24, 25, 26, 27] (by decide +kernel) (by decide +kernel)) (goodIn_sub (fun _ h => List.mem_cons_of_mem _ (List.mem_append_right _ h)) (by decide +kernel))
set_option maxRecDepth 20000 in
theorem gX6_placeIn_X6_ageIn : GoodIn wsX6_placeIn (wsV RX6 59 RX6 yX6_ageIn wsX6_ageIn) := goodIn_app (goodIn_of _ (by decide +kernel)) ggX6_placeIn_X6_ageIn
theorem dX6_placeIn_0 : decode cX6_placeIn 0 = .ok (.aload_n 0, 1) := by decide +kernel
theorem dX6_placeIn_1 : decode cX6_placeIn 1 = .ok (.iload_n 1, 1) := by decide +kernel
theorem dX6_placeIn_2 : decode cX6_placeIn 2 = .ok (.iconst 2, 1) := by decide +kernel
theorem dX6_placeIn_3 : decode cX6_placeIn 3 = .ok (.invokevirtual 55, 3) := by decide +kernel
theorem dX6_placeIn_6 : decode cX6_placeIn 6 = .ok (.aload_n 0, 1) := by decide +kernel
theorem dX6_placeIn_7 : decode cX6_placeIn 7 = .ok (.iload_n 1, 1) := by decide +kernel
theorem dX6_placeIn_8 : decode cX6_placeIn 8 = .ok (.iload_n 2, 1) := by decide +kernel
theorem dX6_placeIn_9 : decode cX6_placeIn 9 = .ok (.invokevirtual 59, 3) := by decide +kernel
theorem dX6_placeIn_12 : decode cX6_placeIn 12 = .ok (.aload_n 0, 1) := by decide +kernel
theorem dX6_placeIn_13 : decode cX6_placeIn 13 = .ok (.iload_n 1, 1) := by decide +kernel
theorem dX6_placeIn_14 : decode cX6_placeIn 14 = .ok (.iconst 3, 1) := by decide +kernel
theorem dX6_placeIn_15 : decode cX6_placeIn 15 = .ok (.invokevirtual 55, 3) := by decide +kernel
theorem dX6_placeIn_18 : decode cX6_placeIn 18 = .ok (.idiv, 1) := by decide +kernel
theorem dX6_placeIn_19 : decode cX6_placeIn 19 = .ok (.iadd, 1) := by decide +kernel
theorem dX6_placeIn_20 : decode cX6_placeIn 20 = .ok (.bipush 12, 2) := by decide +kernel
theorem dX6_placeIn_22 : decode cX6_placeIn 22 = .ok (.irem, 1) := by decide +kernel
theorem dX6_placeIn_23 : decode cX6_placeIn 23 = .ok (.ireturn, 1) := by decide +kernel
set_option maxRecDepth 20000 in
theorem ggX6_massIn_X6_ofMoon : GoodIn wsX6_massIn wsX6_ofMoon := goodIn_ca (goodIn_r _ [9, 10, 15, 16, 17, 18, 19, 20, 21, 22, 23, 24, 25, 26, 27, 28, 29, 30, 31] (by decide +kernel) (by decide +kernel)) (goodIn_sub (fun _ h => List.mem_cons_of_mem _ (List.mem_append_right _ h)) (by decide +kernel))
set_option maxRecDepth 20000 in
theorem gX6_massIn_X6_ofMoon : GoodIn wsX6_massIn (wsV RX6 55 RX6 yX6_ofMoon wsX6_ofMoon) := goodIn_app (goodIn_of _ (by decide +kernel)) ggX6_massIn_X6_ofMoon
set_option maxRecDepth 20000 in
theorem ggX6_massIn_X6_ageIn : GoodIn wsX6_massIn wsX6_ageIn := goodIn_ca (goodIn_r _ [14, 10, 5, 6, 7, 8, 9, 15, 16, 17, 18, 19, 20, 21, 22, 23, 24, 25, 26, 27, 28, 29, 30, 31] (by decide +kernel) (by decide +kernel)) (goodIn_sub (fun _ h => List.mem_cons_of_mem _ (List.mem_append_right _ h)) (by decide +kernel))
set_option maxRecDepth 20000 in
theorem gX6_massIn_X6_ageIn : GoodIn wsX6_massIn (wsV RX6 59 RX6 yX6_ageIn wsX6_ageIn) := goodIn_app (goodIn_of _ (by decide +kernel)) ggX6_massIn_X6_ageIn
theorem dX6_massIn_0 : decode cX6_massIn 0 = .ok (.aload_n 0, 1) := by decide +kernel
theorem dX6_massIn_1 : decode cX6_massIn 1 = .ok (.iload_n 1, 1) := by decide +kernel
theorem dX6_massIn_2 : decode cX6_massIn 2 = .ok (.iconst 1, 1) := by decide +kernel
theorem dX6_massIn_3 : decode cX6_massIn 3 = .ok (.invokevirtual 55, 3) := by decide +kernel
theorem dX6_massIn_6 : decode cX6_massIn 6 = .ok (.istore_n 3, 1) := by decide +kernel
theorem dX6_massIn_7 : decode cX6_massIn 7 = .ok (.aload_n 0, 1) := by decide +kernel
theorem dX6_massIn_8 : decode cX6_massIn 8 = .ok (.iload_n 1, 1) := by decide +kernel
theorem dX6_massIn_9 : decode cX6_massIn 9 = .ok (.iload_n 2, 1) := by decide +kernel
theorem dX6_massIn_10 : decode cX6_massIn 10 = .ok (.invokevirtual 59, 3) := by decide +kernel
theorem dX6_massIn_13 : decode cX6_massIn 13 = .ok (.istore 4, 2) := by decide +kernel
theorem dX6_massIn_15 : decode cX6_massIn 15 = .ok (.aload_n 0, 1) := by decide +kernel
theorem dX6_massIn_16 : decode cX6_massIn 16 = .ok (.iload_n 1, 1) := by decide +kernel
theorem dX6_massIn_17 : decode cX6_massIn 17 = .ok (.iconst 0, 1) := by decide +kernel
theorem dX6_massIn_18 : decode cX6_massIn 18 = .ok (.invokevirtual 55, 3) := by decide +kernel
theorem dX6_massIn_21 : decode cX6_massIn 21 = .ok (.lookupswitch 41 #[(0, 27), (1, 29)], 27) := by decide +kernel
theorem dX6_massIn_48 : decode cX6_massIn 48 = .ok (.iload_n 3, 1) := by decide +kernel
theorem dX6_massIn_49 : decode cX6_massIn 49 = .ok (.ireturn, 1) := by decide +kernel
theorem dX6_massIn_50 : decode cX6_massIn 50 = .ok (.iconst 0, 1) := by decide +kernel
theorem dX6_massIn_51 : decode cX6_massIn 51 = .ok (.iload_n 3, 1) := by decide +kernel
theorem dX6_massIn_52 : decode cX6_massIn 52 = .ok (.iload 4, 2) := by decide +kernel
theorem dX6_massIn_54 : decode cX6_massIn 54 = .ok (.bipush 10, 2) := by decide +kernel
theorem dX6_massIn_56 : decode cX6_massIn 56 = .ok (.idiv, 1) := by decide +kernel
theorem dX6_massIn_57 : decode cX6_massIn 57 = .ok (.isub, 1) := by decide +kernel
theorem dX6_massIn_58 : decode cX6_massIn 58 = .ok (.invokestatic 62, 3) := by decide +kernel
theorem dX6_massIn_61 : decode cX6_massIn 61 = .ok (.ireturn, 1) := by decide +kernel
theorem dX6_massIn_62 : decode cX6_massIn 62 = .ok (.iload 4, 2) := by decide +kernel
theorem dX6_massIn_64 : decode cX6_massIn 64 = .ok (.iconst 2, 1) := by decide +kernel
theorem dX6_massIn_65 : decode cX6_massIn 65 = .ok (.irem, 1) := by decide +kernel
theorem dX6_massIn_66 : decode cX6_massIn 66 = .ok (.ifCond .ne 7, 3) := by decide +kernel
theorem dX6_massIn_69 : decode cX6_massIn 69 = .ok (.iload_n 3, 1) := by decide +kernel
theorem dX6_massIn_70 : decode cX6_massIn 70 = .ok (.goto 6, 3) := by decide +kernel
theorem dX6_massIn_73 : decode cX6_massIn 73 = .ok (.iload_n 3, 1) := by decide +kernel
theorem dX6_massIn_74 : decode cX6_massIn 74 = .ok (.iconst 2, 1) := by decide +kernel
theorem dX6_massIn_75 : decode cX6_massIn 75 = .ok (.idiv, 1) := by decide +kernel
theorem dX6_massIn_76 : decode cX6_massIn 76 = .ok (.ireturn, 1) := by decide +kernel
set_option maxRecDepth 20000 in
theorem ggX6_isShaded_X6_placeIn : GoodIn wsX6_isShaded wsX6_placeIn := goodIn_ca (goodIn_ca (goodIn_r _ [6, 7, 8, 9, 5, 10, 1, 11, 12, 13, 14, 15, 16, 17, 18, 19, 20, 21, 22, 23, 24, 25, 26, 27, 28, 29, 30, 31] (by decide +kernel) (by decide +kernel)) (goodIn_sub (fun _ h => List.mem_cons_of_mem _ (List.mem_append_right _ h)) (by decide +kernel))) (goodIn_sub (fun _ h => List.mem_cons_of_mem _ (List.mem_append_left _ (List.mem_append_right _ h))) (by decide +kernel))
set_option maxRecDepth 20000 in
theorem gX6_isShaded_X6_placeIn : GoodIn wsX6_isShaded (wsV RX6 67 RX6 yX6_placeIn wsX6_placeIn) := goodIn_app (goodIn_of _ (by decide +kernel)) ggX6_isShaded_X6_placeIn
theorem dX6_isShaded_0 : decode cX6_isShaded 0 = .ok (.aload_n 0, 1) := by decide +kernel
theorem dX6_isShaded_1 : decode cX6_isShaded 1 = .ok (.getfield 9, 3) := by decide +kernel
theorem dX6_isShaded_4 : decode cX6_isShaded 4 = .ok (.bipush 6, 2) := by decide +kernel
theorem dX6_isShaded_6 : decode cX6_isShaded 6 = .ok (.iaload, 1) := by decide +kernel
theorem dX6_isShaded_7 : decode cX6_isShaded 7 = .ok (.ifCond .lt 29, 3) := by decide +kernel
theorem dX6_isShaded_10 : decode cX6_isShaded 10 = .ok (.aload_n 0, 1) := by decide +kernel
theorem dX6_isShaded_11 : decode cX6_isShaded 11 = .ok (.iload_n 1, 1) := by decide +kernel
theorem dX6_isShaded_12 : decode cX6_isShaded 12 = .ok (.iload_n 2, 1) := by decide +kernel
theorem dX6_isShaded_13 : decode cX6_isShaded 13 = .ok (.invokevirtual 67, 3) := by decide +kernel
theorem dX6_isShaded_16 : decode cX6_isShaded 16 = .ok (.bipush 6, 2) := by decide +kernel
theorem dX6_isShaded_18 : decode cX6_isShaded 18 = .ok (.iadd, 1) := by decide +kernel
theorem dX6_isShaded_19 : decode cX6_isShaded 19 = .ok (.bipush 12, 2) := by decide +kernel
theorem dX6_isShaded_21 : decode cX6_isShaded 21 = .ok (.irem, 1) := by decide +kernel
theorem dX6_isShaded_22 : decode cX6_isShaded 22 = .ok (.aload_n 0, 1) := by decide +kernel
theorem dX6_isShaded_23 : decode cX6_isShaded 23 = .ok (.getfield 9, 3) := by decide +kernel
theorem dX6_isShaded_26 : decode cX6_isShaded 26 = .ok (.bipush 6, 2) := by decide +kernel
theorem dX6_isShaded_28 : decode cX6_isShaded 28 = .ok (.iaload, 1) := by decide +kernel
theorem dX6_isShaded_29 : decode cX6_isShaded 29 = .ok (.if_icmp .ne 7, 3) := by decide +kernel
theorem dX6_isShaded_32 : decode cX6_isShaded 32 = .ok (.iconst 1, 1) := by decide +kernel
theorem dX6_isShaded_33 : decode cX6_isShaded 33 = .ok (.goto 4, 3) := by decide +kernel
theorem dX6_isShaded_36 : decode cX6_isShaded 36 = .ok (.iconst 0, 1) := by decide +kernel
theorem dX6_isShaded_37 : decode cX6_isShaded 37 = .ok (.ireturn, 1) := by decide +kernel
theorem dX6_far_0 : decode cX6_far 0 = .ok (.iload_n 0, 1) := by decide +kernel
theorem dX6_far_1 : decode cX6_far 1 = .ok (.iload_n 1, 1) := by decide +kernel
theorem dX6_far_2 : decode cX6_far 2 = .ok (.isub, 1) := by decide +kernel
theorem dX6_far_3 : decode cX6_far 3 = .ok (.invokestatic 70, 3) := by decide +kernel
theorem dX6_far_6 : decode cX6_far 6 = .ok (.istore_n 2, 1) := by decide +kernel
theorem dX6_far_7 : decode cX6_far 7 = .ok (.iload_n 2, 1) := by decide +kernel
theorem dX6_far_8 : decode cX6_far 8 = .ok (.bipush 12, 2) := by decide +kernel
theorem dX6_far_10 : decode cX6_far 10 = .ok (.iload_n 2, 1) := by decide +kernel
theorem dX6_far_11 : decode cX6_far 11 = .ok (.isub, 1) := by decide +kernel
theorem dX6_far_12 : decode cX6_far 12 = .ok (.invokestatic 74, 3) := by decide +kernel
theorem dX6_far_15 : decode cX6_far 15 = .ok (.ireturn, 1) := by decide +kernel
set_option maxRecDepth 20000 in
theorem ggX6_tide_X6_massIn : GoodIn wsX6_tide wsX6_massIn := goodIn_ca (goodIn_r _ [6, 7, 8, 9, 10, 11, 12, 13, 5, 14, 1, 15, 16, 17, 18, 36, 37, 38, 39, 40, 41, 42, 43, 44, 45, 46, 47, 48, 49, 50, 51, 52] (by decide +kernel) (by decide +kernel)) (goodIn_sub (fun _ h => List.mem_cons_of_mem _ (List.mem_append_left _ (List.mem_append_right _ h))) (by decide +kernel))
set_option maxRecDepth 20000 in
theorem gX6_tide_X6_massIn : GoodIn wsX6_tide (wsV RX6 77 RX6 yX6_massIn wsX6_massIn) := goodIn_app (goodIn_of _ (by decide +kernel)) ggX6_tide_X6_massIn
set_option maxRecDepth 20000 in
theorem ggX6_tide_X6_placeIn : GoodIn wsX6_tide wsX6_placeIn := goodIn_ca (goodIn_ca (goodIn_r _ [22, 11, 12, 13, 5, 14, 1, 15, 16, 17, 18, 36, 37, 38, 39, 40, 41, 42, 43, 44, 45, 46, 47, 48, 49, 50, 51, 52] (by decide +kernel) (by decide +kernel)) (goodIn_sub (fun _ h => List.mem_cons_of_mem _ (List.mem_append_right _ h)) (by decide +kernel))) (goodIn_sub (fun _ h => List.mem_cons_of_mem _ (List.mem_append_left _ (List.mem_append_right _ h))) (by decide +kernel))
set_option maxRecDepth 20000 in
theorem gX6_tide_X6_placeIn : GoodIn wsX6_tide (wsV RX6 67 RX6 yX6_placeIn wsX6_placeIn) := goodIn_app (goodIn_of _ (by decide +kernel)) ggX6_tide_X6_placeIn
set_option maxRecDepth 20000 in
theorem ggX6_tide_X6_far : GoodIn wsX6_tide wsX6_far := goodIn_r _ [25, 26, 27, 9, 28, 29, 30, 31] (by decide +kernel) (by decide +kernel)
set_option maxRecDepth 20000 in
theorem gX6_tide_X6_far : GoodIn wsX6_tide (va_wsS RX6 80 yX6_far wsX6_far) := goodIn_app (goodIn_of _ (by decide +kernel)) ggX6_tide_X6_far
set_option maxRecDepth 20000 in
theorem ggX6_tide_X6_isShaded : GoodIn wsX6_tide wsX6_isShaded := goodIn_ca (goodIn_ca (goodIn_r _ [35, 1, 19, 20, 21, 5, 22, 11, 12, 13, 14, 15, 16, 17, 18, 36, 37, 38, 39, 40, 41, 42, 43, 44, 45, 46, 47, 48, 49, 50, 51, 52] (by decide +kernel) (by decide +kernel)) (goodIn_sub (fun _ h => List.mem_cons_of_mem _ (List.mem_append_left _ (List.mem_append_right _ h))) (by decide +kernel))) (goodIn_sub (fun _ h => List.mem_cons_of_mem _ (List.mem_append_right _ h)) (by decide +kernel))
set_option maxRecDepth 20000 in
theorem gX6_tide_X6_isShaded : GoodIn wsX6_tide (wsV RX6 83 RX6 yX6_isShaded wsX6_isShaded) := goodIn_app (goodIn_of _ (by decide +kernel)) ggX6_tide_X6_isShaded
theorem dX6_tide_0 : decode cX6_tide 0 = .ok (.iconst 0, 1) := by decide +kernel
theorem dX6_tide_1 : decode cX6_tide 1 = .ok (.istore_n 3, 1) := by decide +kernel
theorem dX6_tide_2 : decode cX6_tide 2 = .ok (.iconst 0, 1) := by decide +kernel
theorem dX6_tide_3 : decode cX6_tide 3 = .ok (.istore 4, 2) := by decide +kernel
theorem dX6_tide_5 : decode cX6_tide 5 = .ok (.iload 4, 2) := by decide +kernel
theorem dX6_tide_7 : decode cX6_tide 7 = .ok (.aload_n 0, 1) := by decide +kernel
theorem dX6_tide_8 : decode cX6_tide 8 = .ok (.getfield 9, 3) := by decide +kernel
theorem dX6_tide_11 : decode cX6_tide 11 = .ok (.iconst 0, 1) := by decide +kernel
theorem dX6_tide_12 : decode cX6_tide 12 = .ok (.iaload, 1) := by decide +kernel
theorem dX6_tide_13 : decode cX6_tide 13 = .ok (.if_icmp .ge 51, 3) := by decide +kernel
theorem dX6_tide_16 : decode cX6_tide 16 = .ok (.aload_n 0, 1) := by decide +kernel
theorem dX6_tide_17 : decode cX6_tide 17 = .ok (.iload 4, 2) := by decide +kernel
theorem dX6_tide_19 : decode cX6_tide 19 = .ok (.iload_n 2, 1) := by decide +kernel
theorem dX6_tide_20 : decode cX6_tide 20 = .ok (.invokevirtual 77, 3) := by decide +kernel
theorem dX6_tide_23 : decode cX6_tide 23 = .ok (.iconst 3, 1) := by decide +kernel
theorem dX6_tide_24 : decode cX6_tide 24 = .ok (.iload_n 1, 1) := by decide +kernel
theorem dX6_tide_25 : decode cX6_tide 25 = .ok (.aload_n 0, 1) := by decide +kernel
theorem dX6_tide_26 : decode cX6_tide 26 = .ok (.iload 4, 2) := by decide +kernel
theorem dX6_tide_28 : decode cX6_tide 28 = .ok (.iload_n 2, 1) := by decide +kernel
theorem dX6_tide_29 : decode cX6_tide 29 = .ok (.invokevirtual 67, 3) := by decide +kernel
theorem dX6_tide_32 : decode cX6_tide 32 = .ok (.invokestatic 80, 3) := by decide +kernel
theorem dX6_tide_35 : decode cX6_tide 35 = .ok (.isub, 1) := by decide +kernel
theorem dX6_tide_36 : decode cX6_tide 36 = .ok (.imul, 1) := by decide +kernel
theorem dX6_tide_37 : decode cX6_tide 37 = .ok (.istore 5, 2) := by decide +kernel
theorem dX6_tide_39 : decode cX6_tide 39 = .ok (.iload_n 3, 1) := by decide +kernel
theorem dX6_tide_40 : decode cX6_tide 40 = .ok (.aload_n 0, 1) := by decide +kernel
theorem dX6_tide_41 : decode cX6_tide 41 = .ok (.iload 4, 2) := by decide +kernel
theorem dX6_tide_43 : decode cX6_tide 43 = .ok (.iload_n 2, 1) := by decide +kernel
theorem dX6_tide_44 : decode cX6_tide 44 = .ok (.invokevirtual 83, 3) := by decide +kernel
theorem dX6_tide_47 : decode cX6_tide 47 = .ok (.ifCond .eq 7, 3) := by decide +kernel
theorem dX6_tide_50 : decode cX6_tide 50 = .ok (.iconst 0, 1) := by decide +kernel
theorem dX6_tide_51 : decode cX6_tide 51 = .ok (.goto 5, 3) := by decide +kernel
theorem dX6_tide_54 : decode cX6_tide 54 = .ok (.iload 5, 2) := by decide +kernel
theorem dX6_tide_56 : decode cX6_tide 56 = .ok (.iadd, 1) := by decide +kernel
theorem dX6_tide_57 : decode cX6_tide 57 = .ok (.istore_n 3, 1) := by decide +kernel
theorem dX6_tide_58 : decode cX6_tide 58 = .ok (.iinc 4 1, 3) := by decide +kernel
theorem dX6_tide_61 : decode cX6_tide 61 = .ok (.goto (-56), 3) := by decide +kernel
theorem dX6_tide_64 : decode cX6_tide 64 = .ok (.aload_n 0, 1) := by decide +kernel
theorem dX6_tide_65 : decode cX6_tide 65 = .ok (.getfield 9, 3) := by decide +kernel
theorem dX6_tide_68 : decode cX6_tide 68 = .ok (.bipush 7, 2) := by decide +kernel
theorem dX6_tide_70 : decode cX6_tide 70 = .ok (.iload_n 1, 1) := by decide +kernel
theorem dX6_tide_71 : decode cX6_tide 71 = .ok (.iadd, 1) := by decide +kernel
theorem dX6_tide_72 : decode cX6_tide 72 = .ok (.iaload, 1) := by decide +kernel
theorem dX6_tide_73 : decode cX6_tide 73 = .ok (.iconst 1, 1) := by decide +kernel
theorem dX6_tide_74 : decode cX6_tide 74 = .ok (.if_icmp .ne 9, 3) := by decide +kernel
theorem dX6_tide_77 : decode cX6_tide 77 = .ok (.iload_n 3, 1) := by decide +kernel
theorem dX6_tide_78 : decode cX6_tide 78 = .ok (.iconst 2, 1) := by decide +kernel
theorem dX6_tide_79 : decode cX6_tide 79 = .ok (.idiv, 1) := by decide +kernel
theorem dX6_tide_80 : decode cX6_tide 80 = .ok (.goto 4, 3) := by decide +kernel
theorem dX6_tide_83 : decode cX6_tide 83 = .ok (.iload_n 3, 1) := by decide +kernel
theorem dX6_tide_84 : decode cX6_tide 84 = .ok (.ireturn, 1) := by decide +kernel
set_option maxRecDepth 20000 in
theorem ggX6_level_X6_tide : GoodIn wsX6_level wsX6_tide := goodIn_ca (goodIn_ca (goodIn_r _ [10, 1, 11, 12, 13, 9, 14, 2, 3, 4, 5, 15, 16, 17, 18, 19, 20, 21, 22, 23, 24, 25, 26, 27, 28, 29, 30, 31, 32, 33, 34, 35, 36, 37, 38, 39, 40, 41, 42, 43, 44, 45, 46, 47, 48, 49, 50, 51, 52, 53, 54, 55, 56] (by decide +kernel) (by decide +kernel)) (goodIn_sub (fun _ h => List.mem_cons_of_mem _ (List.mem_append_left _ (List.mem_append_right _ h))) (by decide +kernel))) (goodIn_sub (fun _ h => List.mem_cons_of_mem _ (List.mem_append_right _ h)) (by decide +kernel))
set_option maxRecDepth 20000 in
theorem gX6_level_X6_tide : GoodIn wsX6_level (wsV RX6 87 RX6 yX6_tide wsX6_tide) := goodIn_app (goodIn_of _ (by decide +kernel)) ggX6_level_X6_tide
theorem dX6_level_0 : decode cX6_level 0 = .ok (.iconst 0, 1) := by decide +kernel
theorem dX6_level_1 : decode cX6_level 1 = .ok (.aload_n 0, 1) := by decide +kernel
theorem dX6_level_2 : decode cX6_level 2 = .ok (.getfield 9, 3) := by decide +kernel
theorem dX6_level_5 : decode cX6_level 5 = .ok (.iconst 3, 1) := by decide +kernel
theorem dX6_level_6 : decode cX6_level 6 = .ok (.iaload, 1) := by decide +kernel
theorem dX6_level_7 : decode cX6_level 7 = .ok (.aload_n 0, 1) := by decide +kernel
theorem dX6_level_8 : decode cX6_level 8 = .ok (.iload_n 1, 1) := by decide +kernel
theorem dX6_level_9 : decode cX6_level 9 = .ok (.iconst 0, 1) := by decide +kernel
theorem dX6_level_10 : decode cX6_level 10 = .ok (.invokevirtual 87, 3) := by decide +kernel
theorem dX6_level_13 : decode cX6_level 13 = .ok (.iadd, 1) := by decide +kernel
theorem dX6_level_14 : decode cX6_level 14 = .ok (.invokestatic 62, 3) := by decide +kernel
theorem dX6_level_17 : decode cX6_level 17 = .ok (.ireturn, 1) := by decide +kernel
set_option maxRecDepth 20000 in
theorem ggX6_doAdd_X6_in : GoodIn wsX6_doAdd wsX6_in := goodIn_r _ [5] (by decide +kernel) (by decide +kernel)
set_option maxRecDepth 20000 in
theorem gX6_doAdd_X6_in : GoodIn wsX6_doAdd (va_wsS RX6 51 yX6_in wsX6_in) := goodIn_app (goodIn_of _ (by decide +kernel)) ggX6_doAdd_X6_in
set_option maxRecDepth 20000 in
theorem ggX6_doAdd_X6_isPosition : GoodIn wsX6_doAdd wsX6_isPosition := goodIn_r _ [8, 2, 3, 4, 5] (by decide +kernel) (by decide +kernel)
set_option maxRecDepth 20000 in
theorem gX6_doAdd_X6_isPosition : GoodIn wsX6_doAdd (va_wsS RX6 90 yX6_isPosition wsX6_isPosition) := goodIn_app (goodIn_of _ (by decide +kernel)) ggX6_doAdd_X6_isPosition
set_option maxRecDepth 20000 in
theorem ggX6_doAdd_X6_fails : GoodIn wsX6_doAdd wsX6_fails := goodIn_r _ [12, 13, 14, 15, 16, 17, 18, 19, 20, 21, 22, 23, 24, 25, 26, 27, 28, 29, 30] (by decide +kernel) (by decide +kernel)
set_option maxRecDepth 20000 in
theorem gX6_doAdd_X6_fails : GoodIn wsX6_doAdd (wsV RX6 94 RX6 yX6_fails wsX6_fails) := goodIn_app (goodIn_of _ (by decide +kernel)) ggX6_doAdd_X6_fails
theorem dX6_doAdd_0 : decode cX6_doAdd 0 = .ok (.aload_n 0, 1) := by decide +kernel
theorem dX6_doAdd_1 : decode cX6_doAdd 1 = .ok (.getfield 9, 3) := by decide +kernel
theorem dX6_doAdd_4 : decode cX6_doAdd 4 = .ok (.iconst 0, 1) := by decide +kernel
theorem dX6_doAdd_5 : decode cX6_doAdd 5 = .ok (.iaload, 1) := by decide +kernel
theorem dX6_doAdd_6 : decode cX6_doAdd 6 = .ok (.istore 5, 2) := by decide +kernel
theorem dX6_doAdd_8 : decode cX6_doAdd 8 = .ok (.iload_n 2, 1) := by decide +kernel
theorem dX6_doAdd_9 : decode cX6_doAdd 9 = .ok (.iconst 1, 1) := by decide +kernel
theorem dX6_doAdd_10 : decode cX6_doAdd 10 = .ok (.bipush 6, 2) := by decide +kernel
theorem dX6_doAdd_12 : decode cX6_doAdd 12 = .ok (.invokestatic 51, 3) := by decide +kernel
theorem dX6_doAdd_15 : decode cX6_doAdd 15 = .ok (.ifCond .eq 21, 3) := by decide +kernel
theorem dX6_doAdd_18 : decode cX6_doAdd 18 = .ok (.iload_n 3, 1) := by decide +kernel
theorem dX6_doAdd_19 : decode cX6_doAdd 19 = .ok (.invokestatic 90, 3) := by decide +kernel
theorem dX6_doAdd_22 : decode cX6_doAdd 22 = .ok (.ifCond .eq 14, 3) := by decide +kernel
theorem dX6_doAdd_25 : decode cX6_doAdd 25 = .ok (.iload 4, 2) := by decide +kernel
theorem dX6_doAdd_27 : decode cX6_doAdd 27 = .ok (.iconst 1, 1) := by decide +kernel
theorem dX6_doAdd_28 : decode cX6_doAdd 28 = .ok (.bipush 12, 2) := by decide +kernel
theorem dX6_doAdd_30 : decode cX6_doAdd 30 = .ok (.invokestatic 51, 3) := by decide +kernel
theorem dX6_doAdd_33 : decode cX6_doAdd 33 = .ok (.ifCond .ne 9, 3) := by decide +kernel
theorem dX6_doAdd_36 : decode cX6_doAdd 36 = .ok (.aload_n 0, 1) := by decide +kernel
theorem dX6_doAdd_37 : decode cX6_doAdd 37 = .ok (.iconst 1, 1) := by decide +kernel
theorem dX6_doAdd_38 : decode cX6_doAdd 38 = .ok (.invokevirtual 94, 3) := by decide +kernel
theorem dX6_doAdd_41 : decode cX6_doAdd 41 = .ok (.ireturn, 1) := by decide +kernel
theorem dX6_doAdd_42 : decode cX6_doAdd 42 = .ok (.iload 5, 2) := by decide +kernel
theorem dX6_doAdd_44 : decode cX6_doAdd 44 = .ok (.iconst 5, 1) := by decide +kernel
theorem dX6_doAdd_45 : decode cX6_doAdd 45 = .ok (.if_icmp .ne 9, 3) := by decide +kernel
theorem dX6_doAdd_48 : decode cX6_doAdd 48 = .ok (.aload_n 0, 1) := by decide +kernel
theorem dX6_doAdd_49 : decode cX6_doAdd 49 = .ok (.iconst 2, 1) := by decide +kernel
theorem dX6_doAdd_50 : decode cX6_doAdd 50 = .ok (.invokevirtual 94, 3) := by decide +kernel
theorem dX6_doAdd_53 : decode cX6_doAdd 53 = .ok (.ireturn, 1) := by decide +kernel
theorem dX6_doAdd_54 : decode cX6_doAdd 54 = .ok (.bipush 19, 2) := by decide +kernel
theorem dX6_doAdd_56 : decode cX6_doAdd 56 = .ok (.iconst 5, 1) := by decide +kernel
theorem dX6_doAdd_57 : decode cX6_doAdd 57 = .ok (.iload 5, 2) := by decide +kernel
theorem dX6_doAdd_59 : decode cX6_doAdd 59 = .ok (.imul, 1) := by decide +kernel
theorem dX6_doAdd_60 : decode cX6_doAdd 60 = .ok (.iadd, 1) := by decide +kernel
theorem dX6_doAdd_61 : decode cX6_doAdd 61 = .ok (.istore 6, 2) := by decide +kernel
theorem dX6_doAdd_63 : decode cX6_doAdd 63 = .ok (.aload_n 0, 1) := by decide +kernel
theorem dX6_doAdd_64 : decode cX6_doAdd 64 = .ok (.getfield 9, 3) := by decide +kernel
theorem dX6_doAdd_67 : decode cX6_doAdd 67 = .ok (.iload 6, 2) := by decide +kernel
theorem dX6_doAdd_69 : decode cX6_doAdd 69 = .ok (.iload_n 1, 1) := by decide +kernel
theorem dX6_doAdd_70 : decode cX6_doAdd 70 = .ok (.iastore, 1) := by decide +kernel
theorem dX6_doAdd_71 : decode cX6_doAdd 71 = .ok (.aload_n 0, 1) := by decide +kernel
theorem dX6_doAdd_72 : decode cX6_doAdd 72 = .ok (.getfield 9, 3) := by decide +kernel
theorem dX6_doAdd_75 : decode cX6_doAdd 75 = .ok (.iload 6, 2) := by decide +kernel
theorem dX6_doAdd_77 : decode cX6_doAdd 77 = .ok (.iconst 1, 1) := by decide +kernel
theorem dX6_doAdd_78 : decode cX6_doAdd 78 = .ok (.iadd, 1) := by decide +kernel
theorem dX6_doAdd_79 : decode cX6_doAdd 79 = .ok (.iload_n 2, 1) := by decide +kernel
theorem dX6_doAdd_80 : decode cX6_doAdd 80 = .ok (.iastore, 1) := by decide +kernel
theorem dX6_doAdd_81 : decode cX6_doAdd 81 = .ok (.aload_n 0, 1) := by decide +kernel
theorem dX6_doAdd_82 : decode cX6_doAdd 82 = .ok (.getfield 9, 3) := by decide +kernel
theorem dX6_doAdd_85 : decode cX6_doAdd 85 = .ok (.iload 6, 2) := by decide +kernel
theorem dX6_doAdd_87 : decode cX6_doAdd 87 = .ok (.iconst 2, 1) := by decide +kernel
theorem dX6_doAdd_88 : decode cX6_doAdd 88 = .ok (.iadd, 1) := by decide +kernel
theorem dX6_doAdd_89 : decode cX6_doAdd 89 = .ok (.iload_n 3, 1) := by decide +kernel
theorem dX6_doAdd_90 : decode cX6_doAdd 90 = .ok (.iastore, 1) := by decide +kernel
theorem dX6_doAdd_91 : decode cX6_doAdd 91 = .ok (.aload_n 0, 1) := by decide +kernel
theorem dX6_doAdd_92 : decode cX6_doAdd 92 = .ok (.getfield 9, 3) := by decide +kernel
theorem dX6_doAdd_95 : decode cX6_doAdd 95 = .ok (.iload 6, 2) := by decide +kernel
theorem dX6_doAdd_97 : decode cX6_doAdd 97 = .ok (.iconst 3, 1) := by decide +kernel
theorem dX6_doAdd_98 : decode cX6_doAdd 98 = .ok (.iadd, 1) := by decide +kernel
theorem dX6_doAdd_99 : decode cX6_doAdd 99 = .ok (.iload 4, 2) := by decide +kernel
theorem dX6_doAdd_101 : decode cX6_doAdd 101 = .ok (.iastore, 1) := by decide +kernel
theorem dX6_doAdd_102 : decode cX6_doAdd 102 = .ok (.aload_n 0, 1) := by decide +kernel
theorem dX6_doAdd_103 : decode cX6_doAdd 103 = .ok (.getfield 9, 3) := by decide +kernel
theorem dX6_doAdd_106 : decode cX6_doAdd 106 = .ok (.iload 6, 2) := by decide +kernel
theorem dX6_doAdd_108 : decode cX6_doAdd 108 = .ok (.iconst 4, 1) := by decide +kernel
theorem dX6_doAdd_109 : decode cX6_doAdd 109 = .ok (.iadd, 1) := by decide +kernel
theorem dX6_doAdd_110 : decode cX6_doAdd 110 = .ok (.aload_n 0, 1) := by decide +kernel
theorem dX6_doAdd_111 : decode cX6_doAdd 111 = .ok (.getfield 9, 3) := by decide +kernel
theorem dX6_doAdd_114 : decode cX6_doAdd 114 = .ok (.iconst 2, 1) := by decide +kernel
theorem dX6_doAdd_115 : decode cX6_doAdd 115 = .ok (.iaload, 1) := by decide +kernel
theorem dX6_doAdd_116 : decode cX6_doAdd 116 = .ok (.iastore, 1) := by decide +kernel
theorem dX6_doAdd_117 : decode cX6_doAdd 117 = .ok (.aload_n 0, 1) := by decide +kernel
theorem dX6_doAdd_118 : decode cX6_doAdd 118 = .ok (.getfield 9, 3) := by decide +kernel
theorem dX6_doAdd_121 : decode cX6_doAdd 121 = .ok (.iconst 0, 1) := by decide +kernel
theorem dX6_doAdd_122 : decode cX6_doAdd 122 = .ok (.dup2, 1) := by decide +kernel
theorem dX6_doAdd_123 : decode cX6_doAdd 123 = .ok (.iaload, 1) := by decide +kernel
theorem dX6_doAdd_124 : decode cX6_doAdd 124 = .ok (.iconst 1, 1) := by decide +kernel
theorem dX6_doAdd_125 : decode cX6_doAdd 125 = .ok (.iadd, 1) := by decide +kernel
theorem dX6_doAdd_126 : decode cX6_doAdd 126 = .ok (.iastore, 1) := by decide +kernel
theorem dX6_doAdd_127 : decode cX6_doAdd 127 = .ok (.iload 5, 2) := by decide +kernel
theorem dX6_doAdd_129 : decode cX6_doAdd 129 = .ok (.ireturn, 1) := by decide +kernel
set_option maxRecDepth 20000 in
theorem ggX6_addHardMoon_X6_keep : GoodIn wsX6_addHardMoon wsX6_keep := goodIn_r _ [5, 6, 7, 8, 9, 10, 11, 12, 33, 34, 35, 36, 37, 38, 39, 40, 41, 42, 43, 44, 45, 46, 47, 48, 49] (by decide +kernel) (by decide +kernel)
set_option maxRecDepth 20000 in
theorem gX6_addHardMoon_X6_keep : GoodIn wsX6_addHardMoon (wsV RX6 97 RX6 yX6_keep wsX6_keep) := goodIn_app (goodIn_of _ (by decide +kernel)) ggX6_addHardMoon_X6_keep
set_option maxRecDepth 20000 in
theorem ggX6_addHardMoon_X6_doAdd : GoodIn wsX6_addHardMoon wsX6_doAdd := goodIn_ca (goodIn_r _ [16, 7, 17, 18, 4, 19, 20, 21, 22, 23, 24, 25, 26, 6, 33, 34, 35, 36, 37, 38, 39, 40, 41, 42, 43, 44, 45, 46, 47, 48, 49] (by decide +kernel) (by decide +kernel)) (goodIn_sub (fun _ h => List.mem_cons_of_mem _ (List.mem_append_right _ h)) (by decide +kernel))
set_option maxRecDepth 20000 in
theorem gX6_addHardMoon_X6_doAdd : GoodIn wsX6_addHardMoon (wsV RX6 100 RX6 yX6_doAdd wsX6_doAdd) := goodIn_app (goodIn_of _ (by decide +kernel)) ggX6_addHardMoon_X6_doAdd
set_option maxRecDepth 20000 in
theorem ggX6_addHardMoon_X6_ends : GoodIn wsX6_addHardMoon wsX6_ends := goodIn_r _ [30, 6, 8, 7, 9, 10, 11, 12, 31, 32, 33, 34, 35, 36, 37, 38, 39, 40, 41, 42, 43, 44, 45, 46, 47, 48, 49] (by decide +kernel) (by decide +kernel)
set_option maxRecDepth 20000 in
theorem gX6_addHardMoon_X6_ends : GoodIn wsX6_addHardMoon (wsV RX6 104 RX6 yX6_ends wsX6_ends) := goodIn_app (goodIn_of _ (by decide +kernel)) ggX6_addHardMoon_X6_ends
theorem dX6_addHardMoon_0 : decode cX6_addHardMoon 0 = .ok (.aload_n 0, 1) := by decide +kernel
theorem dX6_addHardMoon_1 : decode cX6_addHardMoon 1 = .ok (.invokevirtual 97, 3) := by decide +kernel
theorem dX6_addHardMoon_4 : decode cX6_addHardMoon 4 = .ok (.aload_n 0, 1) := by decide +kernel
theorem dX6_addHardMoon_5 : decode cX6_addHardMoon 5 = .ok (.aload_n 0, 1) := by decide +kernel
theorem dX6_addHardMoon_6 : decode cX6_addHardMoon 6 = .ok (.iconst 0, 1) := by decide +kernel
theorem dX6_addHardMoon_7 : decode cX6_addHardMoon 7 = .ok (.iload_n 1, 1) := by decide +kernel
theorem dX6_addHardMoon_8 : decode cX6_addHardMoon 8 = .ok (.iload_n 2, 1) := by decide +kernel
theorem dX6_addHardMoon_9 : decode cX6_addHardMoon 9 = .ok (.iload_n 3, 1) := by decide +kernel
theorem dX6_addHardMoon_10 : decode cX6_addHardMoon 10 = .ok (.invokevirtual 100, 3) := by decide +kernel
theorem dX6_addHardMoon_13 : decode cX6_addHardMoon 13 = .ok (.invokevirtual 104, 3) := by decide +kernel
theorem dX6_addHardMoon_16 : decode cX6_addHardMoon 16 = .ok (.ireturn, 1) := by decide +kernel
set_option maxRecDepth 20000 in
theorem ggX6_addSoftMoon_X6_keep : GoodIn wsX6_addSoftMoon wsX6_keep := goodIn_r _ [5, 6, 7, 8, 9, 10, 11, 12, 33, 34, 35, 36, 37, 38, 39, 40, 41, 42, 43, 44, 45, 46, 47, 48, 49] (by decide +kernel) (by decide +kernel)
set_option maxRecDepth 20000 in
theorem gX6_addSoftMoon_X6_keep : GoodIn wsX6_addSoftMoon (wsV RX6 97 RX6 yX6_keep wsX6_keep) := goodIn_app (goodIn_of _ (by decide +kernel)) ggX6_addSoftMoon_X6_keep
set_option maxRecDepth 20000 in
theorem ggX6_addSoftMoon_X6_doAdd : GoodIn wsX6_addSoftMoon wsX6_doAdd := goodIn_ca (goodIn_r _ [16, 7, 17, 18, 4, 19, 20, 21, 22, 23, 24, 25, 26, 6, 33, 34, 35, 36, 37, 38, 39, 40, 41, 42, 43, 44, 45, 46, 47, 48, 49] (by decide +kernel) (by decide +kernel)) (goodIn_sub (fun _ h => List.mem_cons_of_mem _ (List.mem_append_right _ h)) (by decide +kernel))
set_option maxRecDepth 20000 in
theorem gX6_addSoftMoon_X6_doAdd : GoodIn wsX6_addSoftMoon (wsV RX6 100 RX6 yX6_doAdd wsX6_doAdd) := goodIn_app (goodIn_of _ (by decide +kernel)) ggX6_addSoftMoon_X6_doAdd
set_option maxRecDepth 20000 in
theorem ggX6_addSoftMoon_X6_ends : GoodIn wsX6_addSoftMoon wsX6_ends := goodIn_r _ [30, 6, 8, 7, 9, 10, 11, 12, 31, 32, 33, 34, 35, 36, 37, 38, 39, 40, 41, 42, 43, 44, 45, 46, 47, 48, 49] (by decide +kernel) (by decide +kernel)
set_option maxRecDepth 20000 in
theorem gX6_addSoftMoon_X6_ends : GoodIn wsX6_addSoftMoon (wsV RX6 104 RX6 yX6_ends wsX6_ends) := goodIn_app (goodIn_of _ (by decide +kernel)) ggX6_addSoftMoon_X6_ends
theorem dX6_addSoftMoon_0 : decode cX6_addSoftMoon 0 = .ok (.aload_n 0, 1) := by decide +kernel
theorem dX6_addSoftMoon_1 : decode cX6_addSoftMoon 1 = .ok (.invokevirtual 97, 3) := by decide +kernel
theorem dX6_addSoftMoon_4 : decode cX6_addSoftMoon 4 = .ok (.aload_n 0, 1) := by decide +kernel
theorem dX6_addSoftMoon_5 : decode cX6_addSoftMoon 5 = .ok (.aload_n 0, 1) := by decide +kernel
theorem dX6_addSoftMoon_6 : decode cX6_addSoftMoon 6 = .ok (.iconst 1, 1) := by decide +kernel
theorem dX6_addSoftMoon_7 : decode cX6_addSoftMoon 7 = .ok (.iload_n 1, 1) := by decide +kernel
theorem dX6_addSoftMoon_8 : decode cX6_addSoftMoon 8 = .ok (.iload_n 2, 1) := by decide +kernel
theorem dX6_addSoftMoon_9 : decode cX6_addSoftMoon 9 = .ok (.iload_n 3, 1) := by decide +kernel
theorem dX6_addSoftMoon_10 : decode cX6_addSoftMoon 10 = .ok (.invokevirtual 100, 3) := by decide +kernel
theorem dX6_addSoftMoon_13 : decode cX6_addSoftMoon 13 = .ok (.invokevirtual 104, 3) := by decide +kernel
theorem dX6_addSoftMoon_16 : decode cX6_addSoftMoon 16 = .ok (.ireturn, 1) := by decide +kernel
set_option maxRecDepth 20000 in
theorem ggX6_addBubbleMoon_X6_keep : GoodIn wsX6_addBubbleMoon wsX6_keep := goodIn_r _ [5, 6, 7, 8, 9, 10, 11, 12, 33, 34, 35, 36, 37, 38, 39, 40, 41, 42, 43, 44, 45, 46, 47, 48, 49] (by decide +kernel) (by decide +kernel)
set_option maxRecDepth 20000 in
theorem gX6_addBubbleMoon_X6_keep : GoodIn wsX6_addBubbleMoon (wsV RX6 97 RX6 yX6_keep wsX6_keep) := goodIn_app (goodIn_of _ (by decide +kernel)) ggX6_addBubbleMoon_X6_keep
set_option maxRecDepth 20000 in
theorem ggX6_addBubbleMoon_X6_doAdd : GoodIn wsX6_addBubbleMoon wsX6_doAdd := goodIn_ca (goodIn_r _ [16, 7, 17, 18, 4, 19, 20, 21, 22, 23, 24, 25, 26, 6, 33, 34, 35, 36, 37, 38, 39, 40, 41, 42, 43, 44, 45, 46, 47, 48, 49] (by decide +kernel) (by decide +kernel)) (goodIn_sub (fun _ h => List.mem_cons_of_mem _ (List.mem_append_right _ h)) (by decide +kernel))
set_option maxRecDepth 20000 in
theorem gX6_addBubbleMoon_X6_doAdd : GoodIn wsX6_addBubbleMoon (wsV RX6 100 RX6 yX6_doAdd wsX6_doAdd) := goodIn_app (goodIn_of _ (by decide +kernel)) ggX6_addBubbleMoon_X6_doAdd
set_option maxRecDepth 20000 in
theorem ggX6_addBubbleMoon_X6_ends : GoodIn wsX6_addBubbleMoon wsX6_ends := goodIn_r _ [30, 6, 8, 7, 9, 10, 11, 12, 31, 32, 33, 34, 35, 36, 37, 38, 39, 40, 41, 42, 43, 44, 45, 46, 47, 48, 49] (by decide +kernel) (by decide +kernel)
set_option maxRecDepth 20000 in
theorem gX6_addBubbleMoon_X6_ends : GoodIn wsX6_addBubbleMoon (wsV RX6 104 RX6 yX6_ends wsX6_ends) := goodIn_app (goodIn_of _ (by decide +kernel)) ggX6_addBubbleMoon_X6_ends
theorem dX6_addBubbleMoon_0 : decode cX6_addBubbleMoon 0 = .ok (.aload_n 0, 1) := by decide +kernel
theorem dX6_addBubbleMoon_1 : decode cX6_addBubbleMoon 1 = .ok (.invokevirtual 97, 3) := by decide +kernel
theorem dX6_addBubbleMoon_4 : decode cX6_addBubbleMoon 4 = .ok (.aload_n 0, 1) := by decide +kernel
theorem dX6_addBubbleMoon_5 : decode cX6_addBubbleMoon 5 = .ok (.aload_n 0, 1) := by decide +kernel
theorem dX6_addBubbleMoon_6 : decode cX6_addBubbleMoon 6 = .ok (.iconst 2, 1) := by decide +kernel
theorem dX6_addBubbleMoon_7 : decode cX6_addBubbleMoon 7 = .ok (.iload_n 1, 1) := by decide +kernel
theorem dX6_addBubbleMoon_8 : decode cX6_addBubbleMoon 8 = .ok (.iload_n 2, 1) := by decide +kernel
theorem dX6_addBubbleMoon_9 : decode cX6_addBubbleMoon 9 = .ok (.iload_n 3, 1) := by decide +kernel
theorem dX6_addBubbleMoon_10 : decode cX6_addBubbleMoon 10 = .ok (.invokevirtual 100, 3) := by decide +kernel
theorem dX6_addBubbleMoon_13 : decode cX6_addBubbleMoon 13 = .ok (.invokevirtual 104, 3) := by decide +kernel
theorem dX6_addBubbleMoon_16 : decode cX6_addBubbleMoon 16 = .ok (.ireturn, 1) := by decide +kernel
set_option maxRecDepth 20000 in
theorem ggX6_doRemoveMoon_X6_isMoon : GoodIn wsX6_doRemoveMoon wsX6_isMoon := goodIn_ca (goodIn_r _ [10, 1, 11, 12, 9, 13, 19, 20, 21, 22, 23, 24, 25, 26, 27, 28, 29, 30, 31, 32, 33, 34, 35] (by decide +kernel) (by decide +kernel)) (goodIn_sub (fun _ h => List.mem_cons_of_mem _ (List.mem_append_right _ h)) (by decide +kernel))
set_option maxRecDepth 20000 in
theorem gX6_doRemoveMoon_X6_isMoon : GoodIn wsX6_doRemoveMoon (wsV RX6 107 RX6 yX6_isMoon wsX6_isMoon) := goodIn_app (goodIn_of _ (by decide +kernel)) ggX6_doRemoveMoon_X6_isMoon
set_option maxRecDepth 20000 in
theorem ggX6_doRemoveMoon_X6_fails : GoodIn wsX6_doRemoveMoon wsX6_fails := goodIn_r _ [17, 18, 19, 20, 21, 22, 23, 24, 25, 26, 27, 28, 29, 30, 31, 32, 33, 34, 35] (by decide +kernel) (by decide +kernel)
set_option maxRecDepth 20000 in
theorem gX6_doRemoveMoon_X6_fails : GoodIn wsX6_doRemoveMoon (wsV RX6 94 RX6 yX6_fails wsX6_fails) := goodIn_app (goodIn_of _ (by decide +kernel)) ggX6_doRemoveMoon_X6_fails
theorem dX6_doRemoveMoon_0 : decode cX6_doRemoveMoon 0 = .ok (.aload_n 0, 1) := by decide +kernel
theorem dX6_doRemoveMoon_1 : decode cX6_doRemoveMoon 1 = .ok (.iload_n 1, 1) := by decide +kernel
theorem dX6_doRemoveMoon_2 : decode cX6_doRemoveMoon 2 = .ok (.invokevirtual 107, 3) := by decide +kernel
theorem dX6_doRemoveMoon_5 : decode cX6_doRemoveMoon 5 = .ok (.ifCond .ne 9, 3) := by decide +kernel
theorem dX6_doRemoveMoon_8 : decode cX6_doRemoveMoon 8 = .ok (.aload_n 0, 1) := by decide +kernel
theorem dX6_doRemoveMoon_9 : decode cX6_doRemoveMoon 9 = .ok (.iconst 1, 1) := by decide +kernel
theorem dX6_doRemoveMoon_10 : decode cX6_doRemoveMoon 10 = .ok (.invokevirtual 94, 3) := by decide +kernel
theorem dX6_doRemoveMoon_13 : decode cX6_doRemoveMoon 13 = .ok (.ireturn, 1) := by decide +kernel
theorem dX6_doRemoveMoon_14 : decode cX6_doRemoveMoon 14 = .ok (.aload_n 0, 1) := by decide +kernel
theorem dX6_doRemoveMoon_15 : decode cX6_doRemoveMoon 15 = .ok (.getfield 9, 3) := by decide +kernel
theorem dX6_doRemoveMoon_18 : decode cX6_doRemoveMoon 18 = .ok (.iconst 0, 1) := by decide +kernel
theorem dX6_doRemoveMoon_19 : decode cX6_doRemoveMoon 19 = .ok (.iaload, 1) := by decide +kernel
theorem dX6_doRemoveMoon_20 : decode cX6_doRemoveMoon 20 = .ok (.iconst 1, 1) := by decide +kernel
theorem dX6_doRemoveMoon_21 : decode cX6_doRemoveMoon 21 = .ok (.isub, 1) := by decide +kernel
theorem dX6_doRemoveMoon_22 : decode cX6_doRemoveMoon 22 = .ok (.istore_n 2, 1) := by decide +kernel
theorem dX6_doRemoveMoon_23 : decode cX6_doRemoveMoon 23 = .ok (.bipush 19, 2) := by decide +kernel
theorem dX6_doRemoveMoon_25 : decode cX6_doRemoveMoon 25 = .ok (.iconst 5, 1) := by decide +kernel
theorem dX6_doRemoveMoon_26 : decode cX6_doRemoveMoon 26 = .ok (.iload_n 1, 1) := by decide +kernel
theorem dX6_doRemoveMoon_27 : decode cX6_doRemoveMoon 27 = .ok (.imul, 1) := by decide +kernel
theorem dX6_doRemoveMoon_28 : decode cX6_doRemoveMoon 28 = .ok (.iadd, 1) := by decide +kernel
theorem dX6_doRemoveMoon_29 : decode cX6_doRemoveMoon 29 = .ok (.istore_n 3, 1) := by decide +kernel
theorem dX6_doRemoveMoon_30 : decode cX6_doRemoveMoon 30 = .ok (.aload_n 0, 1) := by decide +kernel
theorem dX6_doRemoveMoon_31 : decode cX6_doRemoveMoon 31 = .ok (.getfield 9, 3) := by decide +kernel
theorem dX6_doRemoveMoon_34 : decode cX6_doRemoveMoon 34 = .ok (.iload_n 3, 1) := by decide +kernel
theorem dX6_doRemoveMoon_35 : decode cX6_doRemoveMoon 35 = .ok (.iconst 5, 1) := by decide +kernel
theorem dX6_doRemoveMoon_36 : decode cX6_doRemoveMoon 36 = .ok (.iadd, 1) := by decide +kernel
theorem dX6_doRemoveMoon_37 : decode cX6_doRemoveMoon 37 = .ok (.aload_n 0, 1) := by decide +kernel
theorem dX6_doRemoveMoon_38 : decode cX6_doRemoveMoon 38 = .ok (.getfield 9, 3) := by decide +kernel
theorem dX6_doRemoveMoon_41 : decode cX6_doRemoveMoon 41 = .ok (.iload_n 3, 1) := by decide +kernel
theorem dX6_doRemoveMoon_42 : decode cX6_doRemoveMoon 42 = .ok (.iconst 5, 1) := by decide +kernel
theorem dX6_doRemoveMoon_43 : decode cX6_doRemoveMoon 43 = .ok (.iload_n 2, 1) := by decide +kernel
theorem dX6_doRemoveMoon_44 : decode cX6_doRemoveMoon 44 = .ok (.iload_n 1, 1) := by decide +kernel
theorem dX6_doRemoveMoon_45 : decode cX6_doRemoveMoon 45 = .ok (.isub, 1) := by decide +kernel
theorem dX6_doRemoveMoon_46 : decode cX6_doRemoveMoon 46 = .ok (.imul, 1) := by decide +kernel
theorem dX6_doRemoveMoon_47 : decode cX6_doRemoveMoon 47 = .ok (.invokestatic 42, 3) := by decide +kernel
theorem dX6_doRemoveMoon_50 : decode cX6_doRemoveMoon 50 = .ok (.aload_n 0, 1) := by decide +kernel
theorem dX6_doRemoveMoon_51 : decode cX6_doRemoveMoon 51 = .ok (.getfield 9, 3) := by decide +kernel
theorem dX6_doRemoveMoon_54 : decode cX6_doRemoveMoon 54 = .ok (.iconst 0, 1) := by decide +kernel
theorem dX6_doRemoveMoon_55 : decode cX6_doRemoveMoon 55 = .ok (.iload_n 2, 1) := by decide +kernel
theorem dX6_doRemoveMoon_56 : decode cX6_doRemoveMoon 56 = .ok (.iastore, 1) := by decide +kernel
theorem dX6_doRemoveMoon_57 : decode cX6_doRemoveMoon 57 = .ok (.iload_n 2, 1) := by decide +kernel
theorem dX6_doRemoveMoon_58 : decode cX6_doRemoveMoon 58 = .ok (.ireturn, 1) := by decide +kernel
set_option maxRecDepth 20000 in
theorem ggX6_removeMoon_X6_keep : GoodIn wsX6_removeMoon wsX6_keep := goodIn_r _ [5, 6, 7, 8, 9, 10, 11, 12, 34, 35, 36, 37, 38, 39, 40, 41, 42, 43, 44, 45, 46, 47, 48, 49, 50] (by decide +kernel) (by decide +kernel)
set_option maxRecDepth 20000 in
theorem gX6_removeMoon_X6_keep : GoodIn wsX6_removeMoon (wsV RX6 97 RX6 yX6_keep wsX6_keep) := goodIn_app (goodIn_of _ (by decide +kernel)) ggX6_removeMoon_X6_keep
set_option maxRecDepth 20000 in
theorem ggX6_removeMoon_X6_doRemoveMoon : GoodIn wsX6_removeMoon wsX6_doRemoveMoon := goodIn_ca (goodIn_r _ [16, 7, 9, 10, 11, 12, 17, 18, 19, 4, 20, 21, 22, 23, 24, 25, 26, 27, 6, 34, 35, 36, 37, 38, 39, 40, 41, 42, 43, 44, 45, 46, 47, 48, 49, 50] (by decide +kernel) (by decide +kernel)) (goodIn_sub (fun _ h => List.mem_cons_of_mem _ (List.mem_append_right _ h)) (by decide +kernel))
set_option maxRecDepth 20000 in
theorem gX6_removeMoon_X6_doRemoveMoon : GoodIn wsX6_removeMoon (wsV RX6 110 RX6 yX6_doRemoveMoon wsX6_doRemoveMoon) := goodIn_app (goodIn_of _ (by decide +kernel)) ggX6_removeMoon_X6_doRemoveMoon
set_option maxRecDepth 20000 in
theorem ggX6_removeMoon_X6_ends : GoodIn wsX6_removeMoon wsX6_ends := goodIn_r _ [31, 6, 8, 7, 9, 10, 11, 12, 32, 33, 34, 35, 36, 37, 38, 39, 40, 41, 42, 43, 44, 45, 46, 47, 48, 49, 50] (by decide +kernel) (by decide +kernel)
set_option maxRecDepth 20000 in
theorem gX6_removeMoon_X6_ends : GoodIn wsX6_removeMoon (wsV RX6 104 RX6 yX6_ends wsX6_ends) := goodIn_app (goodIn_of _ (by decide +kernel)) ggX6_removeMoon_X6_ends
theorem dX6_removeMoon_0 : decode cX6_removeMoon 0 = .ok (.aload_n 0, 1) := by decide +kernel
theorem dX6_removeMoon_1 : decode cX6_removeMoon 1 = .ok (.invokevirtual 97, 3) := by decide +kernel
theorem dX6_removeMoon_4 : decode cX6_removeMoon 4 = .ok (.aload_n 0, 1) := by decide +kernel
theorem dX6_removeMoon_5 : decode cX6_removeMoon 5 = .ok (.aload_n 0, 1) := by decide +kernel
theorem dX6_removeMoon_6 : decode cX6_removeMoon 6 = .ok (.iload_n 1, 1) := by decide +kernel
theorem dX6_removeMoon_7 : decode cX6_removeMoon 7 = .ok (.invokevirtual 110, 3) := by decide +kernel
theorem dX6_removeMoon_10 : decode cX6_removeMoon 10 = .ok (.invokevirtual 104, 3) := by decide +kernel
theorem dX6_removeMoon_13 : decode cX6_removeMoon 13 = .ok (.ireturn, 1) := by decide +kernel
theorem dX6_moonCount_0 : decode cX6_moonCount 0 = .ok (.aload_n 0, 1) := by decide +kernel
theorem dX6_moonCount_1 : decode cX6_moonCount 1 = .ok (.iconst 0, 1) := by decide +kernel
theorem dX6_moonCount_2 : decode cX6_moonCount 2 = .ok (.putfield 39, 3) := by decide +kernel
theorem dX6_moonCount_5 : decode cX6_moonCount 5 = .ok (.aload_n 0, 1) := by decide +kernel
theorem dX6_moonCount_6 : decode cX6_moonCount 6 = .ok (.getfield 9, 3) := by decide +kernel
theorem dX6_moonCount_9 : decode cX6_moonCount 9 = .ok (.iconst 0, 1) := by decide +kernel
theorem dX6_moonCount_10 : decode cX6_moonCount 10 = .ok (.iaload, 1) := by decide +kernel
theorem dX6_moonCount_11 : decode cX6_moonCount 11 = .ok (.ireturn, 1) := by decide +kernel
set_option maxRecDepth 20000 in
theorem ggX6_positionOf_X6_isMoon : GoodIn wsX6_positionOf wsX6_isMoon := goodIn_ca (goodIn_r _ [5, 6, 7, 8, 4, 9, 27, 28, 29, 30, 31, 32, 33, 34, 35, 36, 37, 38, 39, 40, 41, 42, 43] (by decide +kernel) (by decide +kernel)) (goodIn_sub (fun _ h => List.mem_cons_of_mem _ (List.mem_append_left _ (List.mem_append_right _ h))) (by decide +kernel))
set_option maxRecDepth 20000 in
theorem gX6_positionOf_X6_isMoon : GoodIn wsX6_positionOf (wsV RX6 107 RX6 yX6_isMoon wsX6_isMoon) := goodIn_app (goodIn_of _ (by decide +kernel)) ggX6_positionOf_X6_isMoon
set_option maxRecDepth 20000 in
theorem ggX6_positionOf_X6_isThere : GoodIn wsX6_positionOf wsX6_isThere := goodIn_r _ [13, 14, 27, 28, 29, 30, 31, 32, 33, 34, 35, 36, 37, 38, 39, 40, 41, 42, 43] (by decide +kernel) (by decide +kernel)
set_option maxRecDepth 20000 in
theorem gX6_positionOf_X6_isThere : GoodIn wsX6_positionOf (wsV RX6 113 RX6 yX6_isThere wsX6_isThere) := goodIn_app (goodIn_of _ (by decide +kernel)) ggX6_positionOf_X6_isThere
set_option maxRecDepth 20000 in
theorem ggX6_positionOf_X6_placeIn : GoodIn wsX6_positionOf wsX6_placeIn := goodIn_ca (goodIn_ca (goodIn_r _ [18, 19, 20, 21, 4, 22, 6, 23, 24, 25, 26, 27, 28, 29, 30, 31, 32, 33, 34, 35, 36, 37, 38, 39, 40, 41, 42, 43] (by decide +kernel) (by decide +kernel)) (goodIn_sub (fun _ h => List.mem_cons_of_mem _ (List.mem_append_right _ h)) (by decide +kernel))) (goodIn_sub (fun _ h => List.mem_cons_of_mem _ (List.mem_append_left _ (List.mem_append_right _ h))) (by decide +kernel))
set_option maxRecDepth 20000 in
theorem gX6_positionOf_X6_placeIn : GoodIn wsX6_positionOf (wsV RX6 67 RX6 yX6_placeIn wsX6_placeIn) := goodIn_app (goodIn_of _ (by decide +kernel)) ggX6_positionOf_X6_placeIn
theorem dX6_positionOf_0 : decode cX6_positionOf 0 = .ok (.aload_n 0, 1) := by decide +kernel
theorem dX6_positionOf_1 : decode cX6_positionOf 1 = .ok (.aload_n 0, 1) := by decide +kernel
theorem dX6_positionOf_2 : decode cX6_positionOf 2 = .ok (.iload_n 1, 1) := by decide +kernel
theorem dX6_positionOf_3 : decode cX6_positionOf 3 = .ok (.invokevirtual 107, 3) := by decide +kernel
theorem dX6_positionOf_6 : decode cX6_positionOf 6 = .ok (.invokevirtual 113, 3) := by decide +kernel
theorem dX6_positionOf_9 : decode cX6_positionOf 9 = .ok (.ifCond .eq 12, 3) := by decide +kernel
theorem dX6_positionOf_12 : decode cX6_positionOf 12 = .ok (.aload_n 0, 1) := by decide +kernel
theorem dX6_positionOf_13 : decode cX6_positionOf 13 = .ok (.iload_n 1, 1) := by decide +kernel
theorem dX6_positionOf_14 : decode cX6_positionOf 14 = .ok (.iconst 0, 1) := by decide +kernel
theorem dX6_positionOf_15 : decode cX6_positionOf 15 = .ok (.invokevirtual 67, 3) := by decide +kernel
theorem dX6_positionOf_18 : decode cX6_positionOf 18 = .ok (.goto 4, 3) := by decide +kernel
theorem dX6_positionOf_21 : decode cX6_positionOf 21 = .ok (.iconst 0, 1) := by decide +kernel
theorem dX6_positionOf_22 : decode cX6_positionOf 22 = .ok (.ireturn, 1) := by decide +kernel
set_option maxRecDepth 20000 in
theorem ggX6_massOf_X6_isMoon : GoodIn wsX6_massOf wsX6_isMoon := goodIn_ca (goodIn_r _ [5, 6, 7, 8, 4, 9, 31, 32, 33, 34, 35, 36, 37, 38, 39, 40, 41, 42, 43, 44, 45, 46, 47] (by decide +kernel) (by decide +kernel)) (goodIn_sub (fun _ h => List.mem_cons_of_mem _ (List.mem_append_right _ h)) (by decide +kernel))
set_option maxRecDepth 20000 in
theorem gX6_massOf_X6_isMoon : GoodIn wsX6_massOf (wsV RX6 107 RX6 yX6_isMoon wsX6_isMoon) := goodIn_app (goodIn_of _ (by decide +kernel)) ggX6_massOf_X6_isMoon
set_option maxRecDepth 20000 in
theorem ggX6_massOf_X6_isThere : GoodIn wsX6_massOf wsX6_isThere := goodIn_r _ [13, 14, 31, 32, 33, 34, 35, 36, 37, 38, 39, 40, 41, 42, 43, 44, 45, 46, 47] (by decide +kernel) (by decide +kernel)
set_option maxRecDepth 20000 in
theorem gX6_massOf_X6_isThere : GoodIn wsX6_massOf (wsV RX6 113 RX6 yX6_isThere wsX6_isThere) := goodIn_app (goodIn_of _ (by decide +kernel)) ggX6_massOf_X6_isThere
set_option maxRecDepth 20000 in
theorem ggX6_massOf_X6_massIn : GoodIn wsX6_massOf wsX6_massIn := goodIn_ca (goodIn_r _ [18, 19, 20, 21, 22, 23, 24, 25, 4, 26, 6, 27, 28, 29, 30, 31, 32, 33, 34, 35, 36, 37, 38, 39, 40, 41, 42, 43, 44, 45, 46, 47] (by decide +kernel) (by decide +kernel)) (goodIn_sub (fun _ h => List.mem_cons_of_mem _ (List.mem_append_right _ h)) (by decide +kernel))
set_option maxRecDepth 20000 in
theorem gX6_massOf_X6_massIn : GoodIn wsX6_massOf (wsV RX6 77 RX6 yX6_massIn wsX6_massIn) := goodIn_app (goodIn_of _ (by decide +kernel)) ggX6_massOf_X6_massIn
theorem dX6_massOf_0 : decode cX6_massOf 0 = .ok (.aload_n 0, 1) := by decide +kernel
theorem dX6_massOf_1 : decode cX6_massOf 1 = .ok (.aload_n 0, 1) := by decide +kernel
theorem dX6_massOf_2 : decode cX6_massOf 2 = .ok (.iload_n 1, 1) := by decide +kernel
theorem dX6_massOf_3 : decode cX6_massOf 3 = .ok (.invokevirtual 107, 3) := by decide +kernel
theorem dX6_massOf_6 : decode cX6_massOf 6 = .ok (.invokevirtual 113, 3) := by decide +kernel
theorem dX6_massOf_9 : decode cX6_massOf 9 = .ok (.ifCond .eq 12, 3) := by decide +kernel
theorem dX6_massOf_12 : decode cX6_massOf 12 = .ok (.aload_n 0, 1) := by decide +kernel
theorem dX6_massOf_13 : decode cX6_massOf 13 = .ok (.iload_n 1, 1) := by decide +kernel
theorem dX6_massOf_14 : decode cX6_massOf 14 = .ok (.iconst 0, 1) := by decide +kernel
theorem dX6_massOf_15 : decode cX6_massOf 15 = .ok (.invokevirtual 77, 3) := by decide +kernel
theorem dX6_massOf_18 : decode cX6_massOf 18 = .ok (.goto 4, 3) := by decide +kernel
theorem dX6_massOf_21 : decode cX6_massOf 21 = .ok (.iconst 0, 1) := by decide +kernel
theorem dX6_massOf_22 : decode cX6_massOf 22 = .ok (.ireturn, 1) := by decide +kernel
set_option maxRecDepth 20000 in
theorem ggX6_ageOf_X6_isMoon : GoodIn wsX6_ageOf wsX6_isMoon := goodIn_ca (goodIn_r _ [5, 6, 7, 8, 4, 9, 23, 24, 25, 26, 27, 28, 29, 30, 31, 32, 33, 34, 35, 36, 37, 38, 39] (by decide +kernel) (by decide +kernel)) (goodIn_sub (fun _ h => List.mem_cons_of_mem _ (List.mem_append_right _ h)) (by decide +kernel))
set_option maxRecDepth 20000 in
theorem gX6_ageOf_X6_isMoon : GoodIn wsX6_ageOf (wsV RX6 107 RX6 yX6_isMoon wsX6_isMoon) := goodIn_app (goodIn_of _ (by decide +kernel)) ggX6_ageOf_X6_isMoon
set_option maxRecDepth 20000 in
theorem ggX6_ageOf_X6_isThere : GoodIn wsX6_ageOf wsX6_isThere := goodIn_r _ [13, 14, 23, 24, 25, 26, 27, 28, 29, 30, 31, 32, 33, 34, 35, 36, 37, 38, 39] (by decide +kernel) (by decide +kernel)
set_option maxRecDepth 20000 in
theorem gX6_ageOf_X6_isThere : GoodIn wsX6_ageOf (wsV RX6 113 RX6 yX6_isThere wsX6_isThere) := goodIn_app (goodIn_of _ (by decide +kernel)) ggX6_ageOf_X6_isThere
set_option maxRecDepth 20000 in
theorem ggX6_ageOf_X6_ageIn : GoodIn wsX6_ageOf wsX6_ageIn := goodIn_ca (goodIn_r _ [18, 6, 19, 20, 21, 4, 22, 23, 24, 25, 26, 27, 28, 29, 30, 31, 32, 33, 34, 35, 36, 37, 38, 39] (by decide +kernel) (by decide +kernel)) (goodIn_sub (fun _ h => List.mem_cons_of_mem _ (List.mem_append_right _ h)) (by decide +kernel))
set_option maxRecDepth 20000 in
theorem gX6_ageOf_X6_ageIn : GoodIn wsX6_ageOf (wsV RX6 59 RX6 yX6_ageIn wsX6_ageIn) := goodIn_app (goodIn_of _ (by decide +kernel)) ggX6_ageOf_X6_ageIn
theorem dX6_ageOf_0 : decode cX6_ageOf 0 = .ok (.aload_n 0, 1) := by decide +kernel
theorem dX6_ageOf_1 : decode cX6_ageOf 1 = .ok (.aload_n 0, 1) := by decide +kernel
theorem dX6_ageOf_2 : decode cX6_ageOf 2 = .ok (.iload_n 1, 1) := by decide +kernel
theorem dX6_ageOf_3 : decode cX6_ageOf 3 = .ok (.invokevirtual 107, 3) := by decide +kernel
theorem dX6_ageOf_6 : decode cX6_ageOf 6 = .ok (.invokevirtual 113, 3) := by decide +kernel
theorem dX6_ageOf_9 : decode cX6_ageOf 9 = .ok (.ifCond .eq 12, 3) := by decide +kernel
theorem dX6_ageOf_12 : decode cX6_ageOf 12 = .ok (.aload_n 0, 1) := by decide +kernel
theorem dX6_ageOf_13 : decode cX6_ageOf 13 = .ok (.iload_n 1, 1) := by decide +kernel
theorem dX6_ageOf_14 : decode cX6_ageOf 14 = .ok (.iconst 0, 1) := by decide +kernel
theorem dX6_ageOf_15 : decode cX6_ageOf 15 = .ok (.invokevirtual 59, 3) := by decide +kernel
theorem dX6_ageOf_18 : decode cX6_ageOf 18 = .ok (.goto 4, 3) := by decide +kernel
theorem dX6_ageOf_21 : decode cX6_ageOf 21 = .ok (.iconst 0, 1) := by decide +kernel
theorem dX6_ageOf_22 : decode cX6_ageOf 22 = .ok (.ireturn, 1) := by decide +kernel
set_option maxRecDepth 20000 in
theorem ggX6_isHard_X6_isMoon : GoodIn wsX6_isHard wsX6_isMoon := goodIn_ca (goodIn_r _ [5, 6, 7, 8, 4, 9, 19, 20, 21, 22, 23, 24, 25, 26, 27, 28, 29, 30, 31, 32, 33, 34, 35] (by decide +kernel) (by decide +kernel)) (goodIn_sub (fun _ h => List.mem_cons_of_mem _ (List.mem_append_right _ h)) (by decide +kernel))
set_option maxRecDepth 20000 in
theorem gX6_isHard_X6_isMoon : GoodIn wsX6_isHard (wsV RX6 107 RX6 yX6_isMoon wsX6_isMoon) := goodIn_app (goodIn_of _ (by decide +kernel)) ggX6_isHard_X6_isMoon
set_option maxRecDepth 20000 in
theorem ggX6_isHard_X6_isThere : GoodIn wsX6_isHard wsX6_isThere := goodIn_r _ [13, 14, 19, 20, 21, 22, 23, 24, 25, 26, 27, 28, 29, 30, 31, 32, 33, 34, 35] (by decide +kernel) (by decide +kernel)
set_option maxRecDepth 20000 in
theorem gX6_isHard_X6_isThere : GoodIn wsX6_isHard (wsV RX6 113 RX6 yX6_isThere wsX6_isThere) := goodIn_app (goodIn_of _ (by decide +kernel)) ggX6_isHard_X6_isThere
set_option maxRecDepth 20000 in
theorem ggX6_isHard_X6_ofMoon : GoodIn wsX6_isHard wsX6_ofMoon := goodIn_ca (goodIn_r _ [18, 6, 19, 20, 21, 22, 23, 24, 25, 26, 27, 28, 29, 30, 31, 32, 33, 34, 35] (by decide +kernel) (by decide +kernel)) (goodIn_sub (fun _ h => List.mem_cons_of_mem _ (List.mem_append_right _ h)) (by decide +kernel))
set_option maxRecDepth 20000 in
theorem gX6_isHard_X6_ofMoon : GoodIn wsX6_isHard (wsV RX6 55 RX6 yX6_ofMoon wsX6_ofMoon) := goodIn_app (goodIn_of _ (by decide +kernel)) ggX6_isHard_X6_ofMoon
theorem dX6_isHard_0 : decode cX6_isHard 0 = .ok (.aload_n 0, 1) := by decide +kernel
theorem dX6_isHard_1 : decode cX6_isHard 1 = .ok (.aload_n 0, 1) := by decide +kernel
theorem dX6_isHard_2 : decode cX6_isHard 2 = .ok (.iload_n 1, 1) := by decide +kernel
theorem dX6_isHard_3 : decode cX6_isHard 3 = .ok (.invokevirtual 107, 3) := by decide +kernel
theorem dX6_isHard_6 : decode cX6_isHard 6 = .ok (.invokevirtual 113, 3) := by decide +kernel
theorem dX6_isHard_9 : decode cX6_isHard 9 = .ok (.ifCond .eq 16, 3) := by decide +kernel
theorem dX6_isHard_12 : decode cX6_isHard 12 = .ok (.aload_n 0, 1) := by decide +kernel
theorem dX6_isHard_13 : decode cX6_isHard 13 = .ok (.iload_n 1, 1) := by decide +kernel
theorem dX6_isHard_14 : decode cX6_isHard 14 = .ok (.iconst 0, 1) := by decide +kernel
theorem dX6_isHard_15 : decode cX6_isHard 15 = .ok (.invokevirtual 55, 3) := by decide +kernel
theorem dX6_isHard_18 : decode cX6_isHard 18 = .ok (.ifCond .ne 7, 3) := by decide +kernel
theorem dX6_isHard_21 : decode cX6_isHard 21 = .ok (.iconst 1, 1) := by decide +kernel
theorem dX6_isHard_22 : decode cX6_isHard 22 = .ok (.goto 4, 3) := by decide +kernel
theorem dX6_isHard_25 : decode cX6_isHard 25 = .ok (.iconst 0, 1) := by decide +kernel
theorem dX6_isHard_26 : decode cX6_isHard 26 = .ok (.ireturn, 1) := by decide +kernel
set_option maxRecDepth 20000 in
theorem ggX6_isSoft_X6_isMoon : GoodIn wsX6_isSoft wsX6_isMoon := goodIn_ca (goodIn_r _ [5, 6, 7, 8, 4, 9, 19, 20, 21, 22, 23, 24, 25, 26, 27, 28, 29, 30, 31, 32, 33, 34, 35] (by decide +kernel) (by decide +kernel)) (goodIn_sub (fun _ h => List.mem_cons_of_mem _ (List.mem_append_right _ h)) (by decide +kernel))
set_option maxRecDepth 20000 in
theorem gX6_isSoft_X6_isMoon : GoodIn wsX6_isSoft (wsV RX6 107 RX6 yX6_isMoon wsX6_isMoon) := goodIn_app (goodIn_of _ (by decide +kernel)) ggX6_isSoft_X6_isMoon
set_option maxRecDepth 20000 in
theorem ggX6_isSoft_X6_isThere : GoodIn wsX6_isSoft wsX6_isThere := goodIn_r _ [13, 14, 19, 20, 21, 22, 23, 24, 25, 26, 27, 28, 29, 30, 31, 32, 33, 34, 35] (by decide +kernel) (by decide +kernel)
set_option maxRecDepth 20000 in
theorem gX6_isSoft_X6_isThere : GoodIn wsX6_isSoft (wsV RX6 113 RX6 yX6_isThere wsX6_isThere) := goodIn_app (goodIn_of _ (by decide +kernel)) ggX6_isSoft_X6_isThere
set_option maxRecDepth 20000 in
theorem ggX6_isSoft_X6_ofMoon : GoodIn wsX6_isSoft wsX6_ofMoon := goodIn_ca (goodIn_r _ [18, 6, 19, 20, 21, 22, 23, 24, 25, 26, 27, 28, 29, 30, 31, 32, 33, 34, 35] (by decide +kernel) (by decide +kernel)) (goodIn_sub (fun _ h => List.mem_cons_of_mem _ (List.mem_append_right _ h)) (by decide +kernel))
set_option maxRecDepth 20000 in
theorem gX6_isSoft_X6_ofMoon : GoodIn wsX6_isSoft (wsV RX6 55 RX6 yX6_ofMoon wsX6_ofMoon) := goodIn_app (goodIn_of _ (by decide +kernel)) ggX6_isSoft_X6_ofMoon
theorem dX6_isSoft_0 : decode cX6_isSoft 0 = .ok (.aload_n 0, 1) := by decide +kernel
theorem dX6_isSoft_1 : decode cX6_isSoft 1 = .ok (.aload_n 0, 1) := by decide +kernel
theorem dX6_isSoft_2 : decode cX6_isSoft 2 = .ok (.iload_n 1, 1) := by decide +kernel
theorem dX6_isSoft_3 : decode cX6_isSoft 3 = .ok (.invokevirtual 107, 3) := by decide +kernel
theorem dX6_isSoft_6 : decode cX6_isSoft 6 = .ok (.invokevirtual 113, 3) := by decide +kernel
theorem dX6_isSoft_9 : decode cX6_isSoft 9 = .ok (.ifCond .eq 17, 3) := by decide +kernel
theorem dX6_isSoft_12 : decode cX6_isSoft 12 = .ok (.aload_n 0, 1) := by decide +kernel
theorem dX6_isSoft_13 : decode cX6_isSoft 13 = .ok (.iload_n 1, 1) := by decide +kernel
theorem dX6_isSoft_14 : decode cX6_isSoft 14 = .ok (.iconst 0, 1) := by decide +kernel
theorem dX6_isSoft_15 : decode cX6_isSoft 15 = .ok (.invokevirtual 55, 3) := by decide +kernel
theorem dX6_isSoft_18 : decode cX6_isSoft 18 = .ok (.iconst 1, 1) := by decide +kernel
theorem dX6_isSoft_19 : decode cX6_isSoft 19 = .ok (.if_icmp .ne 7, 3) := by decide +kernel
theorem dX6_isSoft_22 : decode cX6_isSoft 22 = .ok (.iconst 1, 1) := by decide +kernel
theorem dX6_isSoft_23 : decode cX6_isSoft 23 = .ok (.goto 4, 3) := by decide +kernel
theorem dX6_isSoft_26 : decode cX6_isSoft 26 = .ok (.iconst 0, 1) := by decide +kernel
theorem dX6_isSoft_27 : decode cX6_isSoft 27 = .ok (.ireturn, 1) := by decide +kernel
set_option maxRecDepth 20000 in
theorem ggX6_isEclipsed_X6_isMoon : GoodIn wsX6_isEclipsed wsX6_isMoon := goodIn_ca (goodIn_r _ [5, 6, 7, 8, 4, 9, 31, 32, 33, 34, 35, 36, 37, 38, 39, 40, 41, 42, 43, 44, 45, 46, 47] (by decide +kernel) (by decide +kernel)) (goodIn_sub (fun _ h => List.mem_cons_of_mem _ (List.mem_append_left _ (List.mem_append_right _ h))) (by decide +kernel))
set_option maxRecDepth 20000 in
theorem gX6_isEclipsed_X6_isMoon : GoodIn wsX6_isEclipsed (wsV RX6 107 RX6 yX6_isMoon wsX6_isMoon) := goodIn_app (goodIn_of _ (by decide +kernel)) ggX6_isEclipsed_X6_isMoon
set_option maxRecDepth 20000 in
theorem ggX6_isEclipsed_X6_isThere : GoodIn wsX6_isEclipsed wsX6_isThere := goodIn_r _ [13, 14, 31, 32, 33, 34, 35, 36, 37, 38, 39, 40, 41, 42, 43, 44, 45, 46, 47] (by decide +kernel) (by decide +kernel)
set_option maxRecDepth 20000 in
theorem gX6_isEclipsed_X6_isThere : GoodIn wsX6_isEclipsed (wsV RX6 113 RX6 yX6_isThere wsX6_isThere) := goodIn_app (goodIn_of _ (by decide +kernel)) ggX6_isEclipsed_X6_isThere
set_option maxRecDepth 20000 in
theorem ggX6_isEclipsed_X6_isShaded : GoodIn wsX6_isEclipsed wsX6_isShaded := goodIn_ca (goodIn_ca (goodIn_r _ [18, 6, 19, 20, 21, 4, 22, 23, 24, 25, 26, 27, 28, 29, 30, 31, 32, 33, 34, 35, 36, 37, 38, 39, 40, 41, 42, 43, 44, 45, 46, 47] (by decide +kernel) (by decide +kernel)) (goodIn_sub (fun _ h => List.mem_cons_of_mem _ (List.mem_append_left _ (List.mem_append_right _ h))) (by decide +kernel))) (goodIn_sub (fun _ h => List.mem_cons_of_mem _ (List.mem_append_right _ h)) (by decide +kernel))
set_option maxRecDepth 20000 in
theorem gX6_isEclipsed_X6_isShaded : GoodIn wsX6_isEclipsed (wsV RX6 83 RX6 yX6_isShaded wsX6_isShaded) := goodIn_app (goodIn_of _ (by decide +kernel)) ggX6_isEclipsed_X6_isShaded
theorem dX6_isEclipsed_0 : decode cX6_isEclipsed 0 = .ok (.aload_n 0, 1) := by decide +kernel
theorem dX6_isEclipsed_1 : decode cX6_isEclipsed 1 = .ok (.aload_n 0, 1) := by decide +kernel
theorem dX6_isEclipsed_2 : decode cX6_isEclipsed 2 = .ok (.iload_n 1, 1) := by decide +kernel
theorem dX6_isEclipsed_3 : decode cX6_isEclipsed 3 = .ok (.invokevirtual 107, 3) := by decide +kernel
theorem dX6_isEclipsed_6 : decode cX6_isEclipsed 6 = .ok (.invokevirtual 113, 3) := by decide +kernel
theorem dX6_isEclipsed_9 : decode cX6_isEclipsed 9 = .ok (.ifCond .eq 16, 3) := by decide +kernel
theorem dX6_isEclipsed_12 : decode cX6_isEclipsed 12 = .ok (.aload_n 0, 1) := by decide +kernel
theorem dX6_isEclipsed_13 : decode cX6_isEclipsed 13 = .ok (.iload_n 1, 1) := by decide +kernel
theorem dX6_isEclipsed_14 : decode cX6_isEclipsed 14 = .ok (.iconst 0, 1) := by decide +kernel
theorem dX6_isEclipsed_15 : decode cX6_isEclipsed 15 = .ok (.invokevirtual 83, 3) := by decide +kernel
theorem dX6_isEclipsed_18 : decode cX6_isEclipsed 18 = .ok (.ifCond .eq 7, 3) := by decide +kernel
theorem dX6_isEclipsed_21 : decode cX6_isEclipsed 21 = .ok (.iconst 1, 1) := by decide +kernel
theorem dX6_isEclipsed_22 : decode cX6_isEclipsed 22 = .ok (.goto 4, 3) := by decide +kernel
theorem dX6_isEclipsed_25 : decode cX6_isEclipsed 25 = .ok (.iconst 0, 1) := by decide +kernel
theorem dX6_isEclipsed_26 : decode cX6_isEclipsed 26 = .ok (.ireturn, 1) := by decide +kernel
theorem dX6_toes_0 : decode cX6_toes 0 = .ok (.iconst 0, 1) := by decide +kernel
theorem dX6_toes_1 : decode cX6_toes 1 = .ok (.istore_n 1, 1) := by decide +kernel
theorem dX6_toes_2 : decode cX6_toes 2 = .ok (.iconst 0, 1) := by decide +kernel
theorem dX6_toes_3 : decode cX6_toes 3 = .ok (.istore_n 2, 1) := by decide +kernel
theorem dX6_toes_4 : decode cX6_toes 4 = .ok (.iload_n 2, 1) := by decide +kernel
theorem dX6_toes_5 : decode cX6_toes 5 = .ok (.bipush 12, 2) := by decide +kernel
theorem dX6_toes_7 : decode cX6_toes 7 = .ok (.if_icmp .ge 21, 3) := by decide +kernel
theorem dX6_toes_10 : decode cX6_toes 10 = .ok (.iload_n 1, 1) := by decide +kernel
theorem dX6_toes_11 : decode cX6_toes 11 = .ok (.aload_n 0, 1) := by decide +kernel
theorem dX6_toes_12 : decode cX6_toes 12 = .ok (.getfield 9, 3) := by decide +kernel
theorem dX6_toes_15 : decode cX6_toes 15 = .ok (.bipush 7, 2) := by decide +kernel
theorem dX6_toes_17 : decode cX6_toes 17 = .ok (.iload_n 2, 1) := by decide +kernel
theorem dX6_toes_18 : decode cX6_toes 18 = .ok (.iadd, 1) := by decide +kernel
theorem dX6_toes_19 : decode cX6_toes 19 = .ok (.iaload, 1) := by decide +kernel
theorem dX6_toes_20 : decode cX6_toes 20 = .ok (.iadd, 1) := by decide +kernel
theorem dX6_toes_21 : decode cX6_toes 21 = .ok (.istore_n 1, 1) := by decide +kernel
theorem dX6_toes_22 : decode cX6_toes 22 = .ok (.iinc 2 1, 3) := by decide +kernel
theorem dX6_toes_25 : decode cX6_toes 25 = .ok (.goto (-21), 3) := by decide +kernel
theorem dX6_toes_28 : decode cX6_toes 28 = .ok (.iload_n 1, 1) := by decide +kernel
theorem dX6_toes_29 : decode cX6_toes 29 = .ok (.ireturn, 1) := by decide +kernel
set_option maxRecDepth 20000 in
theorem ggX6_doPlaceToe_X6_isPosition : GoodIn wsX6_doPlaceToe wsX6_isPosition := goodIn_r _ [5, 6, 7, 4, 8] (by decide +kernel) (by decide +kernel)
set_option maxRecDepth 20000 in
theorem gX6_doPlaceToe_X6_isPosition : GoodIn wsX6_doPlaceToe (va_wsS RX6 90 yX6_isPosition wsX6_isPosition) := goodIn_app (goodIn_of _ (by decide +kernel)) ggX6_doPlaceToe_X6_isPosition
set_option maxRecDepth 20000 in
theorem ggX6_doPlaceToe_X6_fails : GoodIn wsX6_doPlaceToe wsX6_fails := goodIn_r _ [12, 13, 18, 19, 20, 21, 22, 23, 24, 25, 26, 27, 28, 29, 30, 31, 32, 33, 34] (by decide +kernel) (by decide +kernel)
set_option maxRecDepth 20000 in
theorem gX6_doPlaceToe_X6_fails : GoodIn wsX6_doPlaceToe (wsV RX6 94 RX6 yX6_fails wsX6_fails) := goodIn_app (goodIn_of _ (by decide +kernel)) ggX6_doPlaceToe_X6_fails
set_option maxRecDepth 20000 in
theorem ggX6_doPlaceToe_X6_toes : GoodIn wsX6_doPlaceToe wsX6_toes := goodIn_ca (goodIn_r _ [17, 1, 18, 19, 20, 21, 22, 23, 24, 25, 26, 27, 28, 29, 30, 31, 32, 33, 34] (by decide +kernel) (by decide +kernel)) (goodIn_sub (fun _ h => List.mem_cons_of_mem _ (List.mem_append_right _ h)) (by decide +kernel))
set_option maxRecDepth 20000 in
theorem gX6_doPlaceToe_X6_toes : GoodIn wsX6_doPlaceToe (wsV RX6 117 RX6 yX6_toes wsX6_toes) := goodIn_app (goodIn_of _ (by decide +kernel)) ggX6_doPlaceToe_X6_toes
theorem dX6_doPlaceToe_0 : decode cX6_doPlaceToe 0 = .ok (.iload_n 1, 1) := by decide +kernel
theorem dX6_doPlaceToe_1 : decode cX6_doPlaceToe 1 = .ok (.invokestatic 90, 3) := by decide +kernel
theorem dX6_doPlaceToe_4 : decode cX6_doPlaceToe 4 = .ok (.ifCond .ne 9, 3) := by decide +kernel
theorem dX6_doPlaceToe_7 : decode cX6_doPlaceToe 7 = .ok (.aload_n 0, 1) := by decide +kernel
theorem dX6_doPlaceToe_8 : decode cX6_doPlaceToe 8 = .ok (.iconst 1, 1) := by decide +kernel
theorem dX6_doPlaceToe_9 : decode cX6_doPlaceToe 9 = .ok (.invokevirtual 94, 3) := by decide +kernel
theorem dX6_doPlaceToe_12 : decode cX6_doPlaceToe 12 = .ok (.ireturn, 1) := by decide +kernel
theorem dX6_doPlaceToe_13 : decode cX6_doPlaceToe 13 = .ok (.aload_n 0, 1) := by decide +kernel
theorem dX6_doPlaceToe_14 : decode cX6_doPlaceToe 14 = .ok (.getfield 9, 3) := by decide +kernel
theorem dX6_doPlaceToe_17 : decode cX6_doPlaceToe 17 = .ok (.bipush 7, 2) := by decide +kernel
theorem dX6_doPlaceToe_19 : decode cX6_doPlaceToe 19 = .ok (.iload_n 1, 1) := by decide +kernel
theorem dX6_doPlaceToe_20 : decode cX6_doPlaceToe 20 = .ok (.iadd, 1) := by decide +kernel
theorem dX6_doPlaceToe_21 : decode cX6_doPlaceToe 21 = .ok (.iaload, 1) := by decide +kernel
theorem dX6_doPlaceToe_22 : decode cX6_doPlaceToe 22 = .ok (.iconst 1, 1) := by decide +kernel
theorem dX6_doPlaceToe_23 : decode cX6_doPlaceToe 23 = .ok (.if_icmp .eq 11, 3) := by decide +kernel
theorem dX6_doPlaceToe_26 : decode cX6_doPlaceToe 26 = .ok (.aload_n 0, 1) := by decide +kernel
theorem dX6_doPlaceToe_27 : decode cX6_doPlaceToe 27 = .ok (.invokevirtual 117, 3) := by decide +kernel
theorem dX6_doPlaceToe_30 : decode cX6_doPlaceToe 30 = .ok (.iconst 4, 1) := by decide +kernel
theorem dX6_doPlaceToe_31 : decode cX6_doPlaceToe 31 = .ok (.if_icmp .ne 9, 3) := by decide +kernel
theorem dX6_doPlaceToe_34 : decode cX6_doPlaceToe 34 = .ok (.aload_n 0, 1) := by decide +kernel
theorem dX6_doPlaceToe_35 : decode cX6_doPlaceToe 35 = .ok (.iconst 2, 1) := by decide +kernel
theorem dX6_doPlaceToe_36 : decode cX6_doPlaceToe 36 = .ok (.invokevirtual 94, 3) := by decide +kernel
theorem dX6_doPlaceToe_39 : decode cX6_doPlaceToe 39 = .ok (.ireturn, 1) := by decide +kernel
theorem dX6_doPlaceToe_40 : decode cX6_doPlaceToe 40 = .ok (.aload_n 0, 1) := by decide +kernel
theorem dX6_doPlaceToe_41 : decode cX6_doPlaceToe 41 = .ok (.getfield 9, 3) := by decide +kernel
theorem dX6_doPlaceToe_44 : decode cX6_doPlaceToe 44 = .ok (.bipush 7, 2) := by decide +kernel
theorem dX6_doPlaceToe_46 : decode cX6_doPlaceToe 46 = .ok (.iload_n 1, 1) := by decide +kernel
theorem dX6_doPlaceToe_47 : decode cX6_doPlaceToe 47 = .ok (.iadd, 1) := by decide +kernel
theorem dX6_doPlaceToe_48 : decode cX6_doPlaceToe 48 = .ok (.iconst 1, 1) := by decide +kernel
theorem dX6_doPlaceToe_49 : decode cX6_doPlaceToe 49 = .ok (.iastore, 1) := by decide +kernel
theorem dX6_doPlaceToe_50 : decode cX6_doPlaceToe 50 = .ok (.aload_n 0, 1) := by decide +kernel
theorem dX6_doPlaceToe_51 : decode cX6_doPlaceToe 51 = .ok (.invokevirtual 117, 3) := by decide +kernel
theorem dX6_doPlaceToe_54 : decode cX6_doPlaceToe 54 = .ok (.ireturn, 1) := by decide +kernel
set_option maxRecDepth 20000 in
theorem ggX6_placeToe_X6_keep : GoodIn wsX6_placeToe wsX6_keep := goodIn_r _ [5, 6, 7, 8, 9, 10, 11, 12, 37, 38, 39, 40, 41, 42, 43, 44, 45, 46, 47, 48, 49, 50, 51, 52, 53] (by decide +kernel) (by decide +kernel)
set_option maxRecDepth 20000 in
theorem gX6_placeToe_X6_keep : GoodIn wsX6_placeToe (wsV RX6 97 RX6 yX6_keep wsX6_keep) := goodIn_app (goodIn_of _ (by decide +kernel)) ggX6_placeToe_X6_keep
set_option maxRecDepth 20000 in
theorem ggX6_placeToe_X6_doPlaceToe : GoodIn wsX6_placeToe wsX6_doPlaceToe := goodIn_ca (goodIn_r _ [16, 7, 17, 18, 4, 19, 20, 21, 22, 23, 24, 25, 26, 6, 27, 28, 29, 30, 37, 38, 39, 40, 41, 42, 43, 44, 45, 46, 47, 48, 49, 50, 51, 52, 53] (by decide +kernel) (by decide +kernel)) (goodIn_sub (fun _ h => List.mem_cons_of_mem _ (List.mem_append_right _ h)) (by decide +kernel))
set_option maxRecDepth 20000 in
theorem gX6_placeToe_X6_doPlaceToe : GoodIn wsX6_placeToe (wsV RX6 121 RX6 yX6_doPlaceToe wsX6_doPlaceToe) := goodIn_app (goodIn_of _ (by decide +kernel)) ggX6_placeToe_X6_doPlaceToe
set_option maxRecDepth 20000 in
theorem ggX6_placeToe_X6_ends : GoodIn wsX6_placeToe wsX6_ends := goodIn_r _ [34, 6, 8, 7, 9, 10, 11, 12, 35, 36, 37, 38, 39, 40, 41, 42, 43, 44, 45, 46, 47, 48, 49, 50, 51, 52, 53] (by decide +kernel) (by decide +kernel)
set_option maxRecDepth 20000 in
theorem gX6_placeToe_X6_ends : GoodIn wsX6_placeToe (wsV RX6 104 RX6 yX6_ends wsX6_ends) := goodIn_app (goodIn_of _ (by decide +kernel)) ggX6_placeToe_X6_ends
theorem dX6_placeToe_0 : decode cX6_placeToe 0 = .ok (.aload_n 0, 1) := by decide +kernel
theorem dX6_placeToe_1 : decode cX6_placeToe 1 = .ok (.invokevirtual 97, 3) := by decide +kernel
theorem dX6_placeToe_4 : decode cX6_placeToe 4 = .ok (.aload_n 0, 1) := by decide +kernel
theorem dX6_placeToe_5 : decode cX6_placeToe 5 = .ok (.aload_n 0, 1) := by decide +kernel
theorem dX6_placeToe_6 : decode cX6_placeToe 6 = .ok (.iload_n 1, 1) := by decide +kernel
theorem dX6_placeToe_7 : decode cX6_placeToe 7 = .ok (.invokevirtual 121, 3) := by decide +kernel
theorem dX6_placeToe_10 : decode cX6_placeToe 10 = .ok (.invokevirtual 104, 3) := by decide +kernel
theorem dX6_placeToe_13 : decode cX6_placeToe 13 = .ok (.ireturn, 1) := by decide +kernel
set_option maxRecDepth 20000 in
theorem ggX6_doRemoveToe_X6_isPosition : GoodIn wsX6_doRemoveToe wsX6_isPosition := goodIn_r _ [5, 6, 7, 4, 8] (by decide +kernel) (by decide +kernel)
set_option maxRecDepth 20000 in
theorem gX6_doRemoveToe_X6_isPosition : GoodIn wsX6_doRemoveToe (va_wsS RX6 90 yX6_isPosition wsX6_isPosition) := goodIn_app (goodIn_of _ (by decide +kernel)) ggX6_doRemoveToe_X6_isPosition
set_option maxRecDepth 20000 in
theorem ggX6_doRemoveToe_X6_fails : GoodIn wsX6_doRemoveToe wsX6_fails := goodIn_r _ [12, 13, 18, 19, 20, 21, 22, 23, 24, 25, 26, 27, 28, 29, 30, 31, 32, 33, 34] (by decide +kernel) (by decide +kernel)
set_option maxRecDepth 20000 in
theorem gX6_doRemoveToe_X6_fails : GoodIn wsX6_doRemoveToe (wsV RX6 94 RX6 yX6_fails wsX6_fails) := goodIn_app (goodIn_of _ (by decide +kernel)) ggX6_doRemoveToe_X6_fails
set_option maxRecDepth 20000 in
theorem ggX6_doRemoveToe_X6_toes : GoodIn wsX6_doRemoveToe wsX6_toes := goodIn_ca (goodIn_r _ [17, 1, 18, 19, 20, 21, 22, 23, 24, 25, 26, 27, 28, 29, 30, 31, 32, 33, 34] (by decide +kernel) (by decide +kernel)) (goodIn_sub (fun _ h => List.mem_cons_of_mem _ (List.mem_append_right _ h)) (by decide +kernel))
set_option maxRecDepth 20000 in
theorem gX6_doRemoveToe_X6_toes : GoodIn wsX6_doRemoveToe (wsV RX6 117 RX6 yX6_toes wsX6_toes) := goodIn_app (goodIn_of _ (by decide +kernel)) ggX6_doRemoveToe_X6_toes
theorem dX6_doRemoveToe_0 : decode cX6_doRemoveToe 0 = .ok (.iload_n 1, 1) := by decide +kernel
theorem dX6_doRemoveToe_1 : decode cX6_doRemoveToe 1 = .ok (.invokestatic 90, 3) := by decide +kernel
theorem dX6_doRemoveToe_4 : decode cX6_doRemoveToe 4 = .ok (.ifCond .ne 9, 3) := by decide +kernel
theorem dX6_doRemoveToe_7 : decode cX6_doRemoveToe 7 = .ok (.aload_n 0, 1) := by decide +kernel
theorem dX6_doRemoveToe_8 : decode cX6_doRemoveToe 8 = .ok (.iconst 1, 1) := by decide +kernel
theorem dX6_doRemoveToe_9 : decode cX6_doRemoveToe 9 = .ok (.invokevirtual 94, 3) := by decide +kernel
theorem dX6_doRemoveToe_12 : decode cX6_doRemoveToe 12 = .ok (.ireturn, 1) := by decide +kernel
theorem dX6_doRemoveToe_13 : decode cX6_doRemoveToe 13 = .ok (.aload_n 0, 1) := by decide +kernel
theorem dX6_doRemoveToe_14 : decode cX6_doRemoveToe 14 = .ok (.getfield 9, 3) := by decide +kernel
theorem dX6_doRemoveToe_17 : decode cX6_doRemoveToe 17 = .ok (.bipush 7, 2) := by decide +kernel
theorem dX6_doRemoveToe_19 : decode cX6_doRemoveToe 19 = .ok (.iload_n 1, 1) := by decide +kernel
theorem dX6_doRemoveToe_20 : decode cX6_doRemoveToe 20 = .ok (.iadd, 1) := by decide +kernel
theorem dX6_doRemoveToe_21 : decode cX6_doRemoveToe 21 = .ok (.iaload, 1) := by decide +kernel
theorem dX6_doRemoveToe_22 : decode cX6_doRemoveToe 22 = .ok (.ifCond .ne 9, 3) := by decide +kernel
theorem dX6_doRemoveToe_25 : decode cX6_doRemoveToe 25 = .ok (.aload_n 0, 1) := by decide +kernel
theorem dX6_doRemoveToe_26 : decode cX6_doRemoveToe 26 = .ok (.iconst 2, 1) := by decide +kernel
theorem dX6_doRemoveToe_27 : decode cX6_doRemoveToe 27 = .ok (.invokevirtual 94, 3) := by decide +kernel
theorem dX6_doRemoveToe_30 : decode cX6_doRemoveToe 30 = .ok (.ireturn, 1) := by decide +kernel
theorem dX6_doRemoveToe_31 : decode cX6_doRemoveToe 31 = .ok (.aload_n 0, 1) := by decide +kernel
theorem dX6_doRemoveToe_32 : decode cX6_doRemoveToe 32 = .ok (.getfield 9, 3) := by decide +kernel
theorem dX6_doRemoveToe_35 : decode cX6_doRemoveToe 35 = .ok (.bipush 7, 2) := by decide +kernel
theorem dX6_doRemoveToe_37 : decode cX6_doRemoveToe 37 = .ok (.iload_n 1, 1) := by decide +kernel
theorem dX6_doRemoveToe_38 : decode cX6_doRemoveToe 38 = .ok (.iadd, 1) := by decide +kernel
theorem dX6_doRemoveToe_39 : decode cX6_doRemoveToe 39 = .ok (.iconst 0, 1) := by decide +kernel
theorem dX6_doRemoveToe_40 : decode cX6_doRemoveToe 40 = .ok (.iastore, 1) := by decide +kernel
theorem dX6_doRemoveToe_41 : decode cX6_doRemoveToe 41 = .ok (.aload_n 0, 1) := by decide +kernel
theorem dX6_doRemoveToe_42 : decode cX6_doRemoveToe 42 = .ok (.invokevirtual 117, 3) := by decide +kernel
theorem dX6_doRemoveToe_45 : decode cX6_doRemoveToe 45 = .ok (.ireturn, 1) := by decide +kernel
set_option maxRecDepth 20000 in
theorem ggX6_removeToe_X6_keep : GoodIn wsX6_removeToe wsX6_keep := goodIn_r _ [5, 6, 7, 8, 9, 10, 11, 12, 37, 38, 39, 40, 41, 42, 43, 44, 45, 46, 47, 48, 49, 50, 51, 52, 53] (by decide +kernel) (by decide +kernel)
set_option maxRecDepth 20000 in
theorem gX6_removeToe_X6_keep : GoodIn wsX6_removeToe (wsV RX6 97 RX6 yX6_keep wsX6_keep) := goodIn_app (goodIn_of _ (by decide +kernel)) ggX6_removeToe_X6_keep
set_option maxRecDepth 20000 in
theorem ggX6_removeToe_X6_doRemoveToe : GoodIn wsX6_removeToe wsX6_doRemoveToe := goodIn_ca (goodIn_r _ [16, 7, 17, 18, 4, 19, 20, 21, 22, 23, 24, 25, 26, 6, 27, 28, 29, 30, 37, 38, 39, 40, 41, 42, 43, 44, 45, 46, 47, 48, 49, 50, 51, 52, 53] (by decide +kernel) (by decide +kernel)) (goodIn_sub (fun _ h => List.mem_cons_of_mem _ (List.mem_append_right _ h)) (by decide +kernel))
set_option maxRecDepth 20000 in
theorem gX6_removeToe_X6_doRemoveToe : GoodIn wsX6_removeToe (wsV RX6 124 RX6 yX6_doRemoveToe wsX6_doRemoveToe) := goodIn_app (goodIn_of _ (by decide +kernel)) ggX6_removeToe_X6_doRemoveToe
set_option maxRecDepth 20000 in
theorem ggX6_removeToe_X6_ends : GoodIn wsX6_removeToe wsX6_ends := goodIn_r _ [34, 6, 8, 7, 9, 10, 11, 12, 35, 36, 37, 38, 39, 40, 41, 42, 43, 44, 45, 46, 47, 48, 49, 50, 51, 52, 53] (by decide +kernel) (by decide +kernel)
set_option maxRecDepth 20000 in
theorem gX6_removeToe_X6_ends : GoodIn wsX6_removeToe (wsV RX6 104 RX6 yX6_ends wsX6_ends) := goodIn_app (goodIn_of _ (by decide +kernel)) ggX6_removeToe_X6_ends
theorem dX6_removeToe_0 : decode cX6_removeToe 0 = .ok (.aload_n 0, 1) := by decide +kernel
theorem dX6_removeToe_1 : decode cX6_removeToe 1 = .ok (.invokevirtual 97, 3) := by decide +kernel
theorem dX6_removeToe_4 : decode cX6_removeToe 4 = .ok (.aload_n 0, 1) := by decide +kernel
theorem dX6_removeToe_5 : decode cX6_removeToe 5 = .ok (.aload_n 0, 1) := by decide +kernel
theorem dX6_removeToe_6 : decode cX6_removeToe 6 = .ok (.iload_n 1, 1) := by decide +kernel
theorem dX6_removeToe_7 : decode cX6_removeToe 7 = .ok (.invokevirtual 124, 3) := by decide +kernel
theorem dX6_removeToe_10 : decode cX6_removeToe 10 = .ok (.invokevirtual 104, 3) := by decide +kernel
theorem dX6_removeToe_13 : decode cX6_removeToe 13 = .ok (.ireturn, 1) := by decide +kernel
set_option maxRecDepth 20000 in
theorem ggX6_hasToe_X6_isPosition : GoodIn wsX6_hasToe wsX6_isPosition := goodIn_r _ [5, 6, 7, 4, 8] (by decide +kernel) (by decide +kernel)
set_option maxRecDepth 20000 in
theorem gX6_hasToe_X6_isPosition : GoodIn wsX6_hasToe (va_wsS RX6 90 yX6_isPosition wsX6_isPosition) := goodIn_app (goodIn_of _ (by decide +kernel)) ggX6_hasToe_X6_isPosition
set_option maxRecDepth 20000 in
theorem ggX6_hasToe_X6_isThere : GoodIn wsX6_hasToe wsX6_isThere := goodIn_r _ [12, 13, 14, 15, 16, 17, 18, 19, 20, 21, 22, 23, 24, 25, 26, 27, 28, 29, 30] (by decide +kernel) (by decide +kernel)
set_option maxRecDepth 20000 in
theorem gX6_hasToe_X6_isThere : GoodIn wsX6_hasToe (wsV RX6 113 RX6 yX6_isThere wsX6_isThere) := goodIn_app (goodIn_of _ (by decide +kernel)) ggX6_hasToe_X6_isThere
theorem dX6_hasToe_0 : decode cX6_hasToe 0 = .ok (.aload_n 0, 1) := by decide +kernel
theorem dX6_hasToe_1 : decode cX6_hasToe 1 = .ok (.iload_n 1, 1) := by decide +kernel
theorem dX6_hasToe_2 : decode cX6_hasToe 2 = .ok (.invokestatic 90, 3) := by decide +kernel
theorem dX6_hasToe_5 : decode cX6_hasToe 5 = .ok (.invokevirtual 113, 3) := by decide +kernel
theorem dX6_hasToe_8 : decode cX6_hasToe 8 = .ok (.ifCond .eq 20, 3) := by decide +kernel
theorem dX6_hasToe_11 : decode cX6_hasToe 11 = .ok (.aload_n 0, 1) := by decide +kernel
theorem dX6_hasToe_12 : decode cX6_hasToe 12 = .ok (.getfield 9, 3) := by decide +kernel
theorem dX6_hasToe_15 : decode cX6_hasToe 15 = .ok (.bipush 7, 2) := by decide +kernel
theorem dX6_hasToe_17 : decode cX6_hasToe 17 = .ok (.iload_n 1, 1) := by decide +kernel
theorem dX6_hasToe_18 : decode cX6_hasToe 18 = .ok (.iadd, 1) := by decide +kernel
theorem dX6_hasToe_19 : decode cX6_hasToe 19 = .ok (.iaload, 1) := by decide +kernel
theorem dX6_hasToe_20 : decode cX6_hasToe 20 = .ok (.iconst 1, 1) := by decide +kernel
theorem dX6_hasToe_21 : decode cX6_hasToe 21 = .ok (.if_icmp .ne 7, 3) := by decide +kernel
theorem dX6_hasToe_24 : decode cX6_hasToe 24 = .ok (.iconst 1, 1) := by decide +kernel
theorem dX6_hasToe_25 : decode cX6_hasToe 25 = .ok (.goto 4, 3) := by decide +kernel
theorem dX6_hasToe_28 : decode cX6_hasToe 28 = .ok (.iconst 0, 1) := by decide +kernel
theorem dX6_hasToe_29 : decode cX6_hasToe 29 = .ok (.ireturn, 1) := by decide +kernel
set_option maxRecDepth 20000 in
theorem ggX6_doInsertPlug_X6_isPosition : GoodIn wsX6_doInsertPlug wsX6_isPosition := goodIn_r _ [5, 6, 7, 4, 8] (by decide +kernel) (by decide +kernel)
set_option maxRecDepth 20000 in
theorem gX6_doInsertPlug_X6_isPosition : GoodIn wsX6_doInsertPlug (va_wsS RX6 90 yX6_isPosition wsX6_isPosition) := goodIn_app (goodIn_of _ (by decide +kernel)) ggX6_doInsertPlug_X6_isPosition
set_option maxRecDepth 20000 in
theorem ggX6_doInsertPlug_X6_fails : GoodIn wsX6_doInsertPlug wsX6_fails := goodIn_r _ [12, 13, 14, 15, 16, 17, 18, 19, 20, 21, 22, 23, 24, 25, 26, 27, 28, 29, 30] (by decide +kernel) (by decide +kernel)
set_option maxRecDepth 20000 in
theorem gX6_doInsertPlug_X6_fails : GoodIn wsX6_doInsertPlug (wsV RX6 94 RX6 yX6_fails wsX6_fails) := goodIn_app (goodIn_of _ (by decide +kernel)) ggX6_doInsertPlug_X6_fails
theorem dX6_doInsertPlug_0 : decode cX6_doInsertPlug 0 = .ok (.iload_n 1, 1) := by decide +kernel
theorem dX6_doInsertPlug_1 : decode cX6_doInsertPlug 1 = .ok (.invokestatic 90, 3) := by decide +kernel
theorem dX6_doInsertPlug_4 : decode cX6_doInsertPlug 4 = .ok (.ifCond .ne 9, 3) := by decide +kernel
theorem dX6_doInsertPlug_7 : decode cX6_doInsertPlug 7 = .ok (.aload_n 0, 1) := by decide +kernel
theorem dX6_doInsertPlug_8 : decode cX6_doInsertPlug 8 = .ok (.iconst 1, 1) := by decide +kernel
theorem dX6_doInsertPlug_9 : decode cX6_doInsertPlug 9 = .ok (.invokevirtual 94, 3) := by decide +kernel
theorem dX6_doInsertPlug_12 : decode cX6_doInsertPlug 12 = .ok (.ireturn, 1) := by decide +kernel
theorem dX6_doInsertPlug_13 : decode cX6_doInsertPlug 13 = .ok (.aload_n 0, 1) := by decide +kernel
theorem dX6_doInsertPlug_14 : decode cX6_doInsertPlug 14 = .ok (.getfield 9, 3) := by decide +kernel
theorem dX6_doInsertPlug_17 : decode cX6_doInsertPlug 17 = .ok (.bipush 6, 2) := by decide +kernel
theorem dX6_doInsertPlug_19 : decode cX6_doInsertPlug 19 = .ok (.iaload, 1) := by decide +kernel
theorem dX6_doInsertPlug_20 : decode cX6_doInsertPlug 20 = .ok (.istore_n 2, 1) := by decide +kernel
theorem dX6_doInsertPlug_21 : decode cX6_doInsertPlug 21 = .ok (.aload_n 0, 1) := by decide +kernel
theorem dX6_doInsertPlug_22 : decode cX6_doInsertPlug 22 = .ok (.getfield 9, 3) := by decide +kernel
theorem dX6_doInsertPlug_25 : decode cX6_doInsertPlug 25 = .ok (.bipush 6, 2) := by decide +kernel
theorem dX6_doInsertPlug_27 : decode cX6_doInsertPlug 27 = .ok (.iload_n 1, 1) := by decide +kernel
theorem dX6_doInsertPlug_28 : decode cX6_doInsertPlug 28 = .ok (.iastore, 1) := by decide +kernel
theorem dX6_doInsertPlug_29 : decode cX6_doInsertPlug 29 = .ok (.iload_n 2, 1) := by decide +kernel
theorem dX6_doInsertPlug_30 : decode cX6_doInsertPlug 30 = .ok (.ifCond .ge 7, 3) := by decide +kernel
theorem dX6_doInsertPlug_33 : decode cX6_doInsertPlug 33 = .ok (.iconst 1, 1) := by decide +kernel
theorem dX6_doInsertPlug_34 : decode cX6_doInsertPlug 34 = .ok (.goto 4, 3) := by decide +kernel
theorem dX6_doInsertPlug_37 : decode cX6_doInsertPlug 37 = .ok (.iconst 0, 1) := by decide +kernel
theorem dX6_doInsertPlug_38 : decode cX6_doInsertPlug 38 = .ok (.ireturn, 1) := by decide +kernel
set_option maxRecDepth 20000 in
theorem ggX6_insertPlug_X6_keep : GoodIn wsX6_insertPlug wsX6_keep := goodIn_r _ [5, 6, 7, 8, 9, 10, 11, 12, 33, 34, 35, 36, 37, 38, 39, 40, 41, 42, 43, 44, 45, 46, 47, 48, 49] (by decide +kernel) (by decide +kernel)
set_option maxRecDepth 20000 in
theorem gX6_insertPlug_X6_keep : GoodIn wsX6_insertPlug (wsV RX6 97 RX6 yX6_keep wsX6_keep) := goodIn_app (goodIn_of _ (by decide +kernel)) ggX6_insertPlug_X6_keep
set_option maxRecDepth 20000 in
theorem ggX6_insertPlug_X6_doInsertPlug : GoodIn wsX6_insertPlug wsX6_doInsertPlug := goodIn_ca (goodIn_r _ [16, 7, 17, 18, 4, 19, 20, 21, 22, 23, 24, 25, 26, 6, 33, 34, 35, 36, 37, 38, 39, 40, 41, 42, 43, 44, 45, 46, 47, 48, 49] (by decide +kernel) (by decide +kernel)) (goodIn_sub (fun _ h => List.mem_cons_of_mem _ (List.mem_append_right _ h)) (by decide +kernel))
set_option maxRecDepth 20000 in
theorem gX6_insertPlug_X6_doInsertPlug : GoodIn wsX6_insertPlug (wsV RX6 127 RX6 yX6_doInsertPlug wsX6_doInsertPlug) := goodIn_app (goodIn_of _ (by decide +kernel)) ggX6_insertPlug_X6_doInsertPlug
set_option maxRecDepth 20000 in
theorem ggX6_insertPlug_X6_ends : GoodIn wsX6_insertPlug wsX6_ends := goodIn_r _ [30, 6, 8, 7, 9, 10, 11, 12, 31, 32, 33, 34, 35, 36, 37, 38, 39, 40, 41, 42, 43, 44, 45, 46, 47, 48, 49] (by decide +kernel) (by decide +kernel)
set_option maxRecDepth 20000 in
theorem gX6_insertPlug_X6_ends : GoodIn wsX6_insertPlug (wsV RX6 104 RX6 yX6_ends wsX6_ends) := goodIn_app (goodIn_of _ (by decide +kernel)) ggX6_insertPlug_X6_ends
theorem dX6_insertPlug_0 : decode cX6_insertPlug 0 = .ok (.aload_n 0, 1) := by decide +kernel
theorem dX6_insertPlug_1 : decode cX6_insertPlug 1 = .ok (.invokevirtual 97, 3) := by decide +kernel
theorem dX6_insertPlug_4 : decode cX6_insertPlug 4 = .ok (.aload_n 0, 1) := by decide +kernel
theorem dX6_insertPlug_5 : decode cX6_insertPlug 5 = .ok (.aload_n 0, 1) := by decide +kernel
theorem dX6_insertPlug_6 : decode cX6_insertPlug 6 = .ok (.iload_n 1, 1) := by decide +kernel
theorem dX6_insertPlug_7 : decode cX6_insertPlug 7 = .ok (.invokevirtual 127, 3) := by decide +kernel
theorem dX6_insertPlug_10 : decode cX6_insertPlug 10 = .ok (.invokevirtual 104, 3) := by decide +kernel
theorem dX6_insertPlug_13 : decode cX6_insertPlug 13 = .ok (.iconst 1, 1) := by decide +kernel
theorem dX6_insertPlug_14 : decode cX6_insertPlug 14 = .ok (.if_icmp .ne 7, 3) := by decide +kernel
theorem dX6_insertPlug_17 : decode cX6_insertPlug 17 = .ok (.iconst 1, 1) := by decide +kernel
theorem dX6_insertPlug_18 : decode cX6_insertPlug 18 = .ok (.goto 4, 3) := by decide +kernel
theorem dX6_insertPlug_21 : decode cX6_insertPlug 21 = .ok (.iconst 0, 1) := by decide +kernel
theorem dX6_insertPlug_22 : decode cX6_insertPlug 22 = .ok (.ireturn, 1) := by decide +kernel
set_option maxRecDepth 20000 in
theorem ggX6_doPullPlug_X6_fails : GoodIn wsX6_doPullPlug wsX6_fails := goodIn_r _ [6, 7, 8, 9, 10, 11, 12, 13, 14, 15, 16, 17, 18, 19, 20, 21, 22, 23, 24] (by decide +kernel) (by decide +kernel)
set_option maxRecDepth 20000 in
theorem gX6_doPullPlug_X6_fails : GoodIn wsX6_doPullPlug (wsV RX6 94 RX6 yX6_fails wsX6_fails) := goodIn_app (goodIn_of _ (by decide +kernel)) ggX6_doPullPlug_X6_fails
theorem dX6_doPullPlug_0 : decode cX6_doPullPlug 0 = .ok (.aload_n 0, 1) := by decide +kernel
theorem dX6_doPullPlug_1 : decode cX6_doPullPlug 1 = .ok (.getfield 9, 3) := by decide +kernel
theorem dX6_doPullPlug_4 : decode cX6_doPullPlug 4 = .ok (.bipush 6, 2) := by decide +kernel
theorem dX6_doPullPlug_6 : decode cX6_doPullPlug 6 = .ok (.iaload, 1) := by decide +kernel
theorem dX6_doPullPlug_7 : decode cX6_doPullPlug 7 = .ok (.istore_n 1, 1) := by decide +kernel
theorem dX6_doPullPlug_8 : decode cX6_doPullPlug 8 = .ok (.aload_n 0, 1) := by decide +kernel
theorem dX6_doPullPlug_9 : decode cX6_doPullPlug 9 = .ok (.getfield 9, 3) := by decide +kernel
theorem dX6_doPullPlug_12 : decode cX6_doPullPlug 12 = .ok (.bipush 6, 2) := by decide +kernel
theorem dX6_doPullPlug_14 : decode cX6_doPullPlug 14 = .ok (.iconst (-1), 1) := by decide +kernel
theorem dX6_doPullPlug_15 : decode cX6_doPullPlug 15 = .ok (.iastore, 1) := by decide +kernel
theorem dX6_doPullPlug_16 : decode cX6_doPullPlug 16 = .ok (.iload_n 1, 1) := by decide +kernel
theorem dX6_doPullPlug_17 : decode cX6_doPullPlug 17 = .ok (.ifCond .ge 11, 3) := by decide +kernel
theorem dX6_doPullPlug_20 : decode cX6_doPullPlug 20 = .ok (.aload_n 0, 1) := by decide +kernel
theorem dX6_doPullPlug_21 : decode cX6_doPullPlug 21 = .ok (.iconst 1, 1) := by decide +kernel
theorem dX6_doPullPlug_22 : decode cX6_doPullPlug 22 = .ok (.invokevirtual 94, 3) := by decide +kernel
theorem dX6_doPullPlug_25 : decode cX6_doPullPlug 25 = .ok (.goto 4, 3) := by decide +kernel
theorem dX6_doPullPlug_28 : decode cX6_doPullPlug 28 = .ok (.iload_n 1, 1) := by decide +kernel
theorem dX6_doPullPlug_29 : decode cX6_doPullPlug 29 = .ok (.ireturn, 1) := by decide +kernel
set_option maxRecDepth 20000 in
theorem ggX6_pullPlug_X6_keep : GoodIn wsX6_pullPlug wsX6_keep := goodIn_r _ [5, 6, 7, 8, 9, 10, 11, 12, 27, 28, 29, 30, 31, 32, 33, 34, 35, 36, 37, 38, 39, 40, 41, 42, 43] (by decide +kernel) (by decide +kernel)
set_option maxRecDepth 20000 in
theorem gX6_pullPlug_X6_keep : GoodIn wsX6_pullPlug (wsV RX6 97 RX6 yX6_keep wsX6_keep) := goodIn_app (goodIn_of _ (by decide +kernel)) ggX6_pullPlug_X6_keep
set_option maxRecDepth 20000 in
theorem ggX6_pullPlug_X6_doPullPlug : GoodIn wsX6_pullPlug wsX6_doPullPlug := goodIn_ca (goodIn_r _ [16, 7, 17, 18, 19, 4, 20, 6, 27, 28, 29, 30, 31, 32, 33, 34, 35, 36, 37, 38, 39, 40, 41, 42, 43] (by decide +kernel) (by decide +kernel)) (goodIn_sub (fun _ h => List.mem_cons_of_mem _ (List.mem_append_right _ h)) (by decide +kernel))
set_option maxRecDepth 20000 in
theorem gX6_pullPlug_X6_doPullPlug : GoodIn wsX6_pullPlug (wsV RX6 130 RX6 yX6_doPullPlug wsX6_doPullPlug) := goodIn_app (goodIn_of _ (by decide +kernel)) ggX6_pullPlug_X6_doPullPlug
set_option maxRecDepth 20000 in
theorem ggX6_pullPlug_X6_ends : GoodIn wsX6_pullPlug wsX6_ends := goodIn_r _ [24, 6, 8, 7, 9, 10, 11, 12, 25, 26, 27, 28, 29, 30, 31, 32, 33, 34, 35, 36, 37, 38, 39, 40, 41, 42, 43] (by decide +kernel) (by decide +kernel)
set_option maxRecDepth 20000 in
theorem gX6_pullPlug_X6_ends : GoodIn wsX6_pullPlug (wsV RX6 104 RX6 yX6_ends wsX6_ends) := goodIn_app (goodIn_of _ (by decide +kernel)) ggX6_pullPlug_X6_ends
theorem dX6_pullPlug_0 : decode cX6_pullPlug 0 = .ok (.aload_n 0, 1) := by decide +kernel
theorem dX6_pullPlug_1 : decode cX6_pullPlug 1 = .ok (.invokevirtual 97, 3) := by decide +kernel
theorem dX6_pullPlug_4 : decode cX6_pullPlug 4 = .ok (.aload_n 0, 1) := by decide +kernel
theorem dX6_pullPlug_5 : decode cX6_pullPlug 5 = .ok (.aload_n 0, 1) := by decide +kernel
theorem dX6_pullPlug_6 : decode cX6_pullPlug 6 = .ok (.invokevirtual 130, 3) := by decide +kernel
theorem dX6_pullPlug_9 : decode cX6_pullPlug 9 = .ok (.invokevirtual 104, 3) := by decide +kernel
theorem dX6_pullPlug_12 : decode cX6_pullPlug 12 = .ok (.ireturn, 1) := by decide +kernel
set_option maxRecDepth 20000 in
theorem ggX6_plugPosition_X6_isThere : GoodIn wsX6_plugPosition wsX6_isThere := goodIn_r _ [6, 7, 8, 9, 10, 11, 12, 13, 14, 15, 16, 17, 18, 19, 20, 21, 22, 23, 24] (by decide +kernel) (by decide +kernel)
set_option maxRecDepth 20000 in
theorem gX6_plugPosition_X6_isThere : GoodIn wsX6_plugPosition (wsV RX6 113 RX6 yX6_isThere wsX6_isThere) := goodIn_app (goodIn_of _ (by decide +kernel)) ggX6_plugPosition_X6_isThere
theorem dX6_plugPosition_0 : decode cX6_plugPosition 0 = .ok (.aload_n 0, 1) := by decide +kernel
theorem dX6_plugPosition_1 : decode cX6_plugPosition 1 = .ok (.aload_n 0, 1) := by decide +kernel
theorem dX6_plugPosition_2 : decode cX6_plugPosition 2 = .ok (.getfield 9, 3) := by decide +kernel
theorem dX6_plugPosition_5 : decode cX6_plugPosition 5 = .ok (.bipush 6, 2) := by decide +kernel
theorem dX6_plugPosition_7 : decode cX6_plugPosition 7 = .ok (.iaload, 1) := by decide +kernel
theorem dX6_plugPosition_8 : decode cX6_plugPosition 8 = .ok (.ifCond .lt 7, 3) := by decide +kernel
theorem dX6_plugPosition_11 : decode cX6_plugPosition 11 = .ok (.iconst 1, 1) := by decide +kernel
theorem dX6_plugPosition_12 : decode cX6_plugPosition 12 = .ok (.goto 4, 3) := by decide +kernel
theorem dX6_plugPosition_15 : decode cX6_plugPosition 15 = .ok (.iconst 0, 1) := by decide +kernel
theorem dX6_plugPosition_16 : decode cX6_plugPosition 16 = .ok (.invokevirtual 113, 3) := by decide +kernel
theorem dX6_plugPosition_19 : decode cX6_plugPosition 19 = .ok (.ifCond .eq 13, 3) := by decide +kernel
theorem dX6_plugPosition_22 : decode cX6_plugPosition 22 = .ok (.aload_n 0, 1) := by decide +kernel
theorem dX6_plugPosition_23 : decode cX6_plugPosition 23 = .ok (.getfield 9, 3) := by decide +kernel
theorem dX6_plugPosition_26 : decode cX6_plugPosition 26 = .ok (.bipush 6, 2) := by decide +kernel
theorem dX6_plugPosition_28 : decode cX6_plugPosition 28 = .ok (.iaload, 1) := by decide +kernel
theorem dX6_plugPosition_29 : decode cX6_plugPosition 29 = .ok (.goto 4, 3) := by decide +kernel
theorem dX6_plugPosition_32 : decode cX6_plugPosition 32 = .ok (.iconst 0, 1) := by decide +kernel
theorem dX6_plugPosition_33 : decode cX6_plugPosition 33 = .ok (.ireturn, 1) := by decide +kernel
theorem dX6_ofTowel_0 : decode cX6_ofTowel 0 = .ok (.aload_n 0, 1) := by decide +kernel
theorem dX6_ofTowel_1 : decode cX6_ofTowel 1 = .ok (.getfield 9, 3) := by decide +kernel
theorem dX6_ofTowel_4 : decode cX6_ofTowel 4 = .ok (.bipush 44, 2) := by decide +kernel
theorem dX6_ofTowel_6 : decode cX6_ofTowel 6 = .ok (.iconst 4, 1) := by decide +kernel
theorem dX6_ofTowel_7 : decode cX6_ofTowel 7 = .ok (.iload_n 1, 1) := by decide +kernel
theorem dX6_ofTowel_8 : decode cX6_ofTowel 8 = .ok (.imul, 1) := by decide +kernel
theorem dX6_ofTowel_9 : decode cX6_ofTowel 9 = .ok (.iadd, 1) := by decide +kernel
theorem dX6_ofTowel_10 : decode cX6_ofTowel 10 = .ok (.iload_n 2, 1) := by decide +kernel
theorem dX6_ofTowel_11 : decode cX6_ofTowel 11 = .ok (.iadd, 1) := by decide +kernel
theorem dX6_ofTowel_12 : decode cX6_ofTowel 12 = .ok (.iaload, 1) := by decide +kernel
theorem dX6_ofTowel_13 : decode cX6_ofTowel 13 = .ok (.ireturn, 1) := by decide +kernel
set_option maxRecDepth 20000 in
theorem ggX6_isLaid_X6_ofTowel : GoodIn wsX6_isLaid wsX6_ofTowel := goodIn_ca (goodIn_r _ [6, 1, 7, 8, 9, 10, 11, 12, 13, 14, 15, 16, 17, 18, 19, 20, 21, 22, 23] (by decide +kernel) (by decide +kernel)) (goodIn_sub (fun _ h => List.mem_cons_of_mem _ (List.mem_append_right _ h)) (by decide +kernel))
set_option maxRecDepth 20000 in
theorem gX6_isLaid_X6_ofTowel : GoodIn wsX6_isLaid (wsV RX6 133 RX6 yX6_ofTowel wsX6_ofTowel) := goodIn_app (goodIn_of _ (by decide +kernel)) ggX6_isLaid_X6_ofTowel
theorem dX6_isLaid_0 : decode cX6_isLaid 0 = .ok (.iconst 0, 1) := by decide +kernel
theorem dX6_isLaid_1 : decode cX6_isLaid 1 = .ok (.istore_n 2, 1) := by decide +kernel
theorem dX6_isLaid_2 : decode cX6_isLaid 2 = .ok (.iconst 0, 1) := by decide +kernel
theorem dX6_isLaid_3 : decode cX6_isLaid 3 = .ok (.istore_n 3, 1) := by decide +kernel
theorem dX6_isLaid_4 : decode cX6_isLaid 4 = .ok (.iload_n 3, 1) := by decide +kernel
theorem dX6_isLaid_5 : decode cX6_isLaid 5 = .ok (.aload_n 0, 1) := by decide +kernel
theorem dX6_isLaid_6 : decode cX6_isLaid 6 = .ok (.getfield 9, 3) := by decide +kernel
theorem dX6_isLaid_9 : decode cX6_isLaid 9 = .ok (.iconst 1, 1) := by decide +kernel
theorem dX6_isLaid_10 : decode cX6_isLaid 10 = .ok (.iaload, 1) := by decide +kernel
theorem dX6_isLaid_11 : decode cX6_isLaid 11 = .ok (.if_icmp .ge 29, 3) := by decide +kernel
theorem dX6_isLaid_14 : decode cX6_isLaid 14 = .ok (.iload_n 2, 1) := by decide +kernel
theorem dX6_isLaid_15 : decode cX6_isLaid 15 = .ok (.ifCond .ne 13, 3) := by decide +kernel
theorem dX6_isLaid_18 : decode cX6_isLaid 18 = .ok (.aload_n 0, 1) := by decide +kernel
theorem dX6_isLaid_19 : decode cX6_isLaid 19 = .ok (.iload_n 3, 1) := by decide +kernel
theorem dX6_isLaid_20 : decode cX6_isLaid 20 = .ok (.iconst 0, 1) := by decide +kernel
theorem dX6_isLaid_21 : decode cX6_isLaid 21 = .ok (.invokevirtual 133, 3) := by decide +kernel
theorem dX6_isLaid_24 : decode cX6_isLaid 24 = .ok (.iload_n 1, 1) := by decide +kernel
theorem dX6_isLaid_25 : decode cX6_isLaid 25 = .ok (.if_icmp .ne 7, 3) := by decide +kernel
theorem dX6_isLaid_28 : decode cX6_isLaid 28 = .ok (.iconst 1, 1) := by decide +kernel
theorem dX6_isLaid_29 : decode cX6_isLaid 29 = .ok (.goto 4, 3) := by decide +kernel
theorem dX6_isLaid_32 : decode cX6_isLaid 32 = .ok (.iconst 0, 1) := by decide +kernel
theorem dX6_isLaid_33 : decode cX6_isLaid 33 = .ok (.istore_n 2, 1) := by decide +kernel
theorem dX6_isLaid_34 : decode cX6_isLaid 34 = .ok (.iinc 3 1, 3) := by decide +kernel
theorem dX6_isLaid_37 : decode cX6_isLaid 37 = .ok (.goto (-33), 3) := by decide +kernel
theorem dX6_isLaid_40 : decode cX6_isLaid 40 = .ok (.iload_n 2, 1) := by decide +kernel
theorem dX6_isLaid_41 : decode cX6_isLaid 41 = .ok (.ireturn, 1) := by decide +kernel
set_option maxRecDepth 20000 in
theorem ggX6_doLayTowel_X6_isPosition : GoodIn wsX6_doLayTowel wsX6_isPosition := goodIn_r _ [5, 6, 7, 4, 8] (by decide +kernel) (by decide +kernel)
set_option maxRecDepth 20000 in
theorem gX6_doLayTowel_X6_isPosition : GoodIn wsX6_doLayTowel (va_wsS RX6 90 yX6_isPosition wsX6_isPosition) := goodIn_app (goodIn_of _ (by decide +kernel)) ggX6_doLayTowel_X6_isPosition
set_option maxRecDepth 20000 in
theorem ggX6_doLayTowel_X6_fails : GoodIn wsX6_doLayTowel wsX6_fails := goodIn_r _ [12, 13, 22, 23, 24, 25, 26, 27, 28, 29, 30, 31, 32, 33, 34, 35, 36, 37, 38] (by decide +kernel) (by decide +kernel)
set_option maxRecDepth 20000 in
theorem gX6_doLayTowel_X6_fails : GoodIn wsX6_doLayTowel (wsV RX6 94 RX6 yX6_fails wsX6_fails) := goodIn_app (goodIn_of _ (by decide +kernel)) ggX6_doLayTowel_X6_fails
set_option maxRecDepth 20000 in
theorem ggX6_doLayTowel_X6_in : GoodIn wsX6_doLayTowel wsX6_in := goodIn_r _ [8] (by decide +kernel) (by decide +kernel)
set_option maxRecDepth 20000 in
theorem gX6_doLayTowel_X6_in : GoodIn wsX6_doLayTowel (va_wsS RX6 51 yX6_in wsX6_in) := goodIn_app (goodIn_of _ (by decide +kernel)) ggX6_doLayTowel_X6_in
set_option maxRecDepth 20000 in
theorem ggX6_doLayTowel_X6_isLaid : GoodIn wsX6_doLayTowel wsX6_isLaid := goodIn_ca (goodIn_r _ [17, 1, 18, 19, 20, 4, 21, 22, 23, 24, 25, 26, 27, 28, 29, 30, 31, 32, 33, 34, 35, 36, 37, 38] (by decide +kernel) (by decide +kernel)) (goodIn_sub (fun _ h => List.mem_cons_of_mem _ (List.mem_append_right _ h)) (by decide +kernel))
set_option maxRecDepth 20000 in
theorem gX6_doLayTowel_X6_isLaid : GoodIn wsX6_doLayTowel (wsV RX6 136 RX6 yX6_isLaid wsX6_isLaid) := goodIn_app (goodIn_of _ (by decide +kernel)) ggX6_doLayTowel_X6_isLaid
theorem dX6_doLayTowel_0 : decode cX6_doLayTowel 0 = .ok (.aload_n 0, 1) := by decide +kernel
theorem dX6_doLayTowel_1 : decode cX6_doLayTowel 1 = .ok (.getfield 9, 3) := by decide +kernel
theorem dX6_doLayTowel_4 : decode cX6_doLayTowel 4 = .ok (.iconst 1, 1) := by decide +kernel
theorem dX6_doLayTowel_5 : decode cX6_doLayTowel 5 = .ok (.iaload, 1) := by decide +kernel
theorem dX6_doLayTowel_6 : decode cX6_doLayTowel 6 = .ok (.istore_n 3, 1) := by decide +kernel
theorem dX6_doLayTowel_7 : decode cX6_doLayTowel 7 = .ok (.iload_n 1, 1) := by decide +kernel
theorem dX6_doLayTowel_8 : decode cX6_doLayTowel 8 = .ok (.invokestatic 90, 3) := by decide +kernel
theorem dX6_doLayTowel_11 : decode cX6_doLayTowel 11 = .ok (.ifCond .ne 9, 3) := by decide +kernel
theorem dX6_doLayTowel_14 : decode cX6_doLayTowel 14 = .ok (.aload_n 0, 1) := by decide +kernel
theorem dX6_doLayTowel_15 : decode cX6_doLayTowel 15 = .ok (.iconst 1, 1) := by decide +kernel
theorem dX6_doLayTowel_16 : decode cX6_doLayTowel 16 = .ok (.invokevirtual 94, 3) := by decide +kernel
theorem dX6_doLayTowel_19 : decode cX6_doLayTowel 19 = .ok (.ireturn, 1) := by decide +kernel
theorem dX6_doLayTowel_20 : decode cX6_doLayTowel 20 = .ok (.iload_n 2, 1) := by decide +kernel
theorem dX6_doLayTowel_21 : decode cX6_doLayTowel 21 = .ok (.iconst 0, 1) := by decide +kernel
theorem dX6_doLayTowel_22 : decode cX6_doLayTowel 22 = .ok (.bipush 60, 2) := by decide +kernel
theorem dX6_doLayTowel_24 : decode cX6_doLayTowel 24 = .ok (.invokestatic 51, 3) := by decide +kernel
theorem dX6_doLayTowel_27 : decode cX6_doLayTowel 27 = .ok (.ifCond .ne 9, 3) := by decide +kernel
theorem dX6_doLayTowel_30 : decode cX6_doLayTowel 30 = .ok (.aload_n 0, 1) := by decide +kernel
theorem dX6_doLayTowel_31 : decode cX6_doLayTowel 31 = .ok (.iconst 2, 1) := by decide +kernel
theorem dX6_doLayTowel_32 : decode cX6_doLayTowel 32 = .ok (.invokevirtual 94, 3) := by decide +kernel
theorem dX6_doLayTowel_35 : decode cX6_doLayTowel 35 = .ok (.ireturn, 1) := by decide +kernel
theorem dX6_doLayTowel_36 : decode cX6_doLayTowel 36 = .ok (.aload_n 0, 1) := by decide +kernel
theorem dX6_doLayTowel_37 : decode cX6_doLayTowel 37 = .ok (.iload_n 1, 1) := by decide +kernel
theorem dX6_doLayTowel_38 : decode cX6_doLayTowel 38 = .ok (.invokevirtual 136, 3) := by decide +kernel
theorem dX6_doLayTowel_41 : decode cX6_doLayTowel 41 = .ok (.ifCond .ne 8, 3) := by decide +kernel
theorem dX6_doLayTowel_44 : decode cX6_doLayTowel 44 = .ok (.iload_n 3, 1) := by decide +kernel
theorem dX6_doLayTowel_45 : decode cX6_doLayTowel 45 = .ok (.iconst 4, 1) := by decide +kernel
theorem dX6_doLayTowel_46 : decode cX6_doLayTowel 46 = .ok (.if_icmp .ne 9, 3) := by decide +kernel
theorem dX6_doLayTowel_49 : decode cX6_doLayTowel 49 = .ok (.aload_n 0, 1) := by decide +kernel
theorem dX6_doLayTowel_50 : decode cX6_doLayTowel 50 = .ok (.iconst 3, 1) := by decide +kernel
theorem dX6_doLayTowel_51 : decode cX6_doLayTowel 51 = .ok (.invokevirtual 94, 3) := by decide +kernel
theorem dX6_doLayTowel_54 : decode cX6_doLayTowel 54 = .ok (.ireturn, 1) := by decide +kernel
theorem dX6_doLayTowel_55 : decode cX6_doLayTowel 55 = .ok (.bipush 44, 2) := by decide +kernel
theorem dX6_doLayTowel_57 : decode cX6_doLayTowel 57 = .ok (.iconst 4, 1) := by decide +kernel
theorem dX6_doLayTowel_58 : decode cX6_doLayTowel 58 = .ok (.iload_n 3, 1) := by decide +kernel
theorem dX6_doLayTowel_59 : decode cX6_doLayTowel 59 = .ok (.imul, 1) := by decide +kernel
theorem dX6_doLayTowel_60 : decode cX6_doLayTowel 60 = .ok (.iadd, 1) := by decide +kernel
theorem dX6_doLayTowel_61 : decode cX6_doLayTowel 61 = .ok (.istore 4, 2) := by decide +kernel
theorem dX6_doLayTowel_63 : decode cX6_doLayTowel 63 = .ok (.aload_n 0, 1) := by decide +kernel
theorem dX6_doLayTowel_64 : decode cX6_doLayTowel 64 = .ok (.getfield 9, 3) := by decide +kernel
theorem dX6_doLayTowel_67 : decode cX6_doLayTowel 67 = .ok (.iload 4, 2) := by decide +kernel
theorem dX6_doLayTowel_69 : decode cX6_doLayTowel 69 = .ok (.iload_n 1, 1) := by decide +kernel
theorem dX6_doLayTowel_70 : decode cX6_doLayTowel 70 = .ok (.iastore, 1) := by decide +kernel
theorem dX6_doLayTowel_71 : decode cX6_doLayTowel 71 = .ok (.aload_n 0, 1) := by decide +kernel
theorem dX6_doLayTowel_72 : decode cX6_doLayTowel 72 = .ok (.getfield 9, 3) := by decide +kernel
theorem dX6_doLayTowel_75 : decode cX6_doLayTowel 75 = .ok (.iload 4, 2) := by decide +kernel
theorem dX6_doLayTowel_77 : decode cX6_doLayTowel 77 = .ok (.iconst 1, 1) := by decide +kernel
theorem dX6_doLayTowel_78 : decode cX6_doLayTowel 78 = .ok (.iadd, 1) := by decide +kernel
theorem dX6_doLayTowel_79 : decode cX6_doLayTowel 79 = .ok (.iload_n 2, 1) := by decide +kernel
theorem dX6_doLayTowel_80 : decode cX6_doLayTowel 80 = .ok (.iastore, 1) := by decide +kernel
theorem dX6_doLayTowel_81 : decode cX6_doLayTowel 81 = .ok (.aload_n 0, 1) := by decide +kernel
theorem dX6_doLayTowel_82 : decode cX6_doLayTowel 82 = .ok (.getfield 9, 3) := by decide +kernel
theorem dX6_doLayTowel_85 : decode cX6_doLayTowel 85 = .ok (.iload 4, 2) := by decide +kernel
theorem dX6_doLayTowel_87 : decode cX6_doLayTowel 87 = .ok (.iconst 2, 1) := by decide +kernel
theorem dX6_doLayTowel_88 : decode cX6_doLayTowel 88 = .ok (.iadd, 1) := by decide +kernel
theorem dX6_doLayTowel_89 : decode cX6_doLayTowel 89 = .ok (.iconst 0, 1) := by decide +kernel
theorem dX6_doLayTowel_90 : decode cX6_doLayTowel 90 = .ok (.iastore, 1) := by decide +kernel
theorem dX6_doLayTowel_91 : decode cX6_doLayTowel 91 = .ok (.aload_n 0, 1) := by decide +kernel
theorem dX6_doLayTowel_92 : decode cX6_doLayTowel 92 = .ok (.getfield 9, 3) := by decide +kernel
theorem dX6_doLayTowel_95 : decode cX6_doLayTowel 95 = .ok (.iload 4, 2) := by decide +kernel
theorem dX6_doLayTowel_97 : decode cX6_doLayTowel 97 = .ok (.iconst 3, 1) := by decide +kernel
theorem dX6_doLayTowel_98 : decode cX6_doLayTowel 98 = .ok (.iadd, 1) := by decide +kernel
theorem dX6_doLayTowel_99 : decode cX6_doLayTowel 99 = .ok (.iconst 0, 1) := by decide +kernel
theorem dX6_doLayTowel_100 : decode cX6_doLayTowel 100 = .ok (.iastore, 1) := by decide +kernel
theorem dX6_doLayTowel_101 : decode cX6_doLayTowel 101 = .ok (.aload_n 0, 1) := by decide +kernel
theorem dX6_doLayTowel_102 : decode cX6_doLayTowel 102 = .ok (.getfield 9, 3) := by decide +kernel
theorem dX6_doLayTowel_105 : decode cX6_doLayTowel 105 = .ok (.iconst 1, 1) := by decide +kernel
theorem dX6_doLayTowel_106 : decode cX6_doLayTowel 106 = .ok (.dup2, 1) := by decide +kernel
theorem dX6_doLayTowel_107 : decode cX6_doLayTowel 107 = .ok (.iaload, 1) := by decide +kernel
theorem dX6_doLayTowel_108 : decode cX6_doLayTowel 108 = .ok (.iconst 1, 1) := by decide +kernel
theorem dX6_doLayTowel_109 : decode cX6_doLayTowel 109 = .ok (.iadd, 1) := by decide +kernel
theorem dX6_doLayTowel_110 : decode cX6_doLayTowel 110 = .ok (.iastore, 1) := by decide +kernel
theorem dX6_doLayTowel_111 : decode cX6_doLayTowel 111 = .ok (.iload_n 3, 1) := by decide +kernel
theorem dX6_doLayTowel_112 : decode cX6_doLayTowel 112 = .ok (.ireturn, 1) := by decide +kernel
set_option maxRecDepth 20000 in
theorem ggX6_layTowel_X6_keep : GoodIn wsX6_layTowel wsX6_keep := goodIn_r _ [5, 6, 7, 8, 9, 10, 11, 12, 41, 42, 43, 44, 45, 46, 47, 48, 49, 50, 51, 52, 53, 54, 55, 56, 57] (by decide +kernel) (by decide +kernel)
set_option maxRecDepth 20000 in
theorem gX6_layTowel_X6_keep : GoodIn wsX6_layTowel (wsV RX6 97 RX6 yX6_keep wsX6_keep) := goodIn_app (goodIn_of _ (by decide +kernel)) ggX6_layTowel_X6_keep
set_option maxRecDepth 20000 in
theorem ggX6_layTowel_X6_doLayTowel : GoodIn wsX6_layTowel wsX6_doLayTowel := goodIn_ca (goodIn_r _ [16, 7, 17, 18, 4, 19, 20, 21, 22, 23, 24, 25, 26, 6, 27, 28, 29, 30, 31, 32, 33, 34, 41, 42, 43, 44, 45, 46, 47, 48, 49, 50, 51, 52, 53, 54, 55, 56, 57] (by decide +kernel) (by decide +kernel)) (goodIn_sub (fun _ h => List.mem_cons_of_mem _ (List.mem_append_right _ h)) (by decide +kernel))
set_option maxRecDepth 20000 in
theorem gX6_layTowel_X6_doLayTowel : GoodIn wsX6_layTowel (wsV RX6 139 RX6 yX6_doLayTowel wsX6_doLayTowel) := goodIn_app (goodIn_of _ (by decide +kernel)) ggX6_layTowel_X6_doLayTowel
set_option maxRecDepth 20000 in
theorem ggX6_layTowel_X6_ends : GoodIn wsX6_layTowel wsX6_ends := goodIn_r _ [38, 6, 8, 7, 9, 10, 11, 12, 39, 40, 41, 42, 43, 44, 45, 46, 47, 48, 49, 50, 51, 52, 53, 54, 55, 56, 57] (by decide +kernel) (by decide +kernel)
set_option maxRecDepth 20000 in
theorem gX6_layTowel_X6_ends : GoodIn wsX6_layTowel (wsV RX6 104 RX6 yX6_ends wsX6_ends) := goodIn_app (goodIn_of _ (by decide +kernel)) ggX6_layTowel_X6_ends
theorem dX6_layTowel_0 : decode cX6_layTowel 0 = .ok (.aload_n 0, 1) := by decide +kernel
theorem dX6_layTowel_1 : decode cX6_layTowel 1 = .ok (.invokevirtual 97, 3) := by decide +kernel
theorem dX6_layTowel_4 : decode cX6_layTowel 4 = .ok (.aload_n 0, 1) := by decide +kernel
theorem dX6_layTowel_5 : decode cX6_layTowel 5 = .ok (.aload_n 0, 1) := by decide +kernel
theorem dX6_layTowel_6 : decode cX6_layTowel 6 = .ok (.iload_n 1, 1) := by decide +kernel
theorem dX6_layTowel_7 : decode cX6_layTowel 7 = .ok (.iload_n 2, 1) := by decide +kernel
theorem dX6_layTowel_8 : decode cX6_layTowel 8 = .ok (.invokevirtual 139, 3) := by decide +kernel
theorem dX6_layTowel_11 : decode cX6_layTowel 11 = .ok (.invokevirtual 104, 3) := by decide +kernel
theorem dX6_layTowel_14 : decode cX6_layTowel 14 = .ok (.ireturn, 1) := by decide +kernel
theorem dX6_wrings_0 : decode cX6_wrings 0 = .ok (.bipush 44, 2) := by decide +kernel
theorem dX6_wrings_2 : decode cX6_wrings 2 = .ok (.iconst 4, 1) := by decide +kernel
theorem dX6_wrings_3 : decode cX6_wrings 3 = .ok (.iload_n 1, 1) := by decide +kernel
theorem dX6_wrings_4 : decode cX6_wrings 4 = .ok (.imul, 1) := by decide +kernel
theorem dX6_wrings_5 : decode cX6_wrings 5 = .ok (.iadd, 1) := by decide +kernel
theorem dX6_wrings_6 : decode cX6_wrings 6 = .ok (.iconst 2, 1) := by decide +kernel
theorem dX6_wrings_7 : decode cX6_wrings 7 = .ok (.iadd, 1) := by decide +kernel
theorem dX6_wrings_8 : decode cX6_wrings 8 = .ok (.istore_n 2, 1) := by decide +kernel
theorem dX6_wrings_9 : decode cX6_wrings 9 = .ok (.aload_n 0, 1) := by decide +kernel
theorem dX6_wrings_10 : decode cX6_wrings 10 = .ok (.getfield 9, 3) := by decide +kernel
theorem dX6_wrings_13 : decode cX6_wrings 13 = .ok (.iconst 3, 1) := by decide +kernel
theorem dX6_wrings_14 : decode cX6_wrings 14 = .ok (.iaload, 1) := by decide +kernel
theorem dX6_wrings_15 : decode cX6_wrings 15 = .ok (.aload_n 0, 1) := by decide +kernel
theorem dX6_wrings_16 : decode cX6_wrings 16 = .ok (.getfield 9, 3) := by decide +kernel
theorem dX6_wrings_19 : decode cX6_wrings 19 = .ok (.iload_n 2, 1) := by decide +kernel
theorem dX6_wrings_20 : decode cX6_wrings 20 = .ok (.iaload, 1) := by decide +kernel
theorem dX6_wrings_21 : decode cX6_wrings 21 = .ok (.iadd, 1) := by decide +kernel
theorem dX6_wrings_22 : decode cX6_wrings 22 = .ok (.istore_n 3, 1) := by decide +kernel
theorem dX6_wrings_23 : decode cX6_wrings 23 = .ok (.iconst 0, 1) := by decide +kernel
theorem dX6_wrings_24 : decode cX6_wrings 24 = .ok (.iload_n 3, 1) := by decide +kernel
theorem dX6_wrings_25 : decode cX6_wrings 25 = .ok (.bipush 40, 2) := by decide +kernel
theorem dX6_wrings_27 : decode cX6_wrings 27 = .ok (.isub, 1) := by decide +kernel
theorem dX6_wrings_28 : decode cX6_wrings 28 = .ok (.invokestatic 62, 3) := by decide +kernel
theorem dX6_wrings_31 : decode cX6_wrings 31 = .ok (.istore 4, 2) := by decide +kernel
theorem dX6_wrings_33 : decode cX6_wrings 33 = .ok (.aload_n 0, 1) := by decide +kernel
theorem dX6_wrings_34 : decode cX6_wrings 34 = .ok (.getfield 9, 3) := by decide +kernel
theorem dX6_wrings_37 : decode cX6_wrings 37 = .ok (.iconst 3, 1) := by decide +kernel
theorem dX6_wrings_38 : decode cX6_wrings 38 = .ok (.iload_n 3, 1) := by decide +kernel
theorem dX6_wrings_39 : decode cX6_wrings 39 = .ok (.iload 4, 2) := by decide +kernel
theorem dX6_wrings_41 : decode cX6_wrings 41 = .ok (.isub, 1) := by decide +kernel
theorem dX6_wrings_42 : decode cX6_wrings 42 = .ok (.iastore, 1) := by decide +kernel
theorem dX6_wrings_43 : decode cX6_wrings 43 = .ok (.aload_n 0, 1) := by decide +kernel
theorem dX6_wrings_44 : decode cX6_wrings 44 = .ok (.getfield 9, 3) := by decide +kernel
theorem dX6_wrings_47 : decode cX6_wrings 47 = .ok (.iconst 5, 1) := by decide +kernel
theorem dX6_wrings_48 : decode cX6_wrings 48 = .ok (.dup2, 1) := by decide +kernel
theorem dX6_wrings_49 : decode cX6_wrings 49 = .ok (.iaload, 1) := by decide +kernel
theorem dX6_wrings_50 : decode cX6_wrings 50 = .ok (.iload 4, 2) := by decide +kernel
theorem dX6_wrings_52 : decode cX6_wrings 52 = .ok (.iadd, 1) := by decide +kernel
theorem dX6_wrings_53 : decode cX6_wrings 53 = .ok (.iastore, 1) := by decide +kernel
theorem dX6_wrings_54 : decode cX6_wrings 54 = .ok (.aload_n 0, 1) := by decide +kernel
theorem dX6_wrings_55 : decode cX6_wrings 55 = .ok (.getfield 9, 3) := by decide +kernel
theorem dX6_wrings_58 : decode cX6_wrings 58 = .ok (.iload_n 2, 1) := by decide +kernel
theorem dX6_wrings_59 : decode cX6_wrings 59 = .ok (.iconst 0, 1) := by decide +kernel
theorem dX6_wrings_60 : decode cX6_wrings 60 = .ok (.iastore, 1) := by decide +kernel
theorem dX6_wrings_61 : decode cX6_wrings 61 = .ok (.iload 4, 2) := by decide +kernel
theorem dX6_wrings_63 : decode cX6_wrings 63 = .ok (.ireturn, 1) := by decide +kernel
set_option maxRecDepth 20000 in
theorem ggX6_doRemoveTowel_X6_isTowel : GoodIn wsX6_doRemoveTowel wsX6_isTowel := goodIn_ca (goodIn_r _ [10, 1, 11, 12, 9, 13, 27, 28, 29, 30, 31, 32, 33, 34, 35, 36, 37, 38, 39, 40, 41, 42, 43] (by decide +kernel) (by decide +kernel)) (goodIn_sub (fun _ h => List.mem_cons_of_mem _ (List.mem_append_right _ h)) (by decide +kernel))
set_option maxRecDepth 20000 in
theorem gX6_doRemoveTowel_X6_isTowel : GoodIn wsX6_doRemoveTowel (wsV RX6 142 RX6 yX6_isTowel wsX6_isTowel) := goodIn_app (goodIn_of _ (by decide +kernel)) ggX6_doRemoveTowel_X6_isTowel
set_option maxRecDepth 20000 in
theorem ggX6_doRemoveTowel_X6_fails : GoodIn wsX6_doRemoveTowel wsX6_fails := goodIn_r _ [17, 18, 27, 28, 29, 30, 31, 32, 33, 34, 35, 36, 37, 38, 39, 40, 41, 42, 43] (by decide +kernel) (by decide +kernel)
set_option maxRecDepth 20000 in
theorem gX6_doRemoveTowel_X6_fails : GoodIn wsX6_doRemoveTowel (wsV RX6 94 RX6 yX6_fails wsX6_fails) := goodIn_app (goodIn_of _ (by decide +kernel)) ggX6_doRemoveTowel_X6_fails
set_option maxRecDepth 20000 in
theorem ggX6_doRemoveTowel_X6_wrings : GoodIn wsX6_doRemoveTowel wsX6_wrings := goodIn_ca (goodIn_r _ [22, 1, 23, 24, 25, 26, 27, 28, 29, 30, 31, 32, 33, 34, 35, 36, 37, 38, 39, 40, 41, 42, 43] (by decide +kernel) (by decide +kernel)) (goodIn_sub (fun _ h => List.mem_cons_of_mem _ (List.mem_append_right _ h)) (by decide +kernel))
set_option maxRecDepth 20000 in
theorem gX6_doRemoveTowel_X6_wrings : GoodIn wsX6_doRemoveTowel (wsV RX6 145 RX6 yX6_wrings wsX6_wrings) := goodIn_app (goodIn_of _ (by decide +kernel)) ggX6_doRemoveTowel_X6_wrings
theorem dX6_doRemoveTowel_0 : decode cX6_doRemoveTowel 0 = .ok (.aload_n 0, 1) := by decide +kernel
theorem dX6_doRemoveTowel_1 : decode cX6_doRemoveTowel 1 = .ok (.iload_n 1, 1) := by decide +kernel
theorem dX6_doRemoveTowel_2 : decode cX6_doRemoveTowel 2 = .ok (.invokevirtual 142, 3) := by decide +kernel
theorem dX6_doRemoveTowel_5 : decode cX6_doRemoveTowel 5 = .ok (.ifCond .ne 9, 3) := by decide +kernel
theorem dX6_doRemoveTowel_8 : decode cX6_doRemoveTowel 8 = .ok (.aload_n 0, 1) := by decide +kernel
theorem dX6_doRemoveTowel_9 : decode cX6_doRemoveTowel 9 = .ok (.iconst 1, 1) := by decide +kernel
theorem dX6_doRemoveTowel_10 : decode cX6_doRemoveTowel 10 = .ok (.invokevirtual 94, 3) := by decide +kernel
theorem dX6_doRemoveTowel_13 : decode cX6_doRemoveTowel 13 = .ok (.ireturn, 1) := by decide +kernel
theorem dX6_doRemoveTowel_14 : decode cX6_doRemoveTowel 14 = .ok (.aload_n 0, 1) := by decide +kernel
theorem dX6_doRemoveTowel_15 : decode cX6_doRemoveTowel 15 = .ok (.iload_n 1, 1) := by decide +kernel
theorem dX6_doRemoveTowel_16 : decode cX6_doRemoveTowel 16 = .ok (.invokevirtual 145, 3) := by decide +kernel
theorem dX6_doRemoveTowel_19 : decode cX6_doRemoveTowel 19 = .ok (.istore_n 2, 1) := by decide +kernel
theorem dX6_doRemoveTowel_20 : decode cX6_doRemoveTowel 20 = .ok (.aload_n 0, 1) := by decide +kernel
theorem dX6_doRemoveTowel_21 : decode cX6_doRemoveTowel 21 = .ok (.getfield 9, 3) := by decide +kernel
theorem dX6_doRemoveTowel_24 : decode cX6_doRemoveTowel 24 = .ok (.iconst 1, 1) := by decide +kernel
theorem dX6_doRemoveTowel_25 : decode cX6_doRemoveTowel 25 = .ok (.iaload, 1) := by decide +kernel
theorem dX6_doRemoveTowel_26 : decode cX6_doRemoveTowel 26 = .ok (.iconst 1, 1) := by decide +kernel
theorem dX6_doRemoveTowel_27 : decode cX6_doRemoveTowel 27 = .ok (.isub, 1) := by decide +kernel
theorem dX6_doRemoveTowel_28 : decode cX6_doRemoveTowel 28 = .ok (.istore_n 3, 1) := by decide +kernel
theorem dX6_doRemoveTowel_29 : decode cX6_doRemoveTowel 29 = .ok (.bipush 44, 2) := by decide +kernel
theorem dX6_doRemoveTowel_31 : decode cX6_doRemoveTowel 31 = .ok (.iconst 4, 1) := by decide +kernel
theorem dX6_doRemoveTowel_32 : decode cX6_doRemoveTowel 32 = .ok (.iload_n 1, 1) := by decide +kernel
theorem dX6_doRemoveTowel_33 : decode cX6_doRemoveTowel 33 = .ok (.imul, 1) := by decide +kernel
theorem dX6_doRemoveTowel_34 : decode cX6_doRemoveTowel 34 = .ok (.iadd, 1) := by decide +kernel
theorem dX6_doRemoveTowel_35 : decode cX6_doRemoveTowel 35 = .ok (.istore 4, 2) := by decide +kernel
theorem dX6_doRemoveTowel_37 : decode cX6_doRemoveTowel 37 = .ok (.aload_n 0, 1) := by decide +kernel
theorem dX6_doRemoveTowel_38 : decode cX6_doRemoveTowel 38 = .ok (.getfield 9, 3) := by decide +kernel
theorem dX6_doRemoveTowel_41 : decode cX6_doRemoveTowel 41 = .ok (.iload 4, 2) := by decide +kernel
theorem dX6_doRemoveTowel_43 : decode cX6_doRemoveTowel 43 = .ok (.iconst 4, 1) := by decide +kernel
theorem dX6_doRemoveTowel_44 : decode cX6_doRemoveTowel 44 = .ok (.iadd, 1) := by decide +kernel
theorem dX6_doRemoveTowel_45 : decode cX6_doRemoveTowel 45 = .ok (.aload_n 0, 1) := by decide +kernel
theorem dX6_doRemoveTowel_46 : decode cX6_doRemoveTowel 46 = .ok (.getfield 9, 3) := by decide +kernel
theorem dX6_doRemoveTowel_49 : decode cX6_doRemoveTowel 49 = .ok (.iload 4, 2) := by decide +kernel
theorem dX6_doRemoveTowel_51 : decode cX6_doRemoveTowel 51 = .ok (.iconst 4, 1) := by decide +kernel
theorem dX6_doRemoveTowel_52 : decode cX6_doRemoveTowel 52 = .ok (.iload_n 3, 1) := by decide +kernel
theorem dX6_doRemoveTowel_53 : decode cX6_doRemoveTowel 53 = .ok (.iload_n 1, 1) := by decide +kernel
theorem dX6_doRemoveTowel_54 : decode cX6_doRemoveTowel 54 = .ok (.isub, 1) := by decide +kernel
theorem dX6_doRemoveTowel_55 : decode cX6_doRemoveTowel 55 = .ok (.imul, 1) := by decide +kernel
theorem dX6_doRemoveTowel_56 : decode cX6_doRemoveTowel 56 = .ok (.invokestatic 42, 3) := by decide +kernel
theorem dX6_doRemoveTowel_59 : decode cX6_doRemoveTowel 59 = .ok (.aload_n 0, 1) := by decide +kernel
theorem dX6_doRemoveTowel_60 : decode cX6_doRemoveTowel 60 = .ok (.getfield 9, 3) := by decide +kernel
theorem dX6_doRemoveTowel_63 : decode cX6_doRemoveTowel 63 = .ok (.iconst 1, 1) := by decide +kernel
theorem dX6_doRemoveTowel_64 : decode cX6_doRemoveTowel 64 = .ok (.iload_n 3, 1) := by decide +kernel
theorem dX6_doRemoveTowel_65 : decode cX6_doRemoveTowel 65 = .ok (.iastore, 1) := by decide +kernel
theorem dX6_doRemoveTowel_66 : decode cX6_doRemoveTowel 66 = .ok (.iload_n 3, 1) := by decide +kernel
theorem dX6_doRemoveTowel_67 : decode cX6_doRemoveTowel 67 = .ok (.ireturn, 1) := by decide +kernel
set_option maxRecDepth 20000 in
theorem ggX6_removeTowel_X6_keep : GoodIn wsX6_removeTowel wsX6_keep := goodIn_r _ [5, 6, 7, 8, 9, 10, 11, 12, 42, 43, 44, 45, 46, 47, 48, 49, 50, 51, 52, 53, 54, 55, 56, 57, 58] (by decide +kernel) (by decide +kernel)
set_option maxRecDepth 20000 in
theorem gX6_removeTowel_X6_keep : GoodIn wsX6_removeTowel (wsV RX6 97 RX6 yX6_keep wsX6_keep) := goodIn_app (goodIn_of _ (by decide +kernel)) ggX6_removeTowel_X6_keep
set_option maxRecDepth 20000 in
theorem ggX6_removeTowel_X6_doRemoveTowel : GoodIn wsX6_removeTowel wsX6_doRemoveTowel := goodIn_ca (goodIn_r _ [16, 7, 9, 10, 11, 12, 17, 18, 19, 4, 20, 21, 22, 23, 24, 25, 26, 27, 6, 28, 29, 30, 31, 32, 33, 34, 35, 42, 43, 44, 45, 46, 47, 48, 49, 50, 51, 52, 53, 54, 55, 56, 57, 58] (by decide +kernel) (by decide +kernel)) (goodIn_sub (fun _ h => List.mem_cons_of_mem _ (List.mem_append_right _ h)) (by decide +kernel))
set_option maxRecDepth 20000 in
theorem gX6_removeTowel_X6_doRemoveTowel : GoodIn wsX6_removeTowel (wsV RX6 148 RX6 yX6_doRemoveTowel wsX6_doRemoveTowel) := goodIn_app (goodIn_of _ (by decide +kernel)) ggX6_removeTowel_X6_doRemoveTowel
set_option maxRecDepth 20000 in
theorem ggX6_removeTowel_X6_ends : GoodIn wsX6_removeTowel wsX6_ends := goodIn_r _ [39, 6, 8, 7, 9, 10, 11, 12, 40, 41, 42, 43, 44, 45, 46, 47, 48, 49, 50, 51, 52, 53, 54, 55, 56, 57, 58] (by decide +kernel) (by decide +kernel)
set_option maxRecDepth 20000 in
theorem gX6_removeTowel_X6_ends : GoodIn wsX6_removeTowel (wsV RX6 104 RX6 yX6_ends wsX6_ends) := goodIn_app (goodIn_of _ (by decide +kernel)) ggX6_removeTowel_X6_ends
theorem dX6_removeTowel_0 : decode cX6_removeTowel 0 = .ok (.aload_n 0, 1) := by decide +kernel
theorem dX6_removeTowel_1 : decode cX6_removeTowel 1 = .ok (.invokevirtual 97, 3) := by decide +kernel
theorem dX6_removeTowel_4 : decode cX6_removeTowel 4 = .ok (.aload_n 0, 1) := by decide +kernel
theorem dX6_removeTowel_5 : decode cX6_removeTowel 5 = .ok (.aload_n 0, 1) := by decide +kernel
theorem dX6_removeTowel_6 : decode cX6_removeTowel 6 = .ok (.iload_n 1, 1) := by decide +kernel
theorem dX6_removeTowel_7 : decode cX6_removeTowel 7 = .ok (.invokevirtual 148, 3) := by decide +kernel
theorem dX6_removeTowel_10 : decode cX6_removeTowel 10 = .ok (.invokevirtual 104, 3) := by decide +kernel
theorem dX6_removeTowel_13 : decode cX6_removeTowel 13 = .ok (.ireturn, 1) := by decide +kernel
set_option maxRecDepth 20000 in
theorem ggX6_doWringTowel_X6_isTowel : GoodIn wsX6_doWringTowel wsX6_isTowel := goodIn_ca (goodIn_r _ [5, 6, 7, 8, 4, 9, 23, 24, 25, 26, 27, 28, 29, 30, 31, 32, 33, 34, 35, 36, 37, 38, 39] (by decide +kernel) (by decide +kernel)) (goodIn_sub (fun _ h => List.mem_cons_of_mem _ (List.mem_append_right _ h)) (by decide +kernel))
set_option maxRecDepth 20000 in
theorem gX6_doWringTowel_X6_isTowel : GoodIn wsX6_doWringTowel (wsV RX6 142 RX6 yX6_isTowel wsX6_isTowel) := goodIn_app (goodIn_of _ (by decide +kernel)) ggX6_doWringTowel_X6_isTowel
set_option maxRecDepth 20000 in
theorem ggX6_doWringTowel_X6_wrings : GoodIn wsX6_doWringTowel wsX6_wrings := goodIn_ca (goodIn_r _ [13, 6, 14, 15, 16, 17, 23, 24, 25, 26, 27, 28, 29, 30, 31, 32, 33, 34, 35, 36, 37, 38, 39] (by decide +kernel) (by decide +kernel)) (goodIn_sub (fun _ h => List.mem_cons_of_mem _ (List.mem_append_right _ h)) (by decide +kernel))
set_option maxRecDepth 20000 in
theorem gX6_doWringTowel_X6_wrings : GoodIn wsX6_doWringTowel (wsV RX6 145 RX6 yX6_wrings wsX6_wrings) := goodIn_app (goodIn_of _ (by decide +kernel)) ggX6_doWringTowel_X6_wrings
set_option maxRecDepth 20000 in
theorem ggX6_doWringTowel_X6_fails : GoodIn wsX6_doWringTowel wsX6_fails := goodIn_r _ [21, 22, 23, 24, 25, 26, 27, 28, 29, 30, 31, 32, 33, 34, 35, 36, 37, 38, 39] (by decide +kernel) (by decide +kernel)
set_option maxRecDepth 20000 in
theorem gX6_doWringTowel_X6_fails : GoodIn wsX6_doWringTowel (wsV RX6 94 RX6 yX6_fails wsX6_fails) := goodIn_app (goodIn_of _ (by decide +kernel)) ggX6_doWringTowel_X6_fails
theorem dX6_doWringTowel_0 : decode cX6_doWringTowel 0 = .ok (.aload_n 0, 1) := by decide +kernel
theorem dX6_doWringTowel_1 : decode cX6_doWringTowel 1 = .ok (.iload_n 1, 1) := by decide +kernel
theorem dX6_doWringTowel_2 : decode cX6_doWringTowel 2 = .ok (.invokevirtual 142, 3) := by decide +kernel
theorem dX6_doWringTowel_5 : decode cX6_doWringTowel 5 = .ok (.ifCond .eq 11, 3) := by decide +kernel
theorem dX6_doWringTowel_8 : decode cX6_doWringTowel 8 = .ok (.aload_n 0, 1) := by decide +kernel
theorem dX6_doWringTowel_9 : decode cX6_doWringTowel 9 = .ok (.iload_n 1, 1) := by decide +kernel
theorem dX6_doWringTowel_10 : decode cX6_doWringTowel 10 = .ok (.invokevirtual 145, 3) := by decide +kernel
theorem dX6_doWringTowel_13 : decode cX6_doWringTowel 13 = .ok (.goto 8, 3) := by decide +kernel
theorem dX6_doWringTowel_16 : decode cX6_doWringTowel 16 = .ok (.aload_n 0, 1) := by decide +kernel
theorem dX6_doWringTowel_17 : decode cX6_doWringTowel 17 = .ok (.iconst 1, 1) := by decide +kernel
theorem dX6_doWringTowel_18 : decode cX6_doWringTowel 18 = .ok (.invokevirtual 94, 3) := by decide +kernel
theorem dX6_doWringTowel_21 : decode cX6_doWringTowel 21 = .ok (.ireturn, 1) := by decide +kernel
set_option maxRecDepth 20000 in
theorem ggX6_wringTowel_X6_keep : GoodIn wsX6_wringTowel wsX6_keep := goodIn_r _ [5, 6, 7, 8, 9, 10, 11, 12, 42, 43, 44, 45, 46, 47, 48, 49, 50, 51, 52, 53, 54, 55, 56, 57, 58] (by decide +kernel) (by decide +kernel)
set_option maxRecDepth 20000 in
theorem gX6_wringTowel_X6_keep : GoodIn wsX6_wringTowel (wsV RX6 97 RX6 yX6_keep wsX6_keep) := goodIn_app (goodIn_of _ (by decide +kernel)) ggX6_wringTowel_X6_keep
set_option maxRecDepth 20000 in
theorem ggX6_wringTowel_X6_doWringTowel : GoodIn wsX6_wringTowel wsX6_doWringTowel := goodIn_ca (goodIn_r _ [16, 17, 18, 19, 4, 20, 7, 21, 22, 23, 24, 25, 26, 27, 28, 29, 30, 31, 32, 33, 34, 35, 6, 42, 43, 44, 45, 46, 47, 48, 49, 50, 51, 52, 53, 54, 55, 56, 57, 58] (by decide +kernel) (by decide +kernel)) (goodIn_sub (fun _ h => List.mem_cons_of_mem _ (List.mem_append_right _ h)) (by decide +kernel))
set_option maxRecDepth 20000 in
theorem gX6_wringTowel_X6_doWringTowel : GoodIn wsX6_wringTowel (wsV RX6 151 RX6 yX6_doWringTowel wsX6_doWringTowel) := goodIn_app (goodIn_of _ (by decide +kernel)) ggX6_wringTowel_X6_doWringTowel
set_option maxRecDepth 20000 in
theorem ggX6_wringTowel_X6_ends : GoodIn wsX6_wringTowel wsX6_ends := goodIn_r _ [39, 6, 8, 7, 9, 10, 11, 12, 40, 41, 42, 43, 44, 45, 46, 47, 48, 49, 50, 51, 52, 53, 54, 55, 56, 57, 58] (by decide +kernel) (by decide +kernel)
set_option maxRecDepth 20000 in
theorem gX6_wringTowel_X6_ends : GoodIn wsX6_wringTowel (wsV RX6 104 RX6 yX6_ends wsX6_ends) := goodIn_app (goodIn_of _ (by decide +kernel)) ggX6_wringTowel_X6_ends
theorem dX6_wringTowel_0 : decode cX6_wringTowel 0 = .ok (.aload_n 0, 1) := by decide +kernel
theorem dX6_wringTowel_1 : decode cX6_wringTowel 1 = .ok (.invokevirtual 97, 3) := by decide +kernel
theorem dX6_wringTowel_4 : decode cX6_wringTowel 4 = .ok (.aload_n 0, 1) := by decide +kernel
theorem dX6_wringTowel_5 : decode cX6_wringTowel 5 = .ok (.aload_n 0, 1) := by decide +kernel
theorem dX6_wringTowel_6 : decode cX6_wringTowel 6 = .ok (.iload_n 1, 1) := by decide +kernel
theorem dX6_wringTowel_7 : decode cX6_wringTowel 7 = .ok (.invokevirtual 151, 3) := by decide +kernel
theorem dX6_wringTowel_10 : decode cX6_wringTowel 10 = .ok (.invokevirtual 104, 3) := by decide +kernel
theorem dX6_wringTowel_13 : decode cX6_wringTowel 13 = .ok (.ireturn, 1) := by decide +kernel
theorem dX6_towelCount_0 : decode cX6_towelCount 0 = .ok (.aload_n 0, 1) := by decide +kernel
theorem dX6_towelCount_1 : decode cX6_towelCount 1 = .ok (.iconst 0, 1) := by decide +kernel
theorem dX6_towelCount_2 : decode cX6_towelCount 2 = .ok (.putfield 39, 3) := by decide +kernel
theorem dX6_towelCount_5 : decode cX6_towelCount 5 = .ok (.aload_n 0, 1) := by decide +kernel
theorem dX6_towelCount_6 : decode cX6_towelCount 6 = .ok (.getfield 9, 3) := by decide +kernel
theorem dX6_towelCount_9 : decode cX6_towelCount 9 = .ok (.iconst 1, 1) := by decide +kernel
theorem dX6_towelCount_10 : decode cX6_towelCount 10 = .ok (.iaload, 1) := by decide +kernel
theorem dX6_towelCount_11 : decode cX6_towelCount 11 = .ok (.ireturn, 1) := by decide +kernel
set_option maxRecDepth 20000 in
theorem ggX6_shoreOf_X6_isTowel : GoodIn wsX6_shoreOf wsX6_isTowel := goodIn_ca (goodIn_r _ [5, 6, 7, 8, 4, 9, 19, 20, 21, 22, 23, 24, 25, 26, 27, 28, 29, 30, 31, 32, 33, 34, 35] (by decide +kernel) (by decide +kernel)) (goodIn_sub (fun _ h => List.mem_cons_of_mem _ (List.mem_append_right _ h)) (by decide +kernel))
set_option maxRecDepth 20000 in
theorem gX6_shoreOf_X6_isTowel : GoodIn wsX6_shoreOf (wsV RX6 142 RX6 yX6_isTowel wsX6_isTowel) := goodIn_app (goodIn_of _ (by decide +kernel)) ggX6_shoreOf_X6_isTowel
set_option maxRecDepth 20000 in
theorem ggX6_shoreOf_X6_isThere : GoodIn wsX6_shoreOf wsX6_isThere := goodIn_r _ [13, 14, 19, 20, 21, 22, 23, 24, 25, 26, 27, 28, 29, 30, 31, 32, 33, 34, 35] (by decide +kernel) (by decide +kernel)
set_option maxRecDepth 20000 in
theorem gX6_shoreOf_X6_isThere : GoodIn wsX6_shoreOf (wsV RX6 113 RX6 yX6_isThere wsX6_isThere) := goodIn_app (goodIn_of _ (by decide +kernel)) ggX6_shoreOf_X6_isThere
set_option maxRecDepth 20000 in
theorem ggX6_shoreOf_X6_ofTowel : GoodIn wsX6_shoreOf wsX6_ofTowel := goodIn_ca (goodIn_r _ [18, 6, 19, 20, 21, 22, 23, 24, 25, 26, 27, 28, 29, 30, 31, 32, 33, 34, 35] (by decide +kernel) (by decide +kernel)) (goodIn_sub (fun _ h => List.mem_cons_of_mem _ (List.mem_append_right _ h)) (by decide +kernel))
set_option maxRecDepth 20000 in
theorem gX6_shoreOf_X6_ofTowel : GoodIn wsX6_shoreOf (wsV RX6 133 RX6 yX6_ofTowel wsX6_ofTowel) := goodIn_app (goodIn_of _ (by decide +kernel)) ggX6_shoreOf_X6_ofTowel
theorem dX6_shoreOf_0 : decode cX6_shoreOf 0 = .ok (.aload_n 0, 1) := by decide +kernel
theorem dX6_shoreOf_1 : decode cX6_shoreOf 1 = .ok (.aload_n 0, 1) := by decide +kernel
theorem dX6_shoreOf_2 : decode cX6_shoreOf 2 = .ok (.iload_n 1, 1) := by decide +kernel
theorem dX6_shoreOf_3 : decode cX6_shoreOf 3 = .ok (.invokevirtual 142, 3) := by decide +kernel
theorem dX6_shoreOf_6 : decode cX6_shoreOf 6 = .ok (.invokevirtual 113, 3) := by decide +kernel
theorem dX6_shoreOf_9 : decode cX6_shoreOf 9 = .ok (.ifCond .eq 12, 3) := by decide +kernel
theorem dX6_shoreOf_12 : decode cX6_shoreOf 12 = .ok (.aload_n 0, 1) := by decide +kernel
theorem dX6_shoreOf_13 : decode cX6_shoreOf 13 = .ok (.iload_n 1, 1) := by decide +kernel
theorem dX6_shoreOf_14 : decode cX6_shoreOf 14 = .ok (.iconst 0, 1) := by decide +kernel
theorem dX6_shoreOf_15 : decode cX6_shoreOf 15 = .ok (.invokevirtual 133, 3) := by decide +kernel
theorem dX6_shoreOf_18 : decode cX6_shoreOf 18 = .ok (.goto 4, 3) := by decide +kernel
theorem dX6_shoreOf_21 : decode cX6_shoreOf 21 = .ok (.iconst 0, 1) := by decide +kernel
theorem dX6_shoreOf_22 : decode cX6_shoreOf 22 = .ok (.ireturn, 1) := by decide +kernel
set_option maxRecDepth 20000 in
theorem ggX6_heightOf_X6_isTowel : GoodIn wsX6_heightOf wsX6_isTowel := goodIn_ca (goodIn_r _ [5, 6, 7, 8, 4, 9, 19, 20, 21, 22, 23, 24, 25, 26, 27, 28, 29, 30, 31, 32, 33, 34, 35] (by decide +kernel) (by decide +kernel)) (goodIn_sub (fun _ h => List.mem_cons_of_mem _ (List.mem_append_right _ h)) (by decide +kernel))
set_option maxRecDepth 20000 in
theorem gX6_heightOf_X6_isTowel : GoodIn wsX6_heightOf (wsV RX6 142 RX6 yX6_isTowel wsX6_isTowel) := goodIn_app (goodIn_of _ (by decide +kernel)) ggX6_heightOf_X6_isTowel
set_option maxRecDepth 20000 in
theorem ggX6_heightOf_X6_isThere : GoodIn wsX6_heightOf wsX6_isThere := goodIn_r _ [13, 14, 19, 20, 21, 22, 23, 24, 25, 26, 27, 28, 29, 30, 31, 32, 33, 34, 35] (by decide +kernel) (by decide +kernel)
set_option maxRecDepth 20000 in
theorem gX6_heightOf_X6_isThere : GoodIn wsX6_heightOf (wsV RX6 113 RX6 yX6_isThere wsX6_isThere) := goodIn_app (goodIn_of _ (by decide +kernel)) ggX6_heightOf_X6_isThere
set_option maxRecDepth 20000 in
theorem ggX6_heightOf_X6_ofTowel : GoodIn wsX6_heightOf wsX6_ofTowel := goodIn_ca (goodIn_r _ [18, 6, 19, 20, 21, 22, 23, 24, 25, 26, 27, 28, 29, 30, 31, 32, 33, 34, 35] (by decide +kernel) (by decide +kernel)) (goodIn_sub (fun _ h => List.mem_cons_of_mem _ (List.mem_append_right _ h)) (by decide +kernel))
set_option maxRecDepth 20000 in
theorem gX6_heightOf_X6_ofTowel : GoodIn wsX6_heightOf (wsV RX6 133 RX6 yX6_ofTowel wsX6_ofTowel) := goodIn_app (goodIn_of _ (by decide +kernel)) ggX6_heightOf_X6_ofTowel
theorem dX6_heightOf_0 : decode cX6_heightOf 0 = .ok (.aload_n 0, 1) := by decide +kernel
theorem dX6_heightOf_1 : decode cX6_heightOf 1 = .ok (.aload_n 0, 1) := by decide +kernel
theorem dX6_heightOf_2 : decode cX6_heightOf 2 = .ok (.iload_n 1, 1) := by decide +kernel
theorem dX6_heightOf_3 : decode cX6_heightOf 3 = .ok (.invokevirtual 142, 3) := by decide +kernel
theorem dX6_heightOf_6 : decode cX6_heightOf 6 = .ok (.invokevirtual 113, 3) := by decide +kernel
theorem dX6_heightOf_9 : decode cX6_heightOf 9 = .ok (.ifCond .eq 12, 3) := by decide +kernel
theorem dX6_heightOf_12 : decode cX6_heightOf 12 = .ok (.aload_n 0, 1) := by decide +kernel
theorem dX6_heightOf_13 : decode cX6_heightOf 13 = .ok (.iload_n 1, 1) := by decide +kernel
theorem dX6_heightOf_14 : decode cX6_heightOf 14 = .ok (.iconst 1, 1) := by decide +kernel
theorem dX6_heightOf_15 : decode cX6_heightOf 15 = .ok (.invokevirtual 133, 3) := by decide +kernel
theorem dX6_heightOf_18 : decode cX6_heightOf 18 = .ok (.goto 4, 3) := by decide +kernel
theorem dX6_heightOf_21 : decode cX6_heightOf 21 = .ok (.iconst 0, 1) := by decide +kernel
theorem dX6_heightOf_22 : decode cX6_heightOf 22 = .ok (.ireturn, 1) := by decide +kernel
set_option maxRecDepth 20000 in
theorem ggX6_absorbedBy_X6_isTowel : GoodIn wsX6_absorbedBy wsX6_isTowel := goodIn_ca (goodIn_r _ [5, 6, 7, 8, 4, 9, 19, 20, 21, 22, 23, 24, 25, 26, 27, 28, 29, 30, 31, 32, 33, 34, 35] (by decide +kernel) (by decide +kernel)) (goodIn_sub (fun _ h => List.mem_cons_of_mem _ (List.mem_append_right _ h)) (by decide +kernel))
set_option maxRecDepth 20000 in
theorem gX6_absorbedBy_X6_isTowel : GoodIn wsX6_absorbedBy (wsV RX6 142 RX6 yX6_isTowel wsX6_isTowel) := goodIn_app (goodIn_of _ (by decide +kernel)) ggX6_absorbedBy_X6_isTowel
set_option maxRecDepth 20000 in
theorem ggX6_absorbedBy_X6_isThere : GoodIn wsX6_absorbedBy wsX6_isThere := goodIn_r _ [13, 14, 19, 20, 21, 22, 23, 24, 25, 26, 27, 28, 29, 30, 31, 32, 33, 34, 35] (by decide +kernel) (by decide +kernel)
set_option maxRecDepth 20000 in
theorem gX6_absorbedBy_X6_isThere : GoodIn wsX6_absorbedBy (wsV RX6 113 RX6 yX6_isThere wsX6_isThere) := goodIn_app (goodIn_of _ (by decide +kernel)) ggX6_absorbedBy_X6_isThere
set_option maxRecDepth 20000 in
theorem ggX6_absorbedBy_X6_ofTowel : GoodIn wsX6_absorbedBy wsX6_ofTowel := goodIn_ca (goodIn_r _ [18, 6, 19, 20, 21, 22, 23, 24, 25, 26, 27, 28, 29, 30, 31, 32, 33, 34, 35] (by decide +kernel) (by decide +kernel)) (goodIn_sub (fun _ h => List.mem_cons_of_mem _ (List.mem_append_right _ h)) (by decide +kernel))
set_option maxRecDepth 20000 in
theorem gX6_absorbedBy_X6_ofTowel : GoodIn wsX6_absorbedBy (wsV RX6 133 RX6 yX6_ofTowel wsX6_ofTowel) := goodIn_app (goodIn_of _ (by decide +kernel)) ggX6_absorbedBy_X6_ofTowel
theorem dX6_absorbedBy_0 : decode cX6_absorbedBy 0 = .ok (.aload_n 0, 1) := by decide +kernel
theorem dX6_absorbedBy_1 : decode cX6_absorbedBy 1 = .ok (.aload_n 0, 1) := by decide +kernel
theorem dX6_absorbedBy_2 : decode cX6_absorbedBy 2 = .ok (.iload_n 1, 1) := by decide +kernel
theorem dX6_absorbedBy_3 : decode cX6_absorbedBy 3 = .ok (.invokevirtual 142, 3) := by decide +kernel
theorem dX6_absorbedBy_6 : decode cX6_absorbedBy 6 = .ok (.invokevirtual 113, 3) := by decide +kernel
theorem dX6_absorbedBy_9 : decode cX6_absorbedBy 9 = .ok (.ifCond .eq 12, 3) := by decide +kernel
theorem dX6_absorbedBy_12 : decode cX6_absorbedBy 12 = .ok (.aload_n 0, 1) := by decide +kernel
theorem dX6_absorbedBy_13 : decode cX6_absorbedBy 13 = .ok (.iload_n 1, 1) := by decide +kernel
theorem dX6_absorbedBy_14 : decode cX6_absorbedBy 14 = .ok (.iconst 2, 1) := by decide +kernel
theorem dX6_absorbedBy_15 : decode cX6_absorbedBy 15 = .ok (.invokevirtual 133, 3) := by decide +kernel
theorem dX6_absorbedBy_18 : decode cX6_absorbedBy 18 = .ok (.goto 4, 3) := by decide +kernel
theorem dX6_absorbedBy_21 : decode cX6_absorbedBy 21 = .ok (.iconst 0, 1) := by decide +kernel
theorem dX6_absorbedBy_22 : decode cX6_absorbedBy 22 = .ok (.ireturn, 1) := by decide +kernel
set_option maxRecDepth 20000 in
theorem ggX6_floodsOf_X6_isTowel : GoodIn wsX6_floodsOf wsX6_isTowel := goodIn_ca (goodIn_r _ [5, 6, 7, 8, 4, 9, 19, 20, 21, 22, 23, 24, 25, 26, 27, 28, 29, 30, 31, 32, 33, 34, 35] (by decide +kernel) (by decide +kernel)) (goodIn_sub (fun _ h => List.mem_cons_of_mem _ (List.mem_append_right _ h)) (by decide +kernel))
set_option maxRecDepth 20000 in
theorem gX6_floodsOf_X6_isTowel : GoodIn wsX6_floodsOf (wsV RX6 142 RX6 yX6_isTowel wsX6_isTowel) := goodIn_app (goodIn_of _ (by decide +kernel)) ggX6_floodsOf_X6_isTowel
set_option maxRecDepth 20000 in
theorem ggX6_floodsOf_X6_isThere : GoodIn wsX6_floodsOf wsX6_isThere := goodIn_r _ [13, 14, 19, 20, 21, 22, 23, 24, 25, 26, 27, 28, 29, 30, 31, 32, 33, 34, 35] (by decide +kernel) (by decide +kernel)
set_option maxRecDepth 20000 in
theorem gX6_floodsOf_X6_isThere : GoodIn wsX6_floodsOf (wsV RX6 113 RX6 yX6_isThere wsX6_isThere) := goodIn_app (goodIn_of _ (by decide +kernel)) ggX6_floodsOf_X6_isThere
set_option maxRecDepth 20000 in
theorem ggX6_floodsOf_X6_ofTowel : GoodIn wsX6_floodsOf wsX6_ofTowel := goodIn_ca (goodIn_r _ [18, 6, 19, 20, 21, 22, 23, 24, 25, 26, 27, 28, 29, 30, 31, 32, 33, 34, 35] (by decide +kernel) (by decide +kernel)) (goodIn_sub (fun _ h => List.mem_cons_of_mem _ (List.mem_append_right _ h)) (by decide +kernel))
set_option maxRecDepth 20000 in
theorem gX6_floodsOf_X6_ofTowel : GoodIn wsX6_floodsOf (wsV RX6 133 RX6 yX6_ofTowel wsX6_ofTowel) := goodIn_app (goodIn_of _ (by decide +kernel)) ggX6_floodsOf_X6_ofTowel
theorem dX6_floodsOf_0 : decode cX6_floodsOf 0 = .ok (.aload_n 0, 1) := by decide +kernel
theorem dX6_floodsOf_1 : decode cX6_floodsOf 1 = .ok (.aload_n 0, 1) := by decide +kernel
theorem dX6_floodsOf_2 : decode cX6_floodsOf 2 = .ok (.iload_n 1, 1) := by decide +kernel
theorem dX6_floodsOf_3 : decode cX6_floodsOf 3 = .ok (.invokevirtual 142, 3) := by decide +kernel
theorem dX6_floodsOf_6 : decode cX6_floodsOf 6 = .ok (.invokevirtual 113, 3) := by decide +kernel
theorem dX6_floodsOf_9 : decode cX6_floodsOf 9 = .ok (.ifCond .eq 12, 3) := by decide +kernel
theorem dX6_floodsOf_12 : decode cX6_floodsOf 12 = .ok (.aload_n 0, 1) := by decide +kernel
theorem dX6_floodsOf_13 : decode cX6_floodsOf 13 = .ok (.iload_n 1, 1) := by decide +kernel
theorem dX6_floodsOf_14 : decode cX6_floodsOf 14 = .ok (.iconst 3, 1) := by decide +kernel
theorem dX6_floodsOf_15 : decode cX6_floodsOf 15 = .ok (.invokevirtual 133, 3) := by decide +kernel
theorem dX6_floodsOf_18 : decode cX6_floodsOf 18 = .ok (.goto 4, 3) := by decide +kernel
theorem dX6_floodsOf_21 : decode cX6_floodsOf 21 = .ok (.iconst 0, 1) := by decide +kernel
theorem dX6_floodsOf_22 : decode cX6_floodsOf 22 = .ok (.ireturn, 1) := by decide +kernel
set_option maxRecDepth 20000 in
theorem ggX6_doSetFlow_X6_in : GoodIn wsX6_doSetFlow wsX6_in := goodIn_r _ [5] (by decide +kernel) (by decide +kernel)
set_option maxRecDepth 20000 in
theorem gX6_doSetFlow_X6_in : GoodIn wsX6_doSetFlow (va_wsS RX6 51 yX6_in wsX6_in) := goodIn_app (goodIn_of _ (by decide +kernel)) ggX6_doSetFlow_X6_in
set_option maxRecDepth 20000 in
theorem ggX6_doSetFlow_X6_fails : GoodIn wsX6_doSetFlow wsX6_fails := goodIn_r _ [9, 10, 11, 12, 13, 14, 15, 16, 17, 18, 19, 20, 21, 22, 23, 24, 25, 26, 27] (by decide +kernel) (by decide +kernel)
set_option maxRecDepth 20000 in
theorem gX6_doSetFlow_X6_fails : GoodIn wsX6_doSetFlow (wsV RX6 94 RX6 yX6_fails wsX6_fails) := goodIn_app (goodIn_of _ (by decide +kernel)) ggX6_doSetFlow_X6_fails
theorem dX6_doSetFlow_0 : decode cX6_doSetFlow 0 = .ok (.aload_n 0, 1) := by decide +kernel
theorem dX6_doSetFlow_1 : decode cX6_doSetFlow 1 = .ok (.getfield 9, 3) := by decide +kernel
theorem dX6_doSetFlow_4 : decode cX6_doSetFlow 4 = .ok (.iconst 4, 1) := by decide +kernel
theorem dX6_doSetFlow_5 : decode cX6_doSetFlow 5 = .ok (.iaload, 1) := by decide +kernel
theorem dX6_doSetFlow_6 : decode cX6_doSetFlow 6 = .ok (.istore_n 2, 1) := by decide +kernel
theorem dX6_doSetFlow_7 : decode cX6_doSetFlow 7 = .ok (.iload_n 1, 1) := by decide +kernel
theorem dX6_doSetFlow_8 : decode cX6_doSetFlow 8 = .ok (.bipush (-3), 2) := by decide +kernel
theorem dX6_doSetFlow_10 : decode cX6_doSetFlow 10 = .ok (.iconst 3, 1) := by decide +kernel
theorem dX6_doSetFlow_11 : decode cX6_doSetFlow 11 = .ok (.invokestatic 51, 3) := by decide +kernel
theorem dX6_doSetFlow_14 : decode cX6_doSetFlow 14 = .ok (.ifCond .ne 9, 3) := by decide +kernel
theorem dX6_doSetFlow_17 : decode cX6_doSetFlow 17 = .ok (.aload_n 0, 1) := by decide +kernel
theorem dX6_doSetFlow_18 : decode cX6_doSetFlow 18 = .ok (.iconst 1, 1) := by decide +kernel
theorem dX6_doSetFlow_19 : decode cX6_doSetFlow 19 = .ok (.invokevirtual 94, 3) := by decide +kernel
theorem dX6_doSetFlow_22 : decode cX6_doSetFlow 22 = .ok (.ireturn, 1) := by decide +kernel
theorem dX6_doSetFlow_23 : decode cX6_doSetFlow 23 = .ok (.aload_n 0, 1) := by decide +kernel
theorem dX6_doSetFlow_24 : decode cX6_doSetFlow 24 = .ok (.getfield 9, 3) := by decide +kernel
theorem dX6_doSetFlow_27 : decode cX6_doSetFlow 27 = .ok (.iconst 4, 1) := by decide +kernel
theorem dX6_doSetFlow_28 : decode cX6_doSetFlow 28 = .ok (.iload_n 1, 1) := by decide +kernel
theorem dX6_doSetFlow_29 : decode cX6_doSetFlow 29 = .ok (.iastore, 1) := by decide +kernel
theorem dX6_doSetFlow_30 : decode cX6_doSetFlow 30 = .ok (.iload_n 2, 1) := by decide +kernel
theorem dX6_doSetFlow_31 : decode cX6_doSetFlow 31 = .ok (.ireturn, 1) := by decide +kernel
set_option maxRecDepth 20000 in
theorem ggX6_setFlow_X6_keep : GoodIn wsX6_setFlow wsX6_keep := goodIn_r _ [5, 6, 7, 8, 9, 10, 11, 12, 30, 31, 32, 33, 34, 35, 36, 37, 38, 39, 40, 41, 42, 43, 44, 45, 46] (by decide +kernel) (by decide +kernel)
set_option maxRecDepth 20000 in
theorem gX6_setFlow_X6_keep : GoodIn wsX6_setFlow (wsV RX6 97 RX6 yX6_keep wsX6_keep) := goodIn_app (goodIn_of _ (by decide +kernel)) ggX6_setFlow_X6_keep
set_option maxRecDepth 20000 in
theorem ggX6_setFlow_X6_doSetFlow : GoodIn wsX6_setFlow wsX6_doSetFlow := goodIn_ca (goodIn_r _ [16, 7, 17, 18, 4, 19, 20, 21, 22, 23, 6, 30, 31, 32, 33, 34, 35, 36, 37, 38, 39, 40, 41, 42, 43, 44, 45, 46] (by decide +kernel) (by decide +kernel)) (goodIn_sub (fun _ h => List.mem_cons_of_mem _ (List.mem_append_right _ h)) (by decide +kernel))
set_option maxRecDepth 20000 in
theorem gX6_setFlow_X6_doSetFlow : GoodIn wsX6_setFlow (wsV RX6 154 RX6 yX6_doSetFlow wsX6_doSetFlow) := goodIn_app (goodIn_of _ (by decide +kernel)) ggX6_setFlow_X6_doSetFlow
set_option maxRecDepth 20000 in
theorem ggX6_setFlow_X6_ends : GoodIn wsX6_setFlow wsX6_ends := goodIn_r _ [27, 6, 8, 7, 9, 10, 11, 12, 28, 29, 30, 31, 32, 33, 34, 35, 36, 37, 38, 39, 40, 41, 42, 43, 44, 45, 46] (by decide +kernel) (by decide +kernel)
set_option maxRecDepth 20000 in
theorem gX6_setFlow_X6_ends : GoodIn wsX6_setFlow (wsV RX6 104 RX6 yX6_ends wsX6_ends) := goodIn_app (goodIn_of _ (by decide +kernel)) ggX6_setFlow_X6_ends
theorem dX6_setFlow_0 : decode cX6_setFlow 0 = .ok (.aload_n 0, 1) := by decide +kernel
theorem dX6_setFlow_1 : decode cX6_setFlow 1 = .ok (.invokevirtual 97, 3) := by decide +kernel
theorem dX6_setFlow_4 : decode cX6_setFlow 4 = .ok (.aload_n 0, 1) := by decide +kernel
theorem dX6_setFlow_5 : decode cX6_setFlow 5 = .ok (.aload_n 0, 1) := by decide +kernel
theorem dX6_setFlow_6 : decode cX6_setFlow 6 = .ok (.iload_n 1, 1) := by decide +kernel
theorem dX6_setFlow_7 : decode cX6_setFlow 7 = .ok (.invokevirtual 154, 3) := by decide +kernel
theorem dX6_setFlow_10 : decode cX6_setFlow 10 = .ok (.invokevirtual 104, 3) := by decide +kernel
theorem dX6_setFlow_13 : decode cX6_setFlow 13 = .ok (.ireturn, 1) := by decide +kernel
set_option maxRecDepth 20000 in
theorem ggX6_minute_X6_level : GoodIn wsX6_minute wsX6_level := goodIn_ca (goodIn_ca (goodIn_r _ [13, 1, 6, 7, 4, 8, 14, 15, 16, 12, 17, 18, 19, 20, 21, 22, 23, 24, 25, 26, 27, 28, 29, 30, 31, 32, 33, 34, 35, 36, 37, 38, 39, 2, 3, 5, 40, 41, 42, 43, 44, 45, 46, 47, 48, 49, 50, 51, 52, 53, 54, 55, 56, 57, 58, 59, 60] (by decide +kernel) (by decide +kernel)) (goodIn_sub (fun _ h => List.mem_cons_of_mem _ (List.mem_append_left _ (List.mem_append_right _ h))) (by decide +kernel))) (goodIn_sub (fun _ h => List.mem_cons_of_mem _ (List.mem_append_right _ h)) (by decide +kernel))
set_option maxRecDepth 20000 in
theorem gX6_minute_X6_level : GoodIn wsX6_minute (wsV RX6 157 RX6 yX6_level wsX6_level) := goodIn_app (goodIn_of _ (by decide +kernel)) ggX6_minute_X6_level
theorem dX6_minute_0 : decode cX6_minute 0 = .ok (.iconst 0, 1) := by decide +kernel
theorem dX6_minute_1 : decode cX6_minute 1 = .ok (.istore_n 1, 1) := by decide +kernel
theorem dX6_minute_2 : decode cX6_minute 2 = .ok (.aload_n 0, 1) := by decide +kernel
theorem dX6_minute_3 : decode cX6_minute 3 = .ok (.getfield 9, 3) := by decide +kernel
theorem dX6_minute_6 : decode cX6_minute 6 = .ok (.iconst 2, 1) := by decide +kernel
theorem dX6_minute_7 : decode cX6_minute 7 = .ok (.dup2, 1) := by decide +kernel
theorem dX6_minute_8 : decode cX6_minute 8 = .ok (.iaload, 1) := by decide +kernel
theorem dX6_minute_9 : decode cX6_minute 9 = .ok (.iconst 1, 1) := by decide +kernel
theorem dX6_minute_10 : decode cX6_minute 10 = .ok (.iadd, 1) := by decide +kernel
theorem dX6_minute_11 : decode cX6_minute 11 = .ok (.iastore, 1) := by decide +kernel
theorem dX6_minute_12 : decode cX6_minute 12 = .ok (.aload_n 0, 1) := by decide +kernel
theorem dX6_minute_13 : decode cX6_minute 13 = .ok (.getfield 9, 3) := by decide +kernel
theorem dX6_minute_16 : decode cX6_minute 16 = .ok (.iconst 3, 1) := by decide +kernel
theorem dX6_minute_17 : decode cX6_minute 17 = .ok (.iconst 0, 1) := by decide +kernel
theorem dX6_minute_18 : decode cX6_minute 18 = .ok (.bipush 40, 2) := by decide +kernel
theorem dX6_minute_20 : decode cX6_minute 20 = .ok (.aload_n 0, 1) := by decide +kernel
theorem dX6_minute_21 : decode cX6_minute 21 = .ok (.getfield 9, 3) := by decide +kernel
theorem dX6_minute_24 : decode cX6_minute 24 = .ok (.iconst 3, 1) := by decide +kernel
theorem dX6_minute_25 : decode cX6_minute 25 = .ok (.iaload, 1) := by decide +kernel
theorem dX6_minute_26 : decode cX6_minute 26 = .ok (.aload_n 0, 1) := by decide +kernel
theorem dX6_minute_27 : decode cX6_minute 27 = .ok (.getfield 9, 3) := by decide +kernel
theorem dX6_minute_30 : decode cX6_minute 30 = .ok (.iconst 2, 1) := by decide +kernel
theorem dX6_minute_31 : decode cX6_minute 31 = .ok (.iaload, 1) := by decide +kernel
theorem dX6_minute_32 : decode cX6_minute 32 = .ok (.bipush 12, 2) := by decide +kernel
theorem dX6_minute_34 : decode cX6_minute 34 = .ok (.irem, 1) := by decide +kernel
theorem dX6_minute_35 : decode cX6_minute 35 = .ok (.ifCond .ne 12, 3) := by decide +kernel
theorem dX6_minute_38 : decode cX6_minute 38 = .ok (.aload_n 0, 1) := by decide +kernel
theorem dX6_minute_39 : decode cX6_minute 39 = .ok (.getfield 9, 3) := by decide +kernel
theorem dX6_minute_42 : decode cX6_minute 42 = .ok (.iconst 4, 1) := by decide +kernel
theorem dX6_minute_43 : decode cX6_minute 43 = .ok (.iaload, 1) := by decide +kernel
theorem dX6_minute_44 : decode cX6_minute 44 = .ok (.goto 4, 3) := by decide +kernel
theorem dX6_minute_47 : decode cX6_minute 47 = .ok (.iconst 0, 1) := by decide +kernel
theorem dX6_minute_48 : decode cX6_minute 48 = .ok (.iadd, 1) := by decide +kernel
theorem dX6_minute_49 : decode cX6_minute 49 = .ok (.invokestatic 74, 3) := by decide +kernel
theorem dX6_minute_52 : decode cX6_minute 52 = .ok (.invokestatic 62, 3) := by decide +kernel
theorem dX6_minute_55 : decode cX6_minute 55 = .ok (.iastore, 1) := by decide +kernel
theorem dX6_minute_56 : decode cX6_minute 56 = .ok (.iconst 0, 1) := by decide +kernel
theorem dX6_minute_57 : decode cX6_minute 57 = .ok (.istore_n 2, 1) := by decide +kernel
theorem dX6_minute_58 : decode cX6_minute 58 = .ok (.iload_n 2, 1) := by decide +kernel
theorem dX6_minute_59 : decode cX6_minute 59 = .ok (.aload_n 0, 1) := by decide +kernel
theorem dX6_minute_60 : decode cX6_minute 60 = .ok (.getfield 9, 3) := by decide +kernel
theorem dX6_minute_63 : decode cX6_minute 63 = .ok (.iconst 1, 1) := by decide +kernel
theorem dX6_minute_64 : decode cX6_minute 64 = .ok (.iaload, 1) := by decide +kernel
theorem dX6_minute_65 : decode cX6_minute 65 = .ok (.if_icmp .ge 95, 3) := by decide +kernel
theorem dX6_minute_68 : decode cX6_minute 68 = .ok (.bipush 44, 2) := by decide +kernel
theorem dX6_minute_70 : decode cX6_minute 70 = .ok (.iconst 4, 1) := by decide +kernel
theorem dX6_minute_71 : decode cX6_minute 71 = .ok (.iload_n 2, 1) := by decide +kernel
theorem dX6_minute_72 : decode cX6_minute 72 = .ok (.imul, 1) := by decide +kernel
theorem dX6_minute_73 : decode cX6_minute 73 = .ok (.iadd, 1) := by decide +kernel
theorem dX6_minute_74 : decode cX6_minute 74 = .ok (.istore_n 3, 1) := by decide +kernel
theorem dX6_minute_75 : decode cX6_minute 75 = .ok (.aload_n 0, 1) := by decide +kernel
theorem dX6_minute_76 : decode cX6_minute 76 = .ok (.aload_n 0, 1) := by decide +kernel
theorem dX6_minute_77 : decode cX6_minute 77 = .ok (.getfield 9, 3) := by decide +kernel
theorem dX6_minute_80 : decode cX6_minute 80 = .ok (.iload_n 3, 1) := by decide +kernel
theorem dX6_minute_81 : decode cX6_minute 81 = .ok (.iaload, 1) := by decide +kernel
theorem dX6_minute_82 : decode cX6_minute 82 = .ok (.invokevirtual 157, 3) := by decide +kernel
theorem dX6_minute_85 : decode cX6_minute 85 = .ok (.aload_n 0, 1) := by decide +kernel
theorem dX6_minute_86 : decode cX6_minute 86 = .ok (.getfield 9, 3) := by decide +kernel
theorem dX6_minute_89 : decode cX6_minute 89 = .ok (.iload_n 3, 1) := by decide +kernel
theorem dX6_minute_90 : decode cX6_minute 90 = .ok (.iconst 1, 1) := by decide +kernel
theorem dX6_minute_91 : decode cX6_minute 91 = .ok (.iadd, 1) := by decide +kernel
theorem dX6_minute_92 : decode cX6_minute 92 = .ok (.iaload, 1) := by decide +kernel
theorem dX6_minute_93 : decode cX6_minute 93 = .ok (.if_icmp .le 61, 3) := by decide +kernel
theorem dX6_minute_96 : decode cX6_minute 96 = .ok (.aload_n 0, 1) := by decide +kernel
theorem dX6_minute_97 : decode cX6_minute 97 = .ok (.getfield 9, 3) := by decide +kernel
theorem dX6_minute_100 : decode cX6_minute 100 = .ok (.iload_n 3, 1) := by decide +kernel
theorem dX6_minute_101 : decode cX6_minute 101 = .ok (.iconst 2, 1) := by decide +kernel
theorem dX6_minute_102 : decode cX6_minute 102 = .ok (.iadd, 1) := by decide +kernel
theorem dX6_minute_103 : decode cX6_minute 103 = .ok (.iaload, 1) := by decide +kernel
theorem dX6_minute_104 : decode cX6_minute 104 = .ok (.iconst 5, 1) := by decide +kernel
theorem dX6_minute_105 : decode cX6_minute 105 = .ok (.if_icmp .ge 49, 3) := by decide +kernel
theorem dX6_minute_108 : decode cX6_minute 108 = .ok (.aload_n 0, 1) := by decide +kernel
theorem dX6_minute_109 : decode cX6_minute 109 = .ok (.getfield 9, 3) := by decide +kernel
theorem dX6_minute_112 : decode cX6_minute 112 = .ok (.iconst 3, 1) := by decide +kernel
theorem dX6_minute_113 : decode cX6_minute 113 = .ok (.iaload, 1) := by decide +kernel
theorem dX6_minute_114 : decode cX6_minute 114 = .ok (.ifCond .le 40, 3) := by decide +kernel
theorem dX6_minute_117 : decode cX6_minute 117 = .ok (.aload_n 0, 1) := by decide +kernel
theorem dX6_minute_118 : decode cX6_minute 118 = .ok (.getfield 9, 3) := by decide +kernel
theorem dX6_minute_121 : decode cX6_minute 121 = .ok (.iload_n 3, 1) := by decide +kernel
theorem dX6_minute_122 : decode cX6_minute 122 = .ok (.iconst 2, 1) := by decide +kernel
theorem dX6_minute_123 : decode cX6_minute 123 = .ok (.iadd, 1) := by decide +kernel
theorem dX6_minute_124 : decode cX6_minute 124 = .ok (.dup2, 1) := by decide +kernel
theorem dX6_minute_125 : decode cX6_minute 125 = .ok (.iaload, 1) := by decide +kernel
theorem dX6_minute_126 : decode cX6_minute 126 = .ok (.iconst 1, 1) := by decide +kernel
theorem dX6_minute_127 : decode cX6_minute 127 = .ok (.iadd, 1) := by decide +kernel
theorem dX6_minute_128 : decode cX6_minute 128 = .ok (.iastore, 1) := by decide +kernel
theorem dX6_minute_129 : decode cX6_minute 129 = .ok (.aload_n 0, 1) := by decide +kernel
theorem dX6_minute_130 : decode cX6_minute 130 = .ok (.getfield 9, 3) := by decide +kernel
theorem dX6_minute_133 : decode cX6_minute 133 = .ok (.iload_n 3, 1) := by decide +kernel
theorem dX6_minute_134 : decode cX6_minute 134 = .ok (.iconst 3, 1) := by decide +kernel
theorem dX6_minute_135 : decode cX6_minute 135 = .ok (.iadd, 1) := by decide +kernel
theorem dX6_minute_136 : decode cX6_minute 136 = .ok (.dup2, 1) := by decide +kernel
theorem dX6_minute_137 : decode cX6_minute 137 = .ok (.iaload, 1) := by decide +kernel
theorem dX6_minute_138 : decode cX6_minute 138 = .ok (.iconst 1, 1) := by decide +kernel
theorem dX6_minute_139 : decode cX6_minute 139 = .ok (.iadd, 1) := by decide +kernel
theorem dX6_minute_140 : decode cX6_minute 140 = .ok (.iastore, 1) := by decide +kernel
theorem dX6_minute_141 : decode cX6_minute 141 = .ok (.aload_n 0, 1) := by decide +kernel
theorem dX6_minute_142 : decode cX6_minute 142 = .ok (.getfield 9, 3) := by decide +kernel
theorem dX6_minute_145 : decode cX6_minute 145 = .ok (.iconst 3, 1) := by decide +kernel
theorem dX6_minute_146 : decode cX6_minute 146 = .ok (.dup2, 1) := by decide +kernel
theorem dX6_minute_147 : decode cX6_minute 147 = .ok (.iaload, 1) := by decide +kernel
theorem dX6_minute_148 : decode cX6_minute 148 = .ok (.iconst 1, 1) := by decide +kernel
theorem dX6_minute_149 : decode cX6_minute 149 = .ok (.isub, 1) := by decide +kernel
theorem dX6_minute_150 : decode cX6_minute 150 = .ok (.iastore, 1) := by decide +kernel
theorem dX6_minute_151 : decode cX6_minute 151 = .ok (.iinc 1 1, 3) := by decide +kernel
theorem dX6_minute_154 : decode cX6_minute 154 = .ok (.iinc 2 1, 3) := by decide +kernel
theorem dX6_minute_157 : decode cX6_minute 157 = .ok (.goto (-99), 3) := by decide +kernel
theorem dX6_minute_160 : decode cX6_minute 160 = .ok (.iload_n 1, 1) := by decide +kernel
theorem dX6_minute_161 : decode cX6_minute 161 = .ok (.ireturn, 1) := by decide +kernel
set_option maxRecDepth 20000 in
theorem ggX6_doAdvance_X6_in : GoodIn wsX6_doAdvance wsX6_in := goodIn_r _ [4] (by decide +kernel) (by decide +kernel)
set_option maxRecDepth 20000 in
theorem gX6_doAdvance_X6_in : GoodIn wsX6_doAdvance (va_wsS RX6 51 yX6_in wsX6_in) := goodIn_app (goodIn_of _ (by decide +kernel)) ggX6_doAdvance_X6_in
set_option maxRecDepth 20000 in
theorem ggX6_doAdvance_X6_fails : GoodIn wsX6_doAdvance wsX6_fails := goodIn_r _ [8, 9, 56, 57, 58, 59, 60, 61, 62, 63, 64, 65, 66, 67, 68, 69, 70, 71, 72] (by decide +kernel) (by decide +kernel)
set_option maxRecDepth 20000 in
theorem gX6_doAdvance_X6_fails : GoodIn wsX6_doAdvance (wsV RX6 94 RX6 yX6_fails wsX6_fails) := goodIn_app (goodIn_of _ (by decide +kernel)) ggX6_doAdvance_X6_fails
set_option maxRecDepth 20000 in
theorem ggX6_doAdvance_X6_minute : GoodIn wsX6_doAdvance wsX6_minute := goodIn_ca (goodIn_ca (goodIn_r _ [13, 14, 15, 16, 17, 18, 19, 20, 21, 22, 23, 24, 3, 25, 26, 27, 28, 29, 30, 31, 32, 33, 34, 35, 36, 37, 38, 39, 40, 41, 42, 43, 44, 45, 46, 47, 48, 49, 50, 51, 52, 53, 54, 55, 56, 57, 58, 59, 60, 61, 62, 63, 64, 65, 66, 67, 68, 69, 70, 71, 72] (by decide +kernel) (by decide +kernel)) (goodIn_sub (fun _ h => List.mem_cons_of_mem _ (List.mem_append_left _ (List.mem_append_right _ h))) (by decide +kernel))) (goodIn_sub (fun _ h => List.mem_cons_of_mem _ (List.mem_append_right _ h)) (by decide +kernel))
set_option maxRecDepth 20000 in
theorem gX6_doAdvance_X6_minute : GoodIn wsX6_doAdvance (wsV RX6 160 RX6 yX6_minute wsX6_minute) := goodIn_app (goodIn_of _ (by decide +kernel)) ggX6_doAdvance_X6_minute
theorem dX6_doAdvance_0 : decode cX6_doAdvance 0 = .ok (.iload_n 1, 1) := by decide +kernel
theorem dX6_doAdvance_1 : decode cX6_doAdvance 1 = .ok (.iconst 1, 1) := by decide +kernel
theorem dX6_doAdvance_2 : decode cX6_doAdvance 2 = .ok (.bipush 60, 2) := by decide +kernel
theorem dX6_doAdvance_4 : decode cX6_doAdvance 4 = .ok (.invokestatic 51, 3) := by decide +kernel
theorem dX6_doAdvance_7 : decode cX6_doAdvance 7 = .ok (.ifCond .ne 9, 3) := by decide +kernel
theorem dX6_doAdvance_10 : decode cX6_doAdvance 10 = .ok (.aload_n 0, 1) := by decide +kernel
theorem dX6_doAdvance_11 : decode cX6_doAdvance 11 = .ok (.iconst 1, 1) := by decide +kernel
theorem dX6_doAdvance_12 : decode cX6_doAdvance 12 = .ok (.invokevirtual 94, 3) := by decide +kernel
theorem dX6_doAdvance_15 : decode cX6_doAdvance 15 = .ok (.ireturn, 1) := by decide +kernel
theorem dX6_doAdvance_16 : decode cX6_doAdvance 16 = .ok (.iconst 0, 1) := by decide +kernel
theorem dX6_doAdvance_17 : decode cX6_doAdvance 17 = .ok (.istore_n 2, 1) := by decide +kernel
theorem dX6_doAdvance_18 : decode cX6_doAdvance 18 = .ok (.iconst 0, 1) := by decide +kernel
theorem dX6_doAdvance_19 : decode cX6_doAdvance 19 = .ok (.istore_n 3, 1) := by decide +kernel
theorem dX6_doAdvance_20 : decode cX6_doAdvance 20 = .ok (.iload_n 3, 1) := by decide +kernel
theorem dX6_doAdvance_21 : decode cX6_doAdvance 21 = .ok (.iload_n 1, 1) := by decide +kernel
theorem dX6_doAdvance_22 : decode cX6_doAdvance 22 = .ok (.if_icmp .ge 16, 3) := by decide +kernel
theorem dX6_doAdvance_25 : decode cX6_doAdvance 25 = .ok (.iload_n 2, 1) := by decide +kernel
theorem dX6_doAdvance_26 : decode cX6_doAdvance 26 = .ok (.aload_n 0, 1) := by decide +kernel
theorem dX6_doAdvance_27 : decode cX6_doAdvance 27 = .ok (.invokevirtual 160, 3) := by decide +kernel
theorem dX6_doAdvance_30 : decode cX6_doAdvance 30 = .ok (.iadd, 1) := by decide +kernel
theorem dX6_doAdvance_31 : decode cX6_doAdvance 31 = .ok (.istore_n 2, 1) := by decide +kernel
theorem dX6_doAdvance_32 : decode cX6_doAdvance 32 = .ok (.iinc 3 1, 3) := by decide +kernel
theorem dX6_doAdvance_35 : decode cX6_doAdvance 35 = .ok (.goto (-15), 3) := by decide +kernel
theorem dX6_doAdvance_38 : decode cX6_doAdvance 38 = .ok (.iload_n 2, 1) := by decide +kernel
theorem dX6_doAdvance_39 : decode cX6_doAdvance 39 = .ok (.ireturn, 1) := by decide +kernel
set_option maxRecDepth 20000 in
theorem ggX6_advance_X6_keep : GoodIn wsX6_advance wsX6_keep := goodIn_r _ [5, 6, 7, 8, 9, 10, 11, 12, 75, 76, 77, 78, 79, 80, 81, 82, 83, 84, 85, 86, 87, 88, 89, 90, 91] (by decide +kernel) (by decide +kernel)
set_option maxRecDepth 20000 in
theorem gX6_advance_X6_keep : GoodIn wsX6_advance (wsV RX6 97 RX6 yX6_keep wsX6_keep) := goodIn_app (goodIn_of _ (by decide +kernel)) ggX6_advance_X6_keep
set_option maxRecDepth 20000 in
theorem ggX6_advance_X6_doAdvance : GoodIn wsX6_advance wsX6_doAdvance := goodIn_ca (goodIn_ca (goodIn_r _ [16, 17, 18, 4, 19, 20, 21, 22, 23, 6, 24, 25, 26, 27, 7, 28, 29, 30, 31, 32, 33, 34, 35, 36, 37, 38, 39, 40, 41, 42, 43, 44, 45, 46, 47, 48, 49, 50, 51, 52, 53, 54, 55, 56, 57, 58, 59, 60, 61, 62, 63, 64, 65, 66, 67, 68, 75, 76, 77, 78, 79, 80, 81, 82, 83, 84, 85, 86, 87, 88, 89, 90, 91] (by decide +kernel) (by decide +kernel)) (goodIn_sub (fun _ h => List.mem_cons_of_mem _ (List.mem_append_left _ (List.mem_append_right _ h))) (by decide +kernel))) (goodIn_sub (fun _ h => List.mem_cons_of_mem _ (List.mem_append_right _ h)) (by decide +kernel))
set_option maxRecDepth 20000 in
theorem gX6_advance_X6_doAdvance : GoodIn wsX6_advance (wsV RX6 163 RX6 yX6_doAdvance wsX6_doAdvance) := goodIn_app (goodIn_of _ (by decide +kernel)) ggX6_advance_X6_doAdvance
set_option maxRecDepth 20000 in
theorem ggX6_advance_X6_ends : GoodIn wsX6_advance wsX6_ends := goodIn_r _ [72, 6, 8, 7, 9, 10, 11, 12, 73, 74, 75, 76, 77, 78, 79, 80, 81, 82, 83, 84, 85, 86, 87, 88, 89, 90, 91] (by decide +kernel) (by decide +kernel)
set_option maxRecDepth 20000 in
theorem gX6_advance_X6_ends : GoodIn wsX6_advance (wsV RX6 104 RX6 yX6_ends wsX6_ends) := goodIn_app (goodIn_of _ (by decide +kernel)) ggX6_advance_X6_ends
theorem dX6_advance_0 : decode cX6_advance 0 = .ok (.aload_n 0, 1) := by decide +kernel
theorem dX6_advance_1 : decode cX6_advance 1 = .ok (.invokevirtual 97, 3) := by decide +kernel
theorem dX6_advance_4 : decode cX6_advance 4 = .ok (.aload_n 0, 1) := by decide +kernel
theorem dX6_advance_5 : decode cX6_advance 5 = .ok (.aload_n 0, 1) := by decide +kernel
theorem dX6_advance_6 : decode cX6_advance 6 = .ok (.iload_n 1, 1) := by decide +kernel
theorem dX6_advance_7 : decode cX6_advance 7 = .ok (.invokevirtual 163, 3) := by decide +kernel
theorem dX6_advance_10 : decode cX6_advance 10 = .ok (.invokevirtual 104, 3) := by decide +kernel
theorem dX6_advance_13 : decode cX6_advance 13 = .ok (.ireturn, 1) := by decide +kernel
theorem dX6_time_0 : decode cX6_time 0 = .ok (.aload_n 0, 1) := by decide +kernel
theorem dX6_time_1 : decode cX6_time 1 = .ok (.iconst 0, 1) := by decide +kernel
theorem dX6_time_2 : decode cX6_time 2 = .ok (.putfield 39, 3) := by decide +kernel
theorem dX6_time_5 : decode cX6_time 5 = .ok (.aload_n 0, 1) := by decide +kernel
theorem dX6_time_6 : decode cX6_time 6 = .ok (.getfield 9, 3) := by decide +kernel
theorem dX6_time_9 : decode cX6_time 9 = .ok (.iconst 2, 1) := by decide +kernel
theorem dX6_time_10 : decode cX6_time 10 = .ok (.iaload, 1) := by decide +kernel
theorem dX6_time_11 : decode cX6_time 11 = .ok (.ireturn, 1) := by decide +kernel
theorem dX6_baseLevel_0 : decode cX6_baseLevel 0 = .ok (.aload_n 0, 1) := by decide +kernel
theorem dX6_baseLevel_1 : decode cX6_baseLevel 1 = .ok (.iconst 0, 1) := by decide +kernel
theorem dX6_baseLevel_2 : decode cX6_baseLevel 2 = .ok (.putfield 39, 3) := by decide +kernel
theorem dX6_baseLevel_5 : decode cX6_baseLevel 5 = .ok (.aload_n 0, 1) := by decide +kernel
theorem dX6_baseLevel_6 : decode cX6_baseLevel 6 = .ok (.getfield 9, 3) := by decide +kernel
theorem dX6_baseLevel_9 : decode cX6_baseLevel 9 = .ok (.iconst 3, 1) := by decide +kernel
theorem dX6_baseLevel_10 : decode cX6_baseLevel 10 = .ok (.iaload, 1) := by decide +kernel
theorem dX6_baseLevel_11 : decode cX6_baseLevel 11 = .ok (.ireturn, 1) := by decide +kernel
theorem dX6_flow_0 : decode cX6_flow 0 = .ok (.aload_n 0, 1) := by decide +kernel
theorem dX6_flow_1 : decode cX6_flow 1 = .ok (.iconst 0, 1) := by decide +kernel
theorem dX6_flow_2 : decode cX6_flow 2 = .ok (.putfield 39, 3) := by decide +kernel
theorem dX6_flow_5 : decode cX6_flow 5 = .ok (.aload_n 0, 1) := by decide +kernel
theorem dX6_flow_6 : decode cX6_flow 6 = .ok (.getfield 9, 3) := by decide +kernel
theorem dX6_flow_9 : decode cX6_flow 9 = .ok (.iconst 4, 1) := by decide +kernel
theorem dX6_flow_10 : decode cX6_flow 10 = .ok (.iaload, 1) := by decide +kernel
theorem dX6_flow_11 : decode cX6_flow 11 = .ok (.ireturn, 1) := by decide +kernel
theorem dX6_spilled_0 : decode cX6_spilled 0 = .ok (.aload_n 0, 1) := by decide +kernel
theorem dX6_spilled_1 : decode cX6_spilled 1 = .ok (.iconst 0, 1) := by decide +kernel
theorem dX6_spilled_2 : decode cX6_spilled 2 = .ok (.putfield 39, 3) := by decide +kernel
theorem dX6_spilled_5 : decode cX6_spilled 5 = .ok (.aload_n 0, 1) := by decide +kernel
theorem dX6_spilled_6 : decode cX6_spilled 6 = .ok (.getfield 9, 3) := by decide +kernel
theorem dX6_spilled_9 : decode cX6_spilled 9 = .ok (.iconst 5, 1) := by decide +kernel
theorem dX6_spilled_10 : decode cX6_spilled 10 = .ok (.iaload, 1) := by decide +kernel
theorem dX6_spilled_11 : decode cX6_spilled 11 = .ok (.ireturn, 1) := by decide +kernel
set_option maxRecDepth 20000 in
theorem ggX6_tideAt_X6_isPosition : GoodIn wsX6_tideAt wsX6_isPosition := goodIn_r _ [4, 5, 6, 3, 7] (by decide +kernel) (by decide +kernel)
set_option maxRecDepth 20000 in
theorem gX6_tideAt_X6_isPosition : GoodIn wsX6_tideAt (va_wsS RX6 90 yX6_isPosition wsX6_isPosition) := goodIn_app (goodIn_of _ (by decide +kernel)) ggX6_tideAt_X6_isPosition
set_option maxRecDepth 20000 in
theorem ggX6_tideAt_X6_isThere : GoodIn wsX6_tideAt wsX6_isThere := goodIn_r _ [11, 12, 51, 52, 53, 54, 55, 56, 57, 58, 59, 60, 61, 62, 63, 64, 65, 66, 67] (by decide +kernel) (by decide +kernel)
set_option maxRecDepth 20000 in
theorem gX6_tideAt_X6_isThere : GoodIn wsX6_tideAt (wsV RX6 113 RX6 yX6_isThere wsX6_isThere) := goodIn_app (goodIn_of _ (by decide +kernel)) ggX6_tideAt_X6_isThere
set_option maxRecDepth 20000 in
theorem ggX6_tideAt_X6_tide : GoodIn wsX6_tideAt wsX6_tide := goodIn_ca (goodIn_ca (goodIn_r _ [16, 17, 18, 19, 20, 3, 21, 22, 23, 24, 25, 26, 27, 28, 29, 30, 31, 32, 33, 34, 35, 36, 37, 38, 39, 40, 41, 42, 43, 44, 45, 46, 47, 48, 49, 50, 51, 52, 53, 54, 55, 56, 57, 58, 59, 60, 61, 62, 63, 64, 65, 66, 67] (by decide +kernel) (by decide +kernel)) (goodIn_sub (fun _ h => List.mem_cons_of_mem _ (List.mem_append_left _ (List.mem_append_right _ h))) (by decide +kernel))) (goodIn_sub (fun _ h => List.mem_cons_of_mem _ (List.mem_append_right _ h)) (by decide +kernel))
set_option maxRecDepth 20000 in
theorem gX6_tideAt_X6_tide : GoodIn wsX6_tideAt (wsV RX6 87 RX6 yX6_tide wsX6_tide) := goodIn_app (goodIn_of _ (by decide +kernel)) ggX6_tideAt_X6_tide
theorem dX6_tideAt_0 : decode cX6_tideAt 0 = .ok (.aload_n 0, 1) := by decide +kernel
theorem dX6_tideAt_1 : decode cX6_tideAt 1 = .ok (.iload_n 1, 1) := by decide +kernel
theorem dX6_tideAt_2 : decode cX6_tideAt 2 = .ok (.invokestatic 90, 3) := by decide +kernel
theorem dX6_tideAt_5 : decode cX6_tideAt 5 = .ok (.invokevirtual 113, 3) := by decide +kernel
theorem dX6_tideAt_8 : decode cX6_tideAt 8 = .ok (.ifCond .eq 12, 3) := by decide +kernel
theorem dX6_tideAt_11 : decode cX6_tideAt 11 = .ok (.aload_n 0, 1) := by decide +kernel
theorem dX6_tideAt_12 : decode cX6_tideAt 12 = .ok (.iload_n 1, 1) := by decide +kernel
theorem dX6_tideAt_13 : decode cX6_tideAt 13 = .ok (.iconst 0, 1) := by decide +kernel
theorem dX6_tideAt_14 : decode cX6_tideAt 14 = .ok (.invokevirtual 87, 3) := by decide +kernel
theorem dX6_tideAt_17 : decode cX6_tideAt 17 = .ok (.goto 4, 3) := by decide +kernel
theorem dX6_tideAt_20 : decode cX6_tideAt 20 = .ok (.iconst 0, 1) := by decide +kernel
theorem dX6_tideAt_21 : decode cX6_tideAt 21 = .ok (.ireturn, 1) := by decide +kernel
set_option maxRecDepth 20000 in
theorem ggX6_levelAt_X6_isPosition : GoodIn wsX6_levelAt wsX6_isPosition := goodIn_r _ [4, 5, 6, 3, 7] (by decide +kernel) (by decide +kernel)
set_option maxRecDepth 20000 in
theorem gX6_levelAt_X6_isPosition : GoodIn wsX6_levelAt (va_wsS RX6 90 yX6_isPosition wsX6_isPosition) := goodIn_app (goodIn_of _ (by decide +kernel)) ggX6_levelAt_X6_isPosition
set_option maxRecDepth 20000 in
theorem ggX6_levelAt_X6_isThere : GoodIn wsX6_levelAt wsX6_isThere := goodIn_r _ [11, 12, 55, 56, 57, 58, 59, 60, 61, 62, 63, 64, 65, 66, 67, 68, 69, 70, 71] (by decide +kernel) (by decide +kernel)
set_option maxRecDepth 20000 in
theorem gX6_levelAt_X6_isThere : GoodIn wsX6_levelAt (wsV RX6 113 RX6 yX6_isThere wsX6_isThere) := goodIn_app (goodIn_of _ (by decide +kernel)) ggX6_levelAt_X6_isThere
set_option maxRecDepth 20000 in
theorem ggX6_levelAt_X6_level : GoodIn wsX6_levelAt wsX6_level := goodIn_ca (goodIn_ca (goodIn_r _ [16, 17, 18, 19, 20, 21, 22, 23, 24, 3, 25, 26, 27, 28, 29, 30, 31, 32, 33, 34, 35, 36, 37, 38, 39, 40, 41, 42, 43, 44, 45, 46, 47, 48, 49, 50, 51, 52, 53, 54, 55, 56, 57, 58, 59, 60, 61, 62, 63, 64, 65, 66, 67, 68, 69, 70, 71] (by decide +kernel) (by decide +kernel)) (goodIn_sub (fun _ h => List.mem_cons_of_mem _ (List.mem_append_left _ (List.mem_append_right _ h))) (by decide +kernel))) (goodIn_sub (fun _ h => List.mem_cons_of_mem _ (List.mem_append_right _ h)) (by decide +kernel))
set_option maxRecDepth 20000 in
theorem gX6_levelAt_X6_level : GoodIn wsX6_levelAt (wsV RX6 157 RX6 yX6_level wsX6_level) := goodIn_app (goodIn_of _ (by decide +kernel)) ggX6_levelAt_X6_level
theorem dX6_levelAt_0 : decode cX6_levelAt 0 = .ok (.aload_n 0, 1) := by decide +kernel
theorem dX6_levelAt_1 : decode cX6_levelAt 1 = .ok (.iload_n 1, 1) := by decide +kernel
theorem dX6_levelAt_2 : decode cX6_levelAt 2 = .ok (.invokestatic 90, 3) := by decide +kernel
theorem dX6_levelAt_5 : decode cX6_levelAt 5 = .ok (.invokevirtual 113, 3) := by decide +kernel
theorem dX6_levelAt_8 : decode cX6_levelAt 8 = .ok (.ifCond .eq 11, 3) := by decide +kernel
theorem dX6_levelAt_11 : decode cX6_levelAt 11 = .ok (.aload_n 0, 1) := by decide +kernel
theorem dX6_levelAt_12 : decode cX6_levelAt 12 = .ok (.iload_n 1, 1) := by decide +kernel
theorem dX6_levelAt_13 : decode cX6_levelAt 13 = .ok (.invokevirtual 157, 3) := by decide +kernel
theorem dX6_levelAt_16 : decode cX6_levelAt 16 = .ok (.goto 4, 3) := by decide +kernel
theorem dX6_levelAt_19 : decode cX6_levelAt 19 = .ok (.iconst 0, 1) := by decide +kernel
theorem dX6_levelAt_20 : decode cX6_levelAt 20 = .ok (.ireturn, 1) := by decide +kernel
set_option maxRecDepth 20000 in
theorem ggX6_highestShore_X6_level : GoodIn wsX6_highestShore wsX6_level := goodIn_ca (goodIn_ca (goodIn_r _ [6, 7, 8, 9, 10, 11, 12, 13, 14, 5, 15, 16, 17, 18, 19, 20, 21, 22, 23, 24, 25, 26, 27, 28, 29, 30, 31, 32, 33, 34, 35, 36, 37, 38, 39, 40, 41, 42, 43, 44, 45, 46, 47, 48, 49, 50, 51, 52, 53, 54, 55, 56, 57, 58, 59, 60, 61] (by decide +kernel) (by decide +kernel)) (goodIn_sub (fun _ h => List.mem_cons_of_mem _ (List.mem_append_left _ (List.mem_append_right _ h))) (by decide +kernel))) (goodIn_sub (fun _ h => List.mem_cons_of_mem _ (List.mem_append_right _ h)) (by decide +kernel))
set_option maxRecDepth 20000 in
theorem gX6_highestShore_X6_level : GoodIn wsX6_highestShore (wsV RX6 157 RX6 yX6_level wsX6_level) := goodIn_app (goodIn_of _ (by decide +kernel)) ggX6_highestShore_X6_level
theorem dX6_highestShore_0 : decode cX6_highestShore 0 = .ok (.aload_n 0, 1) := by decide +kernel
theorem dX6_highestShore_1 : decode cX6_highestShore 1 = .ok (.iconst 0, 1) := by decide +kernel
theorem dX6_highestShore_2 : decode cX6_highestShore 2 = .ok (.putfield 39, 3) := by decide +kernel
theorem dX6_highestShore_5 : decode cX6_highestShore 5 = .ok (.iconst 0, 1) := by decide +kernel
theorem dX6_highestShore_6 : decode cX6_highestShore 6 = .ok (.istore_n 1, 1) := by decide +kernel
theorem dX6_highestShore_7 : decode cX6_highestShore 7 = .ok (.iconst 1, 1) := by decide +kernel
theorem dX6_highestShore_8 : decode cX6_highestShore 8 = .ok (.istore_n 2, 1) := by decide +kernel
theorem dX6_highestShore_9 : decode cX6_highestShore 9 = .ok (.iload_n 2, 1) := by decide +kernel
theorem dX6_highestShore_10 : decode cX6_highestShore 10 = .ok (.bipush 12, 2) := by decide +kernel
theorem dX6_highestShore_12 : decode cX6_highestShore 12 = .ok (.if_icmp .ge 28, 3) := by decide +kernel
theorem dX6_highestShore_15 : decode cX6_highestShore 15 = .ok (.aload_n 0, 1) := by decide +kernel
theorem dX6_highestShore_16 : decode cX6_highestShore 16 = .ok (.iload_n 2, 1) := by decide +kernel
theorem dX6_highestShore_17 : decode cX6_highestShore 17 = .ok (.invokevirtual 157, 3) := by decide +kernel
theorem dX6_highestShore_20 : decode cX6_highestShore 20 = .ok (.aload_n 0, 1) := by decide +kernel
theorem dX6_highestShore_21 : decode cX6_highestShore 21 = .ok (.iload_n 1, 1) := by decide +kernel
theorem dX6_highestShore_22 : decode cX6_highestShore 22 = .ok (.invokevirtual 157, 3) := by decide +kernel
theorem dX6_highestShore_25 : decode cX6_highestShore 25 = .ok (.if_icmp .le 7, 3) := by decide +kernel
theorem dX6_highestShore_28 : decode cX6_highestShore 28 = .ok (.iload_n 2, 1) := by decide +kernel
theorem dX6_highestShore_29 : decode cX6_highestShore 29 = .ok (.goto 4, 3) := by decide +kernel
theorem dX6_highestShore_32 : decode cX6_highestShore 32 = .ok (.iload_n 1, 1) := by decide +kernel
theorem dX6_highestShore_33 : decode cX6_highestShore 33 = .ok (.istore_n 1, 1) := by decide +kernel
theorem dX6_highestShore_34 : decode cX6_highestShore 34 = .ok (.iinc 2 1, 3) := by decide +kernel
theorem dX6_highestShore_37 : decode cX6_highestShore 37 = .ok (.goto (-28), 3) := by decide +kernel
theorem dX6_highestShore_40 : decode cX6_highestShore 40 = .ok (.iload_n 1, 1) := by decide +kernel
theorem dX6_highestShore_41 : decode cX6_highestShore 41 = .ok (.ireturn, 1) := by decide +kernel
set_option maxRecDepth 20000 in
theorem ggX6_tideIn_X6_isPosition : GoodIn wsX6_tideIn wsX6_isPosition := goodIn_r _ [5, 6, 7, 4, 8] (by decide +kernel) (by decide +kernel)
set_option maxRecDepth 20000 in
theorem gX6_tideIn_X6_isPosition : GoodIn wsX6_tideIn (va_wsS RX6 90 yX6_isPosition wsX6_isPosition) := goodIn_app (goodIn_of _ (by decide +kernel)) ggX6_tideIn_X6_isPosition
set_option maxRecDepth 20000 in
theorem ggX6_tideIn_X6_in : GoodIn wsX6_tideIn wsX6_in := goodIn_r _ [8] (by decide +kernel) (by decide +kernel)
set_option maxRecDepth 20000 in
theorem gX6_tideIn_X6_in : GoodIn wsX6_tideIn (va_wsS RX6 51 yX6_in wsX6_in) := goodIn_app (goodIn_of _ (by decide +kernel)) ggX6_tideIn_X6_in
set_option maxRecDepth 20000 in
theorem ggX6_tideIn_X6_tide : GoodIn wsX6_tideIn wsX6_tide := goodIn_ca (goodIn_ca (goodIn_r _ [12, 13, 14, 15, 16, 4, 17, 18, 19, 20, 21, 22, 23, 24, 25, 26, 27, 28, 29, 30, 31, 32, 33, 34, 35, 36, 37, 38, 39, 40, 41, 42, 43, 44, 45, 46, 47, 48, 49, 50, 51, 52, 53, 54, 55, 56, 57, 58, 59, 60, 61, 62, 63] (by decide +kernel) (by decide +kernel)) (goodIn_sub (fun _ h => List.mem_cons_of_mem _ (List.mem_append_left _ (List.mem_append_right _ h))) (by decide +kernel))) (goodIn_sub (fun _ h => List.mem_cons_of_mem _ (List.mem_append_right _ h)) (by decide +kernel))
set_option maxRecDepth 20000 in
theorem gX6_tideIn_X6_tide : GoodIn wsX6_tideIn (wsV RX6 87 RX6 yX6_tide wsX6_tide) := goodIn_app (goodIn_of _ (by decide +kernel)) ggX6_tideIn_X6_tide
theorem dX6_tideIn_0 : decode cX6_tideIn 0 = .ok (.aload_n 0, 1) := by decide +kernel
theorem dX6_tideIn_1 : decode cX6_tideIn 1 = .ok (.iload_n 1, 1) := by decide +kernel
theorem dX6_tideIn_2 : decode cX6_tideIn 2 = .ok (.invokestatic 90, 3) := by decide +kernel
theorem dX6_tideIn_5 : decode cX6_tideIn 5 = .ok (.ifCond .ne 7, 3) := by decide +kernel
theorem dX6_tideIn_8 : decode cX6_tideIn 8 = .ok (.iconst 1, 1) := by decide +kernel
theorem dX6_tideIn_9 : decode cX6_tideIn 9 = .ok (.goto 19, 3) := by decide +kernel
theorem dX6_tideIn_12 : decode cX6_tideIn 12 = .ok (.iload_n 2, 1) := by decide +kernel
theorem dX6_tideIn_13 : decode cX6_tideIn 13 = .ok (.iconst 0, 1) := by decide +kernel
theorem dX6_tideIn_14 : decode cX6_tideIn 14 = .ok (.sipush 144, 3) := by decide +kernel
theorem dX6_tideIn_17 : decode cX6_tideIn 17 = .ok (.invokestatic 51, 3) := by decide +kernel
theorem dX6_tideIn_20 : decode cX6_tideIn 20 = .ok (.ifCond .ne 7, 3) := by decide +kernel
theorem dX6_tideIn_23 : decode cX6_tideIn 23 = .ok (.iconst 2, 1) := by decide +kernel
theorem dX6_tideIn_24 : decode cX6_tideIn 24 = .ok (.goto 4, 3) := by decide +kernel
theorem dX6_tideIn_27 : decode cX6_tideIn 27 = .ok (.iconst 0, 1) := by decide +kernel
theorem dX6_tideIn_28 : decode cX6_tideIn 28 = .ok (.putfield 39, 3) := by decide +kernel
theorem dX6_tideIn_31 : decode cX6_tideIn 31 = .ok (.aload_n 0, 1) := by decide +kernel
theorem dX6_tideIn_32 : decode cX6_tideIn 32 = .ok (.getfield 39, 3) := by decide +kernel
theorem dX6_tideIn_35 : decode cX6_tideIn 35 = .ok (.ifCond .le 7, 3) := by decide +kernel
theorem dX6_tideIn_38 : decode cX6_tideIn 38 = .ok (.iconst 0, 1) := by decide +kernel
theorem dX6_tideIn_39 : decode cX6_tideIn 39 = .ok (.goto 9, 3) := by decide +kernel
theorem dX6_tideIn_42 : decode cX6_tideIn 42 = .ok (.aload_n 0, 1) := by decide +kernel
theorem dX6_tideIn_43 : decode cX6_tideIn 43 = .ok (.iload_n 1, 1) := by decide +kernel
theorem dX6_tideIn_44 : decode cX6_tideIn 44 = .ok (.iload_n 2, 1) := by decide +kernel
theorem dX6_tideIn_45 : decode cX6_tideIn 45 = .ok (.invokevirtual 87, 3) := by decide +kernel
theorem dX6_tideIn_48 : decode cX6_tideIn 48 = .ok (.ireturn, 1) := by decide +kernel
set_option maxRecDepth 20000 in
theorem ggX6_tideBySteps_X6_tideIn : GoodIn wsX6_tideBySteps wsX6_tideIn := goodIn_ca (goodIn_ca (goodIn_r _ [5, 6, 7, 8, 4, 9, 10, 11, 12, 13, 14, 15, 16, 17, 18, 19, 20, 21, 22, 23, 24, 25, 26, 27, 28, 29, 30, 31, 32, 33, 34, 35, 36, 37, 38, 39, 40, 41, 42, 43, 44, 45, 46, 47, 48, 49, 50, 51, 52, 53, 54, 55, 56, 57, 58, 59, 60, 61, 62, 63, 64, 65, 66, 67] (by decide +kernel) (by decide +kernel)) (goodIn_sub (fun _ h => List.mem_cons_of_mem _ (List.mem_append_left _ (List.mem_append_right _ h))) (by decide +kernel))) (goodIn_sub (fun _ h => List.mem_cons_of_mem _ (List.mem_append_right _ h)) (by decide +kernel))
set_option maxRecDepth 20000 in
theorem gX6_tideBySteps_X6_tideIn : GoodIn wsX6_tideBySteps (wsV RX6 166 RX6 yX6_tideIn wsX6_tideIn) := goodIn_app (goodIn_of _ (by decide +kernel)) ggX6_tideBySteps_X6_tideIn
theorem dX6_tideBySteps_0 : decode cX6_tideBySteps 0 = .ok (.aload_n 0, 1) := by decide +kernel
theorem dX6_tideBySteps_1 : decode cX6_tideBySteps 1 = .ok (.iload_n 1, 1) := by decide +kernel
theorem dX6_tideBySteps_2 : decode cX6_tideBySteps 2 = .ok (.iload_n 2, 1) := by decide +kernel
theorem dX6_tideBySteps_3 : decode cX6_tideBySteps 3 = .ok (.invokevirtual 166, 3) := by decide +kernel
theorem dX6_tideBySteps_6 : decode cX6_tideBySteps 6 = .ok (.ireturn, 1) := by decide +kernel
set_option maxRecDepth 20000 in
theorem ggX6_extreme_X6_isPosition : GoodIn wsX6_extreme wsX6_isPosition := goodIn_r _ [4, 5, 6, 3, 7] (by decide +kernel) (by decide +kernel)
set_option maxRecDepth 20000 in
theorem gX6_extreme_X6_isPosition : GoodIn wsX6_extreme (va_wsS RX6 90 yX6_isPosition wsX6_isPosition) := goodIn_app (goodIn_of _ (by decide +kernel)) ggX6_extreme_X6_isPosition
set_option maxRecDepth 20000 in
theorem ggX6_extreme_X6_isThere : GoodIn wsX6_extreme wsX6_isThere := goodIn_r _ [11, 12, 51, 52, 53, 54, 55, 56, 57, 58, 59, 60, 61, 62, 63, 64, 65, 66, 67] (by decide +kernel) (by decide +kernel)
set_option maxRecDepth 20000 in
theorem gX6_extreme_X6_isThere : GoodIn wsX6_extreme (wsV RX6 113 RX6 yX6_isThere wsX6_isThere) := goodIn_app (goodIn_of _ (by decide +kernel)) ggX6_extreme_X6_isThere
set_option maxRecDepth 20000 in
theorem ggX6_extreme_X6_tide : GoodIn wsX6_extreme wsX6_tide := goodIn_ca (goodIn_ca (goodIn_r _ [16, 17, 18, 19, 20, 3, 21, 22, 23, 24, 25, 26, 27, 28, 29, 30, 31, 32, 33, 34, 35, 36, 37, 38, 39, 40, 41, 42, 43, 44, 45, 46, 47, 48, 49, 50, 51, 52, 53, 54, 55, 56, 57, 58, 59, 60, 61, 62, 63, 64, 65, 66, 67] (by decide +kernel) (by decide +kernel)) (goodIn_sub (fun _ h => List.mem_cons_of_mem _ (List.mem_append_left _ (List.mem_append_right _ h))) (by decide +kernel))) (goodIn_sub (fun _ h => List.mem_cons_of_mem _ (List.mem_append_right _ h)) (by decide +kernel))
set_option maxRecDepth 20000 in
theorem gX6_extreme_X6_tide : GoodIn wsX6_extreme (wsV RX6 87 RX6 yX6_tide wsX6_tide) := goodIn_app (goodIn_of _ (by decide +kernel)) ggX6_extreme_X6_tide
theorem dX6_extreme_0 : decode cX6_extreme 0 = .ok (.iconst 0, 1) := by decide +kernel
theorem dX6_extreme_1 : decode cX6_extreme 1 = .ok (.istore_n 3, 1) := by decide +kernel
theorem dX6_extreme_2 : decode cX6_extreme 2 = .ok (.iconst 1, 1) := by decide +kernel
theorem dX6_extreme_3 : decode cX6_extreme 3 = .ok (.istore 4, 2) := by decide +kernel
theorem dX6_extreme_5 : decode cX6_extreme 5 = .ok (.iload 4, 2) := by decide +kernel
theorem dX6_extreme_7 : decode cX6_extreme 7 = .ok (.sipush 144, 3) := by decide +kernel
theorem dX6_extreme_10 : decode cX6_extreme 10 = .ok (.if_icmp .gt 46, 3) := by decide +kernel
theorem dX6_extreme_13 : decode cX6_extreme 13 = .ok (.aload_n 0, 1) := by decide +kernel
theorem dX6_extreme_14 : decode cX6_extreme 14 = .ok (.iload_n 1, 1) := by decide +kernel
theorem dX6_extreme_15 : decode cX6_extreme 15 = .ok (.invokestatic 90, 3) := by decide +kernel
theorem dX6_extreme_18 : decode cX6_extreme 18 = .ok (.invokevirtual 113, 3) := by decide +kernel
theorem dX6_extreme_21 : decode cX6_extreme 21 = .ok (.ifCond .eq 35, 3) := by decide +kernel
theorem dX6_extreme_24 : decode cX6_extreme 24 = .ok (.iload_n 2, 1) := by decide +kernel
theorem dX6_extreme_25 : decode cX6_extreme 25 = .ok (.aload_n 0, 1) := by decide +kernel
theorem dX6_extreme_26 : decode cX6_extreme 26 = .ok (.iload_n 1, 1) := by decide +kernel
theorem dX6_extreme_27 : decode cX6_extreme 27 = .ok (.iload 4, 2) := by decide +kernel
theorem dX6_extreme_29 : decode cX6_extreme 29 = .ok (.invokevirtual 87, 3) := by decide +kernel
theorem dX6_extreme_32 : decode cX6_extreme 32 = .ok (.aload_n 0, 1) := by decide +kernel
theorem dX6_extreme_33 : decode cX6_extreme 33 = .ok (.iload_n 1, 1) := by decide +kernel
theorem dX6_extreme_34 : decode cX6_extreme 34 = .ok (.iload_n 3, 1) := by decide +kernel
theorem dX6_extreme_35 : decode cX6_extreme 35 = .ok (.invokevirtual 87, 3) := by decide +kernel
theorem dX6_extreme_38 : decode cX6_extreme 38 = .ok (.isub, 1) := by decide +kernel
theorem dX6_extreme_39 : decode cX6_extreme 39 = .ok (.imul, 1) := by decide +kernel
theorem dX6_extreme_40 : decode cX6_extreme 40 = .ok (.ifCond .le 8, 3) := by decide +kernel
theorem dX6_extreme_43 : decode cX6_extreme 43 = .ok (.iload 4, 2) := by decide +kernel
theorem dX6_extreme_45 : decode cX6_extreme 45 = .ok (.goto 4, 3) := by decide +kernel
theorem dX6_extreme_48 : decode cX6_extreme 48 = .ok (.iload_n 3, 1) := by decide +kernel
theorem dX6_extreme_49 : decode cX6_extreme 49 = .ok (.istore_n 3, 1) := by decide +kernel
theorem dX6_extreme_50 : decode cX6_extreme 50 = .ok (.iinc 4 1, 3) := by decide +kernel
theorem dX6_extreme_53 : decode cX6_extreme 53 = .ok (.goto (-48), 3) := by decide +kernel
theorem dX6_extreme_56 : decode cX6_extreme 56 = .ok (.iload_n 3, 1) := by decide +kernel
theorem dX6_extreme_57 : decode cX6_extreme 57 = .ok (.ireturn, 1) := by decide +kernel
set_option maxRecDepth 20000 in
theorem ggX6_highTideIn_X6_extreme : GoodIn wsX6_highTideIn wsX6_extreme := goodIn_ca (goodIn_ca (goodIn_r _ [5, 6, 7, 4, 8, 9, 10, 11, 12, 13, 14, 15, 16, 17, 18, 19, 20, 21, 22, 23, 24, 25, 26, 27, 28, 29, 30, 31, 32, 33, 34, 35, 36, 37, 38, 39, 40, 41, 42, 43, 44, 45, 46, 47, 48, 49, 50, 51, 52, 53, 54, 55, 56, 57, 58, 59, 60, 61, 62, 63, 64, 65, 66, 67, 68, 69, 70, 71] (by decide +kernel) (by decide +kernel)) (goodIn_sub (fun _ h => List.mem_cons_of_mem _ (List.mem_append_left _ (List.mem_append_right _ h))) (by decide +kernel))) (goodIn_sub (fun _ h => List.mem_cons_of_mem _ (List.mem_append_right _ h)) (by decide +kernel))
set_option maxRecDepth 20000 in
theorem gX6_highTideIn_X6_extreme : GoodIn wsX6_highTideIn (wsV RX6 169 RX6 yX6_extreme wsX6_extreme) := goodIn_app (goodIn_of _ (by decide +kernel)) ggX6_highTideIn_X6_extreme
theorem dX6_highTideIn_0 : decode cX6_highTideIn 0 = .ok (.aload_n 0, 1) := by decide +kernel
theorem dX6_highTideIn_1 : decode cX6_highTideIn 1 = .ok (.iload_n 1, 1) := by decide +kernel
theorem dX6_highTideIn_2 : decode cX6_highTideIn 2 = .ok (.iconst 1, 1) := by decide +kernel
theorem dX6_highTideIn_3 : decode cX6_highTideIn 3 = .ok (.invokevirtual 169, 3) := by decide +kernel
theorem dX6_highTideIn_6 : decode cX6_highTideIn 6 = .ok (.ireturn, 1) := by decide +kernel
set_option maxRecDepth 20000 in
theorem ggX6_lowTideIn_X6_extreme : GoodIn wsX6_lowTideIn wsX6_extreme := goodIn_ca (goodIn_ca (goodIn_r _ [5, 6, 7, 4, 8, 9, 10, 11, 12, 13, 14, 15, 16, 17, 18, 19, 20, 21, 22, 23, 24, 25, 26, 27, 28, 29, 30, 31, 32, 33, 34, 35, 36, 37, 38, 39, 40, 41, 42, 43, 44, 45, 46, 47, 48, 49, 50, 51, 52, 53, 54, 55, 56, 57, 58, 59, 60, 61, 62, 63, 64, 65, 66, 67, 68, 69, 70, 71] (by decide +kernel) (by decide +kernel)) (goodIn_sub (fun _ h => List.mem_cons_of_mem _ (List.mem_append_left _ (List.mem_append_right _ h))) (by decide +kernel))) (goodIn_sub (fun _ h => List.mem_cons_of_mem _ (List.mem_append_right _ h)) (by decide +kernel))
set_option maxRecDepth 20000 in
theorem gX6_lowTideIn_X6_extreme : GoodIn wsX6_lowTideIn (wsV RX6 169 RX6 yX6_extreme wsX6_extreme) := goodIn_app (goodIn_of _ (by decide +kernel)) ggX6_lowTideIn_X6_extreme
theorem dX6_lowTideIn_0 : decode cX6_lowTideIn 0 = .ok (.aload_n 0, 1) := by decide +kernel
theorem dX6_lowTideIn_1 : decode cX6_lowTideIn 1 = .ok (.iload_n 1, 1) := by decide +kernel
theorem dX6_lowTideIn_2 : decode cX6_lowTideIn 2 = .ok (.iconst (-1), 1) := by decide +kernel
theorem dX6_lowTideIn_3 : decode cX6_lowTideIn 3 = .ok (.invokevirtual 169, 3) := by decide +kernel
theorem dX6_lowTideIn_6 : decode cX6_lowTideIn 6 = .ok (.ireturn, 1) := by decide +kernel
set_option maxRecDepth 20000 in
theorem ggX6_eclipseIn_X6_isMoon : GoodIn wsX6_eclipseIn wsX6_isMoon := goodIn_ca (goodIn_r _ [7, 1, 8, 9, 6, 10, 27, 28, 29, 30, 31, 32, 33, 34, 35, 36, 37, 38, 39, 40, 41, 42, 43] (by decide +kernel) (by decide +kernel)) (goodIn_sub (fun _ h => List.mem_cons_of_mem _ (List.mem_append_left _ (List.mem_append_right _ h))) (by decide +kernel))
set_option maxRecDepth 20000 in
theorem gX6_eclipseIn_X6_isMoon : GoodIn wsX6_eclipseIn (wsV RX6 107 RX6 yX6_isMoon wsX6_isMoon) := goodIn_app (goodIn_of _ (by decide +kernel)) ggX6_eclipseIn_X6_isMoon
set_option maxRecDepth 20000 in
theorem ggX6_eclipseIn_X6_isShaded : GoodIn wsX6_eclipseIn wsX6_isShaded := goodIn_ca (goodIn_ca (goodIn_r _ [14, 1, 15, 16, 17, 6, 18, 19, 20, 21, 22, 23, 24, 25, 26, 27, 28, 29, 30, 31, 32, 33, 34, 35, 36, 37, 38, 39, 40, 41, 42, 43] (by decide +kernel) (by decide +kernel)) (goodIn_sub (fun _ h => List.mem_cons_of_mem _ (List.mem_append_left _ (List.mem_append_right _ h))) (by decide +kernel))) (goodIn_sub (fun _ h => List.mem_cons_of_mem _ (List.mem_append_right _ h)) (by decide +kernel))
set_option maxRecDepth 20000 in
theorem gX6_eclipseIn_X6_isShaded : GoodIn wsX6_eclipseIn (wsV RX6 83 RX6 yX6_isShaded wsX6_isShaded) := goodIn_app (goodIn_of _ (by decide +kernel)) ggX6_eclipseIn_X6_isShaded
theorem dX6_eclipseIn_0 : decode cX6_eclipseIn 0 = .ok (.aload_n 0, 1) := by decide +kernel
theorem dX6_eclipseIn_1 : decode cX6_eclipseIn 1 = .ok (.aload_n 0, 1) := by decide +kernel
theorem dX6_eclipseIn_2 : decode cX6_eclipseIn 2 = .ok (.iload_n 1, 1) := by decide +kernel
theorem dX6_eclipseIn_3 : decode cX6_eclipseIn 3 = .ok (.invokevirtual 107, 3) := by decide +kernel
theorem dX6_eclipseIn_6 : decode cX6_eclipseIn 6 = .ok (.ifCond .ne 7, 3) := by decide +kernel
theorem dX6_eclipseIn_9 : decode cX6_eclipseIn 9 = .ok (.iconst 1, 1) := by decide +kernel
theorem dX6_eclipseIn_10 : decode cX6_eclipseIn 10 = .ok (.goto 18, 3) := by decide +kernel
theorem dX6_eclipseIn_13 : decode cX6_eclipseIn 13 = .ok (.aload_n 0, 1) := by decide +kernel
theorem dX6_eclipseIn_14 : decode cX6_eclipseIn 14 = .ok (.getfield 9, 3) := by decide +kernel
theorem dX6_eclipseIn_17 : decode cX6_eclipseIn 17 = .ok (.bipush 6, 2) := by decide +kernel
theorem dX6_eclipseIn_19 : decode cX6_eclipseIn 19 = .ok (.iaload, 1) := by decide +kernel
theorem dX6_eclipseIn_20 : decode cX6_eclipseIn 20 = .ok (.ifCond .ge 7, 3) := by decide +kernel
theorem dX6_eclipseIn_23 : decode cX6_eclipseIn 23 = .ok (.iconst 2, 1) := by decide +kernel
theorem dX6_eclipseIn_24 : decode cX6_eclipseIn 24 = .ok (.goto 4, 3) := by decide +kernel
theorem dX6_eclipseIn_27 : decode cX6_eclipseIn 27 = .ok (.iconst 0, 1) := by decide +kernel
theorem dX6_eclipseIn_28 : decode cX6_eclipseIn 28 = .ok (.putfield 39, 3) := by decide +kernel
theorem dX6_eclipseIn_31 : decode cX6_eclipseIn 31 = .ok (.iconst 0, 1) := by decide +kernel
theorem dX6_eclipseIn_32 : decode cX6_eclipseIn 32 = .ok (.istore_n 2, 1) := by decide +kernel
theorem dX6_eclipseIn_33 : decode cX6_eclipseIn 33 = .ok (.aload_n 0, 1) := by decide +kernel
theorem dX6_eclipseIn_34 : decode cX6_eclipseIn 34 = .ok (.getfield 39, 3) := by decide +kernel
theorem dX6_eclipseIn_37 : decode cX6_eclipseIn 37 = .ok (.ifCond .ne 18, 3) := by decide +kernel
theorem dX6_eclipseIn_40 : decode cX6_eclipseIn 40 = .ok (.aload_n 0, 1) := by decide +kernel
theorem dX6_eclipseIn_41 : decode cX6_eclipseIn 41 = .ok (.iload_n 1, 1) := by decide +kernel
theorem dX6_eclipseIn_42 : decode cX6_eclipseIn 42 = .ok (.iload_n 2, 1) := by decide +kernel
theorem dX6_eclipseIn_43 : decode cX6_eclipseIn 43 = .ok (.invokevirtual 83, 3) := by decide +kernel
theorem dX6_eclipseIn_46 : decode cX6_eclipseIn 46 = .ok (.ifCond .ne 9, 3) := by decide +kernel
theorem dX6_eclipseIn_49 : decode cX6_eclipseIn 49 = .ok (.iinc 2 1, 3) := by decide +kernel
theorem dX6_eclipseIn_52 : decode cX6_eclipseIn 52 = .ok (.goto (-19), 3) := by decide +kernel
theorem dX6_eclipseIn_55 : decode cX6_eclipseIn 55 = .ok (.iload_n 2, 1) := by decide +kernel
theorem dX6_eclipseIn_56 : decode cX6_eclipseIn 56 = .ok (.ireturn, 1) := by decide +kernel
set_option maxRecDepth 20000 in
theorem ggX6_conjunctionIn_X6_isMoon : GoodIn wsX6_conjunctionIn wsX6_isMoon := goodIn_ca (goodIn_r _ [6, 7, 8, 9, 5, 10, 27, 28, 29, 30, 31, 32, 33, 34, 35, 36, 37, 38, 39, 40, 41, 42, 43] (by decide +kernel) (by decide +kernel)) (goodIn_sub (fun _ h => List.mem_cons_of_mem _ (List.mem_append_left _ (List.mem_append_right _ h))) (by decide +kernel))
set_option maxRecDepth 20000 in
theorem gX6_conjunctionIn_X6_isMoon : GoodIn wsX6_conjunctionIn (wsV RX6 107 RX6 yX6_isMoon wsX6_isMoon) := goodIn_app (goodIn_of _ (by decide +kernel)) ggX6_conjunctionIn_X6_isMoon
set_option maxRecDepth 20000 in
theorem ggX6_conjunctionIn_X6_fails : GoodIn wsX6_conjunctionIn wsX6_fails := goodIn_r _ [14, 1, 27, 28, 29, 30, 31, 32, 33, 34, 35, 36, 37, 38, 39, 40, 41, 42, 43] (by decide +kernel) (by decide +kernel)
set_option maxRecDepth 20000 in
theorem gX6_conjunctionIn_X6_fails : GoodIn wsX6_conjunctionIn (wsV RX6 94 RX6 yX6_fails wsX6_fails) := goodIn_app (goodIn_of _ (by decide +kernel)) ggX6_conjunctionIn_X6_fails
set_option maxRecDepth 20000 in
theorem ggX6_conjunctionIn_X6_placeIn : GoodIn wsX6_conjunctionIn wsX6_placeIn := goodIn_ca (goodIn_ca (goodIn_r _ [18, 19, 20, 21, 5, 22, 7, 23, 24, 25, 26, 27, 28, 29, 30, 31, 32, 33, 34, 35, 36, 37, 38, 39, 40, 41, 42, 43] (by decide +kernel) (by decide +kernel)) (goodIn_sub (fun _ h => List.mem_cons_of_mem _ (List.mem_append_right _ h)) (by decide +kernel))) (goodIn_sub (fun _ h => List.mem_cons_of_mem _ (List.mem_append_left _ (List.mem_append_right _ h))) (by decide +kernel))
set_option maxRecDepth 20000 in
theorem gX6_conjunctionIn_X6_placeIn : GoodIn wsX6_conjunctionIn (wsV RX6 67 RX6 yX6_placeIn wsX6_placeIn) := goodIn_app (goodIn_of _ (by decide +kernel)) ggX6_conjunctionIn_X6_placeIn
theorem dX6_conjunctionIn_0 : decode cX6_conjunctionIn 0 = .ok (.aload_n 0, 1) := by decide +kernel
theorem dX6_conjunctionIn_1 : decode cX6_conjunctionIn 1 = .ok (.iload_n 1, 1) := by decide +kernel
theorem dX6_conjunctionIn_2 : decode cX6_conjunctionIn 2 = .ok (.invokevirtual 107, 3) := by decide +kernel
theorem dX6_conjunctionIn_5 : decode cX6_conjunctionIn 5 = .ok (.ifCond .eq 11, 3) := by decide +kernel
theorem dX6_conjunctionIn_8 : decode cX6_conjunctionIn 8 = .ok (.aload_n 0, 1) := by decide +kernel
theorem dX6_conjunctionIn_9 : decode cX6_conjunctionIn 9 = .ok (.iload_n 2, 1) := by decide +kernel
theorem dX6_conjunctionIn_10 : decode cX6_conjunctionIn 10 = .ok (.invokevirtual 107, 3) := by decide +kernel
theorem dX6_conjunctionIn_13 : decode cX6_conjunctionIn 13 = .ok (.ifCond .ne 9, 3) := by decide +kernel
theorem dX6_conjunctionIn_16 : decode cX6_conjunctionIn 16 = .ok (.aload_n 0, 1) := by decide +kernel
theorem dX6_conjunctionIn_17 : decode cX6_conjunctionIn 17 = .ok (.iconst 1, 1) := by decide +kernel
theorem dX6_conjunctionIn_18 : decode cX6_conjunctionIn 18 = .ok (.invokevirtual 94, 3) := by decide +kernel
theorem dX6_conjunctionIn_21 : decode cX6_conjunctionIn 21 = .ok (.ireturn, 1) := by decide +kernel
theorem dX6_conjunctionIn_22 : decode cX6_conjunctionIn 22 = .ok (.iconst 0, 1) := by decide +kernel
theorem dX6_conjunctionIn_23 : decode cX6_conjunctionIn 23 = .ok (.istore_n 3, 1) := by decide +kernel
theorem dX6_conjunctionIn_24 : decode cX6_conjunctionIn 24 = .ok (.iload_n 3, 1) := by decide +kernel
theorem dX6_conjunctionIn_25 : decode cX6_conjunctionIn 25 = .ok (.sipush 2000, 3) := by decide +kernel
theorem dX6_conjunctionIn_28 : decode cX6_conjunctionIn 28 = .ok (.if_icmp .gt 31, 3) := by decide +kernel
theorem dX6_conjunctionIn_31 : decode cX6_conjunctionIn 31 = .ok (.aload_n 0, 1) := by decide +kernel
theorem dX6_conjunctionIn_32 : decode cX6_conjunctionIn 32 = .ok (.iload_n 1, 1) := by decide +kernel
theorem dX6_conjunctionIn_33 : decode cX6_conjunctionIn 33 = .ok (.iload_n 3, 1) := by decide +kernel
theorem dX6_conjunctionIn_34 : decode cX6_conjunctionIn 34 = .ok (.invokevirtual 67, 3) := by decide +kernel
theorem dX6_conjunctionIn_37 : decode cX6_conjunctionIn 37 = .ok (.aload_n 0, 1) := by decide +kernel
theorem dX6_conjunctionIn_38 : decode cX6_conjunctionIn 38 = .ok (.iload_n 2, 1) := by decide +kernel
theorem dX6_conjunctionIn_39 : decode cX6_conjunctionIn 39 = .ok (.iload_n 3, 1) := by decide +kernel
theorem dX6_conjunctionIn_40 : decode cX6_conjunctionIn 40 = .ok (.invokevirtual 67, 3) := by decide +kernel
theorem dX6_conjunctionIn_43 : decode cX6_conjunctionIn 43 = .ok (.if_icmp .ne 10, 3) := by decide +kernel
theorem dX6_conjunctionIn_46 : decode cX6_conjunctionIn 46 = .ok (.aload_n 0, 1) := by decide +kernel
theorem dX6_conjunctionIn_47 : decode cX6_conjunctionIn 47 = .ok (.iconst 0, 1) := by decide +kernel
theorem dX6_conjunctionIn_48 : decode cX6_conjunctionIn 48 = .ok (.putfield 39, 3) := by decide +kernel
theorem dX6_conjunctionIn_51 : decode cX6_conjunctionIn 51 = .ok (.iload_n 3, 1) := by decide +kernel
theorem dX6_conjunctionIn_52 : decode cX6_conjunctionIn 52 = .ok (.ireturn, 1) := by decide +kernel
theorem dX6_conjunctionIn_53 : decode cX6_conjunctionIn 53 = .ok (.iinc 3 1, 3) := by decide +kernel
theorem dX6_conjunctionIn_56 : decode cX6_conjunctionIn 56 = .ok (.goto (-32), 3) := by decide +kernel
theorem dX6_conjunctionIn_59 : decode cX6_conjunctionIn 59 = .ok (.aload_n 0, 1) := by decide +kernel
theorem dX6_conjunctionIn_60 : decode cX6_conjunctionIn 60 = .ok (.iconst 2, 1) := by decide +kernel
theorem dX6_conjunctionIn_61 : decode cX6_conjunctionIn 61 = .ok (.invokevirtual 94, 3) := by decide +kernel
theorem dX6_conjunctionIn_64 : decode cX6_conjunctionIn 64 = .ok (.ireturn, 1) := by decide +kernel
set_option maxRecDepth 20000 in
theorem ggX6_conjunctionByMoves_X6_conjunctionIn : GoodIn wsX6_conjunctionByMoves wsX6_conjunctionIn := goodIn_ca (goodIn_ca (goodIn_r _ [5, 6, 7, 8, 9, 4, 10, 11, 12, 13, 14, 15, 16, 17, 18, 19, 20, 21, 22, 23, 24, 25, 26, 27, 28, 29, 30, 31, 32, 33, 34, 35, 36, 37, 38, 39, 40, 41, 42, 43, 44, 45, 46, 47] (by decide +kernel) (by decide +kernel)) (goodIn_sub (fun _ h => List.mem_cons_of_mem _ (List.mem_append_left _ (List.mem_append_right _ h))) (by decide +kernel))) (goodIn_sub (fun _ h => List.mem_cons_of_mem _ (List.mem_append_right _ h)) (by decide +kernel))
set_option maxRecDepth 20000 in
theorem gX6_conjunctionByMoves_X6_conjunctionIn : GoodIn wsX6_conjunctionByMoves (wsV RX6 172 RX6 yX6_conjunctionIn wsX6_conjunctionIn) := goodIn_app (goodIn_of _ (by decide +kernel)) ggX6_conjunctionByMoves_X6_conjunctionIn
theorem dX6_conjunctionByMoves_0 : decode cX6_conjunctionByMoves 0 = .ok (.aload_n 0, 1) := by decide +kernel
theorem dX6_conjunctionByMoves_1 : decode cX6_conjunctionByMoves 1 = .ok (.iload_n 1, 1) := by decide +kernel
theorem dX6_conjunctionByMoves_2 : decode cX6_conjunctionByMoves 2 = .ok (.iload_n 2, 1) := by decide +kernel
theorem dX6_conjunctionByMoves_3 : decode cX6_conjunctionByMoves 3 = .ok (.invokevirtual 172, 3) := by decide +kernel
theorem dX6_conjunctionByMoves_6 : decode cX6_conjunctionByMoves 6 = .ok (.ireturn, 1) := by decide +kernel
theorem dX6_says_0 : decode cX6_says 0 = .ok (.aload_n 0, 1) := by decide +kernel
theorem dX6_says_1 : decode cX6_says 1 = .ok (.getfield 22, 3) := by decide +kernel
theorem dX6_says_4 : decode cX6_says 4 = .ok (.aload_n 0, 1) := by decide +kernel
theorem dX6_says_5 : decode cX6_says 5 = .ok (.getfield 175, 3) := by decide +kernel
theorem dX6_says_8 : decode cX6_says 8 = .ok (.iload_n 1, 1) := by decide +kernel
theorem dX6_says_9 : decode cX6_says 9 = .ok (.castore, 1) := by decide +kernel
theorem dX6_says_10 : decode cX6_says 10 = .ok (.aload_n 0, 1) := by decide +kernel
theorem dX6_says_11 : decode cX6_says 11 = .ok (.dup, 1) := by decide +kernel
theorem dX6_says_12 : decode cX6_says 12 = .ok (.getfield 175, 3) := by decide +kernel
theorem dX6_says_15 : decode cX6_says 15 = .ok (.iconst 1, 1) := by decide +kernel
theorem dX6_says_16 : decode cX6_says 16 = .ok (.iadd, 1) := by decide +kernel
theorem dX6_says_17 : decode cX6_says 17 = .ok (.putfield 175, 3) := by decide +kernel
theorem dX6_says_20 : decode cX6_says 20 = .ok (.return_, 1) := by decide +kernel
set_option maxRecDepth 20000 in
theorem ggX6_saysNumber_X6_saysNumber : GoodIn wsX6_saysNumber wsX6_saysNumber := goodIn_ca (goodIn_r _ [0, 1, 2, 3, 4, 5, 6, 7, 8, 9, 10, 11, 12, 13, 14, 15, 16, 17, 18, 19, 20, 21, 22, 23, 24, 25, 26, 27] (by decide +kernel) (by decide +kernel)) (goodIn_sub (fun _ h => List.mem_cons_of_mem _ (List.mem_append_right _ h)) (by decide +kernel))
set_option maxRecDepth 20000 in
theorem gX6_saysNumber_X6_saysNumber : GoodIn wsX6_saysNumber (wsV RX6 178 RX6 yX6_saysNumber wsX6_saysNumber) := goodIn_app (goodIn_of _ (by decide +kernel)) ggX6_saysNumber_X6_saysNumber
set_option maxRecDepth 20000 in
theorem ggX6_saysNumber_X6_says : GoodIn wsX6_saysNumber wsX6_says := goodIn_ca (goodIn_r _ [8, 9, 10, 11, 12, 13, 14, 15, 16, 17, 18, 19, 20, 21, 22, 23, 24, 25, 26, 27] (by decide +kernel) (by decide +kernel)) (goodIn_sub (fun _ h => List.mem_cons_of_mem _ (List.mem_append_right _ h)) (by decide +kernel))
set_option maxRecDepth 20000 in
theorem gX6_saysNumber_X6_says : GoodIn wsX6_saysNumber (wsV RX6 182 RX6 yX6_says wsX6_says) := goodIn_app (goodIn_of _ (by decide +kernel)) ggX6_saysNumber_X6_says
theorem dX6_saysNumber_0 : decode cX6_saysNumber 0 = .ok (.iload_n 1, 1) := by decide +kernel
theorem dX6_saysNumber_1 : decode cX6_saysNumber 1 = .ok (.bipush 9, 2) := by decide +kernel
theorem dX6_saysNumber_3 : decode cX6_saysNumber 3 = .ok (.if_icmp .le 11, 3) := by decide +kernel
theorem dX6_saysNumber_6 : decode cX6_saysNumber 6 = .ok (.aload_n 0, 1) := by decide +kernel
theorem dX6_saysNumber_7 : decode cX6_saysNumber 7 = .ok (.iload_n 1, 1) := by decide +kernel
theorem dX6_saysNumber_8 : decode cX6_saysNumber 8 = .ok (.bipush 10, 2) := by decide +kernel
theorem dX6_saysNumber_10 : decode cX6_saysNumber 10 = .ok (.idiv, 1) := by decide +kernel
theorem dX6_saysNumber_11 : decode cX6_saysNumber 11 = .ok (.invokevirtual 178, 3) := by decide +kernel
theorem dX6_saysNumber_14 : decode cX6_saysNumber 14 = .ok (.aload_n 0, 1) := by decide +kernel
theorem dX6_saysNumber_15 : decode cX6_saysNumber 15 = .ok (.bipush 48, 2) := by decide +kernel
theorem dX6_saysNumber_17 : decode cX6_saysNumber 17 = .ok (.iload_n 1, 1) := by decide +kernel
theorem dX6_saysNumber_18 : decode cX6_saysNumber 18 = .ok (.bipush 10, 2) := by decide +kernel
theorem dX6_saysNumber_20 : decode cX6_saysNumber 20 = .ok (.irem, 1) := by decide +kernel
theorem dX6_saysNumber_21 : decode cX6_saysNumber 21 = .ok (.iadd, 1) := by decide +kernel
theorem dX6_saysNumber_22 : decode cX6_saysNumber 22 = .ok (.i2c, 1) := by decide +kernel
theorem dX6_saysNumber_23 : decode cX6_saysNumber 23 = .ok (.invokevirtual 182, 3) := by decide +kernel
theorem dX6_saysNumber_26 : decode cX6_saysNumber 26 = .ok (.return_, 1) := by decide +kernel
set_option maxRecDepth 20000 in
theorem ggX6_saysIf_X6_says : GoodIn wsX6_saysIf wsX6_says := goodIn_ca (goodIn_r _ [5, 6, 7, 8, 9, 10, 11, 12, 13, 14, 15, 16, 17, 18, 19, 20, 21, 22, 23, 24] (by decide +kernel) (by decide +kernel)) (goodIn_sub (fun _ h => List.mem_cons_of_mem _ (List.mem_append_right _ h)) (by decide +kernel))
set_option maxRecDepth 20000 in
theorem gX6_saysIf_X6_says : GoodIn wsX6_saysIf (wsV RX6 182 RX6 yX6_says wsX6_says) := goodIn_app (goodIn_of _ (by decide +kernel)) ggX6_saysIf_X6_says
theorem dX6_saysIf_0 : decode cX6_saysIf 0 = .ok (.iload_n 1, 1) := by decide +kernel
theorem dX6_saysIf_1 : decode cX6_saysIf 1 = .ok (.ifCond .eq 8, 3) := by decide +kernel
theorem dX6_saysIf_4 : decode cX6_saysIf 4 = .ok (.aload_n 0, 1) := by decide +kernel
theorem dX6_saysIf_5 : decode cX6_saysIf 5 = .ok (.iload_n 2, 1) := by decide +kernel
theorem dX6_saysIf_6 : decode cX6_saysIf 6 = .ok (.invokevirtual 182, 3) := by decide +kernel
theorem dX6_saysIf_9 : decode cX6_saysIf 9 = .ok (.return_, 1) := by decide +kernel
set_option maxRecDepth 20000 in
theorem ggX6_writeRim_X6_saysIf : GoodIn wsX6_writeRim wsX6_saysIf := goodIn_ca (goodIn_r _ [8, 9, 10, 11, 7, 12, 13, 2, 67, 68, 69, 70, 71, 72, 73, 74, 75, 76, 77, 78, 79, 80, 81, 82, 83] (by decide +kernel) (by decide +kernel)) (goodIn_sub (fun _ h => List.mem_cons_of_mem _ (List.mem_append_left _ (List.mem_append_right _ h))) (by decide +kernel))
set_option maxRecDepth 20000 in
theorem gX6_writeRim_X6_saysIf : GoodIn wsX6_writeRim (wsV RX6 186 RX6 yX6_saysIf wsX6_saysIf) := goodIn_app (goodIn_of _ (by decide +kernel)) ggX6_writeRim_X6_saysIf
set_option maxRecDepth 20000 in
theorem ggX6_writeRim_X6_level : GoodIn wsX6_writeRim wsX6_level := goodIn_ca (goodIn_ca (goodIn_r _ [17, 3, 18, 19, 20, 21, 22, 23, 24, 7, 25, 26, 27, 28, 29, 30, 31, 32, 33, 34, 35, 36, 37, 38, 39, 40, 41, 42, 43, 44, 45, 46, 47, 48, 49, 50, 51, 52, 53, 54, 67, 68, 69, 70, 71, 72, 73, 74, 75, 76, 77, 78, 79, 80, 81, 82, 83] (by decide +kernel) (by decide +kernel)) (goodIn_sub (fun _ h => List.mem_cons_of_mem _ (List.mem_append_left _ (List.mem_append_right _ h))) (by decide +kernel))) (goodIn_sub (fun _ h => List.mem_cons_of_mem _ (List.mem_append_right _ h)) (by decide +kernel))
set_option maxRecDepth 20000 in
theorem gX6_writeRim_X6_level : GoodIn wsX6_writeRim (wsV RX6 157 RX6 yX6_level wsX6_level) := goodIn_app (goodIn_of _ (by decide +kernel)) ggX6_writeRim_X6_level
set_option maxRecDepth 20000 in
theorem ggX6_writeRim_X6_saysNumber : GoodIn wsX6_writeRim wsX6_saysNumber := goodIn_ca (goodIn_r _ [58, 55, 56, 57, 7, 9, 10, 11, 12, 13, 2, 67, 68, 69, 70, 71, 72, 73, 74, 75, 76, 77, 78, 79, 80, 81, 82, 83] (by decide +kernel) (by decide +kernel)) (goodIn_sub (fun _ h => List.mem_cons_of_mem _ (List.mem_append_left _ (List.mem_append_right _ h))) (by decide +kernel))
set_option maxRecDepth 20000 in
theorem gX6_writeRim_X6_saysNumber : GoodIn wsX6_writeRim (wsV RX6 178 RX6 yX6_saysNumber wsX6_saysNumber) := goodIn_app (goodIn_of _ (by decide +kernel)) ggX6_writeRim_X6_saysNumber
set_option maxRecDepth 20000 in
theorem ggX6_writeRim_X6_isLaid : GoodIn wsX6_writeRim wsX6_isLaid := goodIn_ca (goodIn_r _ [62, 3, 63, 64, 65, 7, 66, 67, 68, 69, 70, 71, 72, 73, 74, 75, 76, 77, 78, 79, 80, 81, 82, 83] (by decide +kernel) (by decide +kernel)) (goodIn_sub (fun _ h => List.mem_cons_of_mem _ (List.mem_append_left _ (List.mem_append_right _ h))) (by decide +kernel))
set_option maxRecDepth 20000 in
theorem gX6_writeRim_X6_isLaid : GoodIn wsX6_writeRim (wsV RX6 136 RX6 yX6_isLaid wsX6_isLaid) := goodIn_app (goodIn_of _ (by decide +kernel)) ggX6_writeRim_X6_isLaid
theorem dX6_writeRim_0 : decode cX6_writeRim 0 = .ok (.aload_n 0, 1) := by decide +kernel
theorem dX6_writeRim_1 : decode cX6_writeRim 1 = .ok (.iconst 0, 1) := by decide +kernel
theorem dX6_writeRim_2 : decode cX6_writeRim 2 = .ok (.putfield 39, 3) := by decide +kernel
theorem dX6_writeRim_5 : decode cX6_writeRim 5 = .ok (.aload_n 0, 1) := by decide +kernel
theorem dX6_writeRim_6 : decode cX6_writeRim 6 = .ok (.iconst 0, 1) := by decide +kernel
theorem dX6_writeRim_7 : decode cX6_writeRim 7 = .ok (.putfield 175, 3) := by decide +kernel
theorem dX6_writeRim_10 : decode cX6_writeRim 10 = .ok (.iconst 0, 1) := by decide +kernel
theorem dX6_writeRim_11 : decode cX6_writeRim 11 = .ok (.istore_n 1, 1) := by decide +kernel
theorem dX6_writeRim_12 : decode cX6_writeRim 12 = .ok (.iload_n 1, 1) := by decide +kernel
theorem dX6_writeRim_13 : decode cX6_writeRim 13 = .ok (.bipush 12, 2) := by decide +kernel
theorem dX6_writeRim_15 : decode cX6_writeRim 15 = .ok (.if_icmp .ge 90, 3) := by decide +kernel
theorem dX6_writeRim_18 : decode cX6_writeRim 18 = .ok (.aload_n 0, 1) := by decide +kernel
theorem dX6_writeRim_19 : decode cX6_writeRim 19 = .ok (.iload_n 1, 1) := by decide +kernel
theorem dX6_writeRim_20 : decode cX6_writeRim 20 = .ok (.ifCond .le 7, 3) := by decide +kernel
theorem dX6_writeRim_23 : decode cX6_writeRim 23 = .ok (.iconst 1, 1) := by decide +kernel
theorem dX6_writeRim_24 : decode cX6_writeRim 24 = .ok (.goto 4, 3) := by decide +kernel
theorem dX6_writeRim_27 : decode cX6_writeRim 27 = .ok (.iconst 0, 1) := by decide +kernel
theorem dX6_writeRim_28 : decode cX6_writeRim 28 = .ok (.bipush 32, 2) := by decide +kernel
theorem dX6_writeRim_30 : decode cX6_writeRim 30 = .ok (.invokevirtual 186, 3) := by decide +kernel
theorem dX6_writeRim_33 : decode cX6_writeRim 33 = .ok (.aload_n 0, 1) := by decide +kernel
theorem dX6_writeRim_34 : decode cX6_writeRim 34 = .ok (.aload_n 0, 1) := by decide +kernel
theorem dX6_writeRim_35 : decode cX6_writeRim 35 = .ok (.iload_n 1, 1) := by decide +kernel
theorem dX6_writeRim_36 : decode cX6_writeRim 36 = .ok (.invokevirtual 157, 3) := by decide +kernel
theorem dX6_writeRim_39 : decode cX6_writeRim 39 = .ok (.invokevirtual 178, 3) := by decide +kernel
theorem dX6_writeRim_42 : decode cX6_writeRim 42 = .ok (.aload_n 0, 1) := by decide +kernel
theorem dX6_writeRim_43 : decode cX6_writeRim 43 = .ok (.aload_n 0, 1) := by decide +kernel
theorem dX6_writeRim_44 : decode cX6_writeRim 44 = .ok (.getfield 9, 3) := by decide +kernel
theorem dX6_writeRim_47 : decode cX6_writeRim 47 = .ok (.bipush 7, 2) := by decide +kernel
theorem dX6_writeRim_49 : decode cX6_writeRim 49 = .ok (.iload_n 1, 1) := by decide +kernel
theorem dX6_writeRim_50 : decode cX6_writeRim 50 = .ok (.iadd, 1) := by decide +kernel
theorem dX6_writeRim_51 : decode cX6_writeRim 51 = .ok (.iaload, 1) := by decide +kernel
theorem dX6_writeRim_52 : decode cX6_writeRim 52 = .ok (.iconst 1, 1) := by decide +kernel
theorem dX6_writeRim_53 : decode cX6_writeRim 53 = .ok (.if_icmp .ne 7, 3) := by decide +kernel
theorem dX6_writeRim_56 : decode cX6_writeRim 56 = .ok (.iconst 1, 1) := by decide +kernel
theorem dX6_writeRim_57 : decode cX6_writeRim 57 = .ok (.goto 4, 3) := by decide +kernel
theorem dX6_writeRim_60 : decode cX6_writeRim 60 = .ok (.iconst 0, 1) := by decide +kernel
theorem dX6_writeRim_61 : decode cX6_writeRim 61 = .ok (.bipush 116, 2) := by decide +kernel
theorem dX6_writeRim_63 : decode cX6_writeRim 63 = .ok (.invokevirtual 186, 3) := by decide +kernel
theorem dX6_writeRim_66 : decode cX6_writeRim 66 = .ok (.aload_n 0, 1) := by decide +kernel
theorem dX6_writeRim_67 : decode cX6_writeRim 67 = .ok (.aload_n 0, 1) := by decide +kernel
theorem dX6_writeRim_68 : decode cX6_writeRim 68 = .ok (.getfield 9, 3) := by decide +kernel
theorem dX6_writeRim_71 : decode cX6_writeRim 71 = .ok (.bipush 6, 2) := by decide +kernel
theorem dX6_writeRim_73 : decode cX6_writeRim 73 = .ok (.iaload, 1) := by decide +kernel
theorem dX6_writeRim_74 : decode cX6_writeRim 74 = .ok (.iload_n 1, 1) := by decide +kernel
theorem dX6_writeRim_75 : decode cX6_writeRim 75 = .ok (.if_icmp .ne 7, 3) := by decide +kernel
theorem dX6_writeRim_78 : decode cX6_writeRim 78 = .ok (.iconst 1, 1) := by decide +kernel
theorem dX6_writeRim_79 : decode cX6_writeRim 79 = .ok (.goto 4, 3) := by decide +kernel
theorem dX6_writeRim_82 : decode cX6_writeRim 82 = .ok (.iconst 0, 1) := by decide +kernel
theorem dX6_writeRim_83 : decode cX6_writeRim 83 = .ok (.bipush 112, 2) := by decide +kernel
theorem dX6_writeRim_85 : decode cX6_writeRim 85 = .ok (.invokevirtual 186, 3) := by decide +kernel
theorem dX6_writeRim_88 : decode cX6_writeRim 88 = .ok (.aload_n 0, 1) := by decide +kernel
theorem dX6_writeRim_89 : decode cX6_writeRim 89 = .ok (.aload_n 0, 1) := by decide +kernel
theorem dX6_writeRim_90 : decode cX6_writeRim 90 = .ok (.iload_n 1, 1) := by decide +kernel
theorem dX6_writeRim_91 : decode cX6_writeRim 91 = .ok (.invokevirtual 136, 3) := by decide +kernel
theorem dX6_writeRim_94 : decode cX6_writeRim 94 = .ok (.bipush 119, 2) := by decide +kernel
theorem dX6_writeRim_96 : decode cX6_writeRim 96 = .ok (.invokevirtual 186, 3) := by decide +kernel
theorem dX6_writeRim_99 : decode cX6_writeRim 99 = .ok (.iinc 1 1, 3) := by decide +kernel
theorem dX6_writeRim_102 : decode cX6_writeRim 102 = .ok (.goto (-90), 3) := by decide +kernel
theorem dX6_writeRim_105 : decode cX6_writeRim 105 = .ok (.aload_n 0, 1) := by decide +kernel
theorem dX6_writeRim_106 : decode cX6_writeRim 106 = .ok (.getfield 175, 3) := by decide +kernel
theorem dX6_writeRim_109 : decode cX6_writeRim 109 = .ok (.ireturn, 1) := by decide +kernel
set_option maxRecDepth 20000 in
theorem ggX6_writeMoon_X6_isMoon : GoodIn wsX6_writeMoon wsX6_isMoon := goodIn_ca (goodIn_r _ [6, 7, 8, 9, 5, 10, 53, 54, 55, 56, 57, 58, 59, 60, 61, 62, 63, 64, 65, 66, 67, 68, 69] (by decide +kernel) (by decide +kernel)) (goodIn_sub (fun _ h => List.mem_cons_of_mem _ (List.mem_append_left _ (List.mem_append_right _ h))) (by decide +kernel))
set_option maxRecDepth 20000 in
theorem gX6_writeMoon_X6_isMoon : GoodIn wsX6_writeMoon (wsV RX6 107 RX6 yX6_isMoon wsX6_isMoon) := goodIn_app (goodIn_of _ (by decide +kernel)) ggX6_writeMoon_X6_isMoon
set_option maxRecDepth 20000 in
theorem ggX6_writeMoon_X6_isThere : GoodIn wsX6_writeMoon wsX6_isThere := goodIn_r _ [14, 15, 53, 54, 55, 56, 57, 58, 59, 60, 61, 62, 63, 64, 65, 66, 67, 68, 69] (by decide +kernel) (by decide +kernel)
set_option maxRecDepth 20000 in
theorem gX6_writeMoon_X6_isThere : GoodIn wsX6_writeMoon (wsV RX6 113 RX6 yX6_isThere wsX6_isThere) := goodIn_app (goodIn_of _ (by decide +kernel)) ggX6_writeMoon_X6_isThere
set_option maxRecDepth 20000 in
theorem ggX6_writeMoon_X6_ofMoon : GoodIn wsX6_writeMoon wsX6_ofMoon := goodIn_ca (goodIn_r _ [19, 7, 53, 54, 55, 56, 57, 58, 59, 60, 61, 62, 63, 64, 65, 66, 67, 68, 69] (by decide +kernel) (by decide +kernel)) (goodIn_sub (fun _ h => List.mem_cons_of_mem _ (List.mem_append_left _ (List.mem_append_right _ h))) (by decide +kernel))
set_option maxRecDepth 20000 in
theorem gX6_writeMoon_X6_ofMoon : GoodIn wsX6_writeMoon (wsV RX6 55 RX6 yX6_ofMoon wsX6_ofMoon) := goodIn_app (goodIn_of _ (by decide +kernel)) ggX6_writeMoon_X6_ofMoon
set_option maxRecDepth 20000 in
theorem ggX6_writeMoon_X6_says : GoodIn wsX6_writeMoon wsX6_says := goodIn_ca (goodIn_r _ [23, 24, 1, 53, 54, 55, 56, 57, 58, 59, 60, 61, 62, 63, 64, 65, 66, 67, 68, 69] (by decide +kernel) (by decide +kernel)) (goodIn_sub (fun _ h => List.mem_cons_of_mem _ (List.mem_append_left _ (List.mem_append_right _ h))) (by decide +kernel))
set_option maxRecDepth 20000 in
theorem gX6_writeMoon_X6_says : GoodIn wsX6_writeMoon (wsV RX6 182 RX6 yX6_says wsX6_says) := goodIn_app (goodIn_of _ (by decide +kernel)) ggX6_writeMoon_X6_says
set_option maxRecDepth 20000 in
theorem ggX6_writeMoon_X6_massIn : GoodIn wsX6_writeMoon wsX6_massIn := goodIn_ca (goodIn_r _ [28, 29, 30, 31, 32, 16, 17, 18, 5, 19, 7, 33, 34, 35, 36, 53, 54, 55, 56, 57, 58, 59, 60, 61, 62, 63, 64, 65, 66, 67, 68, 69] (by decide +kernel) (by decide +kernel)) (goodIn_sub (fun _ h => List.mem_cons_of_mem _ (List.mem_append_left _ (List.mem_append_right _ h))) (by decide +kernel))
set_option maxRecDepth 20000 in
theorem gX6_writeMoon_X6_massIn : GoodIn wsX6_writeMoon (wsV RX6 77 RX6 yX6_massIn wsX6_massIn) := goodIn_app (goodIn_of _ (by decide +kernel)) ggX6_writeMoon_X6_massIn
set_option maxRecDepth 20000 in
theorem ggX6_writeMoon_X6_saysNumber : GoodIn wsX6_writeMoon wsX6_saysNumber := goodIn_ca (goodIn_r _ [40, 37, 38, 39, 5, 20, 21, 22, 23, 24, 1, 53, 54, 55, 56, 57, 58, 59, 60, 61, 62, 63, 64, 65, 66, 67, 68, 69] (by decide +kernel) (by decide +kernel)) (goodIn_sub (fun _ h => List.mem_cons_of_mem _ (List.mem_append_left _ (List.mem_append_right _ h))) (by decide +kernel))
set_option maxRecDepth 20000 in
theorem gX6_writeMoon_X6_saysNumber : GoodIn wsX6_writeMoon (wsV RX6 178 RX6 yX6_saysNumber wsX6_saysNumber) := goodIn_app (goodIn_of _ (by decide +kernel)) ggX6_writeMoon_X6_saysNumber
set_option maxRecDepth 20000 in
theorem ggX6_writeMoon_X6_placeIn : GoodIn wsX6_writeMoon wsX6_placeIn := goodIn_ca (goodIn_ca (goodIn_r _ [44, 16, 17, 18, 5, 19, 7, 33, 34, 35, 36, 53, 54, 55, 56, 57, 58, 59, 60, 61, 62, 63, 64, 65, 66, 67, 68, 69] (by decide +kernel) (by decide +kernel)) (goodIn_sub (fun _ h => List.mem_cons_of_mem _ (List.mem_append_right _ h)) (by decide +kernel))) (goodIn_sub (fun _ h => List.mem_cons_of_mem _ (List.mem_append_left _ (List.mem_append_right _ h))) (by decide +kernel))
set_option maxRecDepth 20000 in
theorem gX6_writeMoon_X6_placeIn : GoodIn wsX6_writeMoon (wsV RX6 67 RX6 yX6_placeIn wsX6_placeIn) := goodIn_app (goodIn_of _ (by decide +kernel)) ggX6_writeMoon_X6_placeIn
set_option maxRecDepth 20000 in
theorem ggX6_writeMoon_X6_isShaded : GoodIn wsX6_writeMoon wsX6_isShaded := goodIn_ca (goodIn_ca (goodIn_r _ [48, 7, 41, 42, 43, 5, 44, 16, 17, 18, 19, 33, 34, 35, 36, 53, 54, 55, 56, 57, 58, 59, 60, 61, 62, 63, 64, 65, 66, 67, 68, 69] (by decide +kernel) (by decide +kernel)) (goodIn_sub (fun _ h => List.mem_cons_of_mem _ (List.mem_append_left _ (List.mem_append_right _ h))) (by decide +kernel))) (goodIn_sub (fun _ h => List.mem_cons_of_mem _ (List.mem_append_right _ h)) (by decide +kernel))
set_option maxRecDepth 20000 in
theorem gX6_writeMoon_X6_isShaded : GoodIn wsX6_writeMoon (wsV RX6 83 RX6 yX6_isShaded wsX6_isShaded) := goodIn_app (goodIn_of _ (by decide +kernel)) ggX6_writeMoon_X6_isShaded
set_option maxRecDepth 20000 in
theorem ggX6_writeMoon_X6_saysIf : GoodIn wsX6_writeMoon wsX6_saysIf := goodIn_ca (goodIn_r _ [52, 20, 21, 22, 5, 23, 24, 1, 53, 54, 55, 56, 57, 58, 59, 60, 61, 62, 63, 64, 65, 66, 67, 68, 69] (by decide +kernel) (by decide +kernel)) (goodIn_sub (fun _ h => List.mem_cons_of_mem _ (List.mem_append_left _ (List.mem_append_right _ h))) (by decide +kernel))
set_option maxRecDepth 20000 in
theorem gX6_writeMoon_X6_saysIf : GoodIn wsX6_writeMoon (wsV RX6 186 RX6 yX6_saysIf wsX6_saysIf) := goodIn_app (goodIn_of _ (by decide +kernel)) ggX6_writeMoon_X6_saysIf
theorem dX6_writeMoon_0 : decode cX6_writeMoon 0 = .ok (.aload_n 0, 1) := by decide +kernel
theorem dX6_writeMoon_1 : decode cX6_writeMoon 1 = .ok (.aload_n 0, 1) := by decide +kernel
theorem dX6_writeMoon_2 : decode cX6_writeMoon 2 = .ok (.iload_n 1, 1) := by decide +kernel
theorem dX6_writeMoon_3 : decode cX6_writeMoon 3 = .ok (.invokevirtual 107, 3) := by decide +kernel
theorem dX6_writeMoon_6 : decode cX6_writeMoon 6 = .ok (.invokevirtual 113, 3) := by decide +kernel
theorem dX6_writeMoon_9 : decode cX6_writeMoon 9 = .ok (.ifCond .ne 5, 3) := by decide +kernel
theorem dX6_writeMoon_12 : decode cX6_writeMoon 12 = .ok (.iconst 0, 1) := by decide +kernel
theorem dX6_writeMoon_13 : decode cX6_writeMoon 13 = .ok (.ireturn, 1) := by decide +kernel
theorem dX6_writeMoon_14 : decode cX6_writeMoon 14 = .ok (.aload_n 0, 1) := by decide +kernel
theorem dX6_writeMoon_15 : decode cX6_writeMoon 15 = .ok (.iconst 0, 1) := by decide +kernel
theorem dX6_writeMoon_16 : decode cX6_writeMoon 16 = .ok (.putfield 175, 3) := by decide +kernel
theorem dX6_writeMoon_19 : decode cX6_writeMoon 19 = .ok (.aload_n 0, 1) := by decide +kernel
theorem dX6_writeMoon_20 : decode cX6_writeMoon 20 = .ok (.aload_n 0, 1) := by decide +kernel
theorem dX6_writeMoon_21 : decode cX6_writeMoon 21 = .ok (.iload_n 1, 1) := by decide +kernel
theorem dX6_writeMoon_22 : decode cX6_writeMoon 22 = .ok (.iconst 0, 1) := by decide +kernel
theorem dX6_writeMoon_23 : decode cX6_writeMoon 23 = .ok (.invokevirtual 55, 3) := by decide +kernel
theorem dX6_writeMoon_26 : decode cX6_writeMoon 26 = .ok (.ifCond .ne 8, 3) := by decide +kernel
theorem dX6_writeMoon_29 : decode cX6_writeMoon 29 = .ok (.bipush 104, 2) := by decide +kernel
theorem dX6_writeMoon_31 : decode cX6_writeMoon 31 = .ok (.goto 20, 3) := by decide +kernel
theorem dX6_writeMoon_34 : decode cX6_writeMoon 34 = .ok (.aload_n 0, 1) := by decide +kernel
theorem dX6_writeMoon_35 : decode cX6_writeMoon 35 = .ok (.iload_n 1, 1) := by decide +kernel
theorem dX6_writeMoon_36 : decode cX6_writeMoon 36 = .ok (.iconst 0, 1) := by decide +kernel
theorem dX6_writeMoon_37 : decode cX6_writeMoon 37 = .ok (.invokevirtual 55, 3) := by decide +kernel
theorem dX6_writeMoon_40 : decode cX6_writeMoon 40 = .ok (.iconst 1, 1) := by decide +kernel
theorem dX6_writeMoon_41 : decode cX6_writeMoon 41 = .ok (.if_icmp .ne 8, 3) := by decide +kernel
theorem dX6_writeMoon_44 : decode cX6_writeMoon 44 = .ok (.bipush 115, 2) := by decide +kernel
theorem dX6_writeMoon_46 : decode cX6_writeMoon 46 = .ok (.goto 5, 3) := by decide +kernel
theorem dX6_writeMoon_49 : decode cX6_writeMoon 49 = .ok (.bipush 98, 2) := by decide +kernel
theorem dX6_writeMoon_51 : decode cX6_writeMoon 51 = .ok (.invokevirtual 182, 3) := by decide +kernel
theorem dX6_writeMoon_54 : decode cX6_writeMoon 54 = .ok (.aload_n 0, 1) := by decide +kernel
theorem dX6_writeMoon_55 : decode cX6_writeMoon 55 = .ok (.aload_n 0, 1) := by decide +kernel
theorem dX6_writeMoon_56 : decode cX6_writeMoon 56 = .ok (.iload_n 1, 1) := by decide +kernel
theorem dX6_writeMoon_57 : decode cX6_writeMoon 57 = .ok (.iconst 0, 1) := by decide +kernel
theorem dX6_writeMoon_58 : decode cX6_writeMoon 58 = .ok (.invokevirtual 77, 3) := by decide +kernel
theorem dX6_writeMoon_61 : decode cX6_writeMoon 61 = .ok (.invokevirtual 178, 3) := by decide +kernel
theorem dX6_writeMoon_64 : decode cX6_writeMoon 64 = .ok (.aload_n 0, 1) := by decide +kernel
theorem dX6_writeMoon_65 : decode cX6_writeMoon 65 = .ok (.bipush 64, 2) := by decide +kernel
theorem dX6_writeMoon_67 : decode cX6_writeMoon 67 = .ok (.invokevirtual 182, 3) := by decide +kernel
theorem dX6_writeMoon_70 : decode cX6_writeMoon 70 = .ok (.aload_n 0, 1) := by decide +kernel
theorem dX6_writeMoon_71 : decode cX6_writeMoon 71 = .ok (.aload_n 0, 1) := by decide +kernel
theorem dX6_writeMoon_72 : decode cX6_writeMoon 72 = .ok (.iload_n 1, 1) := by decide +kernel
theorem dX6_writeMoon_73 : decode cX6_writeMoon 73 = .ok (.iconst 0, 1) := by decide +kernel
theorem dX6_writeMoon_74 : decode cX6_writeMoon 74 = .ok (.invokevirtual 67, 3) := by decide +kernel
theorem dX6_writeMoon_77 : decode cX6_writeMoon 77 = .ok (.invokevirtual 178, 3) := by decide +kernel
theorem dX6_writeMoon_80 : decode cX6_writeMoon 80 = .ok (.aload_n 0, 1) := by decide +kernel
theorem dX6_writeMoon_81 : decode cX6_writeMoon 81 = .ok (.aload_n 0, 1) := by decide +kernel
theorem dX6_writeMoon_82 : decode cX6_writeMoon 82 = .ok (.iload_n 1, 1) := by decide +kernel
theorem dX6_writeMoon_83 : decode cX6_writeMoon 83 = .ok (.iconst 0, 1) := by decide +kernel
theorem dX6_writeMoon_84 : decode cX6_writeMoon 84 = .ok (.invokevirtual 83, 3) := by decide +kernel
theorem dX6_writeMoon_87 : decode cX6_writeMoon 87 = .ok (.bipush 33, 2) := by decide +kernel
theorem dX6_writeMoon_89 : decode cX6_writeMoon 89 = .ok (.invokevirtual 186, 3) := by decide +kernel
theorem dX6_writeMoon_92 : decode cX6_writeMoon 92 = .ok (.aload_n 0, 1) := by decide +kernel
theorem dX6_writeMoon_93 : decode cX6_writeMoon 93 = .ok (.getfield 175, 3) := by decide +kernel
theorem dX6_writeMoon_96 : decode cX6_writeMoon 96 = .ok (.ireturn, 1) := by decide +kernel
set_option maxRecDepth 20000 in
theorem ggX6_lineAt_X6_in : GoodIn wsX6_lineAt wsX6_in := goodIn_r _ [6] (by decide +kernel) (by decide +kernel)
set_option maxRecDepth 20000 in
theorem gX6_lineAt_X6_in : GoodIn wsX6_lineAt (va_wsS RX6 51 yX6_in wsX6_in) := goodIn_app (goodIn_of _ (by decide +kernel)) ggX6_lineAt_X6_in
set_option maxRecDepth 20000 in
theorem ggX6_lineAt_X6_isThere : GoodIn wsX6_lineAt wsX6_isThere := goodIn_r _ [10, 11, 12, 13, 14, 15, 16, 17, 18, 19, 20, 21, 22, 23, 24, 25, 26, 27, 28] (by decide +kernel) (by decide +kernel)
set_option maxRecDepth 20000 in
theorem gX6_lineAt_X6_isThere : GoodIn wsX6_lineAt (wsV RX6 113 RX6 yX6_isThere wsX6_isThere) := goodIn_app (goodIn_of _ (by decide +kernel)) ggX6_lineAt_X6_isThere
theorem dX6_lineAt_0 : decode cX6_lineAt 0 = .ok (.aload_n 0, 1) := by decide +kernel
theorem dX6_lineAt_1 : decode cX6_lineAt 1 = .ok (.iload_n 1, 1) := by decide +kernel
theorem dX6_lineAt_2 : decode cX6_lineAt 2 = .ok (.iconst 0, 1) := by decide +kernel
theorem dX6_lineAt_3 : decode cX6_lineAt 3 = .ok (.aload_n 0, 1) := by decide +kernel
theorem dX6_lineAt_4 : decode cX6_lineAt 4 = .ok (.getfield 175, 3) := by decide +kernel
theorem dX6_lineAt_7 : decode cX6_lineAt 7 = .ok (.iconst 1, 1) := by decide +kernel
theorem dX6_lineAt_8 : decode cX6_lineAt 8 = .ok (.isub, 1) := by decide +kernel
theorem dX6_lineAt_9 : decode cX6_lineAt 9 = .ok (.invokestatic 51, 3) := by decide +kernel
theorem dX6_lineAt_12 : decode cX6_lineAt 12 = .ok (.invokevirtual 113, 3) := by decide +kernel
theorem dX6_lineAt_15 : decode cX6_lineAt 15 = .ok (.ifCond .eq 12, 3) := by decide +kernel
theorem dX6_lineAt_18 : decode cX6_lineAt 18 = .ok (.aload_n 0, 1) := by decide +kernel
theorem dX6_lineAt_19 : decode cX6_lineAt 19 = .ok (.getfield 22, 3) := by decide +kernel
theorem dX6_lineAt_22 : decode cX6_lineAt 22 = .ok (.iload_n 1, 1) := by decide +kernel
theorem dX6_lineAt_23 : decode cX6_lineAt 23 = .ok (.caload, 1) := by decide +kernel
theorem dX6_lineAt_24 : decode cX6_lineAt 24 = .ok (.goto 5, 3) := by decide +kernel
theorem dX6_lineAt_27 : decode cX6_lineAt 27 = .ok (.bipush 32, 2) := by decide +kernel
theorem dX6_lineAt_29 : decode cX6_lineAt 29 = .ok (.ireturn, 1) := by decide +kernel
set_option maxRecDepth 20000 in
theorem ggX6_meanLevel_X6_level : GoodIn wsX6_meanLevel wsX6_level := goodIn_ca (goodIn_ca (goodIn_r _ [7, 8, 9, 10, 11, 12, 13, 14, 15, 6, 16, 17, 18, 19, 20, 21, 22, 23, 24, 25, 26, 27, 28, 29, 30, 31, 32, 33, 34, 35, 36, 37, 38, 39, 40, 41, 42, 43, 44, 45, 46, 47, 48, 49, 50, 51, 52, 53, 54, 55, 56, 57, 58, 59, 60, 61, 62] (by decide +kernel) (by decide +kernel)) (goodIn_sub (fun _ h => List.mem_cons_of_mem _ (List.mem_append_left _ (List.mem_append_right _ h))) (by decide +kernel))) (goodIn_sub (fun _ h => List.mem_cons_of_mem _ (List.mem_append_right _ h)) (by decide +kernel))
set_option maxRecDepth 20000 in
theorem gX6_meanLevel_X6_level : GoodIn wsX6_meanLevel (wsV RX6 157 RX6 yX6_level wsX6_level) := goodIn_app (goodIn_of _ (by decide +kernel)) ggX6_meanLevel_X6_level
theorem dX6_meanLevel_0 : decode cX6_meanLevel 0 = .ok (.aload_n 0, 1) := by decide +kernel
theorem dX6_meanLevel_1 : decode cX6_meanLevel 1 = .ok (.iconst 0, 1) := by decide +kernel
theorem dX6_meanLevel_2 : decode cX6_meanLevel 2 = .ok (.putfield 39, 3) := by decide +kernel
theorem dX6_meanLevel_5 : decode cX6_meanLevel 5 = .ok (.iconst 0, 1) := by decide +kernel
theorem dX6_meanLevel_6 : decode cX6_meanLevel 6 = .ok (.istore_n 1, 1) := by decide +kernel
theorem dX6_meanLevel_7 : decode cX6_meanLevel 7 = .ok (.iconst 0, 1) := by decide +kernel
theorem dX6_meanLevel_8 : decode cX6_meanLevel 8 = .ok (.istore_n 2, 1) := by decide +kernel
theorem dX6_meanLevel_9 : decode cX6_meanLevel 9 = .ok (.iload_n 2, 1) := by decide +kernel
theorem dX6_meanLevel_10 : decode cX6_meanLevel 10 = .ok (.bipush 12, 2) := by decide +kernel
theorem dX6_meanLevel_12 : decode cX6_meanLevel 12 = .ok (.if_icmp .ge 17, 3) := by decide +kernel
theorem dX6_meanLevel_15 : decode cX6_meanLevel 15 = .ok (.iload_n 1, 1) := by decide +kernel
theorem dX6_meanLevel_16 : decode cX6_meanLevel 16 = .ok (.aload_n 0, 1) := by decide +kernel
theorem dX6_meanLevel_17 : decode cX6_meanLevel 17 = .ok (.iload_n 2, 1) := by decide +kernel
theorem dX6_meanLevel_18 : decode cX6_meanLevel 18 = .ok (.invokevirtual 157, 3) := by decide +kernel
theorem dX6_meanLevel_21 : decode cX6_meanLevel 21 = .ok (.iadd, 1) := by decide +kernel
theorem dX6_meanLevel_22 : decode cX6_meanLevel 22 = .ok (.istore_n 1, 1) := by decide +kernel
theorem dX6_meanLevel_23 : decode cX6_meanLevel 23 = .ok (.iinc 2 1, 3) := by decide +kernel
theorem dX6_meanLevel_26 : decode cX6_meanLevel 26 = .ok (.goto (-17), 3) := by decide +kernel
theorem dX6_meanLevel_29 : decode cX6_meanLevel 29 = .ok (.iload_n 1, 1) := by decide +kernel
theorem dX6_meanLevel_30 : decode cX6_meanLevel 30 = .ok (.i2d, 1) := by decide +kernel
theorem dX6_meanLevel_31 : decode cX6_meanLevel 31 = .ok (.ldc2_w 190, 3) := by decide +kernel
theorem dX6_meanLevel_34 : decode cX6_meanLevel 34 = .ok (.ddiv, 1) := by decide +kernel
theorem dX6_meanLevel_35 : decode cX6_meanLevel 35 = .ok (.dreturn, 1) := by decide +kernel
set_option maxRecDepth 20000 in
theorem ggX6_eclipsedShare_X6_isShaded : GoodIn wsX6_eclipsedShare wsX6_isShaded := goodIn_ca (goodIn_ca (goodIn_r _ [7, 1, 8, 9, 10, 6, 11, 12, 13, 14, 15, 16, 17, 18, 19, 20, 21, 22, 23, 24, 25, 26, 27, 28, 29, 30, 31, 32, 33, 34, 35, 36] (by decide +kernel) (by decide +kernel)) (goodIn_sub (fun _ h => List.mem_cons_of_mem _ (List.mem_append_left _ (List.mem_append_right _ h))) (by decide +kernel))) (goodIn_sub (fun _ h => List.mem_cons_of_mem _ (List.mem_append_right _ h)) (by decide +kernel))
set_option maxRecDepth 20000 in
theorem gX6_eclipsedShare_X6_isShaded : GoodIn wsX6_eclipsedShare (wsV RX6 83 RX6 yX6_isShaded wsX6_isShaded) := goodIn_app (goodIn_of _ (by decide +kernel)) ggX6_eclipsedShare_X6_isShaded
theorem dX6_eclipsedShare_0 : decode cX6_eclipsedShare 0 = .ok (.aload_n 0, 1) := by decide +kernel
theorem dX6_eclipsedShare_1 : decode cX6_eclipsedShare 1 = .ok (.getfield 9, 3) := by decide +kernel
theorem dX6_eclipsedShare_4 : decode cX6_eclipsedShare 4 = .ok (.iconst 0, 1) := by decide +kernel
theorem dX6_eclipsedShare_5 : decode cX6_eclipsedShare 5 = .ok (.iaload, 1) := by decide +kernel
theorem dX6_eclipsedShare_6 : decode cX6_eclipsedShare 6 = .ok (.istore_n 1, 1) := by decide +kernel
theorem dX6_eclipsedShare_7 : decode cX6_eclipsedShare 7 = .ok (.aload_n 0, 1) := by decide +kernel
theorem dX6_eclipsedShare_8 : decode cX6_eclipsedShare 8 = .ok (.iload_n 1, 1) := by decide +kernel
theorem dX6_eclipsedShare_9 : decode cX6_eclipsedShare 9 = .ok (.ifCond .ne 7, 3) := by decide +kernel
theorem dX6_eclipsedShare_12 : decode cX6_eclipsedShare 12 = .ok (.iconst 1, 1) := by decide +kernel
theorem dX6_eclipsedShare_13 : decode cX6_eclipsedShare 13 = .ok (.goto 4, 3) := by decide +kernel
theorem dX6_eclipsedShare_16 : decode cX6_eclipsedShare 16 = .ok (.iconst 0, 1) := by decide +kernel
theorem dX6_eclipsedShare_17 : decode cX6_eclipsedShare 17 = .ok (.putfield 39, 3) := by decide +kernel
theorem dX6_eclipsedShare_20 : decode cX6_eclipsedShare 20 = .ok (.iconst 0, 1) := by decide +kernel
theorem dX6_eclipsedShare_21 : decode cX6_eclipsedShare 21 = .ok (.istore_n 2, 1) := by decide +kernel
theorem dX6_eclipsedShare_22 : decode cX6_eclipsedShare 22 = .ok (.iconst 0, 1) := by decide +kernel
theorem dX6_eclipsedShare_23 : decode cX6_eclipsedShare 23 = .ok (.istore_n 3, 1) := by decide +kernel
theorem dX6_eclipsedShare_24 : decode cX6_eclipsedShare 24 = .ok (.iload_n 3, 1) := by decide +kernel
theorem dX6_eclipsedShare_25 : decode cX6_eclipsedShare 25 = .ok (.iload_n 1, 1) := by decide +kernel
theorem dX6_eclipsedShare_26 : decode cX6_eclipsedShare 26 = .ok (.if_icmp .ge 26, 3) := by decide +kernel
theorem dX6_eclipsedShare_29 : decode cX6_eclipsedShare 29 = .ok (.iload_n 2, 1) := by decide +kernel
theorem dX6_eclipsedShare_30 : decode cX6_eclipsedShare 30 = .ok (.aload_n 0, 1) := by decide +kernel
theorem dX6_eclipsedShare_31 : decode cX6_eclipsedShare 31 = .ok (.iload_n 3, 1) := by decide +kernel
theorem dX6_eclipsedShare_32 : decode cX6_eclipsedShare 32 = .ok (.iconst 0, 1) := by decide +kernel
theorem dX6_eclipsedShare_33 : decode cX6_eclipsedShare 33 = .ok (.invokevirtual 83, 3) := by decide +kernel
theorem dX6_eclipsedShare_36 : decode cX6_eclipsedShare 36 = .ok (.ifCond .eq 7, 3) := by decide +kernel
theorem dX6_eclipsedShare_39 : decode cX6_eclipsedShare 39 = .ok (.iconst 1, 1) := by decide +kernel
theorem dX6_eclipsedShare_40 : decode cX6_eclipsedShare 40 = .ok (.goto 4, 3) := by decide +kernel
theorem dX6_eclipsedShare_43 : decode cX6_eclipsedShare 43 = .ok (.iconst 0, 1) := by decide +kernel
theorem dX6_eclipsedShare_44 : decode cX6_eclipsedShare 44 = .ok (.iadd, 1) := by decide +kernel
theorem dX6_eclipsedShare_45 : decode cX6_eclipsedShare 45 = .ok (.istore_n 2, 1) := by decide +kernel
theorem dX6_eclipsedShare_46 : decode cX6_eclipsedShare 46 = .ok (.iinc 3 1, 3) := by decide +kernel
theorem dX6_eclipsedShare_49 : decode cX6_eclipsedShare 49 = .ok (.goto (-25), 3) := by decide +kernel
theorem dX6_eclipsedShare_52 : decode cX6_eclipsedShare 52 = .ok (.aload_n 0, 1) := by decide +kernel
theorem dX6_eclipsedShare_53 : decode cX6_eclipsedShare 53 = .ok (.getfield 39, 3) := by decide +kernel
theorem dX6_eclipsedShare_56 : decode cX6_eclipsedShare 56 = .ok (.ifCond .le 7, 3) := by decide +kernel
theorem dX6_eclipsedShare_59 : decode cX6_eclipsedShare 59 = .ok (.fconst 0, 1) := by decide +kernel
theorem dX6_eclipsedShare_60 : decode cX6_eclipsedShare 60 = .ok (.goto 8, 3) := by decide +kernel
theorem dX6_eclipsedShare_63 : decode cX6_eclipsedShare 63 = .ok (.iload_n 2, 1) := by decide +kernel
theorem dX6_eclipsedShare_64 : decode cX6_eclipsedShare 64 = .ok (.i2f, 1) := by decide +kernel
theorem dX6_eclipsedShare_65 : decode cX6_eclipsedShare 65 = .ok (.iload_n 1, 1) := by decide +kernel
theorem dX6_eclipsedShare_66 : decode cX6_eclipsedShare 66 = .ok (.i2f, 1) := by decide +kernel
theorem dX6_eclipsedShare_67 : decode cX6_eclipsedShare 67 = .ok (.fdiv, 1) := by decide +kernel
theorem dX6_eclipsedShare_68 : decode cX6_eclipsedShare 68 = .ok (.freturn, 1) := by decide +kernel
theorem dX6_isBalanced_0 : decode cX6_isBalanced 0 = .ok (.aload_n 0, 1) := by decide +kernel
theorem dX6_isBalanced_1 : decode cX6_isBalanced 1 = .ok (.iconst 0, 1) := by decide +kernel
theorem dX6_isBalanced_2 : decode cX6_isBalanced 2 = .ok (.putfield 39, 3) := by decide +kernel
theorem dX6_isBalanced_5 : decode cX6_isBalanced 5 = .ok (.iconst 1, 1) := by decide +kernel
theorem dX6_isBalanced_6 : decode cX6_isBalanced 6 = .ok (.ireturn, 1) := by decide +kernel
set_option maxRecDepth 20000 in
theorem ggX6_type_X6_in : GoodIn wsX6_type wsX6_in := goodIn_r _ [7] (by decide +kernel) (by decide +kernel)
set_option maxRecDepth 20000 in
theorem gX6_type_X6_in : GoodIn wsX6_type (va_wsS RX6 51 yX6_in wsX6_in) := goodIn_app (goodIn_of _ (by decide +kernel)) ggX6_type_X6_in
theorem dX6_type_0 : decode cX6_type 0 = .ok (.aload_n 0, 1) := by decide +kernel
theorem dX6_type_1 : decode cX6_type 1 = .ok (.iload_n 1, 1) := by decide +kernel
theorem dX6_type_2 : decode cX6_type 2 = .ok (.bipush 32, 2) := by decide +kernel
theorem dX6_type_4 : decode cX6_type 4 = .ok (.bipush 126, 2) := by decide +kernel
theorem dX6_type_6 : decode cX6_type 6 = .ok (.invokestatic 51, 3) := by decide +kernel
theorem dX6_type_9 : decode cX6_type 9 = .ok (.ifCond .ne 7, 3) := by decide +kernel
theorem dX6_type_12 : decode cX6_type 12 = .ok (.iconst 1, 1) := by decide +kernel
theorem dX6_type_13 : decode cX6_type 13 = .ok (.goto 17, 3) := by decide +kernel
theorem dX6_type_16 : decode cX6_type 16 = .ok (.aload_n 0, 1) := by decide +kernel
theorem dX6_type_17 : decode cX6_type 17 = .ok (.getfield 192, 3) := by decide +kernel
theorem dX6_type_20 : decode cX6_type 20 = .ok (.bipush 60, 2) := by decide +kernel
theorem dX6_type_22 : decode cX6_type 22 = .ok (.if_icmp .ne 7, 3) := by decide +kernel
theorem dX6_type_25 : decode cX6_type 25 = .ok (.iconst 2, 1) := by decide +kernel
theorem dX6_type_26 : decode cX6_type 26 = .ok (.goto 4, 3) := by decide +kernel
theorem dX6_type_29 : decode cX6_type 29 = .ok (.iconst 0, 1) := by decide +kernel
theorem dX6_type_30 : decode cX6_type 30 = .ok (.putfield 39, 3) := by decide +kernel
theorem dX6_type_33 : decode cX6_type 33 = .ok (.aload_n 0, 1) := by decide +kernel
theorem dX6_type_34 : decode cX6_type 34 = .ok (.getfield 39, 3) := by decide +kernel
theorem dX6_type_37 : decode cX6_type 37 = .ok (.ifCond .le 5, 3) := by decide +kernel
theorem dX6_type_40 : decode cX6_type 40 = .ok (.iconst 0, 1) := by decide +kernel
theorem dX6_type_41 : decode cX6_type 41 = .ok (.ireturn, 1) := by decide +kernel
theorem dX6_type_42 : decode cX6_type 42 = .ok (.aload_n 0, 1) := by decide +kernel
theorem dX6_type_43 : decode cX6_type 43 = .ok (.getfield 26, 3) := by decide +kernel
theorem dX6_type_46 : decode cX6_type 46 = .ok (.aload_n 0, 1) := by decide +kernel
theorem dX6_type_47 : decode cX6_type 47 = .ok (.getfield 192, 3) := by decide +kernel
theorem dX6_type_50 : decode cX6_type 50 = .ok (.iload_n 1, 1) := by decide +kernel
theorem dX6_type_51 : decode cX6_type 51 = .ok (.castore, 1) := by decide +kernel
theorem dX6_type_52 : decode cX6_type 52 = .ok (.aload_n 0, 1) := by decide +kernel
theorem dX6_type_53 : decode cX6_type 53 = .ok (.dup, 1) := by decide +kernel
theorem dX6_type_54 : decode cX6_type 54 = .ok (.getfield 192, 3) := by decide +kernel
theorem dX6_type_57 : decode cX6_type 57 = .ok (.iconst 1, 1) := by decide +kernel
theorem dX6_type_58 : decode cX6_type 58 = .ok (.iadd, 1) := by decide +kernel
theorem dX6_type_59 : decode cX6_type 59 = .ok (.putfield 192, 3) := by decide +kernel
theorem dX6_type_62 : decode cX6_type 62 = .ok (.aload_n 0, 1) := by decide +kernel
theorem dX6_type_63 : decode cX6_type 63 = .ok (.getfield 192, 3) := by decide +kernel
theorem dX6_type_66 : decode cX6_type 66 = .ok (.ireturn, 1) := by decide +kernel
theorem dX6_behind_0 : decode cX6_behind 0 = .ok (.aload_n 0, 1) := by decide +kernel
theorem dX6_behind_1 : decode cX6_behind 1 = .ok (.getfield 195, 3) := by decide +kernel
theorem dX6_behind_4 : decode cX6_behind 4 = .ok (.iload_n 1, 1) := by decide +kernel
theorem dX6_behind_5 : decode cX6_behind 5 = .ok (.iadd, 1) := by decide +kernel
theorem dX6_behind_6 : decode cX6_behind 6 = .ok (.aload_n 0, 1) := by decide +kernel
theorem dX6_behind_7 : decode cX6_behind 7 = .ok (.getfield 192, 3) := by decide +kernel
theorem dX6_behind_10 : decode cX6_behind 10 = .ok (.if_icmp .ge 17, 3) := by decide +kernel
theorem dX6_behind_13 : decode cX6_behind 13 = .ok (.aload_n 0, 1) := by decide +kernel
theorem dX6_behind_14 : decode cX6_behind 14 = .ok (.getfield 26, 3) := by decide +kernel
theorem dX6_behind_17 : decode cX6_behind 17 = .ok (.aload_n 0, 1) := by decide +kernel
theorem dX6_behind_18 : decode cX6_behind 18 = .ok (.getfield 195, 3) := by decide +kernel
theorem dX6_behind_21 : decode cX6_behind 21 = .ok (.iload_n 1, 1) := by decide +kernel
theorem dX6_behind_22 : decode cX6_behind 22 = .ok (.iadd, 1) := by decide +kernel
theorem dX6_behind_23 : decode cX6_behind 23 = .ok (.caload, 1) := by decide +kernel
theorem dX6_behind_24 : decode cX6_behind 24 = .ok (.goto 4, 3) := by decide +kernel
theorem dX6_behind_27 : decode cX6_behind 27 = .ok (.iconst 0, 1) := by decide +kernel
theorem dX6_behind_28 : decode cX6_behind 28 = .ok (.ireturn, 1) := by decide +kernel
set_option maxRecDepth 20000 in
theorem ggX6_skip_J0_length_8abf5 : GoodIn wsX6_skip wsJ0_length_8abf5 := goodIn_r _ [7, 8, 9, 10, 11, 6, 12, 13, 14, 76, 77, 78, 79] (by decide +kernel) (by decide +kernel)
set_option maxRecDepth 20000 in
theorem gX6_skip_J0_length_8abf5 : GoodIn wsX6_skip (wsV RX6 198 RJ0 yJ0_length_8abf5 wsJ0_length_8abf5) := goodIn_app (goodIn_of _ (by decide +kernel)) ggX6_skip_J0_length_8abf5
set_option maxRecDepth 20000 in
theorem ggX6_skip_X6_behind : GoodIn wsX6_skip wsX6_behind := goodIn_ca (goodIn_r _ [19, 2, 20, 21, 59, 60, 61, 62, 63, 64, 65, 66, 67, 68, 69, 70, 71, 72, 73, 74, 75] (by decide +kernel) (by decide +kernel)) (goodIn_sub (fun _ h => List.mem_cons_of_mem _ (List.mem_append_right _ h)) (by decide +kernel))
set_option maxRecDepth 20000 in
theorem gX6_skip_X6_behind : GoodIn wsX6_skip (wsV RX6 206 RX6 yX6_behind wsX6_behind) := goodIn_app (goodIn_of _ (by decide +kernel)) ggX6_skip_X6_behind
set_option maxRecDepth 20000 in
theorem ggX6_skip_J0_charAt_5068e : GoodIn wsX6_skip wsJ0_charAt_5068e := goodIn_r _ [25, 8, 26, 27, 28, 6, 29, 13, 14, 30, 31, 32, 33, 34, 35, 36, 37, 38, 39, 40, 41, 42, 43, 44, 45, 46, 47, 48, 49, 50, 51, 52, 53, 54, 55, 56, 57, 58, 76, 77, 78, 79] (by decide +kernel) (by decide +kernel)
set_option maxRecDepth 20000 in
theorem gX6_skip_J0_charAt_5068e : GoodIn wsX6_skip (wsV RX6 210 RJ0 yJ0_charAt_5068e wsJ0_charAt_5068e) := goodIn_app (goodIn_of _ (by decide +kernel)) ggX6_skip_J0_charAt_5068e
theorem dX6_skip_0 : decode cX6_skip 0 = .ok (.iconst 0, 1) := by decide +kernel
theorem dX6_skip_1 : decode cX6_skip 1 = .ok (.istore_n 2, 1) := by decide +kernel
theorem dX6_skip_2 : decode cX6_skip 2 = .ok (.iload_n 2, 1) := by decide +kernel
theorem dX6_skip_3 : decode cX6_skip 3 = .ok (.aload_n 1, 1) := by decide +kernel
theorem dX6_skip_4 : decode cX6_skip 4 = .ok (.invokevirtual 198, 3) := by decide +kernel
theorem dX6_skip_7 : decode cX6_skip 7 = .ok (.if_icmp .ge 59, 3) := by decide +kernel
theorem dX6_skip_10 : decode cX6_skip 10 = .ok (.aload_n 0, 1) := by decide +kernel
theorem dX6_skip_11 : decode cX6_skip 11 = .ok (.getfield 202, 3) := by decide +kernel
theorem dX6_skip_14 : decode cX6_skip 14 = .ok (.ifCond .ne 52, 3) := by decide +kernel
theorem dX6_skip_17 : decode cX6_skip 17 = .ok (.aload_n 0, 1) := by decide +kernel
theorem dX6_skip_18 : decode cX6_skip 18 = .ok (.aload_n 0, 1) := by decide +kernel
theorem dX6_skip_19 : decode cX6_skip 19 = .ok (.iconst 0, 1) := by decide +kernel
theorem dX6_skip_20 : decode cX6_skip 20 = .ok (.invokevirtual 206, 3) := by decide +kernel
theorem dX6_skip_23 : decode cX6_skip 23 = .ok (.aload_n 1, 1) := by decide +kernel
theorem dX6_skip_24 : decode cX6_skip 24 = .ok (.iload_n 2, 1) := by decide +kernel
theorem dX6_skip_25 : decode cX6_skip 25 = .ok (.invokevirtual 210, 3) := by decide +kernel
theorem dX6_skip_28 : decode cX6_skip 28 = .ok (.if_icmp .eq 7, 3) := by decide +kernel
theorem dX6_skip_31 : decode cX6_skip 31 = .ok (.iconst 1, 1) := by decide +kernel
theorem dX6_skip_32 : decode cX6_skip 32 = .ok (.goto 4, 3) := by decide +kernel
theorem dX6_skip_35 : decode cX6_skip 35 = .ok (.iconst 0, 1) := by decide +kernel
theorem dX6_skip_36 : decode cX6_skip 36 = .ok (.putfield 202, 3) := by decide +kernel
theorem dX6_skip_39 : decode cX6_skip 39 = .ok (.aload_n 0, 1) := by decide +kernel
theorem dX6_skip_40 : decode cX6_skip 40 = .ok (.dup, 1) := by decide +kernel
theorem dX6_skip_41 : decode cX6_skip 41 = .ok (.getfield 195, 3) := by decide +kernel
theorem dX6_skip_44 : decode cX6_skip 44 = .ok (.aload_n 0, 1) := by decide +kernel
theorem dX6_skip_45 : decode cX6_skip 45 = .ok (.getfield 202, 3) := by decide +kernel
theorem dX6_skip_48 : decode cX6_skip 48 = .ok (.ifCond .eq 7, 3) := by decide +kernel
theorem dX6_skip_51 : decode cX6_skip 51 = .ok (.iconst 0, 1) := by decide +kernel
theorem dX6_skip_52 : decode cX6_skip 52 = .ok (.goto 4, 3) := by decide +kernel
theorem dX6_skip_55 : decode cX6_skip 55 = .ok (.iconst 1, 1) := by decide +kernel
theorem dX6_skip_56 : decode cX6_skip 56 = .ok (.iadd, 1) := by decide +kernel
theorem dX6_skip_57 : decode cX6_skip 57 = .ok (.putfield 195, 3) := by decide +kernel
theorem dX6_skip_60 : decode cX6_skip 60 = .ok (.iinc 2 1, 3) := by decide +kernel
theorem dX6_skip_63 : decode cX6_skip 63 = .ok (.goto (-61), 3) := by decide +kernel
theorem dX6_skip_66 : decode cX6_skip 66 = .ok (.return_, 1) := by decide +kernel
set_option maxRecDepth 20000 in
theorem ggX6_isDigit_X6_behind : GoodIn wsX6_isDigit wsX6_behind := goodIn_ca (goodIn_r _ [6, 7, 8, 9, 13, 14, 15, 16, 17, 18, 19, 20, 21, 22, 23, 24, 25, 26, 27, 28, 29] (by decide +kernel) (by decide +kernel)) (goodIn_sub (fun _ h => List.mem_cons_of_mem _ (List.mem_append_right _ h)) (by decide +kernel))
set_option maxRecDepth 20000 in
theorem gX6_isDigit_X6_behind : GoodIn wsX6_isDigit (wsV RX6 206 RX6 yX6_behind wsX6_behind) := goodIn_app (goodIn_of _ (by decide +kernel)) ggX6_isDigit_X6_behind
set_option maxRecDepth 20000 in
theorem ggX6_isDigit_X6_in : GoodIn wsX6_isDigit wsX6_in := goodIn_r _ [12] (by decide +kernel) (by decide +kernel)
set_option maxRecDepth 20000 in
theorem gX6_isDigit_X6_in : GoodIn wsX6_isDigit (va_wsS RX6 51 yX6_in wsX6_in) := goodIn_app (goodIn_of _ (by decide +kernel)) ggX6_isDigit_X6_in
theorem dX6_isDigit_0 : decode cX6_isDigit 0 = .ok (.aload_n 0, 1) := by decide +kernel
theorem dX6_isDigit_1 : decode cX6_isDigit 1 = .ok (.getfield 202, 3) := by decide +kernel
theorem dX6_isDigit_4 : decode cX6_isDigit 4 = .ok (.ifCond .ne 22, 3) := by decide +kernel
theorem dX6_isDigit_7 : decode cX6_isDigit 7 = .ok (.aload_n 0, 1) := by decide +kernel
theorem dX6_isDigit_8 : decode cX6_isDigit 8 = .ok (.iconst 0, 1) := by decide +kernel
theorem dX6_isDigit_9 : decode cX6_isDigit 9 = .ok (.invokevirtual 206, 3) := by decide +kernel
theorem dX6_isDigit_12 : decode cX6_isDigit 12 = .ok (.bipush 48, 2) := by decide +kernel
theorem dX6_isDigit_14 : decode cX6_isDigit 14 = .ok (.bipush 57, 2) := by decide +kernel
theorem dX6_isDigit_16 : decode cX6_isDigit 16 = .ok (.invokestatic 51, 3) := by decide +kernel
theorem dX6_isDigit_19 : decode cX6_isDigit 19 = .ok (.ifCond .eq 7, 3) := by decide +kernel
theorem dX6_isDigit_22 : decode cX6_isDigit 22 = .ok (.iconst 1, 1) := by decide +kernel
theorem dX6_isDigit_23 : decode cX6_isDigit 23 = .ok (.goto 4, 3) := by decide +kernel
theorem dX6_isDigit_26 : decode cX6_isDigit 26 = .ok (.iconst 0, 1) := by decide +kernel
theorem dX6_isDigit_27 : decode cX6_isDigit 27 = .ok (.ireturn, 1) := by decide +kernel
set_option maxRecDepth 20000 in
theorem ggX6_digit_X6_isDigit : GoodIn wsX6_digit wsX6_isDigit := goodIn_ca (goodIn_r _ [8, 1, 9, 10, 11, 7, 12, 2, 13, 3, 14, 15, 16, 17, 18, 19, 20, 21, 22, 23, 24, 25, 26, 27, 28, 29, 30, 31, 32, 33] (by decide +kernel) (by decide +kernel)) (goodIn_sub (fun _ h => List.mem_cons_of_mem _ (List.mem_append_right _ h)) (by decide +kernel))
set_option maxRecDepth 20000 in
theorem gX6_digit_X6_isDigit : GoodIn wsX6_digit (wsV RX6 213 RX6 yX6_isDigit wsX6_isDigit) := goodIn_app (goodIn_of _ (by decide +kernel)) ggX6_digit_X6_isDigit
theorem dX6_digit_0 : decode cX6_digit 0 = .ok (.aload_n 0, 1) := by decide +kernel
theorem dX6_digit_1 : decode cX6_digit 1 = .ok (.aload_n 0, 1) := by decide +kernel
theorem dX6_digit_2 : decode cX6_digit 2 = .ok (.getfield 202, 3) := by decide +kernel
theorem dX6_digit_5 : decode cX6_digit 5 = .ok (.ifCond .ne 10, 3) := by decide +kernel
theorem dX6_digit_8 : decode cX6_digit 8 = .ok (.aload_n 0, 1) := by decide +kernel
theorem dX6_digit_9 : decode cX6_digit 9 = .ok (.invokevirtual 213, 3) := by decide +kernel
theorem dX6_digit_12 : decode cX6_digit 12 = .ok (.ifCond .ne 7, 3) := by decide +kernel
theorem dX6_digit_15 : decode cX6_digit 15 = .ok (.iconst 1, 1) := by decide +kernel
theorem dX6_digit_16 : decode cX6_digit 16 = .ok (.goto 4, 3) := by decide +kernel
theorem dX6_digit_19 : decode cX6_digit 19 = .ok (.iconst 0, 1) := by decide +kernel
theorem dX6_digit_20 : decode cX6_digit 20 = .ok (.putfield 202, 3) := by decide +kernel
theorem dX6_digit_23 : decode cX6_digit 23 = .ok (.aload_n 0, 1) := by decide +kernel
theorem dX6_digit_24 : decode cX6_digit 24 = .ok (.getfield 202, 3) := by decide +kernel
theorem dX6_digit_27 : decode cX6_digit 27 = .ok (.ifCond .eq 5, 3) := by decide +kernel
theorem dX6_digit_30 : decode cX6_digit 30 = .ok (.iconst 0, 1) := by decide +kernel
theorem dX6_digit_31 : decode cX6_digit 31 = .ok (.ireturn, 1) := by decide +kernel
theorem dX6_digit_32 : decode cX6_digit 32 = .ok (.aload_n 0, 1) := by decide +kernel
theorem dX6_digit_33 : decode cX6_digit 33 = .ok (.dup, 1) := by decide +kernel
theorem dX6_digit_34 : decode cX6_digit 34 = .ok (.getfield 195, 3) := by decide +kernel
theorem dX6_digit_37 : decode cX6_digit 37 = .ok (.iconst 1, 1) := by decide +kernel
theorem dX6_digit_38 : decode cX6_digit 38 = .ok (.iadd, 1) := by decide +kernel
theorem dX6_digit_39 : decode cX6_digit 39 = .ok (.putfield 195, 3) := by decide +kernel
theorem dX6_digit_42 : decode cX6_digit 42 = .ok (.aload_n 0, 1) := by decide +kernel
theorem dX6_digit_43 : decode cX6_digit 43 = .ok (.getfield 26, 3) := by decide +kernel
theorem dX6_digit_46 : decode cX6_digit 46 = .ok (.aload_n 0, 1) := by decide +kernel
theorem dX6_digit_47 : decode cX6_digit 47 = .ok (.getfield 195, 3) := by decide +kernel
theorem dX6_digit_50 : decode cX6_digit 50 = .ok (.iconst 1, 1) := by decide +kernel
theorem dX6_digit_51 : decode cX6_digit 51 = .ok (.isub, 1) := by decide +kernel
theorem dX6_digit_52 : decode cX6_digit 52 = .ok (.caload, 1) := by decide +kernel
theorem dX6_digit_53 : decode cX6_digit 53 = .ok (.bipush 48, 2) := by decide +kernel
theorem dX6_digit_55 : decode cX6_digit 55 = .ok (.isub, 1) := by decide +kernel
theorem dX6_digit_56 : decode cX6_digit 56 = .ok (.ireturn, 1) := by decide +kernel
set_option maxRecDepth 20000 in
theorem ggX6_readNumber_X6_skip : GoodIn wsX6_readNumber wsX6_skip := goodIn_ca (goodIn_r _ [5, 6, 7, 8, 9, 10, 11, 12, 13, 14, 15, 16, 17, 18, 19, 20, 21, 22, 4, 23, 24, 25, 26, 27, 28, 29, 30, 31, 32, 33, 34, 35, 36, 37, 38, 39, 40, 41, 42, 43, 44, 45, 46, 47, 48, 49, 50, 51, 52, 53, 54, 55, 56, 57, 58, 59, 60, 61, 62, 74, 75, 76, 77, 78, 79, 80, 81, 82, 83, 84, 85, 86, 87, 88, 89, 90, 91, 92, 93, 94] (by decide +kernel) (by decide +kernel)) (goodIn_sub (fun _ h => List.mem_cons_of_mem _ (List.mem_append_right _ h)) (by decide +kernel))
set_option maxRecDepth 20000 in
theorem gX6_readNumber_X6_skip : GoodIn wsX6_readNumber (wsV RX6 219 RX6 yX6_skip wsX6_skip) := goodIn_app (goodIn_of _ (by decide +kernel)) ggX6_readNumber_X6_skip
set_option maxRecDepth 20000 in
theorem ggX6_readNumber_X6_digit : GoodIn wsX6_readNumber wsX6_digit := goodIn_ca (goodIn_r _ [66, 6, 7, 25, 67, 68, 69, 4, 70, 20, 21, 22, 23, 24, 71, 72, 73, 74, 75, 76, 77, 78, 79, 80, 81, 82, 83, 84, 85, 86, 87, 88, 89, 90] (by decide +kernel) (by decide +kernel)) (goodIn_sub (fun _ h => List.mem_cons_of_mem _ (List.mem_append_right _ h)) (by decide +kernel))
set_option maxRecDepth 20000 in
theorem gX6_readNumber_X6_digit : GoodIn wsX6_readNumber (wsV RX6 223 RX6 yX6_digit wsX6_digit) := goodIn_app (goodIn_of _ (by decide +kernel)) ggX6_readNumber_X6_digit
set_option maxRecDepth 20000 in
theorem ggX6_readNumber_X6_isDigit : GoodIn wsX6_readNumber wsX6_isDigit := goodIn_ca (goodIn_r _ [70, 6, 20, 21, 22, 4, 23, 7, 24, 25, 71, 72, 73, 74, 75, 76, 77, 78, 79, 80, 81, 82, 83, 84, 85, 86, 87, 88, 89, 90] (by decide +kernel) (by decide +kernel)) (goodIn_sub (fun _ h => List.mem_cons_of_mem _ (List.mem_append_right _ h)) (by decide +kernel))
set_option maxRecDepth 20000 in
theorem gX6_readNumber_X6_isDigit : GoodIn wsX6_readNumber (wsV RX6 213 RX6 yX6_isDigit wsX6_isDigit) := goodIn_app (goodIn_of _ (by decide +kernel)) ggX6_readNumber_X6_isDigit
theorem dX6_readNumber_0 : decode cX6_readNumber 0 = .ok (.aload_n 0, 1) := by decide +kernel
theorem dX6_readNumber_1 : decode cX6_readNumber 1 = .ok (.ldc 217, 2) := by decide +kernel
theorem dX6_readNumber_3 : decode cX6_readNumber 3 = .ok (.invokevirtual 219, 3) := by decide +kernel
theorem dX6_readNumber_6 : decode cX6_readNumber 6 = .ok (.aload_n 0, 1) := by decide +kernel
theorem dX6_readNumber_7 : decode cX6_readNumber 7 = .ok (.invokevirtual 223, 3) := by decide +kernel
theorem dX6_readNumber_10 : decode cX6_readNumber 10 = .ok (.istore_n 1, 1) := by decide +kernel
theorem dX6_readNumber_11 : decode cX6_readNumber 11 = .ok (.aload_n 0, 1) := by decide +kernel
theorem dX6_readNumber_12 : decode cX6_readNumber 12 = .ok (.invokevirtual 213, 3) := by decide +kernel
theorem dX6_readNumber_15 : decode cX6_readNumber 15 = .ok (.ifCond .eq 15, 3) := by decide +kernel
theorem dX6_readNumber_18 : decode cX6_readNumber 18 = .ok (.bipush 10, 2) := by decide +kernel
theorem dX6_readNumber_20 : decode cX6_readNumber 20 = .ok (.iload_n 1, 1) := by decide +kernel
theorem dX6_readNumber_21 : decode cX6_readNumber 21 = .ok (.imul, 1) := by decide +kernel
theorem dX6_readNumber_22 : decode cX6_readNumber 22 = .ok (.aload_n 0, 1) := by decide +kernel
theorem dX6_readNumber_23 : decode cX6_readNumber 23 = .ok (.invokevirtual 223, 3) := by decide +kernel
theorem dX6_readNumber_26 : decode cX6_readNumber 26 = .ok (.iadd, 1) := by decide +kernel
theorem dX6_readNumber_27 : decode cX6_readNumber 27 = .ok (.goto 4, 3) := by decide +kernel
theorem dX6_readNumber_30 : decode cX6_readNumber 30 = .ok (.iload_n 1, 1) := by decide +kernel
theorem dX6_readNumber_31 : decode cX6_readNumber 31 = .ok (.ireturn, 1) := by decide +kernel
set_option maxRecDepth 20000 in
theorem ggX6_readFlow_X6_skip : GoodIn wsX6_readFlow wsX6_skip := goodIn_ca (goodIn_r _ [5, 6, 7, 8, 9, 10, 11, 12, 13, 14, 15, 16, 17, 18, 19, 20, 21, 22, 4, 23, 24, 25, 26, 27, 28, 29, 30, 31, 32, 33, 34, 35, 36, 37, 38, 39, 40, 41, 42, 43, 44, 45, 46, 47, 48, 49, 50, 51, 52, 53, 54, 55, 56, 57, 58, 59, 60, 61, 62, 74, 75, 76, 77, 78, 79, 80, 81, 82, 83, 84, 85, 86, 87, 88, 89, 90, 91, 92, 93, 94] (by decide +kernel) (by decide +kernel)) (goodIn_sub (fun _ h => List.mem_cons_of_mem _ (List.mem_append_right _ h)) (by decide +kernel))
set_option maxRecDepth 20000 in
theorem gX6_readFlow_X6_skip : GoodIn wsX6_readFlow (wsV RX6 219 RX6 yX6_skip wsX6_skip) := goodIn_app (goodIn_of _ (by decide +kernel)) ggX6_readFlow_X6_skip
set_option maxRecDepth 20000 in
theorem ggX6_readFlow_X6_behind : GoodIn wsX6_readFlow wsX6_behind := goodIn_ca (goodIn_r _ [23, 7, 24, 25, 74, 75, 76, 77, 78, 79, 80, 81, 82, 83, 84, 85, 86, 87, 88, 89, 90] (by decide +kernel) (by decide +kernel)) (goodIn_sub (fun _ h => List.mem_cons_of_mem _ (List.mem_append_right _ h)) (by decide +kernel))
set_option maxRecDepth 20000 in
theorem gX6_readFlow_X6_behind : GoodIn wsX6_readFlow (wsV RX6 206 RX6 yX6_behind wsX6_behind) := goodIn_app (goodIn_of _ (by decide +kernel)) ggX6_readFlow_X6_behind
set_option maxRecDepth 20000 in
theorem ggX6_readFlow_X6_digit : GoodIn wsX6_readFlow wsX6_digit := goodIn_ca (goodIn_r _ [66, 6, 7, 25, 67, 68, 69, 4, 70, 20, 21, 22, 23, 24, 71, 72, 73, 74, 75, 76, 77, 78, 79, 80, 81, 82, 83, 84, 85, 86, 87, 88, 89, 90] (by decide +kernel) (by decide +kernel)) (goodIn_sub (fun _ h => List.mem_cons_of_mem _ (List.mem_append_right _ h)) (by decide +kernel))
set_option maxRecDepth 20000 in
theorem gX6_readFlow_X6_digit : GoodIn wsX6_readFlow (wsV RX6 223 RX6 yX6_digit wsX6_digit) := goodIn_app (goodIn_of _ (by decide +kernel)) ggX6_readFlow_X6_digit
set_option maxRecDepth 20000 in
theorem ggX6_readFlow_X6_isDigit : GoodIn wsX6_readFlow wsX6_isDigit := goodIn_ca (goodIn_r _ [70, 6, 20, 21, 22, 4, 23, 7, 24, 25, 71, 72, 73, 74, 75, 76, 77, 78, 79, 80, 81, 82, 83, 84, 85, 86, 87, 88, 89, 90] (by decide +kernel) (by decide +kernel)) (goodIn_sub (fun _ h => List.mem_cons_of_mem _ (List.mem_append_right _ h)) (by decide +kernel))
set_option maxRecDepth 20000 in
theorem gX6_readFlow_X6_isDigit : GoodIn wsX6_readFlow (wsV RX6 213 RX6 yX6_isDigit wsX6_isDigit) := goodIn_app (goodIn_of _ (by decide +kernel)) ggX6_readFlow_X6_isDigit
theorem dX6_readFlow_0 : decode cX6_readFlow 0 = .ok (.aload_n 0, 1) := by decide +kernel
theorem dX6_readFlow_1 : decode cX6_readFlow 1 = .ok (.ldc 217, 2) := by decide +kernel
theorem dX6_readFlow_3 : decode cX6_readFlow 3 = .ok (.invokevirtual 219, 3) := by decide +kernel
theorem dX6_readFlow_6 : decode cX6_readFlow 6 = .ok (.aload_n 0, 1) := by decide +kernel
theorem dX6_readFlow_7 : decode cX6_readFlow 7 = .ok (.iconst 0, 1) := by decide +kernel
theorem dX6_readFlow_8 : decode cX6_readFlow 8 = .ok (.invokevirtual 206, 3) := by decide +kernel
theorem dX6_readFlow_11 : decode cX6_readFlow 11 = .ok (.bipush 45, 2) := by decide +kernel
theorem dX6_readFlow_13 : decode cX6_readFlow 13 = .ok (.if_icmp .ne 15, 3) := by decide +kernel
theorem dX6_readFlow_16 : decode cX6_readFlow 16 = .ok (.aload_n 0, 1) := by decide +kernel
theorem dX6_readFlow_17 : decode cX6_readFlow 17 = .ok (.ldc 226, 2) := by decide +kernel
theorem dX6_readFlow_19 : decode cX6_readFlow 19 = .ok (.invokevirtual 219, 3) := by decide +kernel
theorem dX6_readFlow_22 : decode cX6_readFlow 22 = .ok (.aload_n 0, 1) := by decide +kernel
theorem dX6_readFlow_23 : decode cX6_readFlow 23 = .ok (.invokevirtual 223, 3) := by decide +kernel
theorem dX6_readFlow_26 : decode cX6_readFlow 26 = .ok (.ineg, 1) := by decide +kernel
theorem dX6_readFlow_27 : decode cX6_readFlow 27 = .ok (.ireturn, 1) := by decide +kernel
theorem dX6_readFlow_28 : decode cX6_readFlow 28 = .ok (.aload_n 0, 1) := by decide +kernel
theorem dX6_readFlow_29 : decode cX6_readFlow 29 = .ok (.invokevirtual 223, 3) := by decide +kernel
theorem dX6_readFlow_32 : decode cX6_readFlow 32 = .ok (.istore_n 1, 1) := by decide +kernel
theorem dX6_readFlow_33 : decode cX6_readFlow 33 = .ok (.aload_n 0, 1) := by decide +kernel
theorem dX6_readFlow_34 : decode cX6_readFlow 34 = .ok (.invokevirtual 213, 3) := by decide +kernel
theorem dX6_readFlow_37 : decode cX6_readFlow 37 = .ok (.ifCond .eq 15, 3) := by decide +kernel
theorem dX6_readFlow_40 : decode cX6_readFlow 40 = .ok (.bipush 10, 2) := by decide +kernel
theorem dX6_readFlow_42 : decode cX6_readFlow 42 = .ok (.iload_n 1, 1) := by decide +kernel
theorem dX6_readFlow_43 : decode cX6_readFlow 43 = .ok (.imul, 1) := by decide +kernel
theorem dX6_readFlow_44 : decode cX6_readFlow 44 = .ok (.aload_n 0, 1) := by decide +kernel
theorem dX6_readFlow_45 : decode cX6_readFlow 45 = .ok (.invokevirtual 223, 3) := by decide +kernel
theorem dX6_readFlow_48 : decode cX6_readFlow 48 = .ok (.iadd, 1) := by decide +kernel
theorem dX6_readFlow_49 : decode cX6_readFlow 49 = .ok (.goto 4, 3) := by decide +kernel
theorem dX6_readFlow_52 : decode cX6_readFlow 52 = .ok (.iload_n 1, 1) := by decide +kernel
theorem dX6_readFlow_53 : decode cX6_readFlow 53 = .ok (.ireturn, 1) := by decide +kernel
set_option maxRecDepth 20000 in
theorem ggX6_word_X6_behind : GoodIn wsX6_word wsX6_behind := goodIn_ca (goodIn_r _ [5, 6, 7, 8, 9, 10, 11, 12, 13, 14, 15, 16, 17, 18, 19, 20, 21, 22, 23, 24, 25] (by decide +kernel) (by decide +kernel)) (goodIn_sub (fun _ h => List.mem_cons_of_mem _ (List.mem_append_right _ h)) (by decide +kernel))
set_option maxRecDepth 20000 in
theorem gX6_word_X6_behind : GoodIn wsX6_word (wsV RX6 206 RX6 yX6_behind wsX6_behind) := goodIn_app (goodIn_of _ (by decide +kernel)) ggX6_word_X6_behind
theorem dX6_word_0 : decode cX6_word 0 = .ok (.aload_n 0, 1) := by decide +kernel
theorem dX6_word_1 : decode cX6_word 1 = .ok (.iconst 1, 1) := by decide +kernel
theorem dX6_word_2 : decode cX6_word 2 = .ok (.invokevirtual 206, 3) := by decide +kernel
theorem dX6_word_5 : decode cX6_word 5 = .ok (.istore_n 1, 1) := by decide +kernel
theorem dX6_word_6 : decode cX6_word 6 = .ok (.aload_n 0, 1) := by decide +kernel
theorem dX6_word_7 : decode cX6_word 7 = .ok (.iconst 0, 1) := by decide +kernel
theorem dX6_word_8 : decode cX6_word 8 = .ok (.invokevirtual 206, 3) := by decide +kernel
theorem dX6_word_11 : decode cX6_word 11 = .ok (.tableswitch 164 98 119 #[115, 164, 164, 164, 164, 164, 101, 164, 164, 164, 164, 164, 164, 164, 136, 164, 117, 103, 119, 164, 164, 150], 101) := by decide +kernel
theorem dX6_word_112 : decode cX6_word 112 = .ok (.iconst 0, 1) := by decide +kernel
theorem dX6_word_113 : decode cX6_word 113 = .ok (.ireturn, 1) := by decide +kernel
theorem dX6_word_114 : decode cX6_word 114 = .ok (.iload_n 1, 1) := by decide +kernel
theorem dX6_word_115 : decode cX6_word 115 = .ok (.bipush 104, 2) := by decide +kernel
theorem dX6_word_117 : decode cX6_word 117 = .ok (.if_icmp .ne 7, 3) := by decide +kernel
theorem dX6_word_120 : decode cX6_word 120 = .ok (.iconst 5, 1) := by decide +kernel
theorem dX6_word_121 : decode cX6_word 121 = .ok (.goto 4, 3) := by decide +kernel
theorem dX6_word_124 : decode cX6_word 124 = .ok (.iconst 1, 1) := by decide +kernel
theorem dX6_word_125 : decode cX6_word 125 = .ok (.ireturn, 1) := by decide +kernel
theorem dX6_word_126 : decode cX6_word 126 = .ok (.iconst 2, 1) := by decide +kernel
theorem dX6_word_127 : decode cX6_word 127 = .ok (.ireturn, 1) := by decide +kernel
theorem dX6_word_128 : decode cX6_word 128 = .ok (.iconst 3, 1) := by decide +kernel
theorem dX6_word_129 : decode cX6_word 129 = .ok (.ireturn, 1) := by decide +kernel
theorem dX6_word_130 : decode cX6_word 130 = .ok (.aload_n 0, 1) := by decide +kernel
theorem dX6_word_131 : decode cX6_word 131 = .ok (.iconst 2, 1) := by decide +kernel
theorem dX6_word_132 : decode cX6_word 132 = .ok (.invokevirtual 206, 3) := by decide +kernel
theorem dX6_word_135 : decode cX6_word 135 = .ok (.bipush 119, 2) := by decide +kernel
theorem dX6_word_137 : decode cX6_word 137 = .ok (.if_icmp .ne 8, 3) := by decide +kernel
theorem dX6_word_140 : decode cX6_word 140 = .ok (.bipush 8, 2) := by decide +kernel
theorem dX6_word_142 : decode cX6_word 142 = .ok (.goto 4, 3) := by decide +kernel
theorem dX6_word_145 : decode cX6_word 145 = .ok (.iconst 4, 1) := by decide +kernel
theorem dX6_word_146 : decode cX6_word 146 = .ok (.ireturn, 1) := by decide +kernel
theorem dX6_word_147 : decode cX6_word 147 = .ok (.iload_n 1, 1) := by decide +kernel
theorem dX6_word_148 : decode cX6_word 148 = .ok (.bipush 117, 2) := by decide +kernel
theorem dX6_word_150 : decode cX6_word 150 = .ok (.if_icmp .ne 8, 3) := by decide +kernel
theorem dX6_word_153 : decode cX6_word 153 = .ok (.bipush 7, 2) := by decide +kernel
theorem dX6_word_155 : decode cX6_word 155 = .ok (.goto 5, 3) := by decide +kernel
theorem dX6_word_158 : decode cX6_word 158 = .ok (.bipush 6, 2) := by decide +kernel
theorem dX6_word_160 : decode cX6_word 160 = .ok (.ireturn, 1) := by decide +kernel
theorem dX6_word_161 : decode cX6_word 161 = .ok (.iload_n 1, 1) := by decide +kernel
theorem dX6_word_162 : decode cX6_word 162 = .ok (.bipush 114, 2) := by decide +kernel
theorem dX6_word_164 : decode cX6_word 164 = .ok (.if_icmp .ne 8, 3) := by decide +kernel
theorem dX6_word_167 : decode cX6_word 167 = .ok (.bipush 9, 2) := by decide +kernel
theorem dX6_word_169 : decode cX6_word 169 = .ok (.goto 5, 3) := by decide +kernel
theorem dX6_word_172 : decode cX6_word 172 = .ok (.bipush 11, 2) := by decide +kernel
theorem dX6_word_174 : decode cX6_word 174 = .ok (.ireturn, 1) := by decide +kernel
theorem dX6_word_175 : decode cX6_word 175 = .ok (.bipush 10, 2) := by decide +kernel
theorem dX6_word_177 : decode cX6_word 177 = .ok (.ireturn, 1) := by decide +kernel
theorem dX6_textOf_0 : decode cX6_textOf 0 = .ok (.iload_n 1, 1) := by decide +kernel
theorem dX6_textOf_1 : decode cX6_textOf 1 = .ok (.tableswitch 92 0 10 #[59, 62, 65, 68, 71, 74, 77, 80, 83, 86, 89], 59) := by decide +kernel
theorem dX6_textOf_60 : decode cX6_textOf 60 = .ok (.ldc 228, 2) := by decide +kernel
theorem dX6_textOf_62 : decode cX6_textOf 62 = .ok (.areturn, 1) := by decide +kernel
theorem dX6_textOf_63 : decode cX6_textOf 63 = .ok (.ldc 230, 2) := by decide +kernel
theorem dX6_textOf_65 : decode cX6_textOf 65 = .ok (.areturn, 1) := by decide +kernel
theorem dX6_textOf_66 : decode cX6_textOf 66 = .ok (.ldc 232, 2) := by decide +kernel
theorem dX6_textOf_68 : decode cX6_textOf 68 = .ok (.areturn, 1) := by decide +kernel
theorem dX6_textOf_69 : decode cX6_textOf 69 = .ok (.ldc 234, 2) := by decide +kernel
theorem dX6_textOf_71 : decode cX6_textOf 71 = .ok (.areturn, 1) := by decide +kernel
theorem dX6_textOf_72 : decode cX6_textOf 72 = .ok (.ldc 236, 2) := by decide +kernel
theorem dX6_textOf_74 : decode cX6_textOf 74 = .ok (.areturn, 1) := by decide +kernel
theorem dX6_textOf_75 : decode cX6_textOf 75 = .ok (.ldc 238, 2) := by decide +kernel
theorem dX6_textOf_77 : decode cX6_textOf 77 = .ok (.areturn, 1) := by decide +kernel
theorem dX6_textOf_78 : decode cX6_textOf 78 = .ok (.ldc 240, 2) := by decide +kernel
theorem dX6_textOf_80 : decode cX6_textOf 80 = .ok (.areturn, 1) := by decide +kernel
theorem dX6_textOf_81 : decode cX6_textOf 81 = .ok (.ldc 242, 2) := by decide +kernel
theorem dX6_textOf_83 : decode cX6_textOf 83 = .ok (.areturn, 1) := by decide +kernel
theorem dX6_textOf_84 : decode cX6_textOf 84 = .ok (.ldc 244, 2) := by decide +kernel
theorem dX6_textOf_86 : decode cX6_textOf 86 = .ok (.areturn, 1) := by decide +kernel
theorem dX6_textOf_87 : decode cX6_textOf 87 = .ok (.ldc 246, 2) := by decide +kernel
theorem dX6_textOf_89 : decode cX6_textOf 89 = .ok (.areturn, 1) := by decide +kernel
theorem dX6_textOf_90 : decode cX6_textOf 90 = .ok (.ldc 248, 2) := by decide +kernel
theorem dX6_textOf_92 : decode cX6_textOf 92 = .ok (.areturn, 1) := by decide +kernel
theorem dX6_textOf_93 : decode cX6_textOf 93 = .ok (.ldc 250, 2) := by decide +kernel
theorem dX6_textOf_95 : decode cX6_textOf 95 = .ok (.areturn, 1) := by decide +kernel
set_option maxRecDepth 20000 in
theorem ggX6_readCommand_X6_word : GoodIn wsX6_readCommand wsX6_word := goodIn_ca (goodIn_r _ [8, 9, 10, 11, 7, 12, 13, 14, 15, 92, 93, 94, 95, 96, 97, 98, 99, 100, 101, 102, 103, 104, 105, 106, 107, 108] (by decide +kernel) (by decide +kernel)) (goodIn_sub (fun _ h => List.mem_cons_of_mem _ (List.mem_append_right _ h)) (by decide +kernel))
set_option maxRecDepth 20000 in
theorem gX6_readCommand_X6_word : GoodIn wsX6_readCommand (wsV RX6 252 RX6 yX6_word wsX6_word) := goodIn_app (goodIn_of _ (by decide +kernel)) ggX6_readCommand_X6_word
set_option maxRecDepth 20000 in
theorem ggX6_readCommand_X6_textOf : GoodIn wsX6_readCommand wsX6_textOf := goodIn_r _ [19] (by decide +kernel) (by decide +kernel)
set_option maxRecDepth 20000 in
theorem gX6_readCommand_X6_textOf : GoodIn wsX6_readCommand (wsV RX6 258 RX6 yX6_textOf wsX6_textOf) := goodIn_app (goodIn_of _ (by decide +kernel)) ggX6_readCommand_X6_textOf
set_option maxRecDepth 20000 in
theorem ggX6_readCommand_X6_skip : GoodIn wsX6_readCommand wsX6_skip := goodIn_ca (goodIn_r _ [23, 1, 13, 24, 25, 26, 27, 28, 29, 30, 31, 32, 33, 34, 35, 9, 10, 11, 7, 12, 14, 15, 36, 37, 38, 39, 40, 41, 42, 43, 44, 45, 46, 47, 48, 49, 50, 51, 52, 53, 54, 55, 56, 57, 58, 59, 60, 61, 62, 63, 64, 65, 66, 67, 68, 69, 70, 71, 72, 92, 93, 94, 95, 96, 97, 98, 99, 100, 101, 102, 103, 104, 105, 106, 107, 108, 109, 110, 111, 112] (by decide +kernel) (by decide +kernel)) (goodIn_sub (fun _ h => List.mem_cons_of_mem _ (List.mem_append_right _ h)) (by decide +kernel))
set_option maxRecDepth 20000 in
theorem gX6_readCommand_X6_skip : GoodIn wsX6_readCommand (wsV RX6 219 RX6 yX6_skip wsX6_skip) := goodIn_app (goodIn_of _ (by decide +kernel)) ggX6_readCommand_X6_skip
set_option maxRecDepth 20000 in
theorem ggX6_readCommand_X6_readFlow : GoodIn wsX6_readCommand wsX6_readFlow := goodIn_ca (goodIn_r _ [76, 20, 21, 22, 7, 23, 1, 13, 24, 25, 26, 27, 28, 29, 30, 31, 32, 33, 34, 35, 9, 10, 11, 12, 14, 15, 36, 37, 38, 39, 40, 41, 42, 43, 44, 45, 46, 47, 48, 49, 50, 51, 52, 53, 54, 55, 56, 57, 58, 59, 60, 61, 62, 63, 64, 65, 66, 67, 68, 69, 70, 71, 72, 77, 78, 79, 80, 81, 82, 83, 84, 85, 86, 87, 92, 93, 94, 95, 96, 97, 98, 99, 100, 101, 102, 103, 104, 105, 106, 107, 108, 109, 110, 111, 112] (by decide +kernel) (by decide +kernel)) (goodIn_sub (fun _ h => List.mem_cons_of_mem _ (List.mem_append_right _ h)) (by decide +kernel))
set_option maxRecDepth 20000 in
theorem gX6_readCommand_X6_readFlow : GoodIn wsX6_readCommand (wsV RX6 262 RX6 yX6_readFlow wsX6_readFlow) := goodIn_app (goodIn_of _ (by decide +kernel)) ggX6_readCommand_X6_readFlow
set_option maxRecDepth 20000 in
theorem ggX6_readCommand_X6_readNumber : GoodIn wsX6_readCommand wsX6_readNumber := goodIn_ca (goodIn_r _ [91, 20, 21, 22, 7, 23, 1, 13, 24, 25, 26, 27, 28, 29, 30, 31, 32, 33, 34, 35, 9, 10, 11, 12, 14, 15, 36, 37, 38, 39, 40, 41, 42, 43, 44, 45, 46, 47, 48, 49, 50, 51, 52, 53, 54, 55, 56, 57, 58, 59, 60, 61, 62, 63, 64, 65, 66, 67, 68, 69, 70, 71, 72, 77, 78, 79, 80, 81, 82, 83, 84, 85, 86, 87, 92, 93, 94, 95, 96, 97, 98, 99, 100, 101, 102, 103, 104, 105, 106, 107, 108, 109, 110, 111, 112] (by decide +kernel) (by decide +kernel)) (goodIn_sub (fun _ h => List.mem_cons_of_mem _ (List.mem_append_right _ h)) (by decide +kernel))
set_option maxRecDepth 20000 in
theorem gX6_readCommand_X6_readNumber : GoodIn wsX6_readCommand (wsV RX6 265 RX6 yX6_readNumber wsX6_readNumber) := goodIn_app (goodIn_of _ (by decide +kernel)) ggX6_readCommand_X6_readNumber
theorem dX6_readCommand_0 : decode cX6_readCommand 0 = .ok (.aload_n 0, 1) := by decide +kernel
theorem dX6_readCommand_1 : decode cX6_readCommand 1 = .ok (.getfield 202, 3) := by decide +kernel
theorem dX6_readCommand_4 : decode cX6_readCommand 4 = .ok (.ifCond .eq 4, 3) := by decide +kernel
theorem dX6_readCommand_7 : decode cX6_readCommand 7 = .ok (.return_, 1) := by decide +kernel
theorem dX6_readCommand_8 : decode cX6_readCommand 8 = .ok (.aload_n 0, 1) := by decide +kernel
theorem dX6_readCommand_9 : decode cX6_readCommand 9 = .ok (.invokevirtual 252, 3) := by decide +kernel
theorem dX6_readCommand_12 : decode cX6_readCommand 12 = .ok (.istore_n 1, 1) := by decide +kernel
theorem dX6_readCommand_13 : decode cX6_readCommand 13 = .ok (.iconst 4, 1) := by decide +kernel
theorem dX6_readCommand_14 : decode cX6_readCommand 14 = .ok (.aload_n 0, 1) := by decide +kernel
theorem dX6_readCommand_15 : decode cX6_readCommand 15 = .ok (.getfield 255, 3) := by decide +kernel
theorem dX6_readCommand_18 : decode cX6_readCommand 18 = .ok (.imul, 1) := by decide +kernel
theorem dX6_readCommand_19 : decode cX6_readCommand 19 = .ok (.istore_n 2, 1) := by decide +kernel
theorem dX6_readCommand_20 : decode cX6_readCommand 20 = .ok (.aload_n 0, 1) := by decide +kernel
theorem dX6_readCommand_21 : decode cX6_readCommand 21 = .ok (.aload_n 0, 1) := by decide +kernel
theorem dX6_readCommand_22 : decode cX6_readCommand 22 = .ok (.iload_n 1, 1) := by decide +kernel
theorem dX6_readCommand_23 : decode cX6_readCommand 23 = .ok (.invokevirtual 258, 3) := by decide +kernel
theorem dX6_readCommand_26 : decode cX6_readCommand 26 = .ok (.invokevirtual 219, 3) := by decide +kernel
theorem dX6_readCommand_29 : decode cX6_readCommand 29 = .ok (.aload_n 0, 1) := by decide +kernel
theorem dX6_readCommand_30 : decode cX6_readCommand 30 = .ok (.getfield 36, 3) := by decide +kernel
theorem dX6_readCommand_33 : decode cX6_readCommand 33 = .ok (.iload_n 2, 1) := by decide +kernel
theorem dX6_readCommand_34 : decode cX6_readCommand 34 = .ok (.iload_n 1, 1) := by decide +kernel
theorem dX6_readCommand_35 : decode cX6_readCommand 35 = .ok (.iastore, 1) := by decide +kernel
theorem dX6_readCommand_36 : decode cX6_readCommand 36 = .ok (.iload_n 1, 1) := by decide +kernel
theorem dX6_readCommand_37 : decode cX6_readCommand 37 = .ok (.iconst 3, 1) := by decide +kernel
theorem dX6_readCommand_38 : decode cX6_readCommand 38 = .ok (.if_icmp .ge 7, 3) := by decide +kernel
theorem dX6_readCommand_41 : decode cX6_readCommand 41 = .ok (.iconst 3, 1) := by decide +kernel
theorem dX6_readCommand_42 : decode cX6_readCommand 42 = .ok (.goto 24, 3) := by decide +kernel
theorem dX6_readCommand_45 : decode cX6_readCommand 45 = .ok (.iload_n 1, 1) := by decide +kernel
theorem dX6_readCommand_46 : decode cX6_readCommand 46 = .ok (.bipush 7, 2) := by decide +kernel
theorem dX6_readCommand_48 : decode cX6_readCommand 48 = .ok (.if_icmp .ne 7, 3) := by decide +kernel
theorem dX6_readCommand_51 : decode cX6_readCommand 51 = .ok (.iconst 0, 1) := by decide +kernel
theorem dX6_readCommand_52 : decode cX6_readCommand 52 = .ok (.goto 14, 3) := by decide +kernel
theorem dX6_readCommand_55 : decode cX6_readCommand 55 = .ok (.iload_n 1, 1) := by decide +kernel
theorem dX6_readCommand_56 : decode cX6_readCommand 56 = .ok (.bipush 8, 2) := by decide +kernel
theorem dX6_readCommand_58 : decode cX6_readCommand 58 = .ok (.if_icmp .ne 7, 3) := by decide +kernel
theorem dX6_readCommand_61 : decode cX6_readCommand 61 = .ok (.iconst 2, 1) := by decide +kernel
theorem dX6_readCommand_62 : decode cX6_readCommand 62 = .ok (.goto 4, 3) := by decide +kernel
theorem dX6_readCommand_65 : decode cX6_readCommand 65 = .ok (.iconst 1, 1) := by decide +kernel
theorem dX6_readCommand_66 : decode cX6_readCommand 66 = .ok (.istore_n 3, 1) := by decide +kernel
theorem dX6_readCommand_67 : decode cX6_readCommand 67 = .ok (.iconst 0, 1) := by decide +kernel
theorem dX6_readCommand_68 : decode cX6_readCommand 68 = .ok (.istore 4, 2) := by decide +kernel
theorem dX6_readCommand_70 : decode cX6_readCommand 70 = .ok (.iload 4, 2) := by decide +kernel
theorem dX6_readCommand_72 : decode cX6_readCommand 72 = .ok (.iload_n 3, 1) := by decide +kernel
theorem dX6_readCommand_73 : decode cX6_readCommand 73 = .ok (.if_icmp .ge 44, 3) := by decide +kernel
theorem dX6_readCommand_76 : decode cX6_readCommand 76 = .ok (.aload_n 0, 1) := by decide +kernel
theorem dX6_readCommand_77 : decode cX6_readCommand 77 = .ok (.getfield 202, 3) := by decide +kernel
theorem dX6_readCommand_80 : decode cX6_readCommand 80 = .ok (.ifCond .ne 37, 3) := by decide +kernel
theorem dX6_readCommand_83 : decode cX6_readCommand 83 = .ok (.aload_n 0, 1) := by decide +kernel
theorem dX6_readCommand_84 : decode cX6_readCommand 84 = .ok (.getfield 36, 3) := by decide +kernel
theorem dX6_readCommand_87 : decode cX6_readCommand 87 = .ok (.iload_n 2, 1) := by decide +kernel
theorem dX6_readCommand_88 : decode cX6_readCommand 88 = .ok (.iconst 1, 1) := by decide +kernel
theorem dX6_readCommand_89 : decode cX6_readCommand 89 = .ok (.iadd, 1) := by decide +kernel
theorem dX6_readCommand_90 : decode cX6_readCommand 90 = .ok (.iload 4, 2) := by decide +kernel
theorem dX6_readCommand_92 : decode cX6_readCommand 92 = .ok (.iadd, 1) := by decide +kernel
theorem dX6_readCommand_93 : decode cX6_readCommand 93 = .ok (.iload_n 1, 1) := by decide +kernel
theorem dX6_readCommand_94 : decode cX6_readCommand 94 = .ok (.bipush 10, 2) := by decide +kernel
theorem dX6_readCommand_96 : decode cX6_readCommand 96 = .ok (.if_icmp .ne 10, 3) := by decide +kernel
theorem dX6_readCommand_99 : decode cX6_readCommand 99 = .ok (.aload_n 0, 1) := by decide +kernel
theorem dX6_readCommand_100 : decode cX6_readCommand 100 = .ok (.invokevirtual 262, 3) := by decide +kernel
theorem dX6_readCommand_103 : decode cX6_readCommand 103 = .ok (.goto 7, 3) := by decide +kernel
theorem dX6_readCommand_106 : decode cX6_readCommand 106 = .ok (.aload_n 0, 1) := by decide +kernel
theorem dX6_readCommand_107 : decode cX6_readCommand 107 = .ok (.invokevirtual 265, 3) := by decide +kernel
theorem dX6_readCommand_110 : decode cX6_readCommand 110 = .ok (.iastore, 1) := by decide +kernel
theorem dX6_readCommand_111 : decode cX6_readCommand 111 = .ok (.iinc 4 1, 3) := by decide +kernel
theorem dX6_readCommand_114 : decode cX6_readCommand 114 = .ok (.goto (-44), 3) := by decide +kernel
theorem dX6_readCommand_117 : decode cX6_readCommand 117 = .ok (.aload_n 0, 1) := by decide +kernel
theorem dX6_readCommand_118 : decode cX6_readCommand 118 = .ok (.dup, 1) := by decide +kernel
theorem dX6_readCommand_119 : decode cX6_readCommand 119 = .ok (.getfield 255, 3) := by decide +kernel
theorem dX6_readCommand_122 : decode cX6_readCommand 122 = .ok (.iconst 1, 1) := by decide +kernel
theorem dX6_readCommand_123 : decode cX6_readCommand 123 = .ok (.iadd, 1) := by decide +kernel
theorem dX6_readCommand_124 : decode cX6_readCommand 124 = .ok (.putfield 255, 3) := by decide +kernel
theorem dX6_readCommand_127 : decode cX6_readCommand 127 = .ok (.return_, 1) := by decide +kernel
set_option maxRecDepth 20000 in
theorem ggX6_does_X6_doAdd : GoodIn wsX6_does wsX6_doAdd := goodIn_ca (goodIn_r _ [6, 7, 8, 9, 5, 10, 11, 12, 13, 14, 15, 16, 17, 18, 128, 129, 130, 131, 132, 133, 134, 135, 136, 137, 138, 139, 140, 141, 142, 143, 144] (by decide +kernel) (by decide +kernel)) (goodIn_sub (fun _ h => List.mem_cons_of_mem _ (List.mem_append_left _ (List.mem_append_right _ h))) (by decide +kernel))
set_option maxRecDepth 20000 in
theorem gX6_does_X6_doAdd : GoodIn wsX6_does (wsV RX6 100 RX6 yX6_doAdd wsX6_doAdd) := goodIn_app (goodIn_of _ (by decide +kernel)) ggX6_does_X6_doAdd
set_option maxRecDepth 20000 in
theorem ggX6_does_X6_doRemoveMoon : GoodIn wsX6_does wsX6_doRemoveMoon := goodIn_ca (goodIn_r _ [22, 7, 23, 24, 25, 26, 27, 28, 29, 5, 30, 8, 9, 10, 14, 15, 16, 17, 18, 128, 129, 130, 131, 132, 133, 134, 135, 136, 137, 138, 139, 140, 141, 142, 143, 144] (by decide +kernel) (by decide +kernel)) (goodIn_sub (fun _ h => List.mem_cons_of_mem _ (List.mem_append_left _ (List.mem_append_right _ h))) (by decide +kernel))
set_option maxRecDepth 20000 in
theorem gX6_does_X6_doRemoveMoon : GoodIn wsX6_does (wsV RX6 110 RX6 yX6_doRemoveMoon wsX6_doRemoveMoon) := goodIn_app (goodIn_of _ (by decide +kernel)) ggX6_does_X6_doRemoveMoon
set_option maxRecDepth 20000 in
theorem ggX6_does_X6_doPlaceToe : GoodIn wsX6_does wsX6_doPlaceToe := goodIn_ca (goodIn_r _ [34, 7, 11, 12, 5, 13, 8, 9, 10, 14, 15, 16, 17, 18, 35, 36, 37, 38, 128, 129, 130, 131, 132, 133, 134, 135, 136, 137, 138, 139, 140, 141, 142, 143, 144] (by decide +kernel) (by decide +kernel)) (goodIn_sub (fun _ h => List.mem_cons_of_mem _ (List.mem_append_left _ (List.mem_append_right _ h))) (by decide +kernel))
set_option maxRecDepth 20000 in
theorem gX6_does_X6_doPlaceToe : GoodIn wsX6_does (wsV RX6 121 RX6 yX6_doPlaceToe wsX6_doPlaceToe) := goodIn_app (goodIn_of _ (by decide +kernel)) ggX6_does_X6_doPlaceToe
set_option maxRecDepth 20000 in
theorem ggX6_does_X6_doRemoveToe : GoodIn wsX6_does wsX6_doRemoveToe := goodIn_ca (goodIn_r _ [42, 7, 11, 12, 5, 13, 8, 9, 10, 14, 15, 16, 17, 18, 35, 36, 37, 38, 128, 129, 130, 131, 132, 133, 134, 135, 136, 137, 138, 139, 140, 141, 142, 143, 144] (by decide +kernel) (by decide +kernel)) (goodIn_sub (fun _ h => List.mem_cons_of_mem _ (List.mem_append_left _ (List.mem_append_right _ h))) (by decide +kernel))
set_option maxRecDepth 20000 in
theorem gX6_does_X6_doRemoveToe : GoodIn wsX6_does (wsV RX6 124 RX6 yX6_doRemoveToe wsX6_doRemoveToe) := goodIn_app (goodIn_of _ (by decide +kernel)) ggX6_does_X6_doRemoveToe
set_option maxRecDepth 20000 in
theorem ggX6_does_X6_doInsertPlug : GoodIn wsX6_does wsX6_doInsertPlug := goodIn_ca (goodIn_r _ [46, 7, 11, 12, 5, 13, 8, 9, 10, 14, 15, 16, 17, 18, 128, 129, 130, 131, 132, 133, 134, 135, 136, 137, 138, 139, 140, 141, 142, 143, 144] (by decide +kernel) (by decide +kernel)) (goodIn_sub (fun _ h => List.mem_cons_of_mem _ (List.mem_append_left _ (List.mem_append_right _ h))) (by decide +kernel))
set_option maxRecDepth 20000 in
theorem gX6_does_X6_doInsertPlug : GoodIn wsX6_does (wsV RX6 127 RX6 yX6_doInsertPlug wsX6_doInsertPlug) := goodIn_app (goodIn_of _ (by decide +kernel)) ggX6_does_X6_doInsertPlug
set_option maxRecDepth 20000 in
theorem ggX6_does_X6_doPullPlug : GoodIn wsX6_does wsX6_doPullPlug := goodIn_ca (goodIn_r _ [50, 7, 14, 15, 16, 5, 17, 18, 128, 129, 130, 131, 132, 133, 134, 135, 136, 137, 138, 139, 140, 141, 142, 143, 144] (by decide +kernel) (by decide +kernel)) (goodIn_sub (fun _ h => List.mem_cons_of_mem _ (List.mem_append_left _ (List.mem_append_right _ h))) (by decide +kernel))
set_option maxRecDepth 20000 in
theorem gX6_does_X6_doPullPlug : GoodIn wsX6_does (wsV RX6 130 RX6 yX6_doPullPlug wsX6_doPullPlug) := goodIn_app (goodIn_of _ (by decide +kernel)) ggX6_does_X6_doPullPlug
set_option maxRecDepth 20000 in
theorem ggX6_does_X6_doLayTowel : GoodIn wsX6_does wsX6_doLayTowel := goodIn_ca (goodIn_r _ [54, 7, 11, 12, 5, 13, 8, 9, 10, 14, 15, 16, 17, 18, 55, 56, 57, 58, 59, 60, 61, 62, 128, 129, 130, 131, 132, 133, 134, 135, 136, 137, 138, 139, 140, 141, 142, 143, 144] (by decide +kernel) (by decide +kernel)) (goodIn_sub (fun _ h => List.mem_cons_of_mem _ (List.mem_append_left _ (List.mem_append_right _ h))) (by decide +kernel))
set_option maxRecDepth 20000 in
theorem gX6_does_X6_doLayTowel : GoodIn wsX6_does (wsV RX6 139 RX6 yX6_doLayTowel wsX6_doLayTowel) := goodIn_app (goodIn_of _ (by decide +kernel)) ggX6_does_X6_doLayTowel
set_option maxRecDepth 20000 in
theorem ggX6_does_X6_doWringTowel : GoodIn wsX6_does wsX6_doWringTowel := goodIn_ca (goodIn_r _ [66, 67, 68, 69, 5, 70, 7, 8, 9, 10, 71, 72, 73, 74, 75, 76, 77, 78, 14, 15, 16, 17, 18, 128, 129, 130, 131, 132, 133, 134, 135, 136, 137, 138, 139, 140, 141, 142, 143, 144] (by decide +kernel) (by decide +kernel)) (goodIn_sub (fun _ h => List.mem_cons_of_mem _ (List.mem_append_left _ (List.mem_append_right _ h))) (by decide +kernel))
set_option maxRecDepth 20000 in
theorem gX6_does_X6_doWringTowel : GoodIn wsX6_does (wsV RX6 151 RX6 yX6_doWringTowel wsX6_doWringTowel) := goodIn_app (goodIn_of _ (by decide +kernel)) ggX6_does_X6_doWringTowel
set_option maxRecDepth 20000 in
theorem ggX6_does_X6_doSetFlow : GoodIn wsX6_does wsX6_doSetFlow := goodIn_ca (goodIn_r _ [82, 7, 8, 9, 5, 10, 14, 15, 16, 17, 18, 128, 129, 130, 131, 132, 133, 134, 135, 136, 137, 138, 139, 140, 141, 142, 143, 144] (by decide +kernel) (by decide +kernel)) (goodIn_sub (fun _ h => List.mem_cons_of_mem _ (List.mem_append_left _ (List.mem_append_right _ h))) (by decide +kernel))
set_option maxRecDepth 20000 in
theorem gX6_does_X6_doSetFlow : GoodIn wsX6_does (wsV RX6 154 RX6 yX6_doSetFlow wsX6_doSetFlow) := goodIn_app (goodIn_of _ (by decide +kernel)) ggX6_does_X6_doSetFlow
set_option maxRecDepth 20000 in
theorem ggX6_does_X6_doAdvance : GoodIn wsX6_does wsX6_doAdvance := goodIn_ca (goodIn_ca (goodIn_r _ [86, 8, 9, 5, 10, 14, 15, 16, 17, 18, 87, 88, 89, 90, 7, 91, 92, 77, 93, 75, 76, 78, 94, 95, 96, 97, 98, 99, 100, 101, 102, 103, 104, 105, 106, 107, 108, 109, 110, 111, 112, 113, 114, 115, 116, 117, 118, 119, 120, 121, 122, 123, 124, 125, 126, 127, 128, 129, 130, 131, 132, 133, 134, 135, 136, 137, 138, 139, 140, 141, 142, 143, 144] (by decide +kernel) (by decide +kernel)) (goodIn_sub (fun _ h => List.mem_cons_of_mem _ (List.mem_append_left _ (List.mem_append_right _ h))) (by decide +kernel))) (goodIn_sub (fun _ h => List.mem_cons_of_mem _ (List.mem_append_right _ h)) (by decide +kernel))
set_option maxRecDepth 20000 in
theorem gX6_does_X6_doAdvance : GoodIn wsX6_does (wsV RX6 163 RX6 yX6_doAdvance wsX6_doAdvance) := goodIn_app (goodIn_of _ (by decide +kernel)) ggX6_does_X6_doAdvance
theorem dX6_does_0 : decode cX6_does 0 = .ok (.aload_n 0, 1) := by decide +kernel
theorem dX6_does_1 : decode cX6_does 1 = .ok (.getfield 36, 3) := by decide +kernel
theorem dX6_does_4 : decode cX6_does 4 = .ok (.iconst 4, 1) := by decide +kernel
theorem dX6_does_5 : decode cX6_does 5 = .ok (.iload_n 1, 1) := by decide +kernel
theorem dX6_does_6 : decode cX6_does 6 = .ok (.imul, 1) := by decide +kernel
theorem dX6_does_7 : decode cX6_does 7 = .ok (.iconst 1, 1) := by decide +kernel
theorem dX6_does_8 : decode cX6_does 8 = .ok (.iadd, 1) := by decide +kernel
theorem dX6_does_9 : decode cX6_does 9 = .ok (.iaload, 1) := by decide +kernel
theorem dX6_does_10 : decode cX6_does 10 = .ok (.istore_n 2, 1) := by decide +kernel
theorem dX6_does_11 : decode cX6_does 11 = .ok (.aload_n 0, 1) := by decide +kernel
theorem dX6_does_12 : decode cX6_does 12 = .ok (.getfield 36, 3) := by decide +kernel
theorem dX6_does_15 : decode cX6_does 15 = .ok (.iconst 4, 1) := by decide +kernel
theorem dX6_does_16 : decode cX6_does 16 = .ok (.iload_n 1, 1) := by decide +kernel
theorem dX6_does_17 : decode cX6_does 17 = .ok (.imul, 1) := by decide +kernel
theorem dX6_does_18 : decode cX6_does 18 = .ok (.iconst 2, 1) := by decide +kernel
theorem dX6_does_19 : decode cX6_does 19 = .ok (.iadd, 1) := by decide +kernel
theorem dX6_does_20 : decode cX6_does 20 = .ok (.iaload, 1) := by decide +kernel
theorem dX6_does_21 : decode cX6_does 21 = .ok (.istore_n 3, 1) := by decide +kernel
theorem dX6_does_22 : decode cX6_does 22 = .ok (.aload_n 0, 1) := by decide +kernel
theorem dX6_does_23 : decode cX6_does 23 = .ok (.getfield 36, 3) := by decide +kernel
theorem dX6_does_26 : decode cX6_does 26 = .ok (.iconst 4, 1) := by decide +kernel
theorem dX6_does_27 : decode cX6_does 27 = .ok (.iload_n 1, 1) := by decide +kernel
theorem dX6_does_28 : decode cX6_does 28 = .ok (.imul, 1) := by decide +kernel
theorem dX6_does_29 : decode cX6_does 29 = .ok (.iaload, 1) := by decide +kernel
theorem dX6_does_30 : decode cX6_does 30 = .ok (.tableswitch 167 0 10 #[58, 58, 58, 87, 97, 107, 117, 127, 136, 147, 157], 58) := by decide +kernel
theorem dX6_does_88 : decode cX6_does 88 = .ok (.aload_n 0, 1) := by decide +kernel
theorem dX6_does_89 : decode cX6_does 89 = .ok (.aload_n 0, 1) := by decide +kernel
theorem dX6_does_90 : decode cX6_does 90 = .ok (.getfield 36, 3) := by decide +kernel
theorem dX6_does_93 : decode cX6_does 93 = .ok (.iconst 4, 1) := by decide +kernel
theorem dX6_does_94 : decode cX6_does 94 = .ok (.iload_n 1, 1) := by decide +kernel
theorem dX6_does_95 : decode cX6_does 95 = .ok (.imul, 1) := by decide +kernel
theorem dX6_does_96 : decode cX6_does 96 = .ok (.iaload, 1) := by decide +kernel
theorem dX6_does_97 : decode cX6_does 97 = .ok (.iload_n 2, 1) := by decide +kernel
theorem dX6_does_98 : decode cX6_does 98 = .ok (.iload_n 3, 1) := by decide +kernel
theorem dX6_does_99 : decode cX6_does 99 = .ok (.aload_n 0, 1) := by decide +kernel
theorem dX6_does_100 : decode cX6_does 100 = .ok (.getfield 36, 3) := by decide +kernel
theorem dX6_does_103 : decode cX6_does 103 = .ok (.iconst 4, 1) := by decide +kernel
theorem dX6_does_104 : decode cX6_does 104 = .ok (.iload_n 1, 1) := by decide +kernel
theorem dX6_does_105 : decode cX6_does 105 = .ok (.imul, 1) := by decide +kernel
theorem dX6_does_106 : decode cX6_does 106 = .ok (.iconst 3, 1) := by decide +kernel
theorem dX6_does_107 : decode cX6_does 107 = .ok (.iadd, 1) := by decide +kernel
theorem dX6_does_108 : decode cX6_does 108 = .ok (.iaload, 1) := by decide +kernel
theorem dX6_does_109 : decode cX6_does 109 = .ok (.invokevirtual 100, 3) := by decide +kernel
theorem dX6_does_112 : decode cX6_does 112 = .ok (.istore 4, 2) := by decide +kernel
theorem dX6_does_114 : decode cX6_does 114 = .ok (.goto 90, 3) := by decide +kernel
theorem dX6_does_117 : decode cX6_does 117 = .ok (.aload_n 0, 1) := by decide +kernel
theorem dX6_does_118 : decode cX6_does 118 = .ok (.iload_n 2, 1) := by decide +kernel
theorem dX6_does_119 : decode cX6_does 119 = .ok (.invokevirtual 110, 3) := by decide +kernel
theorem dX6_does_122 : decode cX6_does 122 = .ok (.istore 4, 2) := by decide +kernel
theorem dX6_does_124 : decode cX6_does 124 = .ok (.goto 80, 3) := by decide +kernel
theorem dX6_does_127 : decode cX6_does 127 = .ok (.aload_n 0, 1) := by decide +kernel
theorem dX6_does_128 : decode cX6_does 128 = .ok (.iload_n 2, 1) := by decide +kernel
theorem dX6_does_129 : decode cX6_does 129 = .ok (.invokevirtual 121, 3) := by decide +kernel
theorem dX6_does_132 : decode cX6_does 132 = .ok (.istore 4, 2) := by decide +kernel
theorem dX6_does_134 : decode cX6_does 134 = .ok (.goto 70, 3) := by decide +kernel
theorem dX6_does_137 : decode cX6_does 137 = .ok (.aload_n 0, 1) := by decide +kernel
theorem dX6_does_138 : decode cX6_does 138 = .ok (.iload_n 2, 1) := by decide +kernel
theorem dX6_does_139 : decode cX6_does 139 = .ok (.invokevirtual 124, 3) := by decide +kernel
theorem dX6_does_142 : decode cX6_does 142 = .ok (.istore 4, 2) := by decide +kernel
theorem dX6_does_144 : decode cX6_does 144 = .ok (.goto 60, 3) := by decide +kernel
theorem dX6_does_147 : decode cX6_does 147 = .ok (.aload_n 0, 1) := by decide +kernel
theorem dX6_does_148 : decode cX6_does 148 = .ok (.iload_n 2, 1) := by decide +kernel
theorem dX6_does_149 : decode cX6_does 149 = .ok (.invokevirtual 127, 3) := by decide +kernel
theorem dX6_does_152 : decode cX6_does 152 = .ok (.istore 4, 2) := by decide +kernel
theorem dX6_does_154 : decode cX6_does 154 = .ok (.goto 50, 3) := by decide +kernel
theorem dX6_does_157 : decode cX6_does 157 = .ok (.aload_n 0, 1) := by decide +kernel
theorem dX6_does_158 : decode cX6_does 158 = .ok (.invokevirtual 130, 3) := by decide +kernel
theorem dX6_does_161 : decode cX6_does 161 = .ok (.istore 4, 2) := by decide +kernel
theorem dX6_does_163 : decode cX6_does 163 = .ok (.goto 41, 3) := by decide +kernel
theorem dX6_does_166 : decode cX6_does 166 = .ok (.aload_n 0, 1) := by decide +kernel
theorem dX6_does_167 : decode cX6_does 167 = .ok (.iload_n 2, 1) := by decide +kernel
theorem dX6_does_168 : decode cX6_does 168 = .ok (.iload_n 3, 1) := by decide +kernel
theorem dX6_does_169 : decode cX6_does 169 = .ok (.invokevirtual 139, 3) := by decide +kernel
theorem dX6_does_172 : decode cX6_does 172 = .ok (.istore 4, 2) := by decide +kernel
theorem dX6_does_174 : decode cX6_does 174 = .ok (.goto 30, 3) := by decide +kernel
theorem dX6_does_177 : decode cX6_does 177 = .ok (.aload_n 0, 1) := by decide +kernel
theorem dX6_does_178 : decode cX6_does 178 = .ok (.iload_n 2, 1) := by decide +kernel
theorem dX6_does_179 : decode cX6_does 179 = .ok (.invokevirtual 151, 3) := by decide +kernel
theorem dX6_does_182 : decode cX6_does 182 = .ok (.istore 4, 2) := by decide +kernel
theorem dX6_does_184 : decode cX6_does 184 = .ok (.goto 20, 3) := by decide +kernel
theorem dX6_does_187 : decode cX6_does 187 = .ok (.aload_n 0, 1) := by decide +kernel
theorem dX6_does_188 : decode cX6_does 188 = .ok (.iload_n 2, 1) := by decide +kernel
theorem dX6_does_189 : decode cX6_does 189 = .ok (.invokevirtual 154, 3) := by decide +kernel
theorem dX6_does_192 : decode cX6_does 192 = .ok (.istore 4, 2) := by decide +kernel
theorem dX6_does_194 : decode cX6_does 194 = .ok (.goto 10, 3) := by decide +kernel
theorem dX6_does_197 : decode cX6_does 197 = .ok (.aload_n 0, 1) := by decide +kernel
theorem dX6_does_198 : decode cX6_does 198 = .ok (.iload_n 2, 1) := by decide +kernel
theorem dX6_does_199 : decode cX6_does 199 = .ok (.invokevirtual 163, 3) := by decide +kernel
theorem dX6_does_202 : decode cX6_does 202 = .ok (.istore 4, 2) := by decide +kernel
theorem dX6_does_204 : decode cX6_does 204 = .ok (.return_, 1) := by decide +kernel
set_option maxRecDepth 20000 in
theorem ggX6_execute_X6_readCommand : GoodIn wsX6_execute wsX6_readCommand := goodIn_ca (goodIn_r _ [12, 2, 3, 13, 14, 15, 16, 11, 17, 18, 19, 20, 21, 1, 4, 22, 23, 24, 25, 26, 27, 28, 29, 30, 31, 32, 33, 34, 35, 36, 37, 38, 39, 40, 41, 42, 43, 44, 45, 46, 47, 48, 49, 50, 51, 52, 53, 54, 55, 56, 57, 58, 59, 60, 61, 62, 63, 64, 65, 66, 67, 68, 69, 70, 71, 72, 73, 74, 75, 76, 77, 78, 79, 80, 81, 82, 83, 84, 85, 86, 87, 88, 89, 90, 91, 92, 93, 94, 95, 96, 97, 98, 235, 236, 237, 238, 239, 240, 241, 242, 243, 244, 245, 246, 247, 248, 249, 250, 251, 252, 253, 254, 255] (by decide +kernel) (by decide +kernel)) (goodIn_sub (fun _ h => List.mem_cons_of_mem _ (List.mem_append_left _ (List.mem_append_right _ h))) (by decide +kernel))
set_option maxRecDepth 20000 in
theorem gX6_execute_X6_readCommand : GoodIn wsX6_execute (wsV RX6 268 RX6 yX6_readCommand wsX6_readCommand) := goodIn_app (goodIn_of _ (by decide +kernel)) ggX6_execute_X6_readCommand
set_option maxRecDepth 20000 in
theorem ggX6_execute_X6_behind : GoodIn wsX6_execute wsX6_behind := goodIn_ca (goodIn_r _ [21, 1, 4, 22, 235, 236, 237, 238, 239, 240, 241, 242, 243, 244, 245, 246, 247, 248, 249, 250, 251] (by decide +kernel) (by decide +kernel)) (goodIn_sub (fun _ h => List.mem_cons_of_mem _ (List.mem_append_left _ (List.mem_append_right _ h))) (by decide +kernel))
set_option maxRecDepth 20000 in
theorem gX6_execute_X6_behind : GoodIn wsX6_execute (wsV RX6 206 RX6 yX6_behind wsX6_behind) := goodIn_app (goodIn_of _ (by decide +kernel)) ggX6_execute_X6_behind
set_option maxRecDepth 20000 in
theorem ggX6_execute_X6_fails : GoodIn wsX6_execute wsX6_fails := goodIn_r _ [102, 6, 235, 236, 237, 238, 239, 240, 241, 242, 243, 244, 245, 246, 247, 248, 249, 250, 251] (by decide +kernel) (by decide +kernel)
set_option maxRecDepth 20000 in
theorem gX6_execute_X6_fails : GoodIn wsX6_execute (wsV RX6 94 RX6 yX6_fails wsX6_fails) := goodIn_app (goodIn_of _ (by decide +kernel)) ggX6_execute_X6_fails
set_option maxRecDepth 20000 in
theorem ggX6_execute_X6_keep : GoodIn wsX6_execute wsX6_keep := goodIn_r _ [106, 6, 107, 108, 109, 110, 111, 112, 235, 236, 237, 238, 239, 240, 241, 242, 243, 244, 245, 246, 247, 248, 249, 250, 251] (by decide +kernel) (by decide +kernel)
set_option maxRecDepth 20000 in
theorem gX6_execute_X6_keep : GoodIn wsX6_execute (wsV RX6 97 RX6 yX6_keep wsX6_keep) := goodIn_app (goodIn_of _ (by decide +kernel)) ggX6_execute_X6_keep
set_option maxRecDepth 20000 in
theorem ggX6_execute_X6_does : GoodIn wsX6_execute wsX6_does := goodIn_ca (goodIn_ca (goodIn_r _ [116, 13, 117, 118, 119, 11, 120, 107, 92, 93, 94, 121, 122, 123, 99, 100, 101, 102, 6, 124, 125, 126, 127, 109, 110, 111, 112, 128, 129, 130, 131, 132, 133, 134, 135, 136, 137, 138, 139, 140, 141, 142, 143, 144, 145, 146, 147, 148, 149, 150, 151, 152, 153, 154, 155, 156, 157, 158, 159, 160, 161, 162, 163, 164, 165, 166, 167, 168, 169, 170, 171, 172, 173, 174, 175, 176, 177, 178, 179, 180, 181, 182, 183, 184, 185, 186, 187, 188, 189, 190, 191, 192, 193, 194, 195, 196, 197, 198, 199, 200, 201, 202, 203, 204, 205, 206, 207, 208, 209, 210, 211, 212, 213, 214, 215, 216, 217, 218, 219, 220, 221, 222, 223, 224, 225, 226, 227, 228, 235, 236, 237, 238, 239, 240, 241, 242, 243, 244, 245, 246, 247, 248, 249, 250, 251] (by decide +kernel) (by decide +kernel)) (goodIn_sub (fun _ h => List.mem_cons_of_mem _ (List.mem_append_left _ (List.mem_append_right _ h))) (by decide +kernel))) (goodIn_sub (fun _ h => List.mem_cons_of_mem _ (List.mem_append_right _ h)) (by decide +kernel))
set_option maxRecDepth 20000 in
theorem gX6_execute_X6_does : GoodIn wsX6_execute (wsV RX6 271 RX6 yX6_does wsX6_does) := goodIn_app (goodIn_of _ (by decide +kernel)) ggX6_execute_X6_does
set_option maxRecDepth 20000 in
theorem ggX6_execute_X6_ends : GoodIn wsX6_execute wsX6_ends := goodIn_r _ [232, 6, 108, 107, 109, 110, 111, 112, 233, 234, 235, 236, 237, 238, 239, 240, 241, 242, 243, 244, 245, 246, 247, 248, 249, 250, 251] (by decide +kernel) (by decide +kernel)
set_option maxRecDepth 20000 in
theorem gX6_execute_X6_ends : GoodIn wsX6_execute (wsV RX6 104 RX6 yX6_ends wsX6_ends) := goodIn_app (goodIn_of _ (by decide +kernel)) ggX6_execute_X6_ends
theorem dX6_execute_0 : decode cX6_execute 0 = .ok (.aload_n 0, 1) := by decide +kernel
theorem dX6_execute_1 : decode cX6_execute 1 = .ok (.iconst 0, 1) := by decide +kernel
theorem dX6_execute_2 : decode cX6_execute 2 = .ok (.putfield 195, 3) := by decide +kernel
theorem dX6_execute_5 : decode cX6_execute 5 = .ok (.aload_n 0, 1) := by decide +kernel
theorem dX6_execute_6 : decode cX6_execute 6 = .ok (.iconst 0, 1) := by decide +kernel
theorem dX6_execute_7 : decode cX6_execute 7 = .ok (.putfield 202, 3) := by decide +kernel
theorem dX6_execute_10 : decode cX6_execute 10 = .ok (.aload_n 0, 1) := by decide +kernel
theorem dX6_execute_11 : decode cX6_execute 11 = .ok (.iconst 0, 1) := by decide +kernel
theorem dX6_execute_12 : decode cX6_execute 12 = .ok (.putfield 255, 3) := by decide +kernel
theorem dX6_execute_15 : decode cX6_execute 15 = .ok (.aload_n 0, 1) := by decide +kernel
theorem dX6_execute_16 : decode cX6_execute 16 = .ok (.invokevirtual 268, 3) := by decide +kernel
theorem dX6_execute_19 : decode cX6_execute 19 = .ok (.aload_n 0, 1) := by decide +kernel
theorem dX6_execute_20 : decode cX6_execute 20 = .ok (.getfield 202, 3) := by decide +kernel
theorem dX6_execute_23 : decode cX6_execute 23 = .ok (.ifCond .ne 30, 3) := by decide +kernel
theorem dX6_execute_26 : decode cX6_execute 26 = .ok (.aload_n 0, 1) := by decide +kernel
theorem dX6_execute_27 : decode cX6_execute 27 = .ok (.iconst 0, 1) := by decide +kernel
theorem dX6_execute_28 : decode cX6_execute 28 = .ok (.invokevirtual 206, 3) := by decide +kernel
theorem dX6_execute_31 : decode cX6_execute 31 = .ok (.bipush 59, 2) := by decide +kernel
theorem dX6_execute_33 : decode cX6_execute 33 = .ok (.if_icmp .ne 20, 3) := by decide +kernel
theorem dX6_execute_36 : decode cX6_execute 36 = .ok (.aload_n 0, 1) := by decide +kernel
theorem dX6_execute_37 : decode cX6_execute 37 = .ok (.dup, 1) := by decide +kernel
theorem dX6_execute_38 : decode cX6_execute 38 = .ok (.getfield 195, 3) := by decide +kernel
theorem dX6_execute_41 : decode cX6_execute 41 = .ok (.iconst 1, 1) := by decide +kernel
theorem dX6_execute_42 : decode cX6_execute 42 = .ok (.iadd, 1) := by decide +kernel
theorem dX6_execute_43 : decode cX6_execute 43 = .ok (.putfield 195, 3) := by decide +kernel
theorem dX6_execute_46 : decode cX6_execute 46 = .ok (.aload_n 0, 1) := by decide +kernel
theorem dX6_execute_47 : decode cX6_execute 47 = .ok (.invokevirtual 268, 3) := by decide +kernel
theorem dX6_execute_50 : decode cX6_execute 50 = .ok (.goto (-31), 3) := by decide +kernel
theorem dX6_execute_53 : decode cX6_execute 53 = .ok (.aload_n 0, 1) := by decide +kernel
theorem dX6_execute_54 : decode cX6_execute 54 = .ok (.aload_n 0, 1) := by decide +kernel
theorem dX6_execute_55 : decode cX6_execute 55 = .ok (.getfield 202, 3) := by decide +kernel
theorem dX6_execute_58 : decode cX6_execute 58 = .ok (.ifCond .ne 14, 3) := by decide +kernel
theorem dX6_execute_61 : decode cX6_execute 61 = .ok (.aload_n 0, 1) := by decide +kernel
theorem dX6_execute_62 : decode cX6_execute 62 = .ok (.getfield 195, 3) := by decide +kernel
theorem dX6_execute_65 : decode cX6_execute 65 = .ok (.aload_n 0, 1) := by decide +kernel
theorem dX6_execute_66 : decode cX6_execute 66 = .ok (.getfield 192, 3) := by decide +kernel
theorem dX6_execute_69 : decode cX6_execute 69 = .ok (.if_icmp .ge 7, 3) := by decide +kernel
theorem dX6_execute_72 : decode cX6_execute 72 = .ok (.iconst 1, 1) := by decide +kernel
theorem dX6_execute_73 : decode cX6_execute 73 = .ok (.goto 4, 3) := by decide +kernel
theorem dX6_execute_76 : decode cX6_execute 76 = .ok (.iconst 0, 1) := by decide +kernel
theorem dX6_execute_77 : decode cX6_execute 77 = .ok (.putfield 202, 3) := by decide +kernel
theorem dX6_execute_80 : decode cX6_execute 80 = .ok (.aload_n 0, 1) := by decide +kernel
theorem dX6_execute_81 : decode cX6_execute 81 = .ok (.aload_n 0, 1) := by decide +kernel
theorem dX6_execute_82 : decode cX6_execute 82 = .ok (.getfield 202, 3) := by decide +kernel
theorem dX6_execute_85 : decode cX6_execute 85 = .ok (.ifCond .eq 10, 3) := by decide +kernel
theorem dX6_execute_88 : decode cX6_execute 88 = .ok (.aload_n 0, 1) := by decide +kernel
theorem dX6_execute_89 : decode cX6_execute 89 = .ok (.getfield 195, 3) := by decide +kernel
theorem dX6_execute_92 : decode cX6_execute 92 = .ok (.goto 7, 3) := by decide +kernel
theorem dX6_execute_95 : decode cX6_execute 95 = .ok (.aload_n 0, 1) := by decide +kernel
theorem dX6_execute_96 : decode cX6_execute 96 = .ok (.getfield 29, 3) := by decide +kernel
theorem dX6_execute_99 : decode cX6_execute 99 = .ok (.putfield 29, 3) := by decide +kernel
theorem dX6_execute_102 : decode cX6_execute 102 = .ok (.aload_n 0, 1) := by decide +kernel
theorem dX6_execute_103 : decode cX6_execute 103 = .ok (.iconst 0, 1) := by decide +kernel
theorem dX6_execute_104 : decode cX6_execute 104 = .ok (.putfield 192, 3) := by decide +kernel
theorem dX6_execute_107 : decode cX6_execute 107 = .ok (.aload_n 0, 1) := by decide +kernel
theorem dX6_execute_108 : decode cX6_execute 108 = .ok (.getfield 202, 3) := by decide +kernel
theorem dX6_execute_111 : decode cX6_execute 111 = .ok (.ifCond .eq 9, 3) := by decide +kernel
theorem dX6_execute_114 : decode cX6_execute 114 = .ok (.aload_n 0, 1) := by decide +kernel
theorem dX6_execute_115 : decode cX6_execute 115 = .ok (.iconst 1, 1) := by decide +kernel
theorem dX6_execute_116 : decode cX6_execute 116 = .ok (.invokevirtual 94, 3) := by decide +kernel
theorem dX6_execute_119 : decode cX6_execute 119 = .ok (.ireturn, 1) := by decide +kernel
theorem dX6_execute_120 : decode cX6_execute 120 = .ok (.aload_n 0, 1) := by decide +kernel
theorem dX6_execute_121 : decode cX6_execute 121 = .ok (.invokevirtual 97, 3) := by decide +kernel
theorem dX6_execute_124 : decode cX6_execute 124 = .ok (.iconst 0, 1) := by decide +kernel
theorem dX6_execute_125 : decode cX6_execute 125 = .ok (.istore_n 1, 1) := by decide +kernel
theorem dX6_execute_126 : decode cX6_execute 126 = .ok (.iload_n 1, 1) := by decide +kernel
theorem dX6_execute_127 : decode cX6_execute 127 = .ok (.aload_n 0, 1) := by decide +kernel
theorem dX6_execute_128 : decode cX6_execute 128 = .ok (.getfield 255, 3) := by decide +kernel
theorem dX6_execute_131 : decode cX6_execute 131 = .ok (.if_icmp .ge 36, 3) := by decide +kernel
theorem dX6_execute_134 : decode cX6_execute 134 = .ok (.aload_n 0, 1) := by decide +kernel
theorem dX6_execute_135 : decode cX6_execute 135 = .ok (.iload_n 1, 1) := by decide +kernel
theorem dX6_execute_136 : decode cX6_execute 136 = .ok (.invokevirtual 271, 3) := by decide +kernel
theorem dX6_execute_139 : decode cX6_execute 139 = .ok (.aload_n 0, 1) := by decide +kernel
theorem dX6_execute_140 : decode cX6_execute 140 = .ok (.getfield 39, 3) := by decide +kernel
theorem dX6_execute_143 : decode cX6_execute 143 = .ok (.ifCond .le 18, 3) := by decide +kernel
theorem dX6_execute_146 : decode cX6_execute 146 = .ok (.aload_n 0, 1) := by decide +kernel
theorem dX6_execute_147 : decode cX6_execute 147 = .ok (.iload_n 1, 1) := by decide +kernel
theorem dX6_execute_148 : decode cX6_execute 148 = .ok (.putfield 33, 3) := by decide +kernel
theorem dX6_execute_151 : decode cX6_execute 151 = .ok (.aload_n 0, 1) := by decide +kernel
theorem dX6_execute_152 : decode cX6_execute 152 = .ok (.aload_n 0, 1) := by decide +kernel
theorem dX6_execute_153 : decode cX6_execute 153 = .ok (.iconst 2, 1) := by decide +kernel
theorem dX6_execute_154 : decode cX6_execute 154 = .ok (.invokevirtual 94, 3) := by decide +kernel
theorem dX6_execute_157 : decode cX6_execute 157 = .ok (.invokevirtual 104, 3) := by decide +kernel
theorem dX6_execute_160 : decode cX6_execute 160 = .ok (.ireturn, 1) := by decide +kernel
theorem dX6_execute_161 : decode cX6_execute 161 = .ok (.iinc 1 1, 3) := by decide +kernel
theorem dX6_execute_164 : decode cX6_execute 164 = .ok (.goto (-38), 3) := by decide +kernel
theorem dX6_execute_167 : decode cX6_execute 167 = .ok (.aload_n 0, 1) := by decide +kernel
theorem dX6_execute_168 : decode cX6_execute 168 = .ok (.aload_n 0, 1) := by decide +kernel
theorem dX6_execute_169 : decode cX6_execute 169 = .ok (.getfield 255, 3) := by decide +kernel
theorem dX6_execute_172 : decode cX6_execute 172 = .ok (.invokevirtual 104, 3) := by decide +kernel
theorem dX6_execute_175 : decode cX6_execute 175 = .ok (.ireturn, 1) := by decide +kernel
set_option maxRecDepth 20000 in
theorem ggX6_errorPosition_X6_isThere : GoodIn wsX6_errorPosition wsX6_isThere := goodIn_r _ [6, 7, 8, 9, 10, 11, 12, 13, 14, 15, 16, 17, 18, 19, 20, 21, 22, 23, 24] (by decide +kernel) (by decide +kernel)
set_option maxRecDepth 20000 in
theorem gX6_errorPosition_X6_isThere : GoodIn wsX6_errorPosition (wsV RX6 113 RX6 yX6_isThere wsX6_isThere) := goodIn_app (goodIn_of _ (by decide +kernel)) ggX6_errorPosition_X6_isThere
theorem dX6_errorPosition_0 : decode cX6_errorPosition 0 = .ok (.aload_n 0, 1) := by decide +kernel
theorem dX6_errorPosition_1 : decode cX6_errorPosition 1 = .ok (.aload_n 0, 1) := by decide +kernel
theorem dX6_errorPosition_2 : decode cX6_errorPosition 2 = .ok (.getfield 29, 3) := by decide +kernel
theorem dX6_errorPosition_5 : decode cX6_errorPosition 5 = .ok (.ifCond .lt 7, 3) := by decide +kernel
theorem dX6_errorPosition_8 : decode cX6_errorPosition 8 = .ok (.iconst 1, 1) := by decide +kernel
theorem dX6_errorPosition_9 : decode cX6_errorPosition 9 = .ok (.goto 4, 3) := by decide +kernel
theorem dX6_errorPosition_12 : decode cX6_errorPosition 12 = .ok (.iconst 0, 1) := by decide +kernel
theorem dX6_errorPosition_13 : decode cX6_errorPosition 13 = .ok (.invokevirtual 113, 3) := by decide +kernel
theorem dX6_errorPosition_16 : decode cX6_errorPosition 16 = .ok (.ifCond .eq 10, 3) := by decide +kernel
theorem dX6_errorPosition_19 : decode cX6_errorPosition 19 = .ok (.aload_n 0, 1) := by decide +kernel
theorem dX6_errorPosition_20 : decode cX6_errorPosition 20 = .ok (.getfield 29, 3) := by decide +kernel
theorem dX6_errorPosition_23 : decode cX6_errorPosition 23 = .ok (.goto 4, 3) := by decide +kernel
theorem dX6_errorPosition_26 : decode cX6_errorPosition 26 = .ok (.iconst 0, 1) := by decide +kernel
theorem dX6_errorPosition_27 : decode cX6_errorPosition 27 = .ok (.ireturn, 1) := by decide +kernel
set_option maxRecDepth 20000 in
theorem ggX6_failedCommand_X6_isThere : GoodIn wsX6_failedCommand wsX6_isThere := goodIn_r _ [6, 7, 8, 9, 10, 11, 12, 13, 14, 15, 16, 17, 18, 19, 20, 21, 22, 23, 24] (by decide +kernel) (by decide +kernel)
set_option maxRecDepth 20000 in
theorem gX6_failedCommand_X6_isThere : GoodIn wsX6_failedCommand (wsV RX6 113 RX6 yX6_isThere wsX6_isThere) := goodIn_app (goodIn_of _ (by decide +kernel)) ggX6_failedCommand_X6_isThere
theorem dX6_failedCommand_0 : decode cX6_failedCommand 0 = .ok (.aload_n 0, 1) := by decide +kernel
theorem dX6_failedCommand_1 : decode cX6_failedCommand 1 = .ok (.aload_n 0, 1) := by decide +kernel
theorem dX6_failedCommand_2 : decode cX6_failedCommand 2 = .ok (.getfield 33, 3) := by decide +kernel
theorem dX6_failedCommand_5 : decode cX6_failedCommand 5 = .ok (.ifCond .lt 7, 3) := by decide +kernel
theorem dX6_failedCommand_8 : decode cX6_failedCommand 8 = .ok (.iconst 1, 1) := by decide +kernel
theorem dX6_failedCommand_9 : decode cX6_failedCommand 9 = .ok (.goto 4, 3) := by decide +kernel
theorem dX6_failedCommand_12 : decode cX6_failedCommand 12 = .ok (.iconst 0, 1) := by decide +kernel
theorem dX6_failedCommand_13 : decode cX6_failedCommand 13 = .ok (.invokevirtual 113, 3) := by decide +kernel
theorem dX6_failedCommand_16 : decode cX6_failedCommand 16 = .ok (.ifCond .eq 10, 3) := by decide +kernel
theorem dX6_failedCommand_19 : decode cX6_failedCommand 19 = .ok (.aload_n 0, 1) := by decide +kernel
theorem dX6_failedCommand_20 : decode cX6_failedCommand 20 = .ok (.getfield 33, 3) := by decide +kernel
theorem dX6_failedCommand_23 : decode cX6_failedCommand 23 = .ok (.goto 4, 3) := by decide +kernel
theorem dX6_failedCommand_26 : decode cX6_failedCommand 26 = .ok (.iconst 0, 1) := by decide +kernel
theorem dX6_failedCommand_27 : decode cX6_failedCommand 27 = .ok (.ireturn, 1) := by decide +kernel
theorem dX6_undo_0 : decode cX6_undo 0 = .ok (.aload_n 0, 1) := by decide +kernel
theorem dX6_undo_1 : decode cX6_undo 1 = .ok (.aload_n 0, 1) := by decide +kernel
theorem dX6_undo_2 : decode cX6_undo 2 = .ok (.getfield 48, 3) := by decide +kernel
theorem dX6_undo_5 : decode cX6_undo 5 = .ok (.ifCond .ne 7, 3) := by decide +kernel
theorem dX6_undo_8 : decode cX6_undo 8 = .ok (.iconst 1, 1) := by decide +kernel
theorem dX6_undo_9 : decode cX6_undo 9 = .ok (.goto 4, 3) := by decide +kernel
theorem dX6_undo_12 : decode cX6_undo 12 = .ok (.iconst 0, 1) := by decide +kernel
theorem dX6_undo_13 : decode cX6_undo 13 = .ok (.putfield 39, 3) := by decide +kernel
theorem dX6_undo_16 : decode cX6_undo 16 = .ok (.aload_n 0, 1) := by decide +kernel
theorem dX6_undo_17 : decode cX6_undo 17 = .ok (.getfield 39, 3) := by decide +kernel
theorem dX6_undo_20 : decode cX6_undo 20 = .ok (.ifCond .le 5, 3) := by decide +kernel
theorem dX6_undo_23 : decode cX6_undo 23 = .ok (.iconst 0, 1) := by decide +kernel
theorem dX6_undo_24 : decode cX6_undo 24 = .ok (.ireturn, 1) := by decide +kernel
theorem dX6_undo_25 : decode cX6_undo 25 = .ok (.aload_n 0, 1) := by decide +kernel
theorem dX6_undo_26 : decode cX6_undo 26 = .ok (.dup, 1) := by decide +kernel
theorem dX6_undo_27 : decode cX6_undo 27 = .ok (.getfield 48, 3) := by decide +kernel
theorem dX6_undo_30 : decode cX6_undo 30 = .ok (.iconst 1, 1) := by decide +kernel
theorem dX6_undo_31 : decode cX6_undo 31 = .ok (.isub, 1) := by decide +kernel
theorem dX6_undo_32 : decode cX6_undo 32 = .ok (.putfield 48, 3) := by decide +kernel
theorem dX6_undo_35 : decode cX6_undo 35 = .ok (.aload_n 0, 1) := by decide +kernel
theorem dX6_undo_36 : decode cX6_undo 36 = .ok (.getfield 19, 3) := by decide +kernel
theorem dX6_undo_39 : decode cX6_undo 39 = .ok (.bipush 60, 2) := by decide +kernel
theorem dX6_undo_41 : decode cX6_undo 41 = .ok (.aload_n 0, 1) := by decide +kernel
theorem dX6_undo_42 : decode cX6_undo 42 = .ok (.getfield 48, 3) := by decide +kernel
theorem dX6_undo_45 : decode cX6_undo 45 = .ok (.imul, 1) := by decide +kernel
theorem dX6_undo_46 : decode cX6_undo 46 = .ok (.aload_n 0, 1) := by decide +kernel
theorem dX6_undo_47 : decode cX6_undo 47 = .ok (.getfield 9, 3) := by decide +kernel
theorem dX6_undo_50 : decode cX6_undo 50 = .ok (.iconst 0, 1) := by decide +kernel
theorem dX6_undo_51 : decode cX6_undo 51 = .ok (.bipush 60, 2) := by decide +kernel
theorem dX6_undo_53 : decode cX6_undo 53 = .ok (.invokestatic 42, 3) := by decide +kernel
theorem dX6_undo_56 : decode cX6_undo 56 = .ok (.aload_n 0, 1) := by decide +kernel
theorem dX6_undo_57 : decode cX6_undo 57 = .ok (.getfield 48, 3) := by decide +kernel
theorem dX6_undo_60 : decode cX6_undo 60 = .ok (.ireturn, 1) := by decide +kernel
theorem dX6_save_0 : decode cX6_save 0 = .ok (.aload_n 0, 1) := by decide +kernel
theorem dX6_save_1 : decode cX6_save 1 = .ok (.iconst 0, 1) := by decide +kernel
theorem dX6_save_2 : decode cX6_save 2 = .ok (.putfield 39, 3) := by decide +kernel
theorem dX6_save_5 : decode cX6_save 5 = .ok (.aload_n 0, 1) := by decide +kernel
theorem dX6_save_6 : decode cX6_save 6 = .ok (.getfield 9, 3) := by decide +kernel
theorem dX6_save_9 : decode cX6_save 9 = .ok (.iconst 0, 1) := by decide +kernel
theorem dX6_save_10 : decode cX6_save 10 = .ok (.aload_n 0, 1) := by decide +kernel
theorem dX6_save_11 : decode cX6_save 11 = .ok (.getfield 16, 3) := by decide +kernel
theorem dX6_save_14 : decode cX6_save 14 = .ok (.iconst 0, 1) := by decide +kernel
theorem dX6_save_15 : decode cX6_save 15 = .ok (.bipush 60, 2) := by decide +kernel
theorem dX6_save_17 : decode cX6_save 17 = .ok (.invokestatic 42, 3) := by decide +kernel
theorem dX6_save_20 : decode cX6_save 20 = .ok (.aload_n 0, 1) := by decide +kernel
theorem dX6_save_21 : decode cX6_save 21 = .ok (.iconst 1, 1) := by decide +kernel
theorem dX6_save_22 : decode cX6_save 22 = .ok (.putfield 274, 3) := by decide +kernel
theorem dX6_save_25 : decode cX6_save 25 = .ok (.aload_n 0, 1) := by decide +kernel
theorem dX6_save_26 : decode cX6_save 26 = .ok (.getfield 9, 3) := by decide +kernel
theorem dX6_save_29 : decode cX6_save 29 = .ok (.iconst 0, 1) := by decide +kernel
theorem dX6_save_30 : decode cX6_save 30 = .ok (.iaload, 1) := by decide +kernel
theorem dX6_save_31 : decode cX6_save 31 = .ok (.ireturn, 1) := by decide +kernel
theorem dX6_restore_0 : decode cX6_restore 0 = .ok (.aload_n 0, 1) := by decide +kernel
theorem dX6_restore_1 : decode cX6_restore 1 = .ok (.aload_n 0, 1) := by decide +kernel
theorem dX6_restore_2 : decode cX6_restore 2 = .ok (.getfield 274, 3) := by decide +kernel
theorem dX6_restore_5 : decode cX6_restore 5 = .ok (.ifCond .eq 7, 3) := by decide +kernel
theorem dX6_restore_8 : decode cX6_restore 8 = .ok (.iconst 0, 1) := by decide +kernel
theorem dX6_restore_9 : decode cX6_restore 9 = .ok (.goto 4, 3) := by decide +kernel
theorem dX6_restore_12 : decode cX6_restore 12 = .ok (.iconst 1, 1) := by decide +kernel
theorem dX6_restore_13 : decode cX6_restore 13 = .ok (.putfield 39, 3) := by decide +kernel
theorem dX6_restore_16 : decode cX6_restore 16 = .ok (.aload_n 0, 1) := by decide +kernel
theorem dX6_restore_17 : decode cX6_restore 17 = .ok (.getfield 39, 3) := by decide +kernel
theorem dX6_restore_20 : decode cX6_restore 20 = .ok (.ifCond .le 5, 3) := by decide +kernel
theorem dX6_restore_23 : decode cX6_restore 23 = .ok (.iconst 0, 1) := by decide +kernel
theorem dX6_restore_24 : decode cX6_restore 24 = .ok (.ireturn, 1) := by decide +kernel
theorem dX6_restore_25 : decode cX6_restore 25 = .ok (.aload_n 0, 1) := by decide +kernel
theorem dX6_restore_26 : decode cX6_restore 26 = .ok (.getfield 16, 3) := by decide +kernel
theorem dX6_restore_29 : decode cX6_restore 29 = .ok (.iconst 0, 1) := by decide +kernel
theorem dX6_restore_30 : decode cX6_restore 30 = .ok (.aload_n 0, 1) := by decide +kernel
theorem dX6_restore_31 : decode cX6_restore 31 = .ok (.getfield 9, 3) := by decide +kernel
theorem dX6_restore_34 : decode cX6_restore 34 = .ok (.iconst 0, 1) := by decide +kernel
theorem dX6_restore_35 : decode cX6_restore 35 = .ok (.bipush 60, 2) := by decide +kernel
theorem dX6_restore_37 : decode cX6_restore 37 = .ok (.invokestatic 42, 3) := by decide +kernel
theorem dX6_restore_40 : decode cX6_restore 40 = .ok (.aload_n 0, 1) := by decide +kernel
theorem dX6_restore_41 : decode cX6_restore 41 = .ok (.iconst 0, 1) := by decide +kernel
theorem dX6_restore_42 : decode cX6_restore 42 = .ok (.putfield 48, 3) := by decide +kernel
theorem dX6_restore_45 : decode cX6_restore 45 = .ok (.aload_n 0, 1) := by decide +kernel
theorem dX6_restore_46 : decode cX6_restore 46 = .ok (.getfield 9, 3) := by decide +kernel
theorem dX6_restore_49 : decode cX6_restore 49 = .ok (.iconst 0, 1) := by decide +kernel
theorem dX6_restore_50 : decode cX6_restore 50 = .ok (.iaload, 1) := by decide +kernel
theorem dX6_restore_51 : decode cX6_restore 51 = .ok (.ireturn, 1) := by decide +kernel
