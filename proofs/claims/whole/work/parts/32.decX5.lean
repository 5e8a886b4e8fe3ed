theorem dX5_init_0 : decode cX5_init 0 = .ok (.aload_n 0, 1) := by decide +kernel
theorem dX5_init_1 : decode cX5_init 1 = .ok (.invokespecial 3, 3) := by decide +kernel
theorem dX5_init_4 : decode cX5_init 4 = .ok (.aload_n 0, 1) := by decide +kernel
theorem dX5_init_5 : decode cX5_init 5 = .ok (.bipush 48, 2) := by decide +kernel
theorem dX5_init_7 : decode cX5_init 7 = .ok (.newarray .int, 2) := by decide +kernel
theorem dX5_init_9 : decode cX5_init 9 = .ok (.putfield 9, 3) := by decide +kernel
theorem dX5_init_12 : decode cX5_init 12 = .ok (.return_, 1) := by decide +kernel
theorem dX5_add_0 : decode cX5_add 0 = .ok (.aload_n 0, 1) := by decide +kernel
theorem dX5_add_1 : decode cX5_add 1 = .ok (.getfield 15, 3) := by decide +kernel
theorem dX5_add_4 : decode cX5_add 4 = .ok (.bipush 48, 2) := by decide +kernel
theorem dX5_add_6 : decode cX5_add 6 = .ok (.if_icmp .lt 6, 3) := by decide +kernel
theorem dX5_add_9 : decode cX5_add 9 = .ok (.bipush (-4), 2) := by decide +kernel
theorem dX5_add_11 : decode cX5_add 11 = .ok (.ireturn, 1) := by decide +kernel
theorem dX5_add_12 : decode cX5_add 12 = .ok (.aload_n 0, 1) := by decide +kernel
theorem dX5_add_13 : decode cX5_add 13 = .ok (.getfield 9, 3) := by decide +kernel
theorem dX5_add_16 : decode cX5_add 16 = .ok (.aload_n 0, 1) := by decide +kernel
theorem dX5_add_17 : decode cX5_add 17 = .ok (.getfield 15, 3) := by decide +kernel
theorem dX5_add_20 : decode cX5_add 20 = .ok (.iload_n 1, 1) := by decide +kernel
theorem dX5_add_21 : decode cX5_add 21 = .ok (.iastore, 1) := by decide +kernel
theorem dX5_add_22 : decode cX5_add 22 = .ok (.aload_n 0, 1) := by decide +kernel
theorem dX5_add_23 : decode cX5_add 23 = .ok (.dup, 1) := by decide +kernel
theorem dX5_add_24 : decode cX5_add 24 = .ok (.getfield 15, 3) := by decide +kernel
theorem dX5_add_27 : decode cX5_add 27 = .ok (.iconst 1, 1) := by decide +kernel
theorem dX5_add_28 : decode cX5_add 28 = .ok (.iadd, 1) := by decide +kernel
theorem dX5_add_29 : decode cX5_add 29 = .ok (.putfield 15, 3) := by decide +kernel
theorem dX5_add_32 : decode cX5_add 32 = .ok (.aload_n 0, 1) := by decide +kernel
theorem dX5_add_33 : decode cX5_add 33 = .ok (.getfield 15, 3) := by decide +kernel
theorem dX5_add_36 : decode cX5_add 36 = .ok (.ireturn, 1) := by decide +kernel
theorem dX5_clear_0 : decode cX5_clear 0 = .ok (.aload_n 0, 1) := by decide +kernel
theorem dX5_clear_1 : decode cX5_clear 1 = .ok (.getfield 15, 3) := by decide +kernel
theorem dX5_clear_4 : decode cX5_clear 4 = .ok (.istore_n 1, 1) := by decide +kernel
theorem dX5_clear_5 : decode cX5_clear 5 = .ok (.aload_n 0, 1) := by decide +kernel
theorem dX5_clear_6 : decode cX5_clear 6 = .ok (.iconst 0, 1) := by decide +kernel
theorem dX5_clear_7 : decode cX5_clear 7 = .ok (.putfield 15, 3) := by decide +kernel
theorem dX5_clear_10 : decode cX5_clear 10 = .ok (.iload_n 1, 1) := by decide +kernel
theorem dX5_clear_11 : decode cX5_clear 11 = .ok (.ireturn, 1) := by decide +kernel
theorem dX5_letterAt_0 : decode cX5_letterAt 0 = .ok (.iload_n 1, 1) := by decide +kernel
theorem dX5_letterAt_1 : decode cX5_letterAt 1 = .ok (.ifCond .lt 20, 3) := by decide +kernel
theorem dX5_letterAt_4 : decode cX5_letterAt 4 = .ok (.iload_n 1, 1) := by decide +kernel
theorem dX5_letterAt_5 : decode cX5_letterAt 5 = .ok (.aload_n 0, 1) := by decide +kernel
theorem dX5_letterAt_6 : decode cX5_letterAt 6 = .ok (.getfield 15, 3) := by decide +kernel
theorem dX5_letterAt_9 : decode cX5_letterAt 9 = .ok (.if_icmp .ge 12, 3) := by decide +kernel
theorem dX5_letterAt_12 : decode cX5_letterAt 12 = .ok (.aload_n 0, 1) := by decide +kernel
theorem dX5_letterAt_13 : decode cX5_letterAt 13 = .ok (.getfield 9, 3) := by decide +kernel
theorem dX5_letterAt_16 : decode cX5_letterAt 16 = .ok (.iload_n 1, 1) := by decide +kernel
theorem dX5_letterAt_17 : decode cX5_letterAt 17 = .ok (.iaload, 1) := by decide +kernel
theorem dX5_letterAt_18 : decode cX5_letterAt 18 = .ok (.goto 5, 3) := by decide +kernel
theorem dX5_letterAt_21 : decode cX5_letterAt 21 = .ok (.bipush (-9), 2) := by decide +kernel
theorem dX5_letterAt_23 : decode cX5_letterAt 23 = .ok (.ireturn, 1) := by decide +kernel
set_option maxRecDepth 20000 in
theorem ggX5_figureAt_X5_letterAt : GoodIn wsX5_figureAt wsX5_letterAt := goodIn_r _ [5, 6, 7, 8, 9] (by decide +kernel) (by decide +kernel)
set_option maxRecDepth 20000 in
theorem gX5_figureAt_X5_letterAt : GoodIn wsX5_figureAt (wsV RX5 19 RX5 yX5_letterAt wsX5_letterAt) := goodIn_app (goodIn_of _ (by decide +kernel)) ggX5_figureAt_X5_letterAt
theorem dX5_figureAt_0 : decode cX5_figureAt 0 = .ok (.aload_n 0, 1) := by decide +kernel
theorem dX5_figureAt_1 : decode cX5_figureAt 1 = .ok (.iload_n 1, 1) := by decide +kernel
theorem dX5_figureAt_2 : decode cX5_figureAt 2 = .ok (.invokevirtual 19, 3) := by decide +kernel
theorem dX5_figureAt_5 : decode cX5_figureAt 5 = .ok (.istore_n 2, 1) := by decide +kernel
theorem dX5_figureAt_6 : decode cX5_figureAt 6 = .ok (.iload_n 2, 1) := by decide +kernel
theorem dX5_figureAt_7 : decode cX5_figureAt 7 = .ok (.bipush 48, 2) := by decide +kernel
theorem dX5_figureAt_9 : decode cX5_figureAt 9 = .ok (.if_icmp .lt 16, 3) := by decide +kernel
theorem dX5_figureAt_12 : decode cX5_figureAt 12 = .ok (.iload_n 2, 1) := by decide +kernel
theorem dX5_figureAt_13 : decode cX5_figureAt 13 = .ok (.bipush 57, 2) := by decide +kernel
theorem dX5_figureAt_15 : decode cX5_figureAt 15 = .ok (.if_icmp .gt 10, 3) := by decide +kernel
theorem dX5_figureAt_18 : decode cX5_figureAt 18 = .ok (.iload_n 2, 1) := by decide +kernel
theorem dX5_figureAt_19 : decode cX5_figureAt 19 = .ok (.bipush 48, 2) := by decide +kernel
theorem dX5_figureAt_21 : decode cX5_figureAt 21 = .ok (.isub, 1) := by decide +kernel
theorem dX5_figureAt_22 : decode cX5_figureAt 22 = .ok (.goto 5, 3) := by decide +kernel
theorem dX5_figureAt_25 : decode cX5_figureAt 25 = .ok (.bipush (-9), 2) := by decide +kernel
theorem dX5_figureAt_27 : decode cX5_figureAt 27 = .ok (.ireturn, 1) := by decide +kernel
