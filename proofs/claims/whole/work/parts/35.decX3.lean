theorem dX3_init_0 : decode cX3_init 0 = .ok (.aload_n 0, 1) := by decide +kernel
theorem dX3_init_1 : decode cX3_init 1 = .ok (.invokespecial 3, 3) := by decide +kernel
theorem dX3_init_4 : decode cX3_init 4 = .ok (.aload_n 0, 1) := by decide +kernel
theorem dX3_init_5 : decode cX3_init 5 = .ok (.bipush 6, 2) := by decide +kernel
theorem dX3_init_7 : decode cX3_init 7 = .ok (.newarray .int, 2) := by decide +kernel
theorem dX3_init_9 : decode cX3_init 9 = .ok (.putfield 9, 3) := by decide +kernel
theorem dX3_init_12 : decode cX3_init 12 = .ok (.aload_n 0, 1) := by decide +kernel
theorem dX3_init_13 : decode cX3_init 13 = .ok (.bipush 6, 2) := by decide +kernel
theorem dX3_init_15 : decode cX3_init 15 = .ok (.newarray .int, 2) := by decide +kernel
theorem dX3_init_17 : decode cX3_init 17 = .ok (.putfield 15, 3) := by decide +kernel
theorem dX3_init_20 : decode cX3_init 20 = .ok (.return_, 1) := by decide +kernel
theorem dX3_add_0 : decode cX3_add 0 = .ok (.aload_n 0, 1) := by decide +kernel
theorem dX3_add_1 : decode cX3_add 1 = .ok (.getfield 18, 3) := by decide +kernel
theorem dX3_add_4 : decode cX3_add 4 = .ok (.bipush 6, 2) := by decide +kernel
theorem dX3_add_6 : decode cX3_add 6 = .ok (.if_icmp .lt 6, 3) := by decide +kernel
theorem dX3_add_9 : decode cX3_add 9 = .ok (.bipush (-4), 2) := by decide +kernel
theorem dX3_add_11 : decode cX3_add 11 = .ok (.ireturn, 1) := by decide +kernel
theorem dX3_add_12 : decode cX3_add 12 = .ok (.aload_n 0, 1) := by decide +kernel
theorem dX3_add_13 : decode cX3_add 13 = .ok (.getfield 9, 3) := by decide +kernel
theorem dX3_add_16 : decode cX3_add 16 = .ok (.aload_n 0, 1) := by decide +kernel
theorem dX3_add_17 : decode cX3_add 17 = .ok (.getfield 18, 3) := by decide +kernel
theorem dX3_add_20 : decode cX3_add 20 = .ok (.iload_n 1, 1) := by decide +kernel
theorem dX3_add_21 : decode cX3_add 21 = .ok (.iastore, 1) := by decide +kernel
theorem dX3_add_22 : decode cX3_add 22 = .ok (.aload_n 0, 1) := by decide +kernel
theorem dX3_add_23 : decode cX3_add 23 = .ok (.getfield 15, 3) := by decide +kernel
theorem dX3_add_26 : decode cX3_add 26 = .ok (.aload_n 0, 1) := by decide +kernel
theorem dX3_add_27 : decode cX3_add 27 = .ok (.getfield 18, 3) := by decide +kernel
theorem dX3_add_30 : decode cX3_add 30 = .ok (.iload_n 2, 1) := by decide +kernel
theorem dX3_add_31 : decode cX3_add 31 = .ok (.iastore, 1) := by decide +kernel
theorem dX3_add_32 : decode cX3_add 32 = .ok (.aload_n 0, 1) := by decide +kernel
theorem dX3_add_33 : decode cX3_add 33 = .ok (.dup, 1) := by decide +kernel
theorem dX3_add_34 : decode cX3_add 34 = .ok (.getfield 18, 3) := by decide +kernel
theorem dX3_add_37 : decode cX3_add 37 = .ok (.iconst 1, 1) := by decide +kernel
theorem dX3_add_38 : decode cX3_add 38 = .ok (.iadd, 1) := by decide +kernel
theorem dX3_add_39 : decode cX3_add 39 = .ok (.putfield 18, 3) := by decide +kernel
theorem dX3_add_42 : decode cX3_add 42 = .ok (.aload_n 0, 1) := by decide +kernel
theorem dX3_add_43 : decode cX3_add 43 = .ok (.getfield 18, 3) := by decide +kernel
theorem dX3_add_46 : decode cX3_add 46 = .ok (.ireturn, 1) := by decide +kernel
theorem dX3_clear_0 : decode cX3_clear 0 = .ok (.aload_n 0, 1) := by decide +kernel
theorem dX3_clear_1 : decode cX3_clear 1 = .ok (.getfield 18, 3) := by decide +kernel
theorem dX3_clear_4 : decode cX3_clear 4 = .ok (.istore_n 1, 1) := by decide +kernel
theorem dX3_clear_5 : decode cX3_clear 5 = .ok (.aload_n 0, 1) := by decide +kernel
theorem dX3_clear_6 : decode cX3_clear 6 = .ok (.iconst 0, 1) := by decide +kernel
theorem dX3_clear_7 : decode cX3_clear 7 = .ok (.putfield 18, 3) := by decide +kernel
theorem dX3_clear_10 : decode cX3_clear 10 = .ok (.iload_n 1, 1) := by decide +kernel
theorem dX3_clear_11 : decode cX3_clear 11 = .ok (.ireturn, 1) := by decide +kernel
set_option maxRecDepth 20000 in
theorem ggX3_countFitting_X3_fits : GoodIn wsX3_countFitting wsX3_fits := goodIn_r _ [5, 6, 7, 8, 9, 10, 11, 12, 13, 14] (by decide +kernel) (by decide +kernel)
set_option maxRecDepth 20000 in
theorem gX3_countFitting_X3_fits : GoodIn wsX3_countFitting (wsV RX3 25 RX3 yX3_fits wsX3_fits) := goodIn_app (goodIn_of _ (by decide +kernel)) ggX3_countFitting_X3_fits
theorem dX3_countFitting_0 : decode cX3_countFitting 0 = .ok (.iconst 0, 1) := by decide +kernel
theorem dX3_countFitting_1 : decode cX3_countFitting 1 = .ok (.istore_n 1, 1) := by decide +kernel
theorem dX3_countFitting_2 : decode cX3_countFitting 2 = .ok (.iconst 0, 1) := by decide +kernel
theorem dX3_countFitting_3 : decode cX3_countFitting 3 = .ok (.istore_n 2, 1) := by decide +kernel
theorem dX3_countFitting_4 : decode cX3_countFitting 4 = .ok (.iload_n 2, 1) := by decide +kernel
theorem dX3_countFitting_5 : decode cX3_countFitting 5 = .ok (.getstatic 22, 3) := by decide +kernel
theorem dX3_countFitting_8 : decode cX3_countFitting 8 = .ok (.arraylength, 1) := by decide +kernel
theorem dX3_countFitting_9 : decode cX3_countFitting 9 = .ok (.if_icmp .ge 39, 3) := by decide +kernel
theorem dX3_countFitting_12 : decode cX3_countFitting 12 = .ok (.iconst 1, 1) := by decide +kernel
theorem dX3_countFitting_13 : decode cX3_countFitting 13 = .ok (.istore_n 3, 1) := by decide +kernel
theorem dX3_countFitting_14 : decode cX3_countFitting 14 = .ok (.iload_n 3, 1) := by decide +kernel
theorem dX3_countFitting_15 : decode cX3_countFitting 15 = .ok (.bipush 9, 2) := by decide +kernel
theorem dX3_countFitting_17 : decode cX3_countFitting 17 = .ok (.if_icmp .gt 25, 3) := by decide +kernel
theorem dX3_countFitting_20 : decode cX3_countFitting 20 = .ok (.aload_n 0, 1) := by decide +kernel
theorem dX3_countFitting_21 : decode cX3_countFitting 21 = .ok (.getstatic 22, 3) := by decide +kernel
theorem dX3_countFitting_24 : decode cX3_countFitting 24 = .ok (.iload_n 2, 1) := by decide +kernel
theorem dX3_countFitting_25 : decode cX3_countFitting 25 = .ok (.iaload, 1) := by decide +kernel
theorem dX3_countFitting_26 : decode cX3_countFitting 26 = .ok (.iload_n 3, 1) := by decide +kernel
theorem dX3_countFitting_27 : decode cX3_countFitting 27 = .ok (.invokevirtual 25, 3) := by decide +kernel
theorem dX3_countFitting_30 : decode cX3_countFitting 30 = .ok (.ifCond .eq 6, 3) := by decide +kernel
theorem dX3_countFitting_33 : decode cX3_countFitting 33 = .ok (.iinc 1 1, 3) := by decide +kernel
theorem dX3_countFitting_36 : decode cX3_countFitting 36 = .ok (.iinc 3 1, 3) := by decide +kernel
theorem dX3_countFitting_39 : decode cX3_countFitting 39 = .ok (.goto (-25), 3) := by decide +kernel
theorem dX3_countFitting_42 : decode cX3_countFitting 42 = .ok (.iinc 2 1, 3) := by decide +kernel
theorem dX3_countFitting_45 : decode cX3_countFitting 45 = .ok (.goto (-41), 3) := by decide +kernel
theorem dX3_countFitting_48 : decode cX3_countFitting 48 = .ok (.iload_n 1, 1) := by decide +kernel
theorem dX3_countFitting_49 : decode cX3_countFitting 49 = .ok (.ireturn, 1) := by decide +kernel
set_option maxRecDepth 20000 in
theorem ggX3_firstFitting_X3_fits : GoodIn wsX3_firstFitting wsX3_fits := goodIn_r _ [5, 6, 7, 8, 9, 10, 11, 12, 13, 14] (by decide +kernel) (by decide +kernel)
set_option maxRecDepth 20000 in
theorem gX3_firstFitting_X3_fits : GoodIn wsX3_firstFitting (wsV RX3 25 RX3 yX3_fits wsX3_fits) := goodIn_app (goodIn_of _ (by decide +kernel)) ggX3_firstFitting_X3_fits
theorem dX3_firstFitting_0 : decode cX3_firstFitting 0 = .ok (.iconst 0, 1) := by decide +kernel
theorem dX3_firstFitting_1 : decode cX3_firstFitting 1 = .ok (.istore_n 1, 1) := by decide +kernel
theorem dX3_firstFitting_2 : decode cX3_firstFitting 2 = .ok (.iload_n 1, 1) := by decide +kernel
theorem dX3_firstFitting_3 : decode cX3_firstFitting 3 = .ok (.getstatic 22, 3) := by decide +kernel
theorem dX3_firstFitting_6 : decode cX3_firstFitting 6 = .ok (.arraylength, 1) := by decide +kernel
theorem dX3_firstFitting_7 : decode cX3_firstFitting 7 = .ok (.if_icmp .ge 47, 3) := by decide +kernel
theorem dX3_firstFitting_10 : decode cX3_firstFitting 10 = .ok (.iconst 1, 1) := by decide +kernel
theorem dX3_firstFitting_11 : decode cX3_firstFitting 11 = .ok (.istore_n 2, 1) := by decide +kernel
theorem dX3_firstFitting_12 : decode cX3_firstFitting 12 = .ok (.iload_n 2, 1) := by decide +kernel
theorem dX3_firstFitting_13 : decode cX3_firstFitting 13 = .ok (.bipush 9, 2) := by decide +kernel
theorem dX3_firstFitting_15 : decode cX3_firstFitting 15 = .ok (.if_icmp .gt 33, 3) := by decide +kernel
theorem dX3_firstFitting_18 : decode cX3_firstFitting 18 = .ok (.aload_n 0, 1) := by decide +kernel
theorem dX3_firstFitting_19 : decode cX3_firstFitting 19 = .ok (.getstatic 22, 3) := by decide +kernel
theorem dX3_firstFitting_22 : decode cX3_firstFitting 22 = .ok (.iload_n 1, 1) := by decide +kernel
theorem dX3_firstFitting_23 : decode cX3_firstFitting 23 = .ok (.iaload, 1) := by decide +kernel
theorem dX3_firstFitting_24 : decode cX3_firstFitting 24 = .ok (.iload_n 2, 1) := by decide +kernel
theorem dX3_firstFitting_25 : decode cX3_firstFitting 25 = .ok (.invokevirtual 25, 3) := by decide +kernel
theorem dX3_firstFitting_28 : decode cX3_firstFitting 28 = .ok (.ifCond .eq 14, 3) := by decide +kernel
theorem dX3_firstFitting_31 : decode cX3_firstFitting 31 = .ok (.bipush 10, 2) := by decide +kernel
theorem dX3_firstFitting_33 : decode cX3_firstFitting 33 = .ok (.getstatic 22, 3) := by decide +kernel
theorem dX3_firstFitting_36 : decode cX3_firstFitting 36 = .ok (.iload_n 1, 1) := by decide +kernel
theorem dX3_firstFitting_37 : decode cX3_firstFitting 37 = .ok (.iaload, 1) := by decide +kernel
theorem dX3_firstFitting_38 : decode cX3_firstFitting 38 = .ok (.imul, 1) := by decide +kernel
theorem dX3_firstFitting_39 : decode cX3_firstFitting 39 = .ok (.iload_n 2, 1) := by decide +kernel
theorem dX3_firstFitting_40 : decode cX3_firstFitting 40 = .ok (.iadd, 1) := by decide +kernel
theorem dX3_firstFitting_41 : decode cX3_firstFitting 41 = .ok (.ireturn, 1) := by decide +kernel
theorem dX3_firstFitting_42 : decode cX3_firstFitting 42 = .ok (.iinc 2 1, 3) := by decide +kernel
theorem dX3_firstFitting_45 : decode cX3_firstFitting 45 = .ok (.goto (-33), 3) := by decide +kernel
theorem dX3_firstFitting_48 : decode cX3_firstFitting 48 = .ok (.iinc 1 1, 3) := by decide +kernel
theorem dX3_firstFitting_51 : decode cX3_firstFitting 51 = .ok (.goto (-49), 3) := by decide +kernel
theorem dX3_firstFitting_54 : decode cX3_firstFitting 54 = .ok (.bipush (-9), 2) := by decide +kernel
theorem dX3_firstFitting_56 : decode cX3_firstFitting 56 = .ok (.ireturn, 1) := by decide +kernel
set_option maxRecDepth 20000 in
theorem ggX3_fits_X6_taken : GoodIn wsX3_fits wsX6_taken := goodIn_r _ [6] (by decide +kernel) (by decide +kernel)
set_option maxRecDepth 20000 in
theorem gX3_fits_X6_taken_n29 : GoodIn wsX3_fits (wsX6_taken) := ggX3_fits_X6_taken
theorem dX3_fits_0 : decode cX3_fits 0 = .ok (.iconst 0, 1) := by decide +kernel
theorem dX3_fits_1 : decode cX3_fits 1 = .ok (.istore_n 3, 1) := by decide +kernel
theorem dX3_fits_2 : decode cX3_fits 2 = .ok (.iload_n 3, 1) := by decide +kernel
theorem dX3_fits_3 : decode cX3_fits 3 = .ok (.aload_n 0, 1) := by decide +kernel
theorem dX3_fits_4 : decode cX3_fits 4 = .ok (.getfield 18, 3) := by decide +kernel
theorem dX3_fits_7 : decode cX3_fits 7 = .ok (.if_icmp .ge 38, 3) := by decide +kernel
theorem dX3_fits_10 : decode cX3_fits 10 = .ok (.aload_n 0, 1) := by decide +kernel
theorem dX3_fits_11 : decode cX3_fits 11 = .ok (.getfield 9, 3) := by decide +kernel
theorem dX3_fits_14 : decode cX3_fits 14 = .ok (.iload_n 3, 1) := by decide +kernel
theorem dX3_fits_15 : decode cX3_fits 15 = .ok (.iaload, 1) := by decide +kernel
theorem dX3_fits_16 : decode cX3_fits 16 = .ok (.iload_n 1, 1) := by decide +kernel
theorem dX3_fits_17 : decode cX3_fits 17 = .ok (.iload_n 2, 1) := by decide +kernel
theorem dX3_fits_18 : decode cX3_fits 18 = .ok (.aload_n 0, 1) := by decide +kernel
theorem dX3_fits_19 : decode cX3_fits 19 = .ok (.getfield 9, 3) := by decide +kernel
theorem dX3_fits_22 : decode cX3_fits 22 = .ok (.iload_n 3, 1) := by decide +kernel
theorem dX3_fits_23 : decode cX3_fits 23 = .ok (.iaload, 1) := by decide +kernel
theorem dX3_fits_24 : decode cX3_fits 24 = .ok (.invokestatic 29, 3) := by decide +kernel
theorem dX3_fits_27 : decode cX3_fits 27 = .ok (.isub, 1) := by decide +kernel
theorem dX3_fits_28 : decode cX3_fits 28 = .ok (.aload_n 0, 1) := by decide +kernel
theorem dX3_fits_29 : decode cX3_fits 29 = .ok (.getfield 15, 3) := by decide +kernel
theorem dX3_fits_32 : decode cX3_fits 32 = .ok (.iload_n 3, 1) := by decide +kernel
theorem dX3_fits_33 : decode cX3_fits 33 = .ok (.iaload, 1) := by decide +kernel
theorem dX3_fits_34 : decode cX3_fits 34 = .ok (.if_icmp .eq 5, 3) := by decide +kernel
theorem dX3_fits_37 : decode cX3_fits 37 = .ok (.iconst 0, 1) := by decide +kernel
theorem dX3_fits_38 : decode cX3_fits 38 = .ok (.ireturn, 1) := by decide +kernel
theorem dX3_fits_39 : decode cX3_fits 39 = .ok (.iinc 3 1, 3) := by decide +kernel
theorem dX3_fits_42 : decode cX3_fits 42 = .ok (.goto (-40), 3) := by decide +kernel
theorem dX3_fits_45 : decode cX3_fits 45 = .ok (.iconst 1, 1) := by decide +kernel
theorem dX3_fits_46 : decode cX3_fits 46 = .ok (.ireturn, 1) := by decide +kernel
