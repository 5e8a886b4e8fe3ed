theorem dX7_init_0 : decode cX7_init 0 = .ok (.aload_n 0, 1) := by decide +kernel
theorem dX7_init_1 : decode cX7_init 1 = .ok (.invokespecial 1, 3) := by decide +kernel
theorem dX7_init_4 : decode cX7_init 4 = .ok (.aload_n 0, 1) := by decide +kernel
theorem dX7_init_5 : decode cX7_init 5 = .ok (.iconst 4, 1) := by decide +kernel
theorem dX7_init_6 : decode cX7_init 6 = .ok (.newarray .int, 2) := by decide +kernel
theorem dX7_init_8 : decode cX7_init 8 = .ok (.putfield 7, 3) := by decide +kernel
theorem dX7_init_11 : decode cX7_init 11 = .ok (.aload_n 0, 1) := by decide +kernel
theorem dX7_init_12 : decode cX7_init 12 = .ok (.iconst 4, 1) := by decide +kernel
theorem dX7_init_13 : decode cX7_init 13 = .ok (.newarray .int, 2) := by decide +kernel
theorem dX7_init_15 : decode cX7_init 15 = .ok (.putfield 13, 3) := by decide +kernel
theorem dX7_init_18 : decode cX7_init 18 = .ok (.aload_n 0, 1) := by decide +kernel
theorem dX7_init_19 : decode cX7_init 19 = .ok (.iconst 5, 1) := by decide +kernel
theorem dX7_init_20 : decode cX7_init 20 = .ok (.newarray .int, 2) := by decide +kernel
theorem dX7_init_22 : decode cX7_init 22 = .ok (.putfield 16, 3) := by decide +kernel
theorem dX7_init_25 : decode cX7_init 25 = .ok (.aload_n 0, 1) := by decide +kernel
theorem dX7_init_26 : decode cX7_init 26 = .ok (.iconst 5, 1) := by decide +kernel
theorem dX7_init_27 : decode cX7_init 27 = .ok (.newarray .int, 2) := by decide +kernel
theorem dX7_init_29 : decode cX7_init 29 = .ok (.putfield 19, 3) := by decide +kernel
theorem dX7_init_32 : decode cX7_init 32 = .ok (.aload_n 0, 1) := by decide +kernel
theorem dX7_init_33 : decode cX7_init 33 = .ok (.iconst 5, 1) := by decide +kernel
theorem dX7_init_34 : decode cX7_init 34 = .ok (.newarray .int, 2) := by decide +kernel
theorem dX7_init_36 : decode cX7_init 36 = .ok (.putfield 22, 3) := by decide +kernel
theorem dX7_init_39 : decode cX7_init 39 = .ok (.aload_n 0, 1) := by decide +kernel
theorem dX7_init_40 : decode cX7_init 40 = .ok (.bipush 46, 2) := by decide +kernel
theorem dX7_init_42 : decode cX7_init 42 = .ok (.newarray .int, 2) := by decide +kernel
theorem dX7_init_44 : decode cX7_init 44 = .ok (.putfield 25, 3) := by decide +kernel
theorem dX7_init_47 : decode cX7_init 47 = .ok (.aload_n 0, 1) := by decide +kernel
theorem dX7_init_48 : decode cX7_init 48 = .ok (.bipush 12, 2) := by decide +kernel
theorem dX7_init_50 : decode cX7_init 50 = .ok (.newarray .int, 2) := by decide +kernel
theorem dX7_init_52 : decode cX7_init 52 = .ok (.putfield 28, 3) := by decide +kernel
theorem dX7_init_55 : decode cX7_init 55 = .ok (.aload_n 0, 1) := by decide +kernel
theorem dX7_init_56 : decode cX7_init 56 = .ok (.bipush 20, 2) := by decide +kernel
theorem dX7_init_58 : decode cX7_init 58 = .ok (.newarray .int, 2) := by decide +kernel
theorem dX7_init_60 : decode cX7_init 60 = .ok (.putfield 31, 3) := by decide +kernel
theorem dX7_init_63 : decode cX7_init 63 = .ok (.aload_n 0, 1) := by decide +kernel
theorem dX7_init_64 : decode cX7_init 64 = .ok (.bipush 48, 2) := by decide +kernel
theorem dX7_init_66 : decode cX7_init 66 = .ok (.newarray .int, 2) := by decide +kernel
theorem dX7_init_68 : decode cX7_init 68 = .ok (.putfield 34, 3) := by decide +kernel
theorem dX7_init_71 : decode cX7_init 71 = .ok (.aload_n 0, 1) := by decide +kernel
theorem dX7_init_72 : decode cX7_init 72 = .ok (.sipush 322, 3) := by decide +kernel
theorem dX7_init_75 : decode cX7_init 75 = .ok (.newarray .int, 2) := by decide +kernel
theorem dX7_init_77 : decode cX7_init 77 = .ok (.putfield 37, 3) := by decide +kernel
theorem dX7_init_80 : decode cX7_init 80 = .ok (.aload_n 0, 1) := by decide +kernel
theorem dX7_init_81 : decode cX7_init 81 = .ok (.bipush 6, 2) := by decide +kernel
theorem dX7_init_83 : decode cX7_init 83 = .ok (.newarray .int, 2) := by decide +kernel
theorem dX7_init_85 : decode cX7_init 85 = .ok (.putfield 40, 3) := by decide +kernel
theorem dX7_init_88 : decode cX7_init 88 = .ok (.aload_n 0, 1) := by decide +kernel
theorem dX7_init_89 : decode cX7_init 89 = .ok (.bipush 6, 2) := by decide +kernel
theorem dX7_init_91 : decode cX7_init 91 = .ok (.newarray .int, 2) := by decide +kernel
theorem dX7_init_93 : decode cX7_init 93 = .ok (.putfield 43, 3) := by decide +kernel
theorem dX7_init_96 : decode cX7_init 96 = .ok (.aload_n 0, 1) := by decide +kernel
theorem dX7_init_97 : decode cX7_init 97 = .ok (.iconst 2, 1) := by decide +kernel
theorem dX7_init_98 : decode cX7_init 98 = .ok (.newarray .boolean, 2) := by decide +kernel
theorem dX7_init_100 : decode cX7_init 100 = .ok (.putfield 46, 3) := by decide +kernel
theorem dX7_init_103 : decode cX7_init 103 = .ok (.aload_n 0, 1) := by decide +kernel
theorem dX7_init_104 : decode cX7_init 104 = .ok (.bipush 46, 2) := by decide +kernel
theorem dX7_init_106 : decode cX7_init 106 = .ok (.newarray .int, 2) := by decide +kernel
theorem dX7_init_108 : decode cX7_init 108 = .ok (.putfield 50, 3) := by decide +kernel
theorem dX7_init_111 : decode cX7_init 111 = .ok (.return_, 1) := by decide +kernel
theorem dX7_in_0 : decode cX7_in 0 = .ok (.lload_n 0, 1) := by decide +kernel
theorem dX7_in_1 : decode cX7_in 1 = .ok (.lload_n 2, 1) := by decide +kernel
theorem dX7_in_2 : decode cX7_in 2 = .ok (.lcmp, 1) := by decide +kernel
theorem dX7_in_3 : decode cX7_in 3 = .ok (.ifCond .lt 14, 3) := by decide +kernel
theorem dX7_in_6 : decode cX7_in 6 = .ok (.lload_n 0, 1) := by decide +kernel
theorem dX7_in_7 : decode cX7_in 7 = .ok (.lload 4, 2) := by decide +kernel
theorem dX7_in_9 : decode cX7_in 9 = .ok (.lcmp, 1) := by decide +kernel
theorem dX7_in_10 : decode cX7_in 10 = .ok (.ifCond .gt 7, 3) := by decide +kernel
theorem dX7_in_13 : decode cX7_in 13 = .ok (.iconst 1, 1) := by decide +kernel
theorem dX7_in_14 : decode cX7_in 14 = .ok (.goto 4, 3) := by decide +kernel
theorem dX7_in_17 : decode cX7_in 17 = .ok (.iconst 0, 1) := by decide +kernel
theorem dX7_in_18 : decode cX7_in 18 = .ok (.ireturn, 1) := by decide +kernel
theorem dX7_has_0 : decode cX7_has 0 = .ok (.iload_n 0, 1) := by decide +kernel
theorem dX7_has_1 : decode cX7_has 1 = .ok (.iload_n 1, 1) := by decide +kernel
theorem dX7_has_2 : decode cX7_has 2 = .ok (.ishr, 1) := by decide +kernel
theorem dX7_has_3 : decode cX7_has 3 = .ok (.iconst 1, 1) := by decide +kernel
theorem dX7_has_4 : decode cX7_has 4 = .ok (.iand, 1) := by decide +kernel
theorem dX7_has_5 : decode cX7_has 5 = .ok (.iconst 1, 1) := by decide +kernel
theorem dX7_has_6 : decode cX7_has 6 = .ok (.if_icmp .ne 7, 3) := by decide +kernel
theorem dX7_has_9 : decode cX7_has 9 = .ok (.iconst 1, 1) := by decide +kernel
theorem dX7_has_10 : decode cX7_has 10 = .ok (.goto 4, 3) := by decide +kernel
theorem dX7_has_13 : decode cX7_has 13 = .ok (.iconst 0, 1) := by decide +kernel
theorem dX7_has_14 : decode cX7_has 14 = .ok (.ireturn, 1) := by decide +kernel
theorem dX7_ones_0 : decode cX7_ones 0 = .ok (.iconst 0, 1) := by decide +kernel
theorem dX7_ones_1 : decode cX7_ones 1 = .ok (.istore_n 1, 1) := by decide +kernel
theorem dX7_ones_2 : decode cX7_ones 2 = .ok (.iconst 0, 1) := by decide +kernel
theorem dX7_ones_3 : decode cX7_ones 3 = .ok (.istore_n 2, 1) := by decide +kernel
theorem dX7_ones_4 : decode cX7_ones 4 = .ok (.iload_n 2, 1) := by decide +kernel
theorem dX7_ones_5 : decode cX7_ones 5 = .ok (.iconst 5, 1) := by decide +kernel
theorem dX7_ones_6 : decode cX7_ones 6 = .ok (.if_icmp .ge 17, 3) := by decide +kernel
theorem dX7_ones_9 : decode cX7_ones 9 = .ok (.iload_n 1, 1) := by decide +kernel
theorem dX7_ones_10 : decode cX7_ones 10 = .ok (.iload_n 0, 1) := by decide +kernel
theorem dX7_ones_11 : decode cX7_ones 11 = .ok (.iload_n 2, 1) := by decide +kernel
theorem dX7_ones_12 : decode cX7_ones 12 = .ok (.ishr, 1) := by decide +kernel
theorem dX7_ones_13 : decode cX7_ones 13 = .ok (.iconst 1, 1) := by decide +kernel
theorem dX7_ones_14 : decode cX7_ones 14 = .ok (.iand, 1) := by decide +kernel
theorem dX7_ones_15 : decode cX7_ones 15 = .ok (.iadd, 1) := by decide +kernel
theorem dX7_ones_16 : decode cX7_ones 16 = .ok (.istore_n 1, 1) := by decide +kernel
theorem dX7_ones_17 : decode cX7_ones 17 = .ok (.iinc 2 1, 3) := by decide +kernel
theorem dX7_ones_20 : decode cX7_ones 20 = .ok (.goto (-16), 3) := by decide +kernel
theorem dX7_ones_23 : decode cX7_ones 23 = .ok (.iload_n 1, 1) := by decide +kernel
theorem dX7_ones_24 : decode cX7_ones 24 = .ok (.ireturn, 1) := by decide +kernel
theorem dX7_lesser_0 : decode cX7_lesser 0 = .ok (.iload_n 0, 1) := by decide +kernel
theorem dX7_lesser_1 : decode cX7_lesser 1 = .ok (.iload_n 1, 1) := by decide +kernel
theorem dX7_lesser_2 : decode cX7_lesser 2 = .ok (.if_icmp .ge 7, 3) := by decide +kernel
theorem dX7_lesser_5 : decode cX7_lesser 5 = .ok (.iload_n 0, 1) := by decide +kernel
theorem dX7_lesser_6 : decode cX7_lesser 6 = .ok (.goto 4, 3) := by decide +kernel
theorem dX7_lesser_9 : decode cX7_lesser 9 = .ok (.iload_n 1, 1) := by decide +kernel
theorem dX7_lesser_10 : decode cX7_lesser 10 = .ok (.ireturn, 1) := by decide +kernel
set_option maxRecDepth 20000 in
theorem ggX7_write_X7_in : GoodIn wsX7_write wsX7_in := goodIn_r _ [7] (by decide +kernel) (by decide +kernel)
set_option maxRecDepth 20000 in
theorem gX7_write_X7_in : GoodIn wsX7_write (va_wsS RX7 55 yX7_in wsX7_in) := goodIn_app (goodIn_of _ (by decide +kernel)) ggX7_write_X7_in
theorem dX7_write_0 : decode cX7_write 0 = .ok (.iload_n 1, 1) := by decide +kernel
theorem dX7_write_1 : decode cX7_write 1 = .ok (.i2l, 1) := by decide +kernel
theorem dX7_write_2 : decode cX7_write 2 = .ok (.lconst 0, 1) := by decide +kernel
theorem dX7_write_3 : decode cX7_write 3 = .ok (.ldc2_w 53, 3) := by decide +kernel
theorem dX7_write_6 : decode cX7_write 6 = .ok (.invokestatic 55, 3) := by decide +kernel
theorem dX7_write_9 : decode cX7_write 9 = .ok (.ifCond .ne 6, 3) := by decide +kernel
theorem dX7_write_12 : decode cX7_write 12 = .ok (.bipush (-2), 2) := by decide +kernel
theorem dX7_write_14 : decode cX7_write 14 = .ok (.ireturn, 1) := by decide +kernel
theorem dX7_write_15 : decode cX7_write 15 = .ok (.aload_n 0, 1) := by decide +kernel
theorem dX7_write_16 : decode cX7_write 16 = .ok (.getfield 59, 3) := by decide +kernel
theorem dX7_write_19 : decode cX7_write 19 = .ok (.bipush 48, 2) := by decide +kernel
theorem dX7_write_21 : decode cX7_write 21 = .ok (.if_icmp .ne 6, 3) := by decide +kernel
theorem dX7_write_24 : decode cX7_write 24 = .ok (.bipush (-4), 2) := by decide +kernel
theorem dX7_write_26 : decode cX7_write 26 = .ok (.ireturn, 1) := by decide +kernel
theorem dX7_write_27 : decode cX7_write 27 = .ok (.aload_n 0, 1) := by decide +kernel
theorem dX7_write_28 : decode cX7_write 28 = .ok (.getfield 34, 3) := by decide +kernel
theorem dX7_write_31 : decode cX7_write 31 = .ok (.aload_n 0, 1) := by decide +kernel
theorem dX7_write_32 : decode cX7_write 32 = .ok (.getfield 59, 3) := by decide +kernel
theorem dX7_write_35 : decode cX7_write 35 = .ok (.iload_n 1, 1) := by decide +kernel
theorem dX7_write_36 : decode cX7_write 36 = .ok (.iastore, 1) := by decide +kernel
theorem dX7_write_37 : decode cX7_write 37 = .ok (.aload_n 0, 1) := by decide +kernel
theorem dX7_write_38 : decode cX7_write 38 = .ok (.dup, 1) := by decide +kernel
theorem dX7_write_39 : decode cX7_write 39 = .ok (.getfield 59, 3) := by decide +kernel
theorem dX7_write_42 : decode cX7_write 42 = .ok (.iconst 1, 1) := by decide +kernel
theorem dX7_write_43 : decode cX7_write 43 = .ok (.iadd, 1) := by decide +kernel
theorem dX7_write_44 : decode cX7_write 44 = .ok (.putfield 59, 3) := by decide +kernel
theorem dX7_write_47 : decode cX7_write 47 = .ok (.aload_n 0, 1) := by decide +kernel
theorem dX7_write_48 : decode cX7_write 48 = .ok (.getfield 59, 3) := by decide +kernel
theorem dX7_write_51 : decode cX7_write 51 = .ok (.ireturn, 1) := by decide +kernel
theorem dX7_wipe_0 : decode cX7_wipe 0 = .ok (.aload_n 0, 1) := by decide +kernel
theorem dX7_wipe_1 : decode cX7_wipe 1 = .ok (.getfield 59, 3) := by decide +kernel
theorem dX7_wipe_4 : decode cX7_wipe 4 = .ok (.istore_n 1, 1) := by decide +kernel
theorem dX7_wipe_5 : decode cX7_wipe 5 = .ok (.aload_n 0, 1) := by decide +kernel
theorem dX7_wipe_6 : decode cX7_wipe 6 = .ok (.iconst 0, 1) := by decide +kernel
theorem dX7_wipe_7 : decode cX7_wipe 7 = .ok (.putfield 59, 3) := by decide +kernel
theorem dX7_wipe_10 : decode cX7_wipe 10 = .ok (.iload_n 1, 1) := by decide +kernel
theorem dX7_wipe_11 : decode cX7_wipe 11 = .ok (.ireturn, 1) := by decide +kernel
set_option maxRecDepth 20000 in
theorem ggX7_figureOf_X7_in : GoodIn wsX7_figureOf wsX7_in := goodIn_r _ [9] (by decide +kernel) (by decide +kernel)
set_option maxRecDepth 20000 in
theorem gX7_figureOf_X7_in : GoodIn wsX7_figureOf (va_wsS RX7 55 yX7_in wsX7_in) := goodIn_app (goodIn_of _ (by decide +kernel)) ggX7_figureOf_X7_in
set_option maxRecDepth 20000 in
theorem ggX7_figureOf_X7_has : GoodIn wsX7_figureOf wsX7_has := goodIn_r _ [12] (by decide +kernel) (by decide +kernel)
set_option maxRecDepth 20000 in
theorem gX7_figureOf_X7_has : GoodIn wsX7_figureOf (va_wsS RX7 71 yX7_has wsX7_has) := goodIn_app (goodIn_of _ (by decide +kernel)) ggX7_figureOf_X7_has
theorem dX7_figureOf_0 : decode cX7_figureOf 0 = .ok (.aload_n 0, 1) := by decide +kernel
theorem dX7_figureOf_1 : decode cX7_figureOf 1 = .ok (.getfield 63, 3) := by decide +kernel
theorem dX7_figureOf_4 : decode cX7_figureOf 4 = .ok (.bipush (-9), 2) := by decide +kernel
theorem dX7_figureOf_6 : decode cX7_figureOf 6 = .ok (.if_icmp .ne 18, 3) := by decide +kernel
theorem dX7_figureOf_9 : decode cX7_figureOf 9 = .ok (.aload_n 0, 1) := by decide +kernel
theorem dX7_figureOf_10 : decode cX7_figureOf 10 = .ok (.getfield 66, 3) := by decide +kernel
theorem dX7_figureOf_13 : decode cX7_figureOf 13 = .ok (.aload_n 0, 1) := by decide +kernel
theorem dX7_figureOf_14 : decode cX7_figureOf 14 = .ok (.getfield 59, 3) := by decide +kernel
theorem dX7_figureOf_17 : decode cX7_figureOf 17 = .ok (.if_icmp .ge 7, 3) := by decide +kernel
theorem dX7_figureOf_20 : decode cX7_figureOf 20 = .ok (.iconst 1, 1) := by decide +kernel
theorem dX7_figureOf_21 : decode cX7_figureOf 21 = .ok (.goto 4, 3) := by decide +kernel
theorem dX7_figureOf_24 : decode cX7_figureOf 24 = .ok (.iconst 0, 1) := by decide +kernel
theorem dX7_figureOf_25 : decode cX7_figureOf 25 = .ok (.istore_n 2, 1) := by decide +kernel
theorem dX7_figureOf_26 : decode cX7_figureOf 26 = .ok (.iload_n 2, 1) := by decide +kernel
theorem dX7_figureOf_27 : decode cX7_figureOf 27 = .ok (.ifCond .eq 18, 3) := by decide +kernel
theorem dX7_figureOf_30 : decode cX7_figureOf 30 = .ok (.aload_n 0, 1) := by decide +kernel
theorem dX7_figureOf_31 : decode cX7_figureOf 31 = .ok (.getfield 34, 3) := by decide +kernel
theorem dX7_figureOf_34 : decode cX7_figureOf 34 = .ok (.aload_n 0, 1) := by decide +kernel
theorem dX7_figureOf_35 : decode cX7_figureOf 35 = .ok (.getfield 66, 3) := by decide +kernel
theorem dX7_figureOf_38 : decode cX7_figureOf 38 = .ok (.iaload, 1) := by decide +kernel
theorem dX7_figureOf_39 : decode cX7_figureOf 39 = .ok (.bipush 48, 2) := by decide +kernel
theorem dX7_figureOf_41 : decode cX7_figureOf 41 = .ok (.isub, 1) := by decide +kernel
theorem dX7_figureOf_42 : decode cX7_figureOf 42 = .ok (.goto 4, 3) := by decide +kernel
theorem dX7_figureOf_45 : decode cX7_figureOf 45 = .ok (.iconst 0, 1) := by decide +kernel
theorem dX7_figureOf_46 : decode cX7_figureOf 46 = .ok (.istore_n 3, 1) := by decide +kernel
theorem dX7_figureOf_47 : decode cX7_figureOf 47 = .ok (.iload_n 2, 1) := by decide +kernel
theorem dX7_figureOf_48 : decode cX7_figureOf 48 = .ok (.ifCond .eq 23, 3) := by decide +kernel
theorem dX7_figureOf_51 : decode cX7_figureOf 51 = .ok (.iload_n 3, 1) := by decide +kernel
theorem dX7_figureOf_52 : decode cX7_figureOf 52 = .ok (.i2l, 1) := by decide +kernel
theorem dX7_figureOf_53 : decode cX7_figureOf 53 = .ok (.lconst 0, 1) := by decide +kernel
theorem dX7_figureOf_54 : decode cX7_figureOf 54 = .ok (.ldc2_w 69, 3) := by decide +kernel
theorem dX7_figureOf_57 : decode cX7_figureOf 57 = .ok (.invokestatic 55, 3) := by decide +kernel
theorem dX7_figureOf_60 : decode cX7_figureOf 60 = .ok (.ifCond .eq 11, 3) := by decide +kernel
theorem dX7_figureOf_63 : decode cX7_figureOf 63 = .ok (.iload_n 1, 1) := by decide +kernel
theorem dX7_figureOf_64 : decode cX7_figureOf 64 = .ok (.iload_n 3, 1) := by decide +kernel
theorem dX7_figureOf_65 : decode cX7_figureOf 65 = .ok (.invokestatic 71, 3) := by decide +kernel
theorem dX7_figureOf_68 : decode cX7_figureOf 68 = .ok (.ifCond .ne 29, 3) := by decide +kernel
theorem dX7_figureOf_71 : decode cX7_figureOf 71 = .ok (.aload_n 0, 1) := by decide +kernel
theorem dX7_figureOf_72 : decode cX7_figureOf 72 = .ok (.aload_n 0, 1) := by decide +kernel
theorem dX7_figureOf_73 : decode cX7_figureOf 73 = .ok (.getfield 63, 3) := by decide +kernel
theorem dX7_figureOf_76 : decode cX7_figureOf 76 = .ok (.bipush (-9), 2) := by decide +kernel
theorem dX7_figureOf_78 : decode cX7_figureOf 78 = .ok (.if_icmp .ne 10, 3) := by decide +kernel
theorem dX7_figureOf_81 : decode cX7_figureOf 81 = .ok (.aload_n 0, 1) := by decide +kernel
theorem dX7_figureOf_82 : decode cX7_figureOf 82 = .ok (.getfield 66, 3) := by decide +kernel
theorem dX7_figureOf_85 : decode cX7_figureOf 85 = .ok (.goto 7, 3) := by decide +kernel
theorem dX7_figureOf_88 : decode cX7_figureOf 88 = .ok (.aload_n 0, 1) := by decide +kernel
theorem dX7_figureOf_89 : decode cX7_figureOf 89 = .ok (.getfield 63, 3) := by decide +kernel
theorem dX7_figureOf_92 : decode cX7_figureOf 92 = .ok (.putfield 63, 3) := by decide +kernel
theorem dX7_figureOf_95 : decode cX7_figureOf 95 = .ok (.iconst 0, 1) := by decide +kernel
theorem dX7_figureOf_96 : decode cX7_figureOf 96 = .ok (.ireturn, 1) := by decide +kernel
theorem dX7_figureOf_97 : decode cX7_figureOf 97 = .ok (.aload_n 0, 1) := by decide +kernel
theorem dX7_figureOf_98 : decode cX7_figureOf 98 = .ok (.dup, 1) := by decide +kernel
theorem dX7_figureOf_99 : decode cX7_figureOf 99 = .ok (.getfield 66, 3) := by decide +kernel
theorem dX7_figureOf_102 : decode cX7_figureOf 102 = .ok (.iconst 1, 1) := by decide +kernel
theorem dX7_figureOf_103 : decode cX7_figureOf 103 = .ok (.iadd, 1) := by decide +kernel
theorem dX7_figureOf_104 : decode cX7_figureOf 104 = .ok (.putfield 66, 3) := by decide +kernel
theorem dX7_figureOf_107 : decode cX7_figureOf 107 = .ok (.iload_n 3, 1) := by decide +kernel
theorem dX7_figureOf_108 : decode cX7_figureOf 108 = .ok (.ireturn, 1) := by decide +kernel
set_option maxRecDepth 20000 in
theorem ggX7_readText_X7_readPart : GoodIn wsX7_readText wsX7_readPart := goodIn_r _ [12, 3, 1, 13, 5, 4, 14, 2, 15, 16, 17, 11, 18, 6, 7, 19, 20, 21, 22, 23, 24, 25, 26, 27, 28, 29, 30, 31, 32, 33, 34, 35, 36, 37, 38, 39, 40, 41, 42, 43, 44, 45, 46, 47, 48, 49, 50, 51] (by decide +kernel) (by decide +kernel)
set_option maxRecDepth 20000 in
theorem gX7_readText_X7_readPart : GoodIn wsX7_readText (wsV RX7 84 RX7 yX7_readPart wsX7_readPart) := goodIn_app (goodIn_of _ (by decide +kernel)) ggX7_readText_X7_readPart
theorem dX7_readText_0 : decode cX7_readText 0 = .ok (.aload_n 0, 1) := by decide +kernel
theorem dX7_readText_1 : decode cX7_readText 1 = .ok (.iconst 0, 1) := by decide +kernel
theorem dX7_readText_2 : decode cX7_readText 2 = .ok (.putfield 66, 3) := by decide +kernel
theorem dX7_readText_5 : decode cX7_readText 5 = .ok (.aload_n 0, 1) := by decide +kernel
theorem dX7_readText_6 : decode cX7_readText 6 = .ok (.bipush (-9), 2) := by decide +kernel
theorem dX7_readText_8 : decode cX7_readText 8 = .ok (.putfield 63, 3) := by decide +kernel
theorem dX7_readText_11 : decode cX7_readText 11 = .ok (.aload_n 0, 1) := by decide +kernel
theorem dX7_readText_12 : decode cX7_readText 12 = .ok (.iconst 0, 1) := by decide +kernel
theorem dX7_readText_13 : decode cX7_readText 13 = .ok (.putfield 75, 3) := by decide +kernel
theorem dX7_readText_16 : decode cX7_readText 16 = .ok (.aload_n 0, 1) := by decide +kernel
theorem dX7_readText_17 : decode cX7_readText 17 = .ok (.iconst 0, 1) := by decide +kernel
theorem dX7_readText_18 : decode cX7_readText 18 = .ok (.putfield 78, 3) := by decide +kernel
theorem dX7_readText_21 : decode cX7_readText 21 = .ok (.aload_n 0, 1) := by decide +kernel
theorem dX7_readText_22 : decode cX7_readText 22 = .ok (.iconst 0, 1) := by decide +kernel
theorem dX7_readText_23 : decode cX7_readText 23 = .ok (.putfield 81, 3) := by decide +kernel
theorem dX7_readText_26 : decode cX7_readText 26 = .ok (.aload_n 0, 1) := by decide +kernel
theorem dX7_readText_27 : decode cX7_readText 27 = .ok (.getfield 59, 3) := by decide +kernel
theorem dX7_readText_30 : decode cX7_readText 30 = .ok (.ifCond .eq 14, 3) := by decide +kernel
theorem dX7_readText_33 : decode cX7_readText 33 = .ok (.aload_n 0, 1) := by decide +kernel
theorem dX7_readText_34 : decode cX7_readText 34 = .ok (.getfield 34, 3) := by decide +kernel
theorem dX7_readText_37 : decode cX7_readText 37 = .ok (.iconst 0, 1) := by decide +kernel
theorem dX7_readText_38 : decode cX7_readText 38 = .ok (.iaload, 1) := by decide +kernel
theorem dX7_readText_39 : decode cX7_readText 39 = .ok (.bipush 77, 2) := by decide +kernel
theorem dX7_readText_41 : decode cX7_readText 41 = .ok (.if_icmp .eq 5, 3) := by decide +kernel
theorem dX7_readText_44 : decode cX7_readText 44 = .ok (.iconst 0, 1) := by decide +kernel
theorem dX7_readText_45 : decode cX7_readText 45 = .ok (.ireturn, 1) := by decide +kernel
theorem dX7_readText_46 : decode cX7_readText 46 = .ok (.aload_n 0, 1) := by decide +kernel
theorem dX7_readText_47 : decode cX7_readText 47 = .ok (.iconst 1, 1) := by decide +kernel
theorem dX7_readText_48 : decode cX7_readText 48 = .ok (.putfield 66, 3) := by decide +kernel
theorem dX7_readText_51 : decode cX7_readText 51 = .ok (.aload_n 0, 1) := by decide +kernel
theorem dX7_readText_52 : decode cX7_readText 52 = .ok (.getfield 63, 3) := by decide +kernel
theorem dX7_readText_55 : decode cX7_readText 55 = .ok (.bipush (-9), 2) := by decide +kernel
theorem dX7_readText_57 : decode cX7_readText 57 = .ok (.if_icmp .ne 30, 3) := by decide +kernel
theorem dX7_readText_60 : decode cX7_readText 60 = .ok (.aload_n 0, 1) := by decide +kernel
theorem dX7_readText_61 : decode cX7_readText 61 = .ok (.getfield 66, 3) := by decide +kernel
theorem dX7_readText_64 : decode cX7_readText 64 = .ok (.aload_n 0, 1) := by decide +kernel
theorem dX7_readText_65 : decode cX7_readText 65 = .ok (.getfield 59, 3) := by decide +kernel
theorem dX7_readText_68 : decode cX7_readText 68 = .ok (.if_icmp .ge 19, 3) := by decide +kernel
theorem dX7_readText_71 : decode cX7_readText 71 = .ok (.aload_n 0, 1) := by decide +kernel
theorem dX7_readText_72 : decode cX7_readText 72 = .ok (.aload_n 0, 1) := by decide +kernel
theorem dX7_readText_73 : decode cX7_readText 73 = .ok (.getfield 34, 3) := by decide +kernel
theorem dX7_readText_76 : decode cX7_readText 76 = .ok (.aload_n 0, 1) := by decide +kernel
theorem dX7_readText_77 : decode cX7_readText 77 = .ok (.getfield 66, 3) := by decide +kernel
theorem dX7_readText_80 : decode cX7_readText 80 = .ok (.iaload, 1) := by decide +kernel
theorem dX7_readText_81 : decode cX7_readText 81 = .ok (.invokevirtual 84, 3) := by decide +kernel
theorem dX7_readText_84 : decode cX7_readText 84 = .ok (.goto (-33), 3) := by decide +kernel
theorem dX7_readText_87 : decode cX7_readText 87 = .ok (.aload_n 0, 1) := by decide +kernel
theorem dX7_readText_88 : decode cX7_readText 88 = .ok (.getfield 63, 3) := by decide +kernel
theorem dX7_readText_91 : decode cX7_readText 91 = .ok (.ireturn, 1) := by decide +kernel
set_option maxRecDepth 20000 in
theorem ggX7_readPart_X7_figureOf : GoodIn wsX7_readPart wsX7_figureOf := goodIn_r _ [12, 7, 2, 13, 14, 15, 16, 17, 11, 18, 19, 20, 21, 22, 23, 24, 25, 26, 27, 28, 29, 30, 31, 32, 33, 34, 35, 36, 37, 38, 39, 40, 41, 42, 43, 44, 45, 46, 47] (by decide +kernel) (by decide +kernel)
set_option maxRecDepth 20000 in
theorem gX7_readPart_X7_figureOf : GoodIn wsX7_readPart (wsV RX7 88 RX7 yX7_figureOf wsX7_figureOf) := goodIn_app (goodIn_of _ (by decide +kernel)) ggX7_readPart_X7_figureOf
theorem dX7_readPart_0 : decode cX7_readPart 0 = .ok (.iload_n 1, 1) := by decide +kernel
theorem dX7_readPart_1 : decode cX7_readPart 1 = .ok (.bipush 76, 2) := by decide +kernel
theorem dX7_readPart_3 : decode cX7_readPart 3 = .ok (.if_icmp .ne 107, 3) := by decide +kernel
theorem dX7_readPart_6 : decode cX7_readPart 6 = .ok (.aload_n 0, 1) := by decide +kernel
theorem dX7_readPart_7 : decode cX7_readPart 7 = .ok (.getfield 75, 3) := by decide +kernel
theorem dX7_readPart_10 : decode cX7_readPart 10 = .ok (.iconst 4, 1) := by decide +kernel
theorem dX7_readPart_11 : decode cX7_readPart 11 = .ok (.if_icmp .ge 99, 3) := by decide +kernel
theorem dX7_readPart_14 : decode cX7_readPart 14 = .ok (.aload_n 0, 1) := by decide +kernel
theorem dX7_readPart_15 : decode cX7_readPart 15 = .ok (.dup, 1) := by decide +kernel
theorem dX7_readPart_16 : decode cX7_readPart 16 = .ok (.getfield 66, 3) := by decide +kernel
theorem dX7_readPart_19 : decode cX7_readPart 19 = .ok (.iconst 1, 1) := by decide +kernel
theorem dX7_readPart_20 : decode cX7_readPart 20 = .ok (.iadd, 1) := by decide +kernel
theorem dX7_readPart_21 : decode cX7_readPart 21 = .ok (.putfield 66, 3) := by decide +kernel
theorem dX7_readPart_24 : decode cX7_readPart 24 = .ok (.iconst 3, 1) := by decide +kernel
theorem dX7_readPart_25 : decode cX7_readPart 25 = .ok (.aload_n 0, 1) := by decide +kernel
theorem dX7_readPart_26 : decode cX7_readPart 26 = .ok (.getfield 75, 3) := by decide +kernel
theorem dX7_readPart_29 : decode cX7_readPart 29 = .ok (.imul, 1) := by decide +kernel
theorem dX7_readPart_30 : decode cX7_readPart 30 = .ok (.istore_n 2, 1) := by decide +kernel
theorem dX7_readPart_31 : decode cX7_readPart 31 = .ok (.aload_n 0, 1) := by decide +kernel
theorem dX7_readPart_32 : decode cX7_readPart 32 = .ok (.getfield 28, 3) := by decide +kernel
theorem dX7_readPart_35 : decode cX7_readPart 35 = .ok (.iload_n 2, 1) := by decide +kernel
theorem dX7_readPart_36 : decode cX7_readPart 36 = .ok (.aload_n 0, 1) := by decide +kernel
theorem dX7_readPart_37 : decode cX7_readPart 37 = .ok (.sipush 1023, 3) := by decide +kernel
theorem dX7_readPart_40 : decode cX7_readPart 40 = .ok (.aload_n 0, 1) := by decide +kernel
theorem dX7_readPart_41 : decode cX7_readPart 41 = .ok (.getfield 81, 3) := by decide +kernel
theorem dX7_readPart_44 : decode cX7_readPart 44 = .ok (.iconst (-1), 1) := by decide +kernel
theorem dX7_readPart_45 : decode cX7_readPart 45 = .ok (.ixor, 1) := by decide +kernel
theorem dX7_readPart_46 : decode cX7_readPart 46 = .ok (.iand, 1) := by decide +kernel
theorem dX7_readPart_47 : decode cX7_readPart 47 = .ok (.invokevirtual 88, 3) := by decide +kernel
theorem dX7_readPart_50 : decode cX7_readPart 50 = .ok (.iastore, 1) := by decide +kernel
theorem dX7_readPart_51 : decode cX7_readPart 51 = .ok (.aload_n 0, 1) := by decide +kernel
theorem dX7_readPart_52 : decode cX7_readPart 52 = .ok (.getfield 28, 3) := by decide +kernel
theorem dX7_readPart_55 : decode cX7_readPart 55 = .ok (.iload_n 2, 1) := by decide +kernel
theorem dX7_readPart_56 : decode cX7_readPart 56 = .ok (.iconst 1, 1) := by decide +kernel
theorem dX7_readPart_57 : decode cX7_readPart 57 = .ok (.iadd, 1) := by decide +kernel
theorem dX7_readPart_58 : decode cX7_readPart 58 = .ok (.aload_n 0, 1) := by decide +kernel
theorem dX7_readPart_59 : decode cX7_readPart 59 = .ok (.sipush 1022, 3) := by decide +kernel
theorem dX7_readPart_62 : decode cX7_readPart 62 = .ok (.invokevirtual 88, 3) := by decide +kernel
theorem dX7_readPart_65 : decode cX7_readPart 65 = .ok (.iastore, 1) := by decide +kernel
theorem dX7_readPart_66 : decode cX7_readPart 66 = .ok (.aload_n 0, 1) := by decide +kernel
theorem dX7_readPart_67 : decode cX7_readPart 67 = .ok (.getfield 28, 3) := by decide +kernel
theorem dX7_readPart_70 : decode cX7_readPart 70 = .ok (.iload_n 2, 1) := by decide +kernel
theorem dX7_readPart_71 : decode cX7_readPart 71 = .ok (.iconst 2, 1) := by decide +kernel
theorem dX7_readPart_72 : decode cX7_readPart 72 = .ok (.iadd, 1) := by decide +kernel
theorem dX7_readPart_73 : decode cX7_readPart 73 = .ok (.aload_n 0, 1) := by decide +kernel
theorem dX7_readPart_74 : decode cX7_readPart 74 = .ok (.bipush 15, 2) := by decide +kernel
theorem dX7_readPart_76 : decode cX7_readPart 76 = .ok (.invokevirtual 88, 3) := by decide +kernel
theorem dX7_readPart_79 : decode cX7_readPart 79 = .ok (.iastore, 1) := by decide +kernel
theorem dX7_readPart_80 : decode cX7_readPart 80 = .ok (.aload_n 0, 1) := by decide +kernel
theorem dX7_readPart_81 : decode cX7_readPart 81 = .ok (.dup, 1) := by decide +kernel
theorem dX7_readPart_82 : decode cX7_readPart 82 = .ok (.getfield 81, 3) := by decide +kernel
theorem dX7_readPart_85 : decode cX7_readPart 85 = .ok (.iconst 1, 1) := by decide +kernel
theorem dX7_readPart_86 : decode cX7_readPart 86 = .ok (.aload_n 0, 1) := by decide +kernel
theorem dX7_readPart_87 : decode cX7_readPart 87 = .ok (.getfield 28, 3) := by decide +kernel
theorem dX7_readPart_90 : decode cX7_readPart 90 = .ok (.iload_n 2, 1) := by decide +kernel
theorem dX7_readPart_91 : decode cX7_readPart 91 = .ok (.iaload, 1) := by decide +kernel
theorem dX7_readPart_92 : decode cX7_readPart 92 = .ok (.ishl, 1) := by decide +kernel
theorem dX7_readPart_93 : decode cX7_readPart 93 = .ok (.ior, 1) := by decide +kernel
theorem dX7_readPart_94 : decode cX7_readPart 94 = .ok (.putfield 81, 3) := by decide +kernel
theorem dX7_readPart_97 : decode cX7_readPart 97 = .ok (.aload_n 0, 1) := by decide +kernel
theorem dX7_readPart_98 : decode cX7_readPart 98 = .ok (.dup, 1) := by decide +kernel
theorem dX7_readPart_99 : decode cX7_readPart 99 = .ok (.getfield 75, 3) := by decide +kernel
theorem dX7_readPart_102 : decode cX7_readPart 102 = .ok (.iconst 1, 1) := by decide +kernel
theorem dX7_readPart_103 : decode cX7_readPart 103 = .ok (.iadd, 1) := by decide +kernel
theorem dX7_readPart_104 : decode cX7_readPart 104 = .ok (.putfield 75, 3) := by decide +kernel
theorem dX7_readPart_107 : decode cX7_readPart 107 = .ok (.goto 123, 3) := by decide +kernel
theorem dX7_readPart_110 : decode cX7_readPart 110 = .ok (.iload_n 1, 1) := by decide +kernel
theorem dX7_readPart_111 : decode cX7_readPart 111 = .ok (.bipush 80, 2) := by decide +kernel
theorem dX7_readPart_113 : decode cX7_readPart 113 = .ok (.if_icmp .ne 109, 3) := by decide +kernel
theorem dX7_readPart_116 : decode cX7_readPart 116 = .ok (.aload_n 0, 1) := by decide +kernel
theorem dX7_readPart_117 : decode cX7_readPart 117 = .ok (.getfield 78, 3) := by decide +kernel
theorem dX7_readPart_120 : decode cX7_readPart 120 = .ok (.iconst 5, 1) := by decide +kernel
theorem dX7_readPart_121 : decode cX7_readPart 121 = .ok (.if_icmp .ge 101, 3) := by decide +kernel
theorem dX7_readPart_124 : decode cX7_readPart 124 = .ok (.aload_n 0, 1) := by decide +kernel
theorem dX7_readPart_125 : decode cX7_readPart 125 = .ok (.dup, 1) := by decide +kernel
theorem dX7_readPart_126 : decode cX7_readPart 126 = .ok (.getfield 66, 3) := by decide +kernel
theorem dX7_readPart_129 : decode cX7_readPart 129 = .ok (.iconst 1, 1) := by decide +kernel
theorem dX7_readPart_130 : decode cX7_readPart 130 = .ok (.iadd, 1) := by decide +kernel
theorem dX7_readPart_131 : decode cX7_readPart 131 = .ok (.putfield 66, 3) := by decide +kernel
theorem dX7_readPart_134 : decode cX7_readPart 134 = .ok (.iconst 4, 1) := by decide +kernel
theorem dX7_readPart_135 : decode cX7_readPart 135 = .ok (.aload_n 0, 1) := by decide +kernel
theorem dX7_readPart_136 : decode cX7_readPart 136 = .ok (.getfield 78, 3) := by decide +kernel
theorem dX7_readPart_139 : decode cX7_readPart 139 = .ok (.imul, 1) := by decide +kernel
theorem dX7_readPart_140 : decode cX7_readPart 140 = .ok (.istore_n 2, 1) := by decide +kernel
theorem dX7_readPart_141 : decode cX7_readPart 141 = .ok (.aload_n 0, 1) := by decide +kernel
theorem dX7_readPart_142 : decode cX7_readPart 142 = .ok (.getfield 31, 3) := by decide +kernel
theorem dX7_readPart_145 : decode cX7_readPart 145 = .ok (.iload_n 2, 1) := by decide +kernel
theorem dX7_readPart_146 : decode cX7_readPart 146 = .ok (.aload_n 0, 1) := by decide +kernel
theorem dX7_readPart_147 : decode cX7_readPart 147 = .ok (.sipush 1023, 3) := by decide +kernel
theorem dX7_readPart_150 : decode cX7_readPart 150 = .ok (.invokevirtual 88, 3) := by decide +kernel
theorem dX7_readPart_153 : decode cX7_readPart 153 = .ok (.iastore, 1) := by decide +kernel
theorem dX7_readPart_154 : decode cX7_readPart 154 = .ok (.aload_n 0, 1) := by decide +kernel
theorem dX7_readPart_155 : decode cX7_readPart 155 = .ok (.getfield 31, 3) := by decide +kernel
theorem dX7_readPart_158 : decode cX7_readPart 158 = .ok (.iload_n 2, 1) := by decide +kernel
theorem dX7_readPart_159 : decode cX7_readPart 159 = .ok (.iconst 1, 1) := by decide +kernel
theorem dX7_readPart_160 : decode cX7_readPart 160 = .ok (.iadd, 1) := by decide +kernel
theorem dX7_readPart_161 : decode cX7_readPart 161 = .ok (.aload_n 0, 1) := by decide +kernel
theorem dX7_readPart_162 : decode cX7_readPart 162 = .ok (.sipush 1023, 3) := by decide +kernel
theorem dX7_readPart_165 : decode cX7_readPart 165 = .ok (.iconst 1, 1) := by decide +kernel
theorem dX7_readPart_166 : decode cX7_readPart 166 = .ok (.aload_n 0, 1) := by decide +kernel
theorem dX7_readPart_167 : decode cX7_readPart 167 = .ok (.getfield 31, 3) := by decide +kernel
theorem dX7_readPart_170 : decode cX7_readPart 170 = .ok (.iload_n 2, 1) := by decide +kernel
theorem dX7_readPart_171 : decode cX7_readPart 171 = .ok (.iaload, 1) := by decide +kernel
theorem dX7_readPart_172 : decode cX7_readPart 172 = .ok (.ishl, 1) := by decide +kernel
theorem dX7_readPart_173 : decode cX7_readPart 173 = .ok (.iconst (-1), 1) := by decide +kernel
theorem dX7_readPart_174 : decode cX7_readPart 174 = .ok (.ixor, 1) := by decide +kernel
theorem dX7_readPart_175 : decode cX7_readPart 175 = .ok (.iand, 1) := by decide +kernel
theorem dX7_readPart_176 : decode cX7_readPart 176 = .ok (.invokevirtual 88, 3) := by decide +kernel
theorem dX7_readPart_179 : decode cX7_readPart 179 = .ok (.iastore, 1) := by decide +kernel
theorem dX7_readPart_180 : decode cX7_readPart 180 = .ok (.aload_n 0, 1) := by decide +kernel
theorem dX7_readPart_181 : decode cX7_readPart 181 = .ok (.getfield 31, 3) := by decide +kernel
theorem dX7_readPart_184 : decode cX7_readPart 184 = .ok (.iload_n 2, 1) := by decide +kernel
theorem dX7_readPart_185 : decode cX7_readPart 185 = .ok (.iconst 2, 1) := by decide +kernel
theorem dX7_readPart_186 : decode cX7_readPart 186 = .ok (.iadd, 1) := by decide +kernel
theorem dX7_readPart_187 : decode cX7_readPart 187 = .ok (.aload_n 0, 1) := by decide +kernel
theorem dX7_readPart_188 : decode cX7_readPart 188 = .ok (.sipush 1023, 3) := by decide +kernel
theorem dX7_readPart_191 : decode cX7_readPart 191 = .ok (.invokevirtual 88, 3) := by decide +kernel
theorem dX7_readPart_194 : decode cX7_readPart 194 = .ok (.iastore, 1) := by decide +kernel
theorem dX7_readPart_195 : decode cX7_readPart 195 = .ok (.aload_n 0, 1) := by decide +kernel
theorem dX7_readPart_196 : decode cX7_readPart 196 = .ok (.getfield 31, 3) := by decide +kernel
theorem dX7_readPart_199 : decode cX7_readPart 199 = .ok (.iload_n 2, 1) := by decide +kernel
theorem dX7_readPart_200 : decode cX7_readPart 200 = .ok (.iconst 3, 1) := by decide +kernel
theorem dX7_readPart_201 : decode cX7_readPart 201 = .ok (.iadd, 1) := by decide +kernel
theorem dX7_readPart_202 : decode cX7_readPart 202 = .ok (.aload_n 0, 1) := by decide +kernel
theorem dX7_readPart_203 : decode cX7_readPart 203 = .ok (.bipush 15, 2) := by decide +kernel
theorem dX7_readPart_205 : decode cX7_readPart 205 = .ok (.invokevirtual 88, 3) := by decide +kernel
theorem dX7_readPart_208 : decode cX7_readPart 208 = .ok (.iastore, 1) := by decide +kernel
theorem dX7_readPart_209 : decode cX7_readPart 209 = .ok (.aload_n 0, 1) := by decide +kernel
theorem dX7_readPart_210 : decode cX7_readPart 210 = .ok (.dup, 1) := by decide +kernel
theorem dX7_readPart_211 : decode cX7_readPart 211 = .ok (.getfield 78, 3) := by decide +kernel
theorem dX7_readPart_214 : decode cX7_readPart 214 = .ok (.iconst 1, 1) := by decide +kernel
theorem dX7_readPart_215 : decode cX7_readPart 215 = .ok (.iadd, 1) := by decide +kernel
theorem dX7_readPart_216 : decode cX7_readPart 216 = .ok (.putfield 78, 3) := by decide +kernel
theorem dX7_readPart_219 : decode cX7_readPart 219 = .ok (.goto 11, 3) := by decide +kernel
theorem dX7_readPart_222 : decode cX7_readPart 222 = .ok (.aload_n 0, 1) := by decide +kernel
theorem dX7_readPart_223 : decode cX7_readPart 223 = .ok (.aload_n 0, 1) := by decide +kernel
theorem dX7_readPart_224 : decode cX7_readPart 224 = .ok (.getfield 66, 3) := by decide +kernel
theorem dX7_readPart_227 : decode cX7_readPart 227 = .ok (.putfield 63, 3) := by decide +kernel
theorem dX7_readPart_230 : decode cX7_readPart 230 = .ok (.return_, 1) := by decide +kernel
set_option maxRecDepth 20000 in
theorem ggX7_fault_X7_readText : GoodIn wsX7_fault wsX7_readText := goodIn_r _ [5, 6, 7, 8, 9, 10, 11, 12, 13, 14, 15, 4, 16, 17, 18, 19, 20, 21, 22, 23, 24, 25, 26, 27, 28, 29, 30, 31, 32, 33, 34, 35, 36, 37, 38, 39, 40, 41, 42, 43, 44, 45, 46, 47, 48, 49, 50, 51, 52, 53, 54, 55] (by decide +kernel) (by decide +kernel)
set_option maxRecDepth 20000 in
theorem gX7_fault_X7_readText : GoodIn wsX7_fault (wsV RX7 92 RX7 yX7_readText wsX7_readText) := goodIn_app (goodIn_of _ (by decide +kernel)) ggX7_fault_X7_readText
theorem dX7_fault_0 : decode cX7_fault 0 = .ok (.aload_n 0, 1) := by decide +kernel
theorem dX7_fault_1 : decode cX7_fault 1 = .ok (.invokevirtual 92, 3) := by decide +kernel
theorem dX7_fault_4 : decode cX7_fault 4 = .ok (.ireturn, 1) := by decide +kernel
set_option maxRecDepth 20000 in
theorem ggX7_market_X7_readText : GoodIn wsX7_market wsX7_readText := goodIn_r _ [19, 20, 21, 1, 3, 22, 23, 24, 25, 26, 27, 18, 28, 6, 10, 29, 30, 31, 32, 33, 34, 35, 36, 37, 38, 39, 40, 41, 42, 43, 44, 45, 46, 47, 48, 49, 50, 51, 52, 53, 54, 55, 56, 57, 58, 59, 60, 61, 62, 63, 64, 65] (by decide +kernel) (by decide +kernel)
set_option maxRecDepth 20000 in
theorem gX7_market_X7_readText : GoodIn wsX7_market (wsV RX7 92 RX7 yX7_readText wsX7_readText) := goodIn_app (goodIn_of _ (by decide +kernel)) ggX7_market_X7_readText
theorem dX7_market_0 : decode cX7_market 0 = .ok (.aload_n 0, 1) := by decide +kernel
theorem dX7_market_1 : decode cX7_market 1 = .ok (.invokevirtual 92, 3) := by decide +kernel
theorem dX7_market_4 : decode cX7_market 4 = .ok (.bipush (-9), 2) := by decide +kernel
theorem dX7_market_6 : decode cX7_market 6 = .ok (.if_icmp .eq 6, 3) := by decide +kernel
theorem dX7_market_9 : decode cX7_market 9 = .ok (.bipush (-3), 2) := by decide +kernel
theorem dX7_market_11 : decode cX7_market 11 = .ok (.ireturn, 1) := by decide +kernel
theorem dX7_market_12 : decode cX7_market 12 = .ok (.aload_n 0, 1) := by decide +kernel
theorem dX7_market_13 : decode cX7_market 13 = .ok (.aload_n 0, 1) := by decide +kernel
theorem dX7_market_14 : decode cX7_market 14 = .ok (.getfield 75, 3) := by decide +kernel
theorem dX7_market_17 : decode cX7_market 17 = .ok (.putfield 96, 3) := by decide +kernel
theorem dX7_market_20 : decode cX7_market 20 = .ok (.aload_n 0, 1) := by decide +kernel
theorem dX7_market_21 : decode cX7_market 21 = .ok (.aload_n 0, 1) := by decide +kernel
theorem dX7_market_22 : decode cX7_market 22 = .ok (.getfield 78, 3) := by decide +kernel
theorem dX7_market_25 : decode cX7_market 25 = .ok (.putfield 99, 3) := by decide +kernel
theorem dX7_market_28 : decode cX7_market 28 = .ok (.iconst 0, 1) := by decide +kernel
theorem dX7_market_29 : decode cX7_market 29 = .ok (.istore_n 1, 1) := by decide +kernel
theorem dX7_market_30 : decode cX7_market 30 = .ok (.iload_n 1, 1) := by decide +kernel
theorem dX7_market_31 : decode cX7_market 31 = .ok (.bipush 23, 2) := by decide +kernel
theorem dX7_market_33 : decode cX7_market 33 = .ok (.if_icmp .ge 16, 3) := by decide +kernel
theorem dX7_market_36 : decode cX7_market 36 = .ok (.aload_n 0, 1) := by decide +kernel
theorem dX7_market_37 : decode cX7_market 37 = .ok (.getfield 25, 3) := by decide +kernel
theorem dX7_market_40 : decode cX7_market 40 = .ok (.iload_n 1, 1) := by decide +kernel
theorem dX7_market_41 : decode cX7_market 41 = .ok (.iconst 0, 1) := by decide +kernel
theorem dX7_market_42 : decode cX7_market 42 = .ok (.iastore, 1) := by decide +kernel
theorem dX7_market_43 : decode cX7_market 43 = .ok (.iinc 1 1, 3) := by decide +kernel
theorem dX7_market_46 : decode cX7_market 46 = .ok (.goto (-16), 3) := by decide +kernel
theorem dX7_market_49 : decode cX7_market 49 = .ok (.iconst 0, 1) := by decide +kernel
theorem dX7_market_50 : decode cX7_market 50 = .ok (.istore_n 1, 1) := by decide +kernel
theorem dX7_market_51 : decode cX7_market 51 = .ok (.iload_n 1, 1) := by decide +kernel
theorem dX7_market_52 : decode cX7_market 52 = .ok (.aload_n 0, 1) := by decide +kernel
theorem dX7_market_53 : decode cX7_market 53 = .ok (.getfield 96, 3) := by decide +kernel
theorem dX7_market_56 : decode cX7_market 56 = .ok (.if_icmp .ge 55, 3) := by decide +kernel
theorem dX7_market_59 : decode cX7_market 59 = .ok (.aload_n 0, 1) := by decide +kernel
theorem dX7_market_60 : decode cX7_market 60 = .ok (.getfield 25, 3) := by decide +kernel
theorem dX7_market_63 : decode cX7_market 63 = .ok (.iload_n 1, 1) := by decide +kernel
theorem dX7_market_64 : decode cX7_market 64 = .ok (.aload_n 0, 1) := by decide +kernel
theorem dX7_market_65 : decode cX7_market 65 = .ok (.getfield 28, 3) := by decide +kernel
theorem dX7_market_68 : decode cX7_market 68 = .ok (.iconst 3, 1) := by decide +kernel
theorem dX7_market_69 : decode cX7_market 69 = .ok (.iload_n 1, 1) := by decide +kernel
theorem dX7_market_70 : decode cX7_market 70 = .ok (.imul, 1) := by decide +kernel
theorem dX7_market_71 : decode cX7_market 71 = .ok (.iaload, 1) := by decide +kernel
theorem dX7_market_72 : decode cX7_market 72 = .ok (.iastore, 1) := by decide +kernel
theorem dX7_market_73 : decode cX7_market 73 = .ok (.aload_n 0, 1) := by decide +kernel
theorem dX7_market_74 : decode cX7_market 74 = .ok (.getfield 7, 3) := by decide +kernel
theorem dX7_market_77 : decode cX7_market 77 = .ok (.iload_n 1, 1) := by decide +kernel
theorem dX7_market_78 : decode cX7_market 78 = .ok (.aload_n 0, 1) := by decide +kernel
theorem dX7_market_79 : decode cX7_market 79 = .ok (.getfield 28, 3) := by decide +kernel
theorem dX7_market_82 : decode cX7_market 82 = .ok (.iconst 3, 1) := by decide +kernel
theorem dX7_market_83 : decode cX7_market 83 = .ok (.iload_n 1, 1) := by decide +kernel
theorem dX7_market_84 : decode cX7_market 84 = .ok (.imul, 1) := by decide +kernel
theorem dX7_market_85 : decode cX7_market 85 = .ok (.iconst 1, 1) := by decide +kernel
theorem dX7_market_86 : decode cX7_market 86 = .ok (.iadd, 1) := by decide +kernel
theorem dX7_market_87 : decode cX7_market 87 = .ok (.iaload, 1) := by decide +kernel
theorem dX7_market_88 : decode cX7_market 88 = .ok (.iastore, 1) := by decide +kernel
theorem dX7_market_89 : decode cX7_market 89 = .ok (.aload_n 0, 1) := by decide +kernel
theorem dX7_market_90 : decode cX7_market 90 = .ok (.getfield 13, 3) := by decide +kernel
theorem dX7_market_93 : decode cX7_market 93 = .ok (.iload_n 1, 1) := by decide +kernel
theorem dX7_market_94 : decode cX7_market 94 = .ok (.aload_n 0, 1) := by decide +kernel
theorem dX7_market_95 : decode cX7_market 95 = .ok (.getfield 28, 3) := by decide +kernel
theorem dX7_market_98 : decode cX7_market 98 = .ok (.iconst 3, 1) := by decide +kernel
theorem dX7_market_99 : decode cX7_market 99 = .ok (.iload_n 1, 1) := by decide +kernel
theorem dX7_market_100 : decode cX7_market 100 = .ok (.imul, 1) := by decide +kernel
theorem dX7_market_101 : decode cX7_market 101 = .ok (.iconst 2, 1) := by decide +kernel
theorem dX7_market_102 : decode cX7_market 102 = .ok (.iadd, 1) := by decide +kernel
theorem dX7_market_103 : decode cX7_market 103 = .ok (.iaload, 1) := by decide +kernel
theorem dX7_market_104 : decode cX7_market 104 = .ok (.iastore, 1) := by decide +kernel
theorem dX7_market_105 : decode cX7_market 105 = .ok (.iinc 1 1, 3) := by decide +kernel
theorem dX7_market_108 : decode cX7_market 108 = .ok (.goto (-57), 3) := by decide +kernel
theorem dX7_market_111 : decode cX7_market 111 = .ok (.iconst 0, 1) := by decide +kernel
theorem dX7_market_112 : decode cX7_market 112 = .ok (.istore_n 1, 1) := by decide +kernel
theorem dX7_market_113 : decode cX7_market 113 = .ok (.iload_n 1, 1) := by decide +kernel
theorem dX7_market_114 : decode cX7_market 114 = .ok (.aload_n 0, 1) := by decide +kernel
theorem dX7_market_115 : decode cX7_market 115 = .ok (.getfield 99, 3) := by decide +kernel
theorem dX7_market_118 : decode cX7_market 118 = .ok (.if_icmp .ge 89, 3) := by decide +kernel
theorem dX7_market_121 : decode cX7_market 121 = .ok (.aload_n 0, 1) := by decide +kernel
theorem dX7_market_122 : decode cX7_market 122 = .ok (.getfield 16, 3) := by decide +kernel
theorem dX7_market_125 : decode cX7_market 125 = .ok (.iload_n 1, 1) := by decide +kernel
theorem dX7_market_126 : decode cX7_market 126 = .ok (.aload_n 0, 1) := by decide +kernel
theorem dX7_market_127 : decode cX7_market 127 = .ok (.getfield 31, 3) := by decide +kernel
theorem dX7_market_130 : decode cX7_market 130 = .ok (.iconst 4, 1) := by decide +kernel
theorem dX7_market_131 : decode cX7_market 131 = .ok (.iload_n 1, 1) := by decide +kernel
theorem dX7_market_132 : decode cX7_market 132 = .ok (.imul, 1) := by decide +kernel
theorem dX7_market_133 : decode cX7_market 133 = .ok (.iaload, 1) := by decide +kernel
theorem dX7_market_134 : decode cX7_market 134 = .ok (.iastore, 1) := by decide +kernel
theorem dX7_market_135 : decode cX7_market 135 = .ok (.aload_n 0, 1) := by decide +kernel
theorem dX7_market_136 : decode cX7_market 136 = .ok (.getfield 19, 3) := by decide +kernel
theorem dX7_market_139 : decode cX7_market 139 = .ok (.iload_n 1, 1) := by decide +kernel
theorem dX7_market_140 : decode cX7_market 140 = .ok (.aload_n 0, 1) := by decide +kernel
theorem dX7_market_141 : decode cX7_market 141 = .ok (.getfield 31, 3) := by decide +kernel
theorem dX7_market_144 : decode cX7_market 144 = .ok (.iconst 4, 1) := by decide +kernel
theorem dX7_market_145 : decode cX7_market 145 = .ok (.iload_n 1, 1) := by decide +kernel
theorem dX7_market_146 : decode cX7_market 146 = .ok (.imul, 1) := by decide +kernel
theorem dX7_market_147 : decode cX7_market 147 = .ok (.iconst 1, 1) := by decide +kernel
theorem dX7_market_148 : decode cX7_market 148 = .ok (.iadd, 1) := by decide +kernel
theorem dX7_market_149 : decode cX7_market 149 = .ok (.iaload, 1) := by decide +kernel
theorem dX7_market_150 : decode cX7_market 150 = .ok (.iastore, 1) := by decide +kernel
theorem dX7_market_151 : decode cX7_market 151 = .ok (.aload_n 0, 1) := by decide +kernel
theorem dX7_market_152 : decode cX7_market 152 = .ok (.getfield 22, 3) := by decide +kernel
theorem dX7_market_155 : decode cX7_market 155 = .ok (.iload_n 1, 1) := by decide +kernel
theorem dX7_market_156 : decode cX7_market 156 = .ok (.aload_n 0, 1) := by decide +kernel
theorem dX7_market_157 : decode cX7_market 157 = .ok (.getfield 31, 3) := by decide +kernel
theorem dX7_market_160 : decode cX7_market 160 = .ok (.iconst 4, 1) := by decide +kernel
theorem dX7_market_161 : decode cX7_market 161 = .ok (.iload_n 1, 1) := by decide +kernel
theorem dX7_market_162 : decode cX7_market 162 = .ok (.imul, 1) := by decide +kernel
theorem dX7_market_163 : decode cX7_market 163 = .ok (.iconst 3, 1) := by decide +kernel
theorem dX7_market_164 : decode cX7_market 164 = .ok (.iadd, 1) := by decide +kernel
theorem dX7_market_165 : decode cX7_market 165 = .ok (.iaload, 1) := by decide +kernel
theorem dX7_market_166 : decode cX7_market 166 = .ok (.iastore, 1) := by decide +kernel
theorem dX7_market_167 : decode cX7_market 167 = .ok (.aload_n 0, 1) := by decide +kernel
theorem dX7_market_168 : decode cX7_market 168 = .ok (.getfield 25, 3) := by decide +kernel
theorem dX7_market_171 : decode cX7_market 171 = .ok (.bipush 12, 2) := by decide +kernel
theorem dX7_market_173 : decode cX7_market 173 = .ok (.iload_n 1, 1) := by decide +kernel
theorem dX7_market_174 : decode cX7_market 174 = .ok (.iadd, 1) := by decide +kernel
theorem dX7_market_175 : decode cX7_market 175 = .ok (.aload_n 0, 1) := by decide +kernel
theorem dX7_market_176 : decode cX7_market 176 = .ok (.getfield 16, 3) := by decide +kernel
theorem dX7_market_179 : decode cX7_market 179 = .ok (.iload_n 1, 1) := by decide +kernel
theorem dX7_market_180 : decode cX7_market 180 = .ok (.iaload, 1) := by decide +kernel
theorem dX7_market_181 : decode cX7_market 181 = .ok (.iastore, 1) := by decide +kernel
theorem dX7_market_182 : decode cX7_market 182 = .ok (.aload_n 0, 1) := by decide +kernel
theorem dX7_market_183 : decode cX7_market 183 = .ok (.getfield 25, 3) := by decide +kernel
theorem dX7_market_186 : decode cX7_market 186 = .ok (.bipush 17, 2) := by decide +kernel
theorem dX7_market_188 : decode cX7_market 188 = .ok (.iload_n 1, 1) := by decide +kernel
theorem dX7_market_189 : decode cX7_market 189 = .ok (.iadd, 1) := by decide +kernel
theorem dX7_market_190 : decode cX7_market 190 = .ok (.aload_n 0, 1) := by decide +kernel
theorem dX7_market_191 : decode cX7_market 191 = .ok (.getfield 31, 3) := by decide +kernel
theorem dX7_market_194 : decode cX7_market 194 = .ok (.iconst 4, 1) := by decide +kernel
theorem dX7_market_195 : decode cX7_market 195 = .ok (.iload_n 1, 1) := by decide +kernel
theorem dX7_market_196 : decode cX7_market 196 = .ok (.imul, 1) := by decide +kernel
theorem dX7_market_197 : decode cX7_market 197 = .ok (.iconst 2, 1) := by decide +kernel
theorem dX7_market_198 : decode cX7_market 198 = .ok (.iadd, 1) := by decide +kernel
theorem dX7_market_199 : decode cX7_market 199 = .ok (.iaload, 1) := by decide +kernel
theorem dX7_market_200 : decode cX7_market 200 = .ok (.iastore, 1) := by decide +kernel
theorem dX7_market_201 : decode cX7_market 201 = .ok (.iinc 1 1, 3) := by decide +kernel
theorem dX7_market_204 : decode cX7_market 204 = .ok (.goto (-91), 3) := by decide +kernel
theorem dX7_market_207 : decode cX7_market 207 = .ok (.aload_n 0, 1) := by decide +kernel
theorem dX7_market_208 : decode cX7_market 208 = .ok (.iconst 0, 1) := by decide +kernel
theorem dX7_market_209 : decode cX7_market 209 = .ok (.putfield 102, 3) := by decide +kernel
theorem dX7_market_212 : decode cX7_market 212 = .ok (.aload_n 0, 1) := by decide +kernel
theorem dX7_market_213 : decode cX7_market 213 = .ok (.getfield 46, 3) := by decide +kernel
theorem dX7_market_216 : decode cX7_market 216 = .ok (.iconst 0, 1) := by decide +kernel
theorem dX7_market_217 : decode cX7_market 217 = .ok (.iconst 0, 1) := by decide +kernel
theorem dX7_market_218 : decode cX7_market 218 = .ok (.bastore, 1) := by decide +kernel
theorem dX7_market_219 : decode cX7_market 219 = .ok (.aload_n 0, 1) := by decide +kernel
theorem dX7_market_220 : decode cX7_market 220 = .ok (.getfield 46, 3) := by decide +kernel
theorem dX7_market_223 : decode cX7_market 223 = .ok (.iconst 1, 1) := by decide +kernel
theorem dX7_market_224 : decode cX7_market 224 = .ok (.iconst 0, 1) := by decide +kernel
theorem dX7_market_225 : decode cX7_market 225 = .ok (.bastore, 1) := by decide +kernel
theorem dX7_market_226 : decode cX7_market 226 = .ok (.bipush 10, 2) := by decide +kernel
theorem dX7_market_228 : decode cX7_market 228 = .ok (.aload_n 0, 1) := by decide +kernel
theorem dX7_market_229 : decode cX7_market 229 = .ok (.getfield 96, 3) := by decide +kernel
theorem dX7_market_232 : decode cX7_market 232 = .ok (.imul, 1) := by decide +kernel
theorem dX7_market_233 : decode cX7_market 233 = .ok (.aload_n 0, 1) := by decide +kernel
theorem dX7_market_234 : decode cX7_market 234 = .ok (.getfield 99, 3) := by decide +kernel
theorem dX7_market_237 : decode cX7_market 237 = .ok (.iadd, 1) := by decide +kernel
theorem dX7_market_238 : decode cX7_market 238 = .ok (.ireturn, 1) := by decide +kernel
set_option maxRecDepth 20000 in
theorem ggX7_isLadder_X7_in : GoodIn wsX7_isLadder wsX7_in := goodIn_r _ [5] (by decide +kernel) (by decide +kernel)
set_option maxRecDepth 20000 in
theorem gX7_isLadder_X7_in : GoodIn wsX7_isLadder (va_wsS RX7 55 yX7_in wsX7_in) := goodIn_app (goodIn_of _ (by decide +kernel)) ggX7_isLadder_X7_in
theorem dX7_isLadder_0 : decode cX7_isLadder 0 = .ok (.iload_n 1, 1) := by decide +kernel
theorem dX7_isLadder_1 : decode cX7_isLadder 1 = .ok (.i2l, 1) := by decide +kernel
theorem dX7_isLadder_2 : decode cX7_isLadder 2 = .ok (.lconst 0, 1) := by decide +kernel
theorem dX7_isLadder_3 : decode cX7_isLadder 3 = .ok (.aload_n 0, 1) := by decide +kernel
theorem dX7_isLadder_4 : decode cX7_isLadder 4 = .ok (.getfield 96, 3) := by decide +kernel
theorem dX7_isLadder_7 : decode cX7_isLadder 7 = .ok (.iconst 1, 1) := by decide +kernel
theorem dX7_isLadder_8 : decode cX7_isLadder 8 = .ok (.isub, 1) := by decide +kernel
theorem dX7_isLadder_9 : decode cX7_isLadder 9 = .ok (.i2l, 1) := by decide +kernel
theorem dX7_isLadder_10 : decode cX7_isLadder 10 = .ok (.invokestatic 55, 3) := by decide +kernel
theorem dX7_isLadder_13 : decode cX7_isLadder 13 = .ok (.ireturn, 1) := by decide +kernel
set_option maxRecDepth 20000 in
theorem ggX7_isPerson_X7_in : GoodIn wsX7_isPerson wsX7_in := goodIn_r _ [5] (by decide +kernel) (by decide +kernel)
set_option maxRecDepth 20000 in
theorem gX7_isPerson_X7_in : GoodIn wsX7_isPerson (va_wsS RX7 55 yX7_in wsX7_in) := goodIn_app (goodIn_of _ (by decide +kernel)) ggX7_isPerson_X7_in
theorem dX7_isPerson_0 : decode cX7_isPerson 0 = .ok (.iload_n 1, 1) := by decide +kernel
theorem dX7_isPerson_1 : decode cX7_isPerson 1 = .ok (.i2l, 1) := by decide +kernel
theorem dX7_isPerson_2 : decode cX7_isPerson 2 = .ok (.lconst 0, 1) := by decide +kernel
theorem dX7_isPerson_3 : decode cX7_isPerson 3 = .ok (.aload_n 0, 1) := by decide +kernel
theorem dX7_isPerson_4 : decode cX7_isPerson 4 = .ok (.getfield 99, 3) := by decide +kernel
theorem dX7_isPerson_7 : decode cX7_isPerson 7 = .ok (.iconst 1, 1) := by decide +kernel
theorem dX7_isPerson_8 : decode cX7_isPerson 8 = .ok (.isub, 1) := by decide +kernel
theorem dX7_isPerson_9 : decode cX7_isPerson 9 = .ok (.i2l, 1) := by decide +kernel
theorem dX7_isPerson_10 : decode cX7_isPerson 10 = .ok (.invokestatic 55, 3) := by decide +kernel
theorem dX7_isPerson_13 : decode cX7_isPerson 13 = .ok (.ireturn, 1) := by decide +kernel
set_option maxRecDepth 20000 in
theorem ggX7_takes_X7_lesser : GoodIn wsX7_takes wsX7_lesser := goodIn_r _ [4] (by decide +kernel) (by decide +kernel)
set_option maxRecDepth 20000 in
theorem gX7_takes_X7_lesser : GoodIn wsX7_takes (va_wsS RX7 105 yX7_lesser wsX7_lesser) := goodIn_app (goodIn_of _ (by decide +kernel)) ggX7_takes_X7_lesser
theorem dX7_takes_0 : decode cX7_takes 0 = .ok (.iload_n 0, 1) := by decide +kernel
theorem dX7_takes_1 : decode cX7_takes 1 = .ok (.lookupswitch 37 #[(1, 27), (3, 35)], 27) := by decide +kernel
theorem dX7_takes_28 : decode cX7_takes 28 = .ok (.iload_n 1, 1) := by decide +kernel
theorem dX7_takes_29 : decode cX7_takes 29 = .ok (.iload_n 2, 1) := by decide +kernel
theorem dX7_takes_30 : decode cX7_takes 30 = .ok (.iconst 2, 1) := by decide +kernel
theorem dX7_takes_31 : decode cX7_takes 31 = .ok (.idiv, 1) := by decide +kernel
theorem dX7_takes_32 : decode cX7_takes 32 = .ok (.invokestatic 105, 3) := by decide +kernel
theorem dX7_takes_35 : decode cX7_takes 35 = .ok (.ireturn, 1) := by decide +kernel
theorem dX7_takes_36 : decode cX7_takes 36 = .ok (.iload_n 2, 1) := by decide +kernel
theorem dX7_takes_37 : decode cX7_takes 37 = .ok (.ireturn, 1) := by decide +kernel
theorem dX7_takes_38 : decode cX7_takes 38 = .ok (.iload_n 1, 1) := by decide +kernel
theorem dX7_takes_39 : decode cX7_takes 39 = .ok (.iload_n 2, 1) := by decide +kernel
theorem dX7_takes_40 : decode cX7_takes 40 = .ok (.invokestatic 105, 3) := by decide +kernel
theorem dX7_takes_43 : decode cX7_takes 43 = .ok (.ireturn, 1) := by decide +kernel
theorem dX7_ladderAt_0 : decode cX7_ladderAt 0 = .ok (.iconst 0, 1) := by decide +kernel
theorem dX7_ladderAt_1 : decode cX7_ladderAt 1 = .ok (.istore_n 3, 1) := by decide +kernel
theorem dX7_ladderAt_2 : decode cX7_ladderAt 2 = .ok (.iload_n 3, 1) := by decide +kernel
theorem dX7_ladderAt_3 : decode cX7_ladderAt 3 = .ok (.aload_n 0, 1) := by decide +kernel
theorem dX7_ladderAt_4 : decode cX7_ladderAt 4 = .ok (.getfield 96, 3) := by decide +kernel
theorem dX7_ladderAt_7 : decode cX7_ladderAt 7 = .ok (.if_icmp .ge 26, 3) := by decide +kernel
theorem dX7_ladderAt_10 : decode cX7_ladderAt 10 = .ok (.aload_n 0, 1) := by decide +kernel
theorem dX7_ladderAt_11 : decode cX7_ladderAt 11 = .ok (.getfield 25, 3) := by decide +kernel
theorem dX7_ladderAt_14 : decode cX7_ladderAt 14 = .ok (.bipush 23, 2) := by decide +kernel
theorem dX7_ladderAt_16 : decode cX7_ladderAt 16 = .ok (.iload_n 1, 1) := by decide +kernel
theorem dX7_ladderAt_17 : decode cX7_ladderAt 17 = .ok (.imul, 1) := by decide +kernel
theorem dX7_ladderAt_18 : decode cX7_ladderAt 18 = .ok (.iload_n 3, 1) := by decide +kernel
theorem dX7_ladderAt_19 : decode cX7_ladderAt 19 = .ok (.iadd, 1) := by decide +kernel
theorem dX7_ladderAt_20 : decode cX7_ladderAt 20 = .ok (.iaload, 1) := by decide +kernel
theorem dX7_ladderAt_21 : decode cX7_ladderAt 21 = .ok (.iload_n 2, 1) := by decide +kernel
theorem dX7_ladderAt_22 : decode cX7_ladderAt 22 = .ok (.if_icmp .ne 5, 3) := by decide +kernel
theorem dX7_ladderAt_25 : decode cX7_ladderAt 25 = .ok (.iload_n 3, 1) := by decide +kernel
theorem dX7_ladderAt_26 : decode cX7_ladderAt 26 = .ok (.ireturn, 1) := by decide +kernel
theorem dX7_ladderAt_27 : decode cX7_ladderAt 27 = .ok (.iinc 3 1, 3) := by decide +kernel
theorem dX7_ladderAt_30 : decode cX7_ladderAt 30 = .ok (.goto (-28), 3) := by decide +kernel
theorem dX7_ladderAt_33 : decode cX7_ladderAt 33 = .ok (.bipush (-9), 2) := by decide +kernel
theorem dX7_ladderAt_35 : decode cX7_ladderAt 35 = .ok (.ireturn, 1) := by decide +kernel
set_option maxRecDepth 20000 in
theorem ggX7_goUnder_X7_takes : GoodIn wsX7_goUnder wsX7_takes := goodIn_r _ [7, 8, 9, 6, 10] (by decide +kernel) (by decide +kernel)
set_option maxRecDepth 20000 in
theorem gX7_goUnder_X7_takes : GoodIn wsX7_goUnder (va_wsS RX7 109 yX7_takes wsX7_takes) := goodIn_app (goodIn_of _ (by decide +kernel)) ggX7_goUnder_X7_takes
set_option maxRecDepth 20000 in
theorem ggX7_goUnder_X7_lesser : GoodIn wsX7_goUnder wsX7_lesser := goodIn_r _ [10] (by decide +kernel) (by decide +kernel)
set_option maxRecDepth 20000 in
theorem gX7_goUnder_X7_lesser : GoodIn wsX7_goUnder (va_wsS RX7 105 yX7_lesser wsX7_lesser) := goodIn_app (goodIn_of _ (by decide +kernel)) ggX7_goUnder_X7_lesser
theorem dX7_goUnder_0 : decode cX7_goUnder 0 = .ok (.bipush 23, 2) := by decide +kernel
theorem dX7_goUnder_2 : decode cX7_goUnder 2 = .ok (.iload_n 1, 1) := by decide +kernel
theorem dX7_goUnder_3 : decode cX7_goUnder 3 = .ok (.imul, 1) := by decide +kernel
theorem dX7_goUnder_4 : decode cX7_goUnder 4 = .ok (.istore 4, 2) := by decide +kernel
theorem dX7_goUnder_6 : decode cX7_goUnder 6 = .ok (.aload_n 0, 1) := by decide +kernel
theorem dX7_goUnder_7 : decode cX7_goUnder 7 = .ok (.getfield 13, 3) := by decide +kernel
theorem dX7_goUnder_10 : decode cX7_goUnder 10 = .ok (.iload_n 3, 1) := by decide +kernel
theorem dX7_goUnder_11 : decode cX7_goUnder 11 = .ok (.iaload, 1) := by decide +kernel
theorem dX7_goUnder_12 : decode cX7_goUnder 12 = .ok (.aload_n 0, 1) := by decide +kernel
theorem dX7_goUnder_13 : decode cX7_goUnder 13 = .ok (.getfield 7, 3) := by decide +kernel
theorem dX7_goUnder_16 : decode cX7_goUnder 16 = .ok (.iload_n 3, 1) := by decide +kernel
theorem dX7_goUnder_17 : decode cX7_goUnder 17 = .ok (.iaload, 1) := by decide +kernel
theorem dX7_goUnder_18 : decode cX7_goUnder 18 = .ok (.aload_n 0, 1) := by decide +kernel
theorem dX7_goUnder_19 : decode cX7_goUnder 19 = .ok (.getfield 25, 3) := by decide +kernel
theorem dX7_goUnder_22 : decode cX7_goUnder 22 = .ok (.iload 4, 2) := by decide +kernel
theorem dX7_goUnder_24 : decode cX7_goUnder 24 = .ok (.bipush 17, 2) := by decide +kernel
theorem dX7_goUnder_26 : decode cX7_goUnder 26 = .ok (.iadd, 1) := by decide +kernel
theorem dX7_goUnder_27 : decode cX7_goUnder 27 = .ok (.iload_n 2, 1) := by decide +kernel
theorem dX7_goUnder_28 : decode cX7_goUnder 28 = .ok (.iadd, 1) := by decide +kernel
theorem dX7_goUnder_29 : decode cX7_goUnder 29 = .ok (.iaload, 1) := by decide +kernel
theorem dX7_goUnder_30 : decode cX7_goUnder 30 = .ok (.invokestatic 109, 3) := by decide +kernel
theorem dX7_goUnder_33 : decode cX7_goUnder 33 = .ok (.istore 5, 2) := by decide +kernel
theorem dX7_goUnder_35 : decode cX7_goUnder 35 = .ok (.aload_n 0, 1) := by decide +kernel
theorem dX7_goUnder_36 : decode cX7_goUnder 36 = .ok (.getfield 25, 3) := by decide +kernel
theorem dX7_goUnder_39 : decode cX7_goUnder 39 = .ok (.iload 4, 2) := by decide +kernel
theorem dX7_goUnder_41 : decode cX7_goUnder 41 = .ok (.bipush 17, 2) := by decide +kernel
theorem dX7_goUnder_43 : decode cX7_goUnder 43 = .ok (.iadd, 1) := by decide +kernel
theorem dX7_goUnder_44 : decode cX7_goUnder 44 = .ok (.iload_n 2, 1) := by decide +kernel
theorem dX7_goUnder_45 : decode cX7_goUnder 45 = .ok (.iadd, 1) := by decide +kernel
theorem dX7_goUnder_46 : decode cX7_goUnder 46 = .ok (.dup2, 1) := by decide +kernel
theorem dX7_goUnder_47 : decode cX7_goUnder 47 = .ok (.iaload, 1) := by decide +kernel
theorem dX7_goUnder_48 : decode cX7_goUnder 48 = .ok (.iload 5, 2) := by decide +kernel
theorem dX7_goUnder_50 : decode cX7_goUnder 50 = .ok (.isub, 1) := by decide +kernel
theorem dX7_goUnder_51 : decode cX7_goUnder 51 = .ok (.iastore, 1) := by decide +kernel
theorem dX7_goUnder_52 : decode cX7_goUnder 52 = .ok (.aload_n 0, 1) := by decide +kernel
theorem dX7_goUnder_53 : decode cX7_goUnder 53 = .ok (.getfield 25, 3) := by decide +kernel
theorem dX7_goUnder_56 : decode cX7_goUnder 56 = .ok (.iload 4, 2) := by decide +kernel
theorem dX7_goUnder_58 : decode cX7_goUnder 58 = .ok (.iconst 4, 1) := by decide +kernel
theorem dX7_goUnder_59 : decode cX7_goUnder 59 = .ok (.iadd, 1) := by decide +kernel
theorem dX7_goUnder_60 : decode cX7_goUnder 60 = .ok (.iload_n 3, 1) := by decide +kernel
theorem dX7_goUnder_61 : decode cX7_goUnder 61 = .ok (.iadd, 1) := by decide +kernel
theorem dX7_goUnder_62 : decode cX7_goUnder 62 = .ok (.dup2, 1) := by decide +kernel
theorem dX7_goUnder_63 : decode cX7_goUnder 63 = .ok (.iaload, 1) := by decide +kernel
theorem dX7_goUnder_64 : decode cX7_goUnder 64 = .ok (.iload 5, 2) := by decide +kernel
theorem dX7_goUnder_66 : decode cX7_goUnder 66 = .ok (.iadd, 1) := by decide +kernel
theorem dX7_goUnder_67 : decode cX7_goUnder 67 = .ok (.iastore, 1) := by decide +kernel
theorem dX7_goUnder_68 : decode cX7_goUnder 68 = .ok (.aload_n 0, 1) := by decide +kernel
theorem dX7_goUnder_69 : decode cX7_goUnder 69 = .ok (.getfield 13, 3) := by decide +kernel
theorem dX7_goUnder_72 : decode cX7_goUnder 72 = .ok (.iload_n 3, 1) := by decide +kernel
theorem dX7_goUnder_73 : decode cX7_goUnder 73 = .ok (.iaload, 1) := by decide +kernel
theorem dX7_goUnder_74 : decode cX7_goUnder 74 = .ok (.iconst 2, 1) := by decide +kernel
theorem dX7_goUnder_75 : decode cX7_goUnder 75 = .ok (.if_icmp .ne 30, 3) := by decide +kernel
theorem dX7_goUnder_78 : decode cX7_goUnder 78 = .ok (.aload_n 0, 1) := by decide +kernel
theorem dX7_goUnder_79 : decode cX7_goUnder 79 = .ok (.getfield 25, 3) := by decide +kernel
theorem dX7_goUnder_82 : decode cX7_goUnder 82 = .ok (.iload 4, 2) := by decide +kernel
theorem dX7_goUnder_84 : decode cX7_goUnder 84 = .ok (.iconst 4, 1) := by decide +kernel
theorem dX7_goUnder_85 : decode cX7_goUnder 85 = .ok (.iadd, 1) := by decide +kernel
theorem dX7_goUnder_86 : decode cX7_goUnder 86 = .ok (.iload_n 3, 1) := by decide +kernel
theorem dX7_goUnder_87 : decode cX7_goUnder 87 = .ok (.iadd, 1) := by decide +kernel
theorem dX7_goUnder_88 : decode cX7_goUnder 88 = .ok (.aload_n 0, 1) := by decide +kernel
theorem dX7_goUnder_89 : decode cX7_goUnder 89 = .ok (.getfield 25, 3) := by decide +kernel
theorem dX7_goUnder_92 : decode cX7_goUnder 92 = .ok (.iload 4, 2) := by decide +kernel
theorem dX7_goUnder_94 : decode cX7_goUnder 94 = .ok (.iconst 4, 1) := by decide +kernel
theorem dX7_goUnder_95 : decode cX7_goUnder 95 = .ok (.iadd, 1) := by decide +kernel
theorem dX7_goUnder_96 : decode cX7_goUnder 96 = .ok (.iload_n 3, 1) := by decide +kernel
theorem dX7_goUnder_97 : decode cX7_goUnder 97 = .ok (.iadd, 1) := by decide +kernel
theorem dX7_goUnder_98 : decode cX7_goUnder 98 = .ok (.iaload, 1) := by decide +kernel
theorem dX7_goUnder_99 : decode cX7_goUnder 99 = .ok (.bipush 12, 2) := by decide +kernel
theorem dX7_goUnder_101 : decode cX7_goUnder 101 = .ok (.invokestatic 105, 3) := by decide +kernel
theorem dX7_goUnder_104 : decode cX7_goUnder 104 = .ok (.iastore, 1) := by decide +kernel
theorem dX7_goUnder_105 : decode cX7_goUnder 105 = .ok (.return_, 1) := by decide +kernel
set_option maxRecDepth 20000 in
theorem ggX7_comeTo_X7_goUnder : GoodIn wsX7_comeTo wsX7_goUnder := goodIn_r _ [7, 8, 9, 2, 10, 11, 6, 12, 13, 14, 15, 16, 17, 18, 19, 20, 21, 22, 23, 24, 25, 26, 27, 28, 29, 30, 31, 32, 33, 34, 35, 36, 37, 38, 39, 40, 41] (by decide +kernel) (by decide +kernel)
set_option maxRecDepth 20000 in
theorem gX7_comeTo_X7_goUnder : GoodIn wsX7_comeTo (wsV RX7 113 RX7 yX7_goUnder wsX7_goUnder) := goodIn_app (goodIn_of _ (by decide +kernel)) ggX7_comeTo_X7_goUnder
set_option maxRecDepth 20000 in
theorem ggX7_comeTo_X7_lesser : GoodIn wsX7_comeTo wsX7_lesser := goodIn_r _ [15] (by decide +kernel) (by decide +kernel)
set_option maxRecDepth 20000 in
theorem gX7_comeTo_X7_lesser : GoodIn wsX7_comeTo (va_wsS RX7 105 yX7_lesser wsX7_lesser) := goodIn_app (goodIn_of _ (by decide +kernel)) ggX7_comeTo_X7_lesser
theorem dX7_comeTo_0 : decode cX7_comeTo 0 = .ok (.bipush 23, 2) := by decide +kernel
theorem dX7_comeTo_2 : decode cX7_comeTo 2 = .ok (.iload_n 1, 1) := by decide +kernel
theorem dX7_comeTo_3 : decode cX7_comeTo 3 = .ok (.imul, 1) := by decide +kernel
theorem dX7_comeTo_4 : decode cX7_comeTo 4 = .ok (.bipush 17, 2) := by decide +kernel
theorem dX7_comeTo_6 : decode cX7_comeTo 6 = .ok (.iadd, 1) := by decide +kernel
theorem dX7_comeTo_7 : decode cX7_comeTo 7 = .ok (.iload_n 2, 1) := by decide +kernel
theorem dX7_comeTo_8 : decode cX7_comeTo 8 = .ok (.iadd, 1) := by decide +kernel
theorem dX7_comeTo_9 : decode cX7_comeTo 9 = .ok (.istore 4, 2) := by decide +kernel
theorem dX7_comeTo_11 : decode cX7_comeTo 11 = .ok (.aload_n 0, 1) := by decide +kernel
theorem dX7_comeTo_12 : decode cX7_comeTo 12 = .ok (.getfield 22, 3) := by decide +kernel
theorem dX7_comeTo_15 : decode cX7_comeTo 15 = .ok (.iload_n 2, 1) := by decide +kernel
theorem dX7_comeTo_16 : decode cX7_comeTo 16 = .ok (.iaload, 1) := by decide +kernel
theorem dX7_comeTo_17 : decode cX7_comeTo 17 = .ok (.iconst 1, 1) := by decide +kernel
theorem dX7_comeTo_18 : decode cX7_comeTo 18 = .ok (.if_icmp .eq 23, 3) := by decide +kernel
theorem dX7_comeTo_21 : decode cX7_comeTo 21 = .ok (.aload_n 0, 1) := by decide +kernel
theorem dX7_comeTo_22 : decode cX7_comeTo 22 = .ok (.getfield 22, 3) := by decide +kernel
theorem dX7_comeTo_25 : decode cX7_comeTo 25 = .ok (.iload_n 2, 1) := by decide +kernel
theorem dX7_comeTo_26 : decode cX7_comeTo 26 = .ok (.iaload, 1) := by decide +kernel
theorem dX7_comeTo_27 : decode cX7_comeTo 27 = .ok (.ifCond .ne 42, 3) := by decide +kernel
theorem dX7_comeTo_30 : decode cX7_comeTo 30 = .ok (.aload_n 0, 1) := by decide +kernel
theorem dX7_comeTo_31 : decode cX7_comeTo 31 = .ok (.getfield 25, 3) := by decide +kernel
theorem dX7_comeTo_34 : decode cX7_comeTo 34 = .ok (.iload 4, 2) := by decide +kernel
theorem dX7_comeTo_36 : decode cX7_comeTo 36 = .ok (.iaload, 1) := by decide +kernel
theorem dX7_comeTo_37 : decode cX7_comeTo 37 = .ok (.iconst 3, 1) := by decide +kernel
theorem dX7_comeTo_38 : decode cX7_comeTo 38 = .ok (.if_icmp .le 31, 3) := by decide +kernel
theorem dX7_comeTo_41 : decode cX7_comeTo 41 = .ok (.aload_n 0, 1) := by decide +kernel
theorem dX7_comeTo_42 : decode cX7_comeTo 42 = .ok (.getfield 25, 3) := by decide +kernel
theorem dX7_comeTo_45 : decode cX7_comeTo 45 = .ok (.iload 4, 2) := by decide +kernel
theorem dX7_comeTo_47 : decode cX7_comeTo 47 = .ok (.dup2, 1) := by decide +kernel
theorem dX7_comeTo_48 : decode cX7_comeTo 48 = .ok (.iaload, 1) := by decide +kernel
theorem dX7_comeTo_49 : decode cX7_comeTo 49 = .ok (.aload_n 0, 1) := by decide +kernel
theorem dX7_comeTo_50 : decode cX7_comeTo 50 = .ok (.getfield 25, 3) := by decide +kernel
theorem dX7_comeTo_53 : decode cX7_comeTo 53 = .ok (.iload 4, 2) := by decide +kernel
theorem dX7_comeTo_55 : decode cX7_comeTo 55 = .ok (.iaload, 1) := by decide +kernel
theorem dX7_comeTo_56 : decode cX7_comeTo 56 = .ok (.ifCond .le 7, 3) := by decide +kernel
theorem dX7_comeTo_59 : decode cX7_comeTo 59 = .ok (.iconst 1, 1) := by decide +kernel
theorem dX7_comeTo_60 : decode cX7_comeTo 60 = .ok (.goto 4, 3) := by decide +kernel
theorem dX7_comeTo_63 : decode cX7_comeTo 63 = .ok (.iconst 0, 1) := by decide +kernel
theorem dX7_comeTo_64 : decode cX7_comeTo 64 = .ok (.isub, 1) := by decide +kernel
theorem dX7_comeTo_65 : decode cX7_comeTo 65 = .ok (.iastore, 1) := by decide +kernel
theorem dX7_comeTo_66 : decode cX7_comeTo 66 = .ok (.goto 51, 3) := by decide +kernel
theorem dX7_comeTo_69 : decode cX7_comeTo 69 = .ok (.aload_n 0, 1) := by decide +kernel
theorem dX7_comeTo_70 : decode cX7_comeTo 70 = .ok (.iload_n 1, 1) := by decide +kernel
theorem dX7_comeTo_71 : decode cX7_comeTo 71 = .ok (.iload_n 2, 1) := by decide +kernel
theorem dX7_comeTo_72 : decode cX7_comeTo 72 = .ok (.iload_n 3, 1) := by decide +kernel
theorem dX7_comeTo_73 : decode cX7_comeTo 73 = .ok (.invokevirtual 113, 3) := by decide +kernel
theorem dX7_comeTo_76 : decode cX7_comeTo 76 = .ok (.aload_n 0, 1) := by decide +kernel
theorem dX7_comeTo_77 : decode cX7_comeTo 77 = .ok (.getfield 25, 3) := by decide +kernel
theorem dX7_comeTo_80 : decode cX7_comeTo 80 = .ok (.iload 4, 2) := by decide +kernel
theorem dX7_comeTo_82 : decode cX7_comeTo 82 = .ok (.aload_n 0, 1) := by decide +kernel
theorem dX7_comeTo_83 : decode cX7_comeTo 83 = .ok (.getfield 22, 3) := by decide +kernel
theorem dX7_comeTo_86 : decode cX7_comeTo 86 = .ok (.iload_n 2, 1) := by decide +kernel
theorem dX7_comeTo_87 : decode cX7_comeTo 87 = .ok (.iaload, 1) := by decide +kernel
theorem dX7_comeTo_88 : decode cX7_comeTo 88 = .ok (.iconst 3, 1) := by decide +kernel
theorem dX7_comeTo_89 : decode cX7_comeTo 89 = .ok (.if_icmp .ne 20, 3) := by decide +kernel
theorem dX7_comeTo_92 : decode cX7_comeTo 92 = .ok (.bipush 99, 2) := by decide +kernel
theorem dX7_comeTo_94 : decode cX7_comeTo 94 = .ok (.aload_n 0, 1) := by decide +kernel
theorem dX7_comeTo_95 : decode cX7_comeTo 95 = .ok (.getfield 25, 3) := by decide +kernel
theorem dX7_comeTo_98 : decode cX7_comeTo 98 = .ok (.iload 4, 2) := by decide +kernel
theorem dX7_comeTo_100 : decode cX7_comeTo 100 = .ok (.iaload, 1) := by decide +kernel
theorem dX7_comeTo_101 : decode cX7_comeTo 101 = .ok (.iconst 1, 1) := by decide +kernel
theorem dX7_comeTo_102 : decode cX7_comeTo 102 = .ok (.iadd, 1) := by decide +kernel
theorem dX7_comeTo_103 : decode cX7_comeTo 103 = .ok (.invokestatic 105, 3) := by decide +kernel
theorem dX7_comeTo_106 : decode cX7_comeTo 106 = .ok (.goto 10, 3) := by decide +kernel
theorem dX7_comeTo_109 : decode cX7_comeTo 109 = .ok (.aload_n 0, 1) := by decide +kernel
theorem dX7_comeTo_110 : decode cX7_comeTo 110 = .ok (.getfield 25, 3) := by decide +kernel
theorem dX7_comeTo_113 : decode cX7_comeTo 113 = .ok (.iload 4, 2) := by decide +kernel
theorem dX7_comeTo_115 : decode cX7_comeTo 115 = .ok (.iaload, 1) := by decide +kernel
theorem dX7_comeTo_116 : decode cX7_comeTo 116 = .ok (.iastore, 1) := by decide +kernel
theorem dX7_comeTo_117 : decode cX7_comeTo 117 = .ok (.return_, 1) := by decide +kernel
theorem dX7_goalOf_0 : decode cX7_goalOf 0 = .ok (.aload_n 0, 1) := by decide +kernel
theorem dX7_goalOf_1 : decode cX7_goalOf 1 = .ok (.getfield 25, 3) := by decide +kernel
theorem dX7_goalOf_4 : decode cX7_goalOf 4 = .ok (.bipush 23, 2) := by decide +kernel
theorem dX7_goalOf_6 : decode cX7_goalOf 6 = .ok (.iload_n 1, 1) := by decide +kernel
theorem dX7_goalOf_7 : decode cX7_goalOf 7 = .ok (.imul, 1) := by decide +kernel
theorem dX7_goalOf_8 : decode cX7_goalOf 8 = .ok (.bipush 12, 2) := by decide +kernel
theorem dX7_goalOf_10 : decode cX7_goalOf 10 = .ok (.iadd, 1) := by decide +kernel
theorem dX7_goalOf_11 : decode cX7_goalOf 11 = .ok (.iload_n 2, 1) := by decide +kernel
theorem dX7_goalOf_12 : decode cX7_goalOf 12 = .ok (.iadd, 1) := by decide +kernel
theorem dX7_goalOf_13 : decode cX7_goalOf 13 = .ok (.iaload, 1) := by decide +kernel
theorem dX7_goalOf_14 : decode cX7_goalOf 14 = .ok (.aload_n 0, 1) := by decide +kernel
theorem dX7_goalOf_15 : decode cX7_goalOf 15 = .ok (.getfield 16, 3) := by decide +kernel
theorem dX7_goalOf_18 : decode cX7_goalOf 18 = .ok (.iload_n 2, 1) := by decide +kernel
theorem dX7_goalOf_19 : decode cX7_goalOf 19 = .ok (.iaload, 1) := by decide +kernel
theorem dX7_goalOf_20 : decode cX7_goalOf 20 = .ok (.if_icmp .ne 12, 3) := by decide +kernel
theorem dX7_goalOf_23 : decode cX7_goalOf 23 = .ok (.aload_n 0, 1) := by decide +kernel
theorem dX7_goalOf_24 : decode cX7_goalOf 24 = .ok (.getfield 19, 3) := by decide +kernel
theorem dX7_goalOf_27 : decode cX7_goalOf 27 = .ok (.iload_n 2, 1) := by decide +kernel
theorem dX7_goalOf_28 : decode cX7_goalOf 28 = .ok (.iaload, 1) := by decide +kernel
theorem dX7_goalOf_29 : decode cX7_goalOf 29 = .ok (.goto 9, 3) := by decide +kernel
theorem dX7_goalOf_32 : decode cX7_goalOf 32 = .ok (.aload_n 0, 1) := by decide +kernel
theorem dX7_goalOf_33 : decode cX7_goalOf 33 = .ok (.getfield 16, 3) := by decide +kernel
theorem dX7_goalOf_36 : decode cX7_goalOf 36 = .ok (.iload_n 2, 1) := by decide +kernel
theorem dX7_goalOf_37 : decode cX7_goalOf 37 = .ok (.iaload, 1) := by decide +kernel
theorem dX7_goalOf_38 : decode cX7_goalOf 38 = .ok (.ireturn, 1) := by decide +kernel
set_option maxRecDepth 20000 in
theorem ggX7_walk_X7_goalOf : GoodIn wsX7_walk wsX7_goalOf := goodIn_r _ [6, 1, 7, 8, 31, 32, 33, 34, 35, 36, 37, 38, 39, 40, 41, 42, 43, 44, 45, 46, 47, 48, 49, 50, 51, 52, 53, 54, 55, 56] (by decide +kernel) (by decide +kernel)
set_option maxRecDepth 20000 in
theorem gX7_walk_X7_goalOf : GoodIn wsX7_walk (wsV RX7 117 RX7 yX7_goalOf wsX7_goalOf) := goodIn_app (goodIn_of _ (by decide +kernel)) ggX7_walk_X7_goalOf
set_option maxRecDepth 20000 in
theorem ggX7_walk_X7_ladderAt : GoodIn wsX7_walk wsX7_ladderAt := goodIn_r _ [12, 13, 1, 31, 32, 33, 34, 35, 36, 37, 38, 39, 40, 41, 42, 43, 44, 45, 46, 47, 48, 49, 50, 51, 52, 53, 54, 55, 56] (by decide +kernel) (by decide +kernel)
set_option maxRecDepth 20000 in
theorem gX7_walk_X7_ladderAt : GoodIn wsX7_walk (wsV RX7 120 RX7 yX7_ladderAt wsX7_ladderAt) := goodIn_app (goodIn_of _ (by decide +kernel)) ggX7_walk_X7_ladderAt
set_option maxRecDepth 20000 in
theorem ggX7_walk_X7_comeTo : GoodIn wsX7_walk wsX7_comeTo := goodIn_r _ [17, 18, 1, 19, 20, 21, 5, 22, 23, 24, 25, 26, 27, 28, 29, 30, 31, 32, 33, 34, 35, 36, 37, 38, 39, 40, 41, 42, 43, 44, 45, 46, 47, 48, 49, 50, 51, 52, 53, 54, 55, 56] (by decide +kernel) (by decide +kernel)
set_option maxRecDepth 20000 in
theorem gX7_walk_X7_comeTo : GoodIn wsX7_walk (wsV RX7 123 RX7 yX7_comeTo wsX7_comeTo) := goodIn_app (goodIn_of _ (by decide +kernel)) ggX7_walk_X7_comeTo
theorem dX7_walk_0 : decode cX7_walk 0 = .ok (.bipush 23, 2) := by decide +kernel
theorem dX7_walk_2 : decode cX7_walk 2 = .ok (.iload_n 1, 1) := by decide +kernel
theorem dX7_walk_3 : decode cX7_walk 3 = .ok (.imul, 1) := by decide +kernel
theorem dX7_walk_4 : decode cX7_walk 4 = .ok (.bipush 12, 2) := by decide +kernel
theorem dX7_walk_6 : decode cX7_walk 6 = .ok (.iadd, 1) := by decide +kernel
theorem dX7_walk_7 : decode cX7_walk 7 = .ok (.iload_n 2, 1) := by decide +kernel
theorem dX7_walk_8 : decode cX7_walk 8 = .ok (.iadd, 1) := by decide +kernel
theorem dX7_walk_9 : decode cX7_walk 9 = .ok (.istore_n 3, 1) := by decide +kernel
theorem dX7_walk_10 : decode cX7_walk 10 = .ok (.aload_n 0, 1) := by decide +kernel
theorem dX7_walk_11 : decode cX7_walk 11 = .ok (.iload_n 1, 1) := by decide +kernel
theorem dX7_walk_12 : decode cX7_walk 12 = .ok (.iload_n 2, 1) := by decide +kernel
theorem dX7_walk_13 : decode cX7_walk 13 = .ok (.invokevirtual 117, 3) := by decide +kernel
theorem dX7_walk_16 : decode cX7_walk 16 = .ok (.istore 4, 2) := by decide +kernel
theorem dX7_walk_18 : decode cX7_walk 18 = .ok (.aload_n 0, 1) := by decide +kernel
theorem dX7_walk_19 : decode cX7_walk 19 = .ok (.getfield 25, 3) := by decide +kernel
theorem dX7_walk_22 : decode cX7_walk 22 = .ok (.iload_n 3, 1) := by decide +kernel
theorem dX7_walk_23 : decode cX7_walk 23 = .ok (.iaload, 1) := by decide +kernel
theorem dX7_walk_24 : decode cX7_walk 24 = .ok (.iload 4, 2) := by decide +kernel
theorem dX7_walk_26 : decode cX7_walk 26 = .ok (.if_icmp .eq 59, 3) := by decide +kernel
theorem dX7_walk_29 : decode cX7_walk 29 = .ok (.aload_n 0, 1) := by decide +kernel
theorem dX7_walk_30 : decode cX7_walk 30 = .ok (.getfield 25, 3) := by decide +kernel
theorem dX7_walk_33 : decode cX7_walk 33 = .ok (.iload_n 3, 1) := by decide +kernel
theorem dX7_walk_34 : decode cX7_walk 34 = .ok (.dup2, 1) := by decide +kernel
theorem dX7_walk_35 : decode cX7_walk 35 = .ok (.iaload, 1) := by decide +kernel
theorem dX7_walk_36 : decode cX7_walk 36 = .ok (.aload_n 0, 1) := by decide +kernel
theorem dX7_walk_37 : decode cX7_walk 37 = .ok (.getfield 25, 3) := by decide +kernel
theorem dX7_walk_40 : decode cX7_walk 40 = .ok (.iload_n 3, 1) := by decide +kernel
theorem dX7_walk_41 : decode cX7_walk 41 = .ok (.iaload, 1) := by decide +kernel
theorem dX7_walk_42 : decode cX7_walk 42 = .ok (.iload 4, 2) := by decide +kernel
theorem dX7_walk_44 : decode cX7_walk 44 = .ok (.if_icmp .ge 7, 3) := by decide +kernel
theorem dX7_walk_47 : decode cX7_walk 47 = .ok (.iconst 1, 1) := by decide +kernel
theorem dX7_walk_48 : decode cX7_walk 48 = .ok (.goto 4, 3) := by decide +kernel
theorem dX7_walk_51 : decode cX7_walk 51 = .ok (.iconst (-1), 1) := by decide +kernel
theorem dX7_walk_52 : decode cX7_walk 52 = .ok (.iadd, 1) := by decide +kernel
theorem dX7_walk_53 : decode cX7_walk 53 = .ok (.iastore, 1) := by decide +kernel
theorem dX7_walk_54 : decode cX7_walk 54 = .ok (.aload_n 0, 1) := by decide +kernel
theorem dX7_walk_55 : decode cX7_walk 55 = .ok (.iload_n 1, 1) := by decide +kernel
theorem dX7_walk_56 : decode cX7_walk 56 = .ok (.aload_n 0, 1) := by decide +kernel
theorem dX7_walk_57 : decode cX7_walk 57 = .ok (.getfield 25, 3) := by decide +kernel
theorem dX7_walk_60 : decode cX7_walk 60 = .ok (.iload_n 3, 1) := by decide +kernel
theorem dX7_walk_61 : decode cX7_walk 61 = .ok (.iaload, 1) := by decide +kernel
theorem dX7_walk_62 : decode cX7_walk 62 = .ok (.invokevirtual 120, 3) := by decide +kernel
theorem dX7_walk_65 : decode cX7_walk 65 = .ok (.istore 5, 2) := by decide +kernel
theorem dX7_walk_67 : decode cX7_walk 67 = .ok (.iload 5, 2) := by decide +kernel
theorem dX7_walk_69 : decode cX7_walk 69 = .ok (.bipush (-9), 2) := by decide +kernel
theorem dX7_walk_71 : decode cX7_walk 71 = .ok (.if_icmp .eq 11, 3) := by decide +kernel
theorem dX7_walk_74 : decode cX7_walk 74 = .ok (.aload_n 0, 1) := by decide +kernel
theorem dX7_walk_75 : decode cX7_walk 75 = .ok (.iload_n 1, 1) := by decide +kernel
theorem dX7_walk_76 : decode cX7_walk 76 = .ok (.iload_n 2, 1) := by decide +kernel
theorem dX7_walk_77 : decode cX7_walk 77 = .ok (.iload 5, 2) := by decide +kernel
theorem dX7_walk_79 : decode cX7_walk 79 = .ok (.invokevirtual 123, 3) := by decide +kernel
theorem dX7_walk_82 : decode cX7_walk 82 = .ok (.goto (-64), 3) := by decide +kernel
theorem dX7_walk_85 : decode cX7_walk 85 = .ok (.return_, 1) := by decide +kernel
set_option maxRecDepth 20000 in
theorem ggX7_passOn_X7_has : GoodIn wsX7_passOn wsX7_has := goodIn_r _ [7] (by decide +kernel) (by decide +kernel)
set_option maxRecDepth 20000 in
theorem gX7_passOn_X7_has : GoodIn wsX7_passOn (va_wsS RX7 71 yX7_has wsX7_has) := goodIn_app (goodIn_of _ (by decide +kernel)) ggX7_passOn_X7_has
set_option maxRecDepth 20000 in
theorem ggX7_passOn_X7_walk : GoodIn wsX7_passOn wsX7_walk := goodIn_r _ [11, 3, 12, 13, 14, 6, 15, 16, 17, 18, 19, 20, 21, 2, 22, 23, 24, 25, 26, 27, 28, 29, 30, 31, 32, 33, 34, 35, 36, 37, 38, 39, 40, 41, 42, 43, 44, 45, 46, 47, 48, 49, 50, 51, 52, 53, 54, 55, 56, 57, 58, 59, 60, 61, 62, 63, 64] (by decide +kernel) (by decide +kernel)
set_option maxRecDepth 20000 in
theorem gX7_passOn_X7_walk : GoodIn wsX7_passOn (wsV RX7 126 RX7 yX7_walk wsX7_walk) := goodIn_app (goodIn_of _ (by decide +kernel)) ggX7_passOn_X7_walk
theorem dX7_passOn_0 : decode cX7_passOn 0 = .ok (.bipush 23, 2) := by decide +kernel
theorem dX7_passOn_2 : decode cX7_passOn 2 = .ok (.iload_n 1, 1) := by decide +kernel
theorem dX7_passOn_3 : decode cX7_passOn 3 = .ok (.imul, 1) := by decide +kernel
theorem dX7_passOn_4 : decode cX7_passOn 4 = .ok (.istore_n 3, 1) := by decide +kernel
theorem dX7_passOn_5 : decode cX7_passOn 5 = .ok (.iconst 0, 1) := by decide +kernel
theorem dX7_passOn_6 : decode cX7_passOn 6 = .ok (.istore 4, 2) := by decide +kernel
theorem dX7_passOn_8 : decode cX7_passOn 8 = .ok (.iload 4, 2) := by decide +kernel
theorem dX7_passOn_10 : decode cX7_passOn 10 = .ok (.aload_n 0, 1) := by decide +kernel
theorem dX7_passOn_11 : decode cX7_passOn 11 = .ok (.getfield 99, 3) := by decide +kernel
theorem dX7_passOn_14 : decode cX7_passOn 14 = .ok (.if_icmp .ge 25, 3) := by decide +kernel
theorem dX7_passOn_17 : decode cX7_passOn 17 = .ok (.iload_n 2, 1) := by decide +kernel
theorem dX7_passOn_18 : decode cX7_passOn 18 = .ok (.iload 4, 2) := by decide +kernel
theorem dX7_passOn_20 : decode cX7_passOn 20 = .ok (.invokestatic 71, 3) := by decide +kernel
theorem dX7_passOn_23 : decode cX7_passOn 23 = .ok (.ifCond .ne 10, 3) := by decide +kernel
theorem dX7_passOn_26 : decode cX7_passOn 26 = .ok (.aload_n 0, 1) := by decide +kernel
theorem dX7_passOn_27 : decode cX7_passOn 27 = .ok (.iload_n 1, 1) := by decide +kernel
theorem dX7_passOn_28 : decode cX7_passOn 28 = .ok (.iload 4, 2) := by decide +kernel
theorem dX7_passOn_30 : decode cX7_passOn 30 = .ok (.invokevirtual 126, 3) := by decide +kernel
theorem dX7_passOn_33 : decode cX7_passOn 33 = .ok (.iinc 4 1, 3) := by decide +kernel
theorem dX7_passOn_36 : decode cX7_passOn 36 = .ok (.goto (-28), 3) := by decide +kernel
theorem dX7_passOn_39 : decode cX7_passOn 39 = .ok (.iconst 0, 1) := by decide +kernel
theorem dX7_passOn_40 : decode cX7_passOn 40 = .ok (.istore 4, 2) := by decide +kernel
theorem dX7_passOn_42 : decode cX7_passOn 42 = .ok (.iconst 0, 1) := by decide +kernel
theorem dX7_passOn_43 : decode cX7_passOn 43 = .ok (.istore 5, 2) := by decide +kernel
theorem dX7_passOn_45 : decode cX7_passOn 45 = .ok (.iload 5, 2) := by decide +kernel
theorem dX7_passOn_47 : decode cX7_passOn 47 = .ok (.aload_n 0, 1) := by decide +kernel
theorem dX7_passOn_48 : decode cX7_passOn 48 = .ok (.getfield 96, 3) := by decide +kernel
theorem dX7_passOn_51 : decode cX7_passOn 51 = .ok (.if_icmp .ge 66, 3) := by decide +kernel
theorem dX7_passOn_54 : decode cX7_passOn 54 = .ok (.aload_n 0, 1) := by decide +kernel
theorem dX7_passOn_55 : decode cX7_passOn 55 = .ok (.getfield 25, 3) := by decide +kernel
theorem dX7_passOn_58 : decode cX7_passOn 58 = .ok (.iload_n 3, 1) := by decide +kernel
theorem dX7_passOn_59 : decode cX7_passOn 59 = .ok (.iconst 4, 1) := by decide +kernel
theorem dX7_passOn_60 : decode cX7_passOn 60 = .ok (.iadd, 1) := by decide +kernel
theorem dX7_passOn_61 : decode cX7_passOn 61 = .ok (.iload 5, 2) := by decide +kernel
theorem dX7_passOn_63 : decode cX7_passOn 63 = .ok (.iadd, 1) := by decide +kernel
theorem dX7_passOn_64 : decode cX7_passOn 64 = .ok (.iaload, 1) := by decide +kernel
theorem dX7_passOn_65 : decode cX7_passOn 65 = .ok (.iconst 5, 1) := by decide +kernel
theorem dX7_passOn_66 : decode cX7_passOn 66 = .ok (.idiv, 1) := by decide +kernel
theorem dX7_passOn_67 : decode cX7_passOn 67 = .ok (.istore 6, 2) := by decide +kernel
theorem dX7_passOn_69 : decode cX7_passOn 69 = .ok (.aload_n 0, 1) := by decide +kernel
theorem dX7_passOn_70 : decode cX7_passOn 70 = .ok (.getfield 25, 3) := by decide +kernel
theorem dX7_passOn_73 : decode cX7_passOn 73 = .ok (.iload_n 3, 1) := by decide +kernel
theorem dX7_passOn_74 : decode cX7_passOn 74 = .ok (.bipush 8, 2) := by decide +kernel
theorem dX7_passOn_76 : decode cX7_passOn 76 = .ok (.iadd, 1) := by decide +kernel
theorem dX7_passOn_77 : decode cX7_passOn 77 = .ok (.iload 5, 2) := by decide +kernel
theorem dX7_passOn_79 : decode cX7_passOn 79 = .ok (.iadd, 1) := by decide +kernel
theorem dX7_passOn_80 : decode cX7_passOn 80 = .ok (.dup2, 1) := by decide +kernel
theorem dX7_passOn_81 : decode cX7_passOn 81 = .ok (.iaload, 1) := by decide +kernel
theorem dX7_passOn_82 : decode cX7_passOn 82 = .ok (.iload 6, 2) := by decide +kernel
theorem dX7_passOn_84 : decode cX7_passOn 84 = .ok (.iadd, 1) := by decide +kernel
theorem dX7_passOn_85 : decode cX7_passOn 85 = .ok (.iastore, 1) := by decide +kernel
theorem dX7_passOn_86 : decode cX7_passOn 86 = .ok (.aload_n 0, 1) := by decide +kernel
theorem dX7_passOn_87 : decode cX7_passOn 87 = .ok (.getfield 25, 3) := by decide +kernel
theorem dX7_passOn_90 : decode cX7_passOn 90 = .ok (.iload_n 3, 1) := by decide +kernel
theorem dX7_passOn_91 : decode cX7_passOn 91 = .ok (.iconst 4, 1) := by decide +kernel
theorem dX7_passOn_92 : decode cX7_passOn 92 = .ok (.iadd, 1) := by decide +kernel
theorem dX7_passOn_93 : decode cX7_passOn 93 = .ok (.iload 5, 2) := by decide +kernel
theorem dX7_passOn_95 : decode cX7_passOn 95 = .ok (.iadd, 1) := by decide +kernel
theorem dX7_passOn_96 : decode cX7_passOn 96 = .ok (.dup2, 1) := by decide +kernel
theorem dX7_passOn_97 : decode cX7_passOn 97 = .ok (.iaload, 1) := by decide +kernel
theorem dX7_passOn_98 : decode cX7_passOn 98 = .ok (.iconst 5, 1) := by decide +kernel
theorem dX7_passOn_99 : decode cX7_passOn 99 = .ok (.iload 6, 2) := by decide +kernel
theorem dX7_passOn_101 : decode cX7_passOn 101 = .ok (.imul, 1) := by decide +kernel
theorem dX7_passOn_102 : decode cX7_passOn 102 = .ok (.isub, 1) := by decide +kernel
theorem dX7_passOn_103 : decode cX7_passOn 103 = .ok (.iastore, 1) := by decide +kernel
theorem dX7_passOn_104 : decode cX7_passOn 104 = .ok (.iload 4, 2) := by decide +kernel
theorem dX7_passOn_106 : decode cX7_passOn 106 = .ok (.iload 6, 2) := by decide +kernel
theorem dX7_passOn_108 : decode cX7_passOn 108 = .ok (.iadd, 1) := by decide +kernel
theorem dX7_passOn_109 : decode cX7_passOn 109 = .ok (.istore 4, 2) := by decide +kernel
theorem dX7_passOn_111 : decode cX7_passOn 111 = .ok (.iinc 5 1, 3) := by decide +kernel
theorem dX7_passOn_114 : decode cX7_passOn 114 = .ok (.goto (-69), 3) := by decide +kernel
theorem dX7_passOn_117 : decode cX7_passOn 117 = .ok (.aload_n 0, 1) := by decide +kernel
theorem dX7_passOn_118 : decode cX7_passOn 118 = .ok (.getfield 25, 3) := by decide +kernel
theorem dX7_passOn_121 : decode cX7_passOn 121 = .ok (.iload_n 3, 1) := by decide +kernel
theorem dX7_passOn_122 : decode cX7_passOn 122 = .ok (.bipush 22, 2) := by decide +kernel
theorem dX7_passOn_124 : decode cX7_passOn 124 = .ok (.iadd, 1) := by decide +kernel
theorem dX7_passOn_125 : decode cX7_passOn 125 = .ok (.dup2, 1) := by decide +kernel
theorem dX7_passOn_126 : decode cX7_passOn 126 = .ok (.iaload, 1) := by decide +kernel
theorem dX7_passOn_127 : decode cX7_passOn 127 = .ok (.iconst 1, 1) := by decide +kernel
theorem dX7_passOn_128 : decode cX7_passOn 128 = .ok (.iadd, 1) := by decide +kernel
theorem dX7_passOn_129 : decode cX7_passOn 129 = .ok (.iastore, 1) := by decide +kernel
theorem dX7_passOn_130 : decode cX7_passOn 130 = .ok (.iload 4, 2) := by decide +kernel
theorem dX7_passOn_132 : decode cX7_passOn 132 = .ok (.ireturn, 1) := by decide +kernel
theorem dX7_sumOf_0 : decode cX7_sumOf 0 = .ok (.iconst 0, 1) := by decide +kernel
theorem dX7_sumOf_1 : decode cX7_sumOf 1 = .ok (.istore 4, 2) := by decide +kernel
theorem dX7_sumOf_3 : decode cX7_sumOf 3 = .ok (.iconst 0, 1) := by decide +kernel
theorem dX7_sumOf_4 : decode cX7_sumOf 4 = .ok (.istore 5, 2) := by decide +kernel
theorem dX7_sumOf_6 : decode cX7_sumOf 6 = .ok (.iload 5, 2) := by decide +kernel
theorem dX7_sumOf_8 : decode cX7_sumOf 8 = .ok (.iload_n 3, 1) := by decide +kernel
theorem dX7_sumOf_9 : decode cX7_sumOf 9 = .ok (.if_icmp .ge 28, 3) := by decide +kernel
theorem dX7_sumOf_12 : decode cX7_sumOf 12 = .ok (.iload 4, 2) := by decide +kernel
theorem dX7_sumOf_14 : decode cX7_sumOf 14 = .ok (.aload_n 0, 1) := by decide +kernel
theorem dX7_sumOf_15 : decode cX7_sumOf 15 = .ok (.getfield 25, 3) := by decide +kernel
theorem dX7_sumOf_18 : decode cX7_sumOf 18 = .ok (.bipush 23, 2) := by decide +kernel
theorem dX7_sumOf_20 : decode cX7_sumOf 20 = .ok (.iload_n 1, 1) := by decide +kernel
theorem dX7_sumOf_21 : decode cX7_sumOf 21 = .ok (.imul, 1) := by decide +kernel
theorem dX7_sumOf_22 : decode cX7_sumOf 22 = .ok (.iload_n 2, 1) := by decide +kernel
theorem dX7_sumOf_23 : decode cX7_sumOf 23 = .ok (.iadd, 1) := by decide +kernel
theorem dX7_sumOf_24 : decode cX7_sumOf 24 = .ok (.iload 5, 2) := by decide +kernel
theorem dX7_sumOf_26 : decode cX7_sumOf 26 = .ok (.iadd, 1) := by decide +kernel
theorem dX7_sumOf_27 : decode cX7_sumOf 27 = .ok (.iaload, 1) := by decide +kernel
theorem dX7_sumOf_28 : decode cX7_sumOf 28 = .ok (.iadd, 1) := by decide +kernel
theorem dX7_sumOf_29 : decode cX7_sumOf 29 = .ok (.istore 4, 2) := by decide +kernel
theorem dX7_sumOf_31 : decode cX7_sumOf 31 = .ok (.iinc 5 1, 3) := by decide +kernel
theorem dX7_sumOf_34 : decode cX7_sumOf 34 = .ok (.goto (-28), 3) := by decide +kernel
theorem dX7_sumOf_37 : decode cX7_sumOf 37 = .ok (.iload 4, 2) := by decide +kernel
theorem dX7_sumOf_39 : decode cX7_sumOf 39 = .ok (.ireturn, 1) := by decide +kernel
set_option maxRecDepth 20000 in
theorem ggX7_onWay_X7_goalOf : GoodIn wsX7_onWay wsX7_goalOf := goodIn_r _ [6, 1, 7, 8, 14, 15, 16, 17, 18, 19, 20, 21, 22, 23, 24, 25, 26, 27, 28, 29, 30, 31, 32, 33, 34, 35, 36, 37, 38, 39] (by decide +kernel) (by decide +kernel)
set_option maxRecDepth 20000 in
theorem gX7_onWay_X7_goalOf : GoodIn wsX7_onWay (wsV RX7 117 RX7 yX7_goalOf wsX7_goalOf) := goodIn_app (goodIn_of _ (by decide +kernel)) ggX7_onWay_X7_goalOf
set_option maxRecDepth 20000 in
theorem ggX7_onWay_X7_ladderAt : GoodIn wsX7_onWay wsX7_ladderAt := goodIn_r _ [12, 13, 1, 14, 15, 16, 17, 18, 19, 20, 21, 22, 23, 24, 25, 26, 27, 28, 29, 30, 31, 32, 33, 34, 35, 36, 37, 38, 39] (by decide +kernel) (by decide +kernel)
set_option maxRecDepth 20000 in
theorem gX7_onWay_X7_ladderAt : GoodIn wsX7_onWay (wsV RX7 120 RX7 yX7_ladderAt wsX7_ladderAt) := goodIn_app (goodIn_of _ (by decide +kernel)) ggX7_onWay_X7_ladderAt
theorem dX7_onWay_0 : decode cX7_onWay 0 = .ok (.iconst 0, 1) := by decide +kernel
theorem dX7_onWay_1 : decode cX7_onWay 1 = .ok (.istore_n 2, 1) := by decide +kernel
theorem dX7_onWay_2 : decode cX7_onWay 2 = .ok (.aload_n 0, 1) := by decide +kernel
theorem dX7_onWay_3 : decode cX7_onWay 3 = .ok (.getfield 25, 3) := by decide +kernel
theorem dX7_onWay_6 : decode cX7_onWay 6 = .ok (.bipush 12, 2) := by decide +kernel
theorem dX7_onWay_8 : decode cX7_onWay 8 = .ok (.iload_n 1, 1) := by decide +kernel
theorem dX7_onWay_9 : decode cX7_onWay 9 = .ok (.iadd, 1) := by decide +kernel
theorem dX7_onWay_10 : decode cX7_onWay 10 = .ok (.iaload, 1) := by decide +kernel
theorem dX7_onWay_11 : decode cX7_onWay 11 = .ok (.istore_n 3, 1) := by decide +kernel
theorem dX7_onWay_12 : decode cX7_onWay 12 = .ok (.aload_n 0, 1) := by decide +kernel
theorem dX7_onWay_13 : decode cX7_onWay 13 = .ok (.iconst 0, 1) := by decide +kernel
theorem dX7_onWay_14 : decode cX7_onWay 14 = .ok (.iload_n 1, 1) := by decide +kernel
theorem dX7_onWay_15 : decode cX7_onWay 15 = .ok (.invokevirtual 117, 3) := by decide +kernel
theorem dX7_onWay_18 : decode cX7_onWay 18 = .ok (.istore 4, 2) := by decide +kernel
theorem dX7_onWay_20 : decode cX7_onWay 20 = .ok (.iload_n 3, 1) := by decide +kernel
theorem dX7_onWay_21 : decode cX7_onWay 21 = .ok (.iload 4, 2) := by decide +kernel
theorem dX7_onWay_23 : decode cX7_onWay 23 = .ok (.if_icmp .eq 46, 3) := by decide +kernel
theorem dX7_onWay_26 : decode cX7_onWay 26 = .ok (.iload_n 3, 1) := by decide +kernel
theorem dX7_onWay_27 : decode cX7_onWay 27 = .ok (.iload_n 3, 1) := by decide +kernel
theorem dX7_onWay_28 : decode cX7_onWay 28 = .ok (.iload 4, 2) := by decide +kernel
theorem dX7_onWay_30 : decode cX7_onWay 30 = .ok (.if_icmp .ge 7, 3) := by decide +kernel
theorem dX7_onWay_33 : decode cX7_onWay 33 = .ok (.iconst 1, 1) := by decide +kernel
theorem dX7_onWay_34 : decode cX7_onWay 34 = .ok (.goto 4, 3) := by decide +kernel
theorem dX7_onWay_37 : decode cX7_onWay 37 = .ok (.iconst (-1), 1) := by decide +kernel
theorem dX7_onWay_38 : decode cX7_onWay 38 = .ok (.iadd, 1) := by decide +kernel
theorem dX7_onWay_39 : decode cX7_onWay 39 = .ok (.istore_n 3, 1) := by decide +kernel
theorem dX7_onWay_40 : decode cX7_onWay 40 = .ok (.aload_n 0, 1) := by decide +kernel
theorem dX7_onWay_41 : decode cX7_onWay 41 = .ok (.iconst 0, 1) := by decide +kernel
theorem dX7_onWay_42 : decode cX7_onWay 42 = .ok (.iload_n 3, 1) := by decide +kernel
theorem dX7_onWay_43 : decode cX7_onWay 43 = .ok (.invokevirtual 120, 3) := by decide +kernel
theorem dX7_onWay_46 : decode cX7_onWay 46 = .ok (.istore 5, 2) := by decide +kernel
theorem dX7_onWay_48 : decode cX7_onWay 48 = .ok (.iload_n 2, 1) := by decide +kernel
theorem dX7_onWay_49 : decode cX7_onWay 49 = .ok (.iload 5, 2) := by decide +kernel
theorem dX7_onWay_51 : decode cX7_onWay 51 = .ok (.bipush (-9), 2) := by decide +kernel
theorem dX7_onWay_53 : decode cX7_onWay 53 = .ok (.if_icmp .ne 7, 3) := by decide +kernel
theorem dX7_onWay_56 : decode cX7_onWay 56 = .ok (.iconst 0, 1) := by decide +kernel
theorem dX7_onWay_57 : decode cX7_onWay 57 = .ok (.goto 7, 3) := by decide +kernel
theorem dX7_onWay_60 : decode cX7_onWay 60 = .ok (.iconst 1, 1) := by decide +kernel
theorem dX7_onWay_61 : decode cX7_onWay 61 = .ok (.iload 5, 2) := by decide +kernel
theorem dX7_onWay_63 : decode cX7_onWay 63 = .ok (.ishl, 1) := by decide +kernel
theorem dX7_onWay_64 : decode cX7_onWay 64 = .ok (.ior, 1) := by decide +kernel
theorem dX7_onWay_65 : decode cX7_onWay 65 = .ok (.istore_n 2, 1) := by decide +kernel
theorem dX7_onWay_66 : decode cX7_onWay 66 = .ok (.goto (-46), 3) := by decide +kernel
theorem dX7_onWay_69 : decode cX7_onWay 69 = .ok (.iload_n 2, 1) := by decide +kernel
theorem dX7_onWay_70 : decode cX7_onWay 70 = .ok (.ireturn, 1) := by decide +kernel
set_option maxRecDepth 20000 in
theorem ggX7_ladder_X7_isLadder : GoodIn wsX7_ladder wsX7_isLadder := goodIn_r _ [8, 9, 10, 11, 7, 12, 13, 14, 15, 16, 17, 18, 19, 20, 21, 22, 23, 24, 25, 26, 27, 28, 29, 30, 31, 32, 33, 34, 35, 36, 37, 38] (by decide +kernel) (by decide +kernel)
set_option maxRecDepth 20000 in
theorem gX7_ladder_X7_isLadder : GoodIn wsX7_ladder (wsV RX7 130 RX7 yX7_isLadder wsX7_isLadder) := goodIn_app (goodIn_of _ (by decide +kernel)) ggX7_ladder_X7_isLadder
theorem dX7_ladder_0 : decode cX7_ladder 0 = .ok (.aload_n 0, 1) := by decide +kernel
theorem dX7_ladder_1 : decode cX7_ladder 1 = .ok (.iload_n 1, 1) := by decide +kernel
theorem dX7_ladder_2 : decode cX7_ladder 2 = .ok (.invokevirtual 130, 3) := by decide +kernel
theorem dX7_ladder_5 : decode cX7_ladder 5 = .ok (.ifCond .ne 5, 3) := by decide +kernel
theorem dX7_ladder_8 : decode cX7_ladder 8 = .ok (.iconst (-1), 1) := by decide +kernel
theorem dX7_ladder_9 : decode cX7_ladder 9 = .ok (.ireturn, 1) := by decide +kernel
theorem dX7_ladder_10 : decode cX7_ladder 10 = .ok (.iload_n 2, 1) := by decide +kernel
theorem dX7_ladder_11 : decode cX7_ladder 11 = .ok (.tableswitch 73 0 4 #[33, 40, 47, 54, 63], 33) := by decide +kernel
theorem dX7_ladder_44 : decode cX7_ladder 44 = .ok (.aload_n 0, 1) := by decide +kernel
theorem dX7_ladder_45 : decode cX7_ladder 45 = .ok (.getfield 25, 3) := by decide +kernel
theorem dX7_ladder_48 : decode cX7_ladder 48 = .ok (.iload_n 1, 1) := by decide +kernel
theorem dX7_ladder_49 : decode cX7_ladder 49 = .ok (.iaload, 1) := by decide +kernel
theorem dX7_ladder_50 : decode cX7_ladder 50 = .ok (.ireturn, 1) := by decide +kernel
theorem dX7_ladder_51 : decode cX7_ladder 51 = .ok (.aload_n 0, 1) := by decide +kernel
theorem dX7_ladder_52 : decode cX7_ladder 52 = .ok (.getfield 7, 3) := by decide +kernel
theorem dX7_ladder_55 : decode cX7_ladder 55 = .ok (.iload_n 1, 1) := by decide +kernel
theorem dX7_ladder_56 : decode cX7_ladder 56 = .ok (.iaload, 1) := by decide +kernel
theorem dX7_ladder_57 : decode cX7_ladder 57 = .ok (.ireturn, 1) := by decide +kernel
theorem dX7_ladder_58 : decode cX7_ladder 58 = .ok (.aload_n 0, 1) := by decide +kernel
theorem dX7_ladder_59 : decode cX7_ladder 59 = .ok (.getfield 13, 3) := by decide +kernel
theorem dX7_ladder_62 : decode cX7_ladder 62 = .ok (.iload_n 1, 1) := by decide +kernel
theorem dX7_ladder_63 : decode cX7_ladder 63 = .ok (.iaload, 1) := by decide +kernel
theorem dX7_ladder_64 : decode cX7_ladder 64 = .ok (.ireturn, 1) := by decide +kernel
theorem dX7_ladder_65 : decode cX7_ladder 65 = .ok (.aload_n 0, 1) := by decide +kernel
theorem dX7_ladder_66 : decode cX7_ladder 66 = .ok (.getfield 25, 3) := by decide +kernel
theorem dX7_ladder_69 : decode cX7_ladder 69 = .ok (.iconst 4, 1) := by decide +kernel
theorem dX7_ladder_70 : decode cX7_ladder 70 = .ok (.iload_n 1, 1) := by decide +kernel
theorem dX7_ladder_71 : decode cX7_ladder 71 = .ok (.iadd, 1) := by decide +kernel
theorem dX7_ladder_72 : decode cX7_ladder 72 = .ok (.iaload, 1) := by decide +kernel
theorem dX7_ladder_73 : decode cX7_ladder 73 = .ok (.ireturn, 1) := by decide +kernel
theorem dX7_ladder_74 : decode cX7_ladder 74 = .ok (.aload_n 0, 1) := by decide +kernel
theorem dX7_ladder_75 : decode cX7_ladder 75 = .ok (.getfield 25, 3) := by decide +kernel
theorem dX7_ladder_78 : decode cX7_ladder 78 = .ok (.bipush 8, 2) := by decide +kernel
theorem dX7_ladder_80 : decode cX7_ladder 80 = .ok (.iload_n 1, 1) := by decide +kernel
theorem dX7_ladder_81 : decode cX7_ladder 81 = .ok (.iadd, 1) := by decide +kernel
theorem dX7_ladder_82 : decode cX7_ladder 82 = .ok (.iaload, 1) := by decide +kernel
theorem dX7_ladder_83 : decode cX7_ladder 83 = .ok (.ireturn, 1) := by decide +kernel
theorem dX7_ladder_84 : decode cX7_ladder 84 = .ok (.bipush (-2), 2) := by decide +kernel
theorem dX7_ladder_86 : decode cX7_ladder 86 = .ok (.ireturn, 1) := by decide +kernel
set_option maxRecDepth 20000 in
theorem ggX7_person_X7_isPerson : GoodIn wsX7_person wsX7_isPerson := goodIn_r _ [9, 10, 11, 12, 8, 13, 27, 28, 29, 30, 31, 32, 33, 34, 35, 36, 37, 38, 39, 40, 41, 42, 43, 44, 45, 46, 47, 48, 49, 50, 51, 52] (by decide +kernel) (by decide +kernel)
set_option maxRecDepth 20000 in
theorem gX7_person_X7_isPerson : GoodIn wsX7_person (wsV RX7 134 RX7 yX7_isPerson wsX7_isPerson) := goodIn_app (goodIn_of _ (by decide +kernel)) ggX7_person_X7_isPerson
set_option maxRecDepth 20000 in
theorem ggX7_person_X7_onWay : GoodIn wsX7_person wsX7_onWay := goodIn_r _ [17, 4, 18, 19, 20, 8, 21, 1, 2, 22, 23, 24, 25, 26, 27, 28, 29, 30, 31, 32, 33, 34, 35, 36, 37, 38, 39, 40, 41, 42, 43, 44, 45, 46, 47, 48, 49, 50, 51, 52] (by decide +kernel) (by decide +kernel)
set_option maxRecDepth 20000 in
theorem gX7_person_X7_onWay : GoodIn wsX7_person (wsV RX7 137 RX7 yX7_onWay wsX7_onWay) := goodIn_app (goodIn_of _ (by decide +kernel)) ggX7_person_X7_onWay
theorem dX7_person_0 : decode cX7_person 0 = .ok (.aload_n 0, 1) := by decide +kernel
theorem dX7_person_1 : decode cX7_person 1 = .ok (.iload_n 1, 1) := by decide +kernel
theorem dX7_person_2 : decode cX7_person 2 = .ok (.invokevirtual 134, 3) := by decide +kernel
theorem dX7_person_5 : decode cX7_person 5 = .ok (.ifCond .ne 5, 3) := by decide +kernel
theorem dX7_person_8 : decode cX7_person 8 = .ok (.iconst (-1), 1) := by decide +kernel
theorem dX7_person_9 : decode cX7_person 9 = .ok (.ireturn, 1) := by decide +kernel
theorem dX7_person_10 : decode cX7_person 10 = .ok (.iload_n 2, 1) := by decide +kernel
theorem dX7_person_11 : decode cX7_person 11 = .ok (.tableswitch 84 0 5 #[37, 44, 51, 58, 68, 78], 37) := by decide +kernel
theorem dX7_person_48 : decode cX7_person 48 = .ok (.aload_n 0, 1) := by decide +kernel
theorem dX7_person_49 : decode cX7_person 49 = .ok (.getfield 16, 3) := by decide +kernel
theorem dX7_person_52 : decode cX7_person 52 = .ok (.iload_n 1, 1) := by decide +kernel
theorem dX7_person_53 : decode cX7_person 53 = .ok (.iaload, 1) := by decide +kernel
theorem dX7_person_54 : decode cX7_person 54 = .ok (.ireturn, 1) := by decide +kernel
theorem dX7_person_55 : decode cX7_person 55 = .ok (.aload_n 0, 1) := by decide +kernel
theorem dX7_person_56 : decode cX7_person 56 = .ok (.getfield 19, 3) := by decide +kernel
theorem dX7_person_59 : decode cX7_person 59 = .ok (.iload_n 1, 1) := by decide +kernel
theorem dX7_person_60 : decode cX7_person 60 = .ok (.iaload, 1) := by decide +kernel
theorem dX7_person_61 : decode cX7_person 61 = .ok (.ireturn, 1) := by decide +kernel
theorem dX7_person_62 : decode cX7_person 62 = .ok (.aload_n 0, 1) := by decide +kernel
theorem dX7_person_63 : decode cX7_person 63 = .ok (.getfield 22, 3) := by decide +kernel
theorem dX7_person_66 : decode cX7_person 66 = .ok (.iload_n 1, 1) := by decide +kernel
theorem dX7_person_67 : decode cX7_person 67 = .ok (.iaload, 1) := by decide +kernel
theorem dX7_person_68 : decode cX7_person 68 = .ok (.ireturn, 1) := by decide +kernel
theorem dX7_person_69 : decode cX7_person 69 = .ok (.aload_n 0, 1) := by decide +kernel
theorem dX7_person_70 : decode cX7_person 70 = .ok (.getfield 25, 3) := by decide +kernel
theorem dX7_person_73 : decode cX7_person 73 = .ok (.bipush 12, 2) := by decide +kernel
theorem dX7_person_75 : decode cX7_person 75 = .ok (.iload_n 1, 1) := by decide +kernel
theorem dX7_person_76 : decode cX7_person 76 = .ok (.iadd, 1) := by decide +kernel
theorem dX7_person_77 : decode cX7_person 77 = .ok (.iaload, 1) := by decide +kernel
theorem dX7_person_78 : decode cX7_person 78 = .ok (.ireturn, 1) := by decide +kernel
theorem dX7_person_79 : decode cX7_person 79 = .ok (.aload_n 0, 1) := by decide +kernel
theorem dX7_person_80 : decode cX7_person 80 = .ok (.getfield 25, 3) := by decide +kernel
theorem dX7_person_83 : decode cX7_person 83 = .ok (.bipush 17, 2) := by decide +kernel
theorem dX7_person_85 : decode cX7_person 85 = .ok (.iload_n 1, 1) := by decide +kernel
theorem dX7_person_86 : decode cX7_person 86 = .ok (.iadd, 1) := by decide +kernel
theorem dX7_person_87 : decode cX7_person 87 = .ok (.iaload, 1) := by decide +kernel
theorem dX7_person_88 : decode cX7_person 88 = .ok (.ireturn, 1) := by decide +kernel
theorem dX7_person_89 : decode cX7_person 89 = .ok (.aload_n 0, 1) := by decide +kernel
theorem dX7_person_90 : decode cX7_person 90 = .ok (.iload_n 1, 1) := by decide +kernel
theorem dX7_person_91 : decode cX7_person 91 = .ok (.invokevirtual 137, 3) := by decide +kernel
theorem dX7_person_94 : decode cX7_person 94 = .ok (.ireturn, 1) := by decide +kernel
theorem dX7_person_95 : decode cX7_person 95 = .ok (.bipush (-2), 2) := by decide +kernel
theorem dX7_person_97 : decode cX7_person 97 = .ok (.ireturn, 1) := by decide +kernel
set_option maxRecDepth 20000 in
theorem ggX7_at_X7_in : GoodIn wsX7_at wsX7_in := goodIn_r _ [5] (by decide +kernel) (by decide +kernel)
set_option maxRecDepth 20000 in
theorem gX7_at_X7_in : GoodIn wsX7_at (va_wsS RX7 55 yX7_in wsX7_in) := goodIn_app (goodIn_of _ (by decide +kernel)) ggX7_at_X7_in
set_option maxRecDepth 20000 in
theorem ggX7_at_X7_ladderAt : GoodIn wsX7_at wsX7_ladderAt := goodIn_r _ [9, 10, 11, 12, 13, 14, 15, 16, 17, 18, 19, 20, 21, 22, 23, 24, 25, 26, 27, 28, 29, 30, 31, 32, 33, 34, 35, 36, 37] (by decide +kernel) (by decide +kernel)
set_option maxRecDepth 20000 in
theorem gX7_at_X7_ladderAt : GoodIn wsX7_at (wsV RX7 120 RX7 yX7_ladderAt wsX7_ladderAt) := goodIn_app (goodIn_of _ (by decide +kernel)) ggX7_at_X7_ladderAt
theorem dX7_at_0 : decode cX7_at 0 = .ok (.iload_n 1, 1) := by decide +kernel
theorem dX7_at_1 : decode cX7_at 1 = .ok (.i2l, 1) := by decide +kernel
theorem dX7_at_2 : decode cX7_at 2 = .ok (.lconst 0, 1) := by decide +kernel
theorem dX7_at_3 : decode cX7_at 3 = .ok (.ldc2_w 69, 3) := by decide +kernel
theorem dX7_at_6 : decode cX7_at 6 = .ok (.invokestatic 55, 3) := by decide +kernel
theorem dX7_at_9 : decode cX7_at 9 = .ok (.ifCond .eq 12, 3) := by decide +kernel
theorem dX7_at_12 : decode cX7_at 12 = .ok (.aload_n 0, 1) := by decide +kernel
theorem dX7_at_13 : decode cX7_at 13 = .ok (.iconst 0, 1) := by decide +kernel
theorem dX7_at_14 : decode cX7_at 14 = .ok (.iload_n 1, 1) := by decide +kernel
theorem dX7_at_15 : decode cX7_at 15 = .ok (.invokevirtual 120, 3) := by decide +kernel
theorem dX7_at_18 : decode cX7_at 18 = .ok (.goto 4, 3) := by decide +kernel
theorem dX7_at_21 : decode cX7_at 21 = .ok (.iconst (-1), 1) := by decide +kernel
theorem dX7_at_22 : decode cX7_at 22 = .ok (.ireturn, 1) := by decide +kernel
theorem dX7_keepAct_0 : decode cX7_keepAct 0 = .ok (.iconst 0, 1) := by decide +kernel
theorem dX7_keepAct_1 : decode cX7_keepAct 1 = .ok (.istore_n 1, 1) := by decide +kernel
theorem dX7_keepAct_2 : decode cX7_keepAct 2 = .ok (.iload_n 1, 1) := by decide +kernel
theorem dX7_keepAct_3 : decode cX7_keepAct 3 = .ok (.bipush 23, 2) := by decide +kernel
theorem dX7_keepAct_5 : decode cX7_keepAct 5 = .ok (.if_icmp .ge 29, 3) := by decide +kernel
theorem dX7_keepAct_8 : decode cX7_keepAct 8 = .ok (.aload_n 0, 1) := by decide +kernel
theorem dX7_keepAct_9 : decode cX7_keepAct 9 = .ok (.getfield 37, 3) := by decide +kernel
theorem dX7_keepAct_12 : decode cX7_keepAct 12 = .ok (.bipush 23, 2) := by decide +kernel
theorem dX7_keepAct_14 : decode cX7_keepAct 14 = .ok (.aload_n 0, 1) := by decide +kernel
theorem dX7_keepAct_15 : decode cX7_keepAct 15 = .ok (.getfield 140, 3) := by decide +kernel
theorem dX7_keepAct_18 : decode cX7_keepAct 18 = .ok (.imul, 1) := by decide +kernel
theorem dX7_keepAct_19 : decode cX7_keepAct 19 = .ok (.iload_n 1, 1) := by decide +kernel
theorem dX7_keepAct_20 : decode cX7_keepAct 20 = .ok (.iadd, 1) := by decide +kernel
theorem dX7_keepAct_21 : decode cX7_keepAct 21 = .ok (.aload_n 0, 1) := by decide +kernel
theorem dX7_keepAct_22 : decode cX7_keepAct 22 = .ok (.getfield 25, 3) := by decide +kernel
theorem dX7_keepAct_25 : decode cX7_keepAct 25 = .ok (.iload_n 1, 1) := by decide +kernel
theorem dX7_keepAct_26 : decode cX7_keepAct 26 = .ok (.iaload, 1) := by decide +kernel
theorem dX7_keepAct_27 : decode cX7_keepAct 27 = .ok (.iastore, 1) := by decide +kernel
theorem dX7_keepAct_28 : decode cX7_keepAct 28 = .ok (.iinc 1 1, 3) := by decide +kernel
theorem dX7_keepAct_31 : decode cX7_keepAct 31 = .ok (.goto (-29), 3) := by decide +kernel
theorem dX7_keepAct_34 : decode cX7_keepAct 34 = .ok (.aload_n 0, 1) := by decide +kernel
theorem dX7_keepAct_35 : decode cX7_keepAct 35 = .ok (.aload_n 0, 1) := by decide +kernel
theorem dX7_keepAct_36 : decode cX7_keepAct 36 = .ok (.getfield 140, 3) := by decide +kernel
theorem dX7_keepAct_39 : decode cX7_keepAct 39 = .ok (.iconst 1, 1) := by decide +kernel
theorem dX7_keepAct_40 : decode cX7_keepAct 40 = .ok (.iadd, 1) := by decide +kernel
theorem dX7_keepAct_41 : decode cX7_keepAct 41 = .ok (.bipush 14, 2) := by decide +kernel
theorem dX7_keepAct_43 : decode cX7_keepAct 43 = .ok (.irem, 1) := by decide +kernel
theorem dX7_keepAct_44 : decode cX7_keepAct 44 = .ok (.putfield 140, 3) := by decide +kernel
theorem dX7_keepAct_47 : decode cX7_keepAct 47 = .ok (.aload_n 0, 1) := by decide +kernel
theorem dX7_keepAct_48 : decode cX7_keepAct 48 = .ok (.aload_n 0, 1) := by decide +kernel
theorem dX7_keepAct_49 : decode cX7_keepAct 49 = .ok (.getfield 102, 3) := by decide +kernel
theorem dX7_keepAct_52 : decode cX7_keepAct 52 = .ok (.bipush 14, 2) := by decide +kernel
theorem dX7_keepAct_54 : decode cX7_keepAct 54 = .ok (.if_icmp .ge 12, 3) := by decide +kernel
theorem dX7_keepAct_57 : decode cX7_keepAct 57 = .ok (.aload_n 0, 1) := by decide +kernel
theorem dX7_keepAct_58 : decode cX7_keepAct 58 = .ok (.getfield 102, 3) := by decide +kernel
theorem dX7_keepAct_61 : decode cX7_keepAct 61 = .ok (.iconst 1, 1) := by decide +kernel
theorem dX7_keepAct_62 : decode cX7_keepAct 62 = .ok (.iadd, 1) := by decide +kernel
theorem dX7_keepAct_63 : decode cX7_keepAct 63 = .ok (.goto 5, 3) := by decide +kernel
theorem dX7_keepAct_66 : decode cX7_keepAct 66 = .ok (.bipush 14, 2) := by decide +kernel
theorem dX7_keepAct_68 : decode cX7_keepAct 68 = .ok (.putfield 102, 3) := by decide +kernel
theorem dX7_keepAct_71 : decode cX7_keepAct 71 = .ok (.return_, 1) := by decide +kernel
set_option maxRecDepth 20000 in
theorem ggX7_day_X7_keepAct : GoodIn wsX7_day wsX7_keepAct := goodIn_r _ [5, 6, 7, 8, 9, 50, 51, 52, 53, 54, 55, 56, 57, 58, 59, 60, 61, 62, 63, 64, 65, 66, 67, 68, 69, 70, 71, 72, 73, 74, 75] (by decide +kernel) (by decide +kernel)
set_option maxRecDepth 20000 in
theorem gX7_day_X7_keepAct : GoodIn wsX7_day (wsV RX7 143 RX7 yX7_keepAct wsX7_keepAct) := goodIn_app (goodIn_of _ (by decide +kernel)) ggX7_day_X7_keepAct
set_option maxRecDepth 20000 in
theorem ggX7_day_X7_passOn : GoodIn wsX7_day wsX7_passOn := goodIn_r _ [13, 14, 15, 8, 16, 17, 4, 18, 19, 20, 21, 22, 23, 24, 25, 26, 27, 28, 29, 30, 31, 32, 33, 34, 35, 36, 37, 38, 39, 40, 41, 42, 43, 44, 45, 46, 47, 48, 49, 50, 51, 52, 53, 54, 55, 56, 57, 58, 59, 60, 61, 62, 63, 64, 65, 66, 67, 68, 69, 70, 71, 72, 73, 74, 75] (by decide +kernel) (by decide +kernel)
set_option maxRecDepth 20000 in
theorem gX7_day_X7_passOn : GoodIn wsX7_day (wsV RX7 146 RX7 yX7_passOn wsX7_passOn) := goodIn_app (goodIn_of _ (by decide +kernel)) ggX7_day_X7_passOn
theorem dX7_day_0 : decode cX7_day 0 = .ok (.aload_n 0, 1) := by decide +kernel
theorem dX7_day_1 : decode cX7_day 1 = .ok (.invokevirtual 143, 3) := by decide +kernel
theorem dX7_day_4 : decode cX7_day 4 = .ok (.aload_n 0, 1) := by decide +kernel
theorem dX7_day_5 : decode cX7_day 5 = .ok (.iconst 0, 1) := by decide +kernel
theorem dX7_day_6 : decode cX7_day 6 = .ok (.iconst 0, 1) := by decide +kernel
theorem dX7_day_7 : decode cX7_day 7 = .ok (.invokevirtual 146, 3) := by decide +kernel
theorem dX7_day_10 : decode cX7_day 10 = .ok (.ireturn, 1) := by decide +kernel
set_option maxRecDepth 20000 in
theorem ggX7_canMove_X7_isLadder : GoodIn wsX7_canMove wsX7_isLadder := goodIn_r _ [6, 7, 8, 9, 5, 10, 16, 17, 18, 19, 20, 21, 22, 23, 24, 25, 26, 27, 28, 29, 30, 31, 32, 33, 34, 35, 36, 37, 38, 39, 40, 41] (by decide +kernel) (by decide +kernel)
set_option maxRecDepth 20000 in
theorem gX7_canMove_X7_isLadder : GoodIn wsX7_canMove (wsV RX7 130 RX7 yX7_isLadder wsX7_isLadder) := goodIn_app (goodIn_of _ (by decide +kernel)) ggX7_canMove_X7_isLadder
set_option maxRecDepth 20000 in
theorem ggX7_canMove_X7_in : GoodIn wsX7_canMove wsX7_in := goodIn_r _ [10] (by decide +kernel) (by decide +kernel)
set_option maxRecDepth 20000 in
theorem gX7_canMove_X7_in : GoodIn wsX7_canMove (va_wsS RX7 55 yX7_in wsX7_in) := goodIn_app (goodIn_of _ (by decide +kernel)) ggX7_canMove_X7_in
set_option maxRecDepth 20000 in
theorem ggX7_canMove_X7_ladderAt : GoodIn wsX7_canMove wsX7_ladderAt := goodIn_r _ [14, 7, 15, 16, 17, 18, 19, 20, 21, 22, 23, 24, 25, 26, 27, 28, 29, 30, 31, 32, 33, 34, 35, 36, 37, 38, 39, 40, 41] (by decide +kernel) (by decide +kernel)
set_option maxRecDepth 20000 in
theorem gX7_canMove_X7_ladderAt : GoodIn wsX7_canMove (wsV RX7 120 RX7 yX7_ladderAt wsX7_ladderAt) := goodIn_app (goodIn_of _ (by decide +kernel)) ggX7_canMove_X7_ladderAt
theorem dX7_canMove_0 : decode cX7_canMove 0 = .ok (.aload_n 0, 1) := by decide +kernel
theorem dX7_canMove_1 : decode cX7_canMove 1 = .ok (.iload_n 2, 1) := by decide +kernel
theorem dX7_canMove_2 : decode cX7_canMove 2 = .ok (.invokevirtual 130, 3) := by decide +kernel
theorem dX7_canMove_5 : decode cX7_canMove 5 = .ok (.ifCond .eq 30, 3) := by decide +kernel
theorem dX7_canMove_8 : decode cX7_canMove 8 = .ok (.iload_n 3, 1) := by decide +kernel
theorem dX7_canMove_9 : decode cX7_canMove 9 = .ok (.i2l, 1) := by decide +kernel
theorem dX7_canMove_10 : decode cX7_canMove 10 = .ok (.lconst 0, 1) := by decide +kernel
theorem dX7_canMove_11 : decode cX7_canMove 11 = .ok (.ldc2_w 69, 3) := by decide +kernel
theorem dX7_canMove_14 : decode cX7_canMove 14 = .ok (.invokestatic 55, 3) := by decide +kernel
theorem dX7_canMove_17 : decode cX7_canMove 17 = .ok (.ifCond .eq 18, 3) := by decide +kernel
theorem dX7_canMove_20 : decode cX7_canMove 20 = .ok (.aload_n 0, 1) := by decide +kernel
theorem dX7_canMove_21 : decode cX7_canMove 21 = .ok (.iload_n 1, 1) := by decide +kernel
theorem dX7_canMove_22 : decode cX7_canMove 22 = .ok (.iload_n 3, 1) := by decide +kernel
theorem dX7_canMove_23 : decode cX7_canMove 23 = .ok (.invokevirtual 120, 3) := by decide +kernel
theorem dX7_canMove_26 : decode cX7_canMove 26 = .ok (.bipush (-9), 2) := by decide +kernel
theorem dX7_canMove_28 : decode cX7_canMove 28 = .ok (.if_icmp .ne 7, 3) := by decide +kernel
theorem dX7_canMove_31 : decode cX7_canMove 31 = .ok (.iconst 1, 1) := by decide +kernel
theorem dX7_canMove_32 : decode cX7_canMove 32 = .ok (.goto 4, 3) := by decide +kernel
theorem dX7_canMove_35 : decode cX7_canMove 35 = .ok (.iconst 0, 1) := by decide +kernel
theorem dX7_canMove_36 : decode cX7_canMove 36 = .ok (.ireturn, 1) := by decide +kernel
set_option maxRecDepth 20000 in
theorem ggX7_move_X7_isLadder : GoodIn wsX7_move wsX7_isLadder := goodIn_r _ [7, 8, 9, 10, 6, 11, 27, 28, 29, 30, 31, 32, 33, 34, 35, 36, 37, 38, 39, 40, 41, 42, 43, 44, 45, 46, 47, 48, 49, 50, 51, 52] (by decide +kernel) (by decide +kernel)
set_option maxRecDepth 20000 in
theorem gX7_move_X7_isLadder : GoodIn wsX7_move (wsV RX7 130 RX7 yX7_isLadder wsX7_isLadder) := goodIn_app (goodIn_of _ (by decide +kernel)) ggX7_move_X7_isLadder
set_option maxRecDepth 20000 in
theorem ggX7_move_X7_in : GoodIn wsX7_move wsX7_in := goodIn_r _ [11] (by decide +kernel) (by decide +kernel)
set_option maxRecDepth 20000 in
theorem gX7_move_X7_in : GoodIn wsX7_move (va_wsS RX7 55 yX7_in wsX7_in) := goodIn_app (goodIn_of _ (by decide +kernel)) ggX7_move_X7_in
set_option maxRecDepth 20000 in
theorem ggX7_move_X7_canMove : GoodIn wsX7_move wsX7_canMove := goodIn_r _ [15, 1, 3, 4, 5, 6, 7, 8, 9, 10, 11, 16, 17, 18, 19, 2, 27, 28, 29, 30, 31, 32, 33, 34, 35, 36, 37, 38, 39, 40, 41, 42, 43, 44, 45, 46, 47, 48, 49, 50, 51, 52] (by decide +kernel) (by decide +kernel)
set_option maxRecDepth 20000 in
theorem gX7_move_X7_canMove : GoodIn wsX7_move (wsV RX7 149 RX7 yX7_canMove wsX7_canMove) := goodIn_app (goodIn_of _ (by decide +kernel)) ggX7_move_X7_canMove
set_option maxRecDepth 20000 in
theorem ggX7_move_X7_keepAct : GoodIn wsX7_move wsX7_keepAct := goodIn_r _ [23, 24, 25, 2, 26, 27, 28, 29, 30, 31, 32, 33, 34, 35, 36, 37, 38, 39, 40, 41, 42, 43, 44, 45, 46, 47, 48, 49, 50, 51, 52] (by decide +kernel) (by decide +kernel)
set_option maxRecDepth 20000 in
theorem gX7_move_X7_keepAct : GoodIn wsX7_move (wsV RX7 143 RX7 yX7_keepAct wsX7_keepAct) := goodIn_app (goodIn_of _ (by decide +kernel)) ggX7_move_X7_keepAct
theorem dX7_move_0 : decode cX7_move 0 = .ok (.aload_n 0, 1) := by decide +kernel
theorem dX7_move_1 : decode cX7_move 1 = .ok (.iload_n 1, 1) := by decide +kernel
theorem dX7_move_2 : decode cX7_move 2 = .ok (.invokevirtual 130, 3) := by decide +kernel
theorem dX7_move_5 : decode cX7_move 5 = .ok (.ifCond .eq 15, 3) := by decide +kernel
theorem dX7_move_8 : decode cX7_move 8 = .ok (.iload_n 2, 1) := by decide +kernel
theorem dX7_move_9 : decode cX7_move 9 = .ok (.i2l, 1) := by decide +kernel
theorem dX7_move_10 : decode cX7_move 10 = .ok (.lconst 0, 1) := by decide +kernel
theorem dX7_move_11 : decode cX7_move 11 = .ok (.ldc2_w 69, 3) := by decide +kernel
theorem dX7_move_14 : decode cX7_move 14 = .ok (.invokestatic 55, 3) := by decide +kernel
theorem dX7_move_17 : decode cX7_move 17 = .ok (.ifCond .ne 5, 3) := by decide +kernel
theorem dX7_move_20 : decode cX7_move 20 = .ok (.iconst (-1), 1) := by decide +kernel
theorem dX7_move_21 : decode cX7_move 21 = .ok (.ireturn, 1) := by decide +kernel
theorem dX7_move_22 : decode cX7_move 22 = .ok (.aload_n 0, 1) := by decide +kernel
theorem dX7_move_23 : decode cX7_move 23 = .ok (.iconst 0, 1) := by decide +kernel
theorem dX7_move_24 : decode cX7_move 24 = .ok (.iload_n 1, 1) := by decide +kernel
theorem dX7_move_25 : decode cX7_move 25 = .ok (.iload_n 2, 1) := by decide +kernel
theorem dX7_move_26 : decode cX7_move 26 = .ok (.invokevirtual 149, 3) := by decide +kernel
theorem dX7_move_29 : decode cX7_move 29 = .ok (.ifCond .ne 6, 3) := by decide +kernel
theorem dX7_move_32 : decode cX7_move 32 = .ok (.bipush (-3), 2) := by decide +kernel
theorem dX7_move_34 : decode cX7_move 34 = .ok (.ireturn, 1) := by decide +kernel
theorem dX7_move_35 : decode cX7_move 35 = .ok (.aload_n 0, 1) := by decide +kernel
theorem dX7_move_36 : decode cX7_move 36 = .ok (.invokevirtual 143, 3) := by decide +kernel
theorem dX7_move_39 : decode cX7_move 39 = .ok (.aload_n 0, 1) := by decide +kernel
theorem dX7_move_40 : decode cX7_move 40 = .ok (.getfield 25, 3) := by decide +kernel
theorem dX7_move_43 : decode cX7_move 43 = .ok (.iload_n 1, 1) := by decide +kernel
theorem dX7_move_44 : decode cX7_move 44 = .ok (.iaload, 1) := by decide +kernel
theorem dX7_move_45 : decode cX7_move 45 = .ok (.istore_n 3, 1) := by decide +kernel
theorem dX7_move_46 : decode cX7_move 46 = .ok (.aload_n 0, 1) := by decide +kernel
theorem dX7_move_47 : decode cX7_move 47 = .ok (.getfield 25, 3) := by decide +kernel
theorem dX7_move_50 : decode cX7_move 50 = .ok (.iload_n 1, 1) := by decide +kernel
theorem dX7_move_51 : decode cX7_move 51 = .ok (.iload_n 2, 1) := by decide +kernel
theorem dX7_move_52 : decode cX7_move 52 = .ok (.iastore, 1) := by decide +kernel
theorem dX7_move_53 : decode cX7_move 53 = .ok (.iload_n 3, 1) := by decide +kernel
theorem dX7_move_54 : decode cX7_move 54 = .ok (.ireturn, 1) := by decide +kernel
theorem dX7_comeDown_0 : decode cX7_comeDown 0 = .ok (.aload_n 0, 1) := by decide +kernel
theorem dX7_comeDown_1 : decode cX7_comeDown 1 = .ok (.getfield 25, 3) := by decide +kernel
theorem dX7_comeDown_4 : decode cX7_comeDown 4 = .ok (.bipush 23, 2) := by decide +kernel
theorem dX7_comeDown_6 : decode cX7_comeDown 6 = .ok (.iload_n 1, 1) := by decide +kernel
theorem dX7_comeDown_7 : decode cX7_comeDown 7 = .ok (.imul, 1) := by decide +kernel
theorem dX7_comeDown_8 : decode cX7_comeDown 8 = .ok (.iconst 4, 1) := by decide +kernel
theorem dX7_comeDown_9 : decode cX7_comeDown 9 = .ok (.iadd, 1) := by decide +kernel
theorem dX7_comeDown_10 : decode cX7_comeDown 10 = .ok (.iload_n 2, 1) := by decide +kernel
theorem dX7_comeDown_11 : decode cX7_comeDown 11 = .ok (.iadd, 1) := by decide +kernel
theorem dX7_comeDown_12 : decode cX7_comeDown 12 = .ok (.iconst 0, 1) := by decide +kernel
theorem dX7_comeDown_13 : decode cX7_comeDown 13 = .ok (.iastore, 1) := by decide +kernel
theorem dX7_comeDown_14 : decode cX7_comeDown 14 = .ok (.aload_n 0, 1) := by decide +kernel
theorem dX7_comeDown_15 : decode cX7_comeDown 15 = .ok (.getfield 25, 3) := by decide +kernel
theorem dX7_comeDown_18 : decode cX7_comeDown 18 = .ok (.bipush 23, 2) := by decide +kernel
theorem dX7_comeDown_20 : decode cX7_comeDown 20 = .ok (.iload_n 1, 1) := by decide +kernel
theorem dX7_comeDown_21 : decode cX7_comeDown 21 = .ok (.imul, 1) := by decide +kernel
theorem dX7_comeDown_22 : decode cX7_comeDown 22 = .ok (.bipush 8, 2) := by decide +kernel
theorem dX7_comeDown_24 : decode cX7_comeDown 24 = .ok (.iadd, 1) := by decide +kernel
theorem dX7_comeDown_25 : decode cX7_comeDown 25 = .ok (.iload_n 2, 1) := by decide +kernel
theorem dX7_comeDown_26 : decode cX7_comeDown 26 = .ok (.iadd, 1) := by decide +kernel
theorem dX7_comeDown_27 : decode cX7_comeDown 27 = .ok (.iconst 0, 1) := by decide +kernel
theorem dX7_comeDown_28 : decode cX7_comeDown 28 = .ok (.iastore, 1) := by decide +kernel
theorem dX7_comeDown_29 : decode cX7_comeDown 29 = .ok (.return_, 1) := by decide +kernel
set_option maxRecDepth 20000 in
theorem ggX7_down_X7_isLadder : GoodIn wsX7_down wsX7_isLadder := goodIn_r _ [6, 7, 8, 9, 5, 10, 22, 23, 24, 25, 26, 27, 28, 29, 30, 31, 32, 33, 34, 35, 36, 37, 38, 39, 40, 41, 42, 43, 44, 45, 46, 47] (by decide +kernel) (by decide +kernel)
set_option maxRecDepth 20000 in
theorem gX7_down_X7_isLadder : GoodIn wsX7_down (wsV RX7 130 RX7 yX7_isLadder wsX7_isLadder) := goodIn_app (goodIn_of _ (by decide +kernel)) ggX7_down_X7_isLadder
set_option maxRecDepth 20000 in
theorem ggX7_down_X7_keepAct : GoodIn wsX7_down wsX7_keepAct := goodIn_r _ [14, 15, 16, 1, 17, 22, 23, 24, 25, 26, 27, 28, 29, 30, 31, 32, 33, 34, 35, 36, 37, 38, 39, 40, 41, 42, 43, 44, 45, 46, 47] (by decide +kernel) (by decide +kernel)
set_option maxRecDepth 20000 in
theorem gX7_down_X7_keepAct : GoodIn wsX7_down (wsV RX7 143 RX7 yX7_keepAct wsX7_keepAct) := goodIn_app (goodIn_of _ (by decide +kernel)) ggX7_down_X7_keepAct
set_option maxRecDepth 20000 in
theorem ggX7_down_X7_comeDown : GoodIn wsX7_down wsX7_comeDown := goodIn_r _ [21, 1, 22, 23, 24, 25, 26, 27, 28, 29, 30, 31, 32, 33, 34, 35, 36, 37, 38, 39, 40, 41, 42, 43, 44, 45, 46, 47] (by decide +kernel) (by decide +kernel)
set_option maxRecDepth 20000 in
theorem gX7_down_X7_comeDown : GoodIn wsX7_down (wsV RX7 153 RX7 yX7_comeDown wsX7_comeDown) := goodIn_app (goodIn_of _ (by decide +kernel)) ggX7_down_X7_comeDown
theorem dX7_down_0 : decode cX7_down 0 = .ok (.aload_n 0, 1) := by decide +kernel
theorem dX7_down_1 : decode cX7_down 1 = .ok (.iload_n 1, 1) := by decide +kernel
theorem dX7_down_2 : decode cX7_down 2 = .ok (.invokevirtual 130, 3) := by decide +kernel
theorem dX7_down_5 : decode cX7_down 5 = .ok (.ifCond .ne 5, 3) := by decide +kernel
theorem dX7_down_8 : decode cX7_down 8 = .ok (.iconst (-1), 1) := by decide +kernel
theorem dX7_down_9 : decode cX7_down 9 = .ok (.ireturn, 1) := by decide +kernel
theorem dX7_down_10 : decode cX7_down 10 = .ok (.aload_n 0, 1) := by decide +kernel
theorem dX7_down_11 : decode cX7_down 11 = .ok (.invokevirtual 143, 3) := by decide +kernel
theorem dX7_down_14 : decode cX7_down 14 = .ok (.aload_n 0, 1) := by decide +kernel
theorem dX7_down_15 : decode cX7_down 15 = .ok (.getfield 25, 3) := by decide +kernel
theorem dX7_down_18 : decode cX7_down 18 = .ok (.bipush 8, 2) := by decide +kernel
theorem dX7_down_20 : decode cX7_down 20 = .ok (.iload_n 1, 1) := by decide +kernel
theorem dX7_down_21 : decode cX7_down 21 = .ok (.iadd, 1) := by decide +kernel
theorem dX7_down_22 : decode cX7_down 22 = .ok (.iaload, 1) := by decide +kernel
theorem dX7_down_23 : decode cX7_down 23 = .ok (.istore_n 2, 1) := by decide +kernel
theorem dX7_down_24 : decode cX7_down 24 = .ok (.aload_n 0, 1) := by decide +kernel
theorem dX7_down_25 : decode cX7_down 25 = .ok (.iconst 0, 1) := by decide +kernel
theorem dX7_down_26 : decode cX7_down 26 = .ok (.iload_n 1, 1) := by decide +kernel
theorem dX7_down_27 : decode cX7_down 27 = .ok (.invokevirtual 153, 3) := by decide +kernel
theorem dX7_down_30 : decode cX7_down 30 = .ok (.iload_n 2, 1) := by decide +kernel
theorem dX7_down_31 : decode cX7_down 31 = .ok (.ireturn, 1) := by decide +kernel
set_option maxRecDepth 20000 in
theorem ggX7_giveOn_X7_lesser : GoodIn wsX7_giveOn wsX7_lesser := goodIn_r _ [5] (by decide +kernel) (by decide +kernel)
set_option maxRecDepth 20000 in
theorem gX7_giveOn_X7_lesser : GoodIn wsX7_giveOn (va_wsS RX7 105 yX7_lesser wsX7_lesser) := goodIn_app (goodIn_of _ (by decide +kernel)) ggX7_giveOn_X7_lesser
theorem dX7_giveOn_0 : decode cX7_giveOn 0 = .ok (.bipush 23, 2) := by decide +kernel
theorem dX7_giveOn_2 : decode cX7_giveOn 2 = .ok (.iload_n 1, 1) := by decide +kernel
theorem dX7_giveOn_3 : decode cX7_giveOn 3 = .ok (.imul, 1) := by decide +kernel
theorem dX7_giveOn_4 : decode cX7_giveOn 4 = .ok (.bipush 17, 2) := by decide +kernel
theorem dX7_giveOn_6 : decode cX7_giveOn 6 = .ok (.iadd, 1) := by decide +kernel
theorem dX7_giveOn_7 : decode cX7_giveOn 7 = .ok (.iload_n 2, 1) := by decide +kernel
theorem dX7_giveOn_8 : decode cX7_giveOn 8 = .ok (.iadd, 1) := by decide +kernel
theorem dX7_giveOn_9 : decode cX7_giveOn 9 = .ok (.istore 4, 2) := by decide +kernel
theorem dX7_giveOn_11 : decode cX7_giveOn 11 = .ok (.aload_n 0, 1) := by decide +kernel
theorem dX7_giveOn_12 : decode cX7_giveOn 12 = .ok (.getfield 25, 3) := by decide +kernel
theorem dX7_giveOn_15 : decode cX7_giveOn 15 = .ok (.iload 4, 2) := by decide +kernel
theorem dX7_giveOn_17 : decode cX7_giveOn 17 = .ok (.bipush 99, 2) := by decide +kernel
theorem dX7_giveOn_19 : decode cX7_giveOn 19 = .ok (.aload_n 0, 1) := by decide +kernel
theorem dX7_giveOn_20 : decode cX7_giveOn 20 = .ok (.getfield 25, 3) := by decide +kernel
theorem dX7_giveOn_23 : decode cX7_giveOn 23 = .ok (.iload 4, 2) := by decide +kernel
theorem dX7_giveOn_25 : decode cX7_giveOn 25 = .ok (.iaload, 1) := by decide +kernel
theorem dX7_giveOn_26 : decode cX7_giveOn 26 = .ok (.iload_n 3, 1) := by decide +kernel
theorem dX7_giveOn_27 : decode cX7_giveOn 27 = .ok (.iadd, 1) := by decide +kernel
theorem dX7_giveOn_28 : decode cX7_giveOn 28 = .ok (.invokestatic 105, 3) := by decide +kernel
theorem dX7_giveOn_31 : decode cX7_giveOn 31 = .ok (.iastore, 1) := by decide +kernel
theorem dX7_giveOn_32 : decode cX7_giveOn 32 = .ok (.return_, 1) := by decide +kernel
set_option maxRecDepth 20000 in
theorem ggX7_give_X7_isPerson : GoodIn wsX7_give wsX7_isPerson := goodIn_r _ [7, 8, 9, 10, 6, 11, 26, 27, 28, 29, 30, 31, 32, 33, 34, 35, 36, 37, 38, 39, 40, 41, 42, 43, 44, 45, 46, 47, 48, 49, 50, 51] (by decide +kernel) (by decide +kernel)
set_option maxRecDepth 20000 in
theorem gX7_give_X7_isPerson : GoodIn wsX7_give (wsV RX7 134 RX7 yX7_isPerson wsX7_isPerson) := goodIn_app (goodIn_of _ (by decide +kernel)) ggX7_give_X7_isPerson
set_option maxRecDepth 20000 in
theorem ggX7_give_X7_in : GoodIn wsX7_give wsX7_in := goodIn_r _ [11] (by decide +kernel) (by decide +kernel)
set_option maxRecDepth 20000 in
theorem gX7_give_X7_in : GoodIn wsX7_give (va_wsS RX7 55 yX7_in wsX7_in) := goodIn_app (goodIn_of _ (by decide +kernel)) ggX7_give_X7_in
set_option maxRecDepth 20000 in
theorem ggX7_give_X7_keepAct : GoodIn wsX7_give wsX7_keepAct := goodIn_r _ [15, 16, 17, 2, 18, 26, 27, 28, 29, 30, 31, 32, 33, 34, 35, 36, 37, 38, 39, 40, 41, 42, 43, 44, 45, 46, 47, 48, 49, 50, 51] (by decide +kernel) (by decide +kernel)
set_option maxRecDepth 20000 in
theorem gX7_give_X7_keepAct : GoodIn wsX7_give (wsV RX7 143 RX7 yX7_keepAct wsX7_keepAct) := goodIn_app (goodIn_of _ (by decide +kernel)) ggX7_give_X7_keepAct
set_option maxRecDepth 20000 in
theorem ggX7_give_X7_giveOn : GoodIn wsX7_give wsX7_giveOn := goodIn_r _ [22, 2, 23, 24, 6, 25, 26, 27, 28, 29, 30, 31, 32, 33, 34, 35, 36, 37, 38, 39, 40, 41, 42, 43, 44, 45, 46, 47, 48, 49, 50, 51] (by decide +kernel) (by decide +kernel)
set_option maxRecDepth 20000 in
theorem gX7_give_X7_giveOn : GoodIn wsX7_give (wsV RX7 156 RX7 yX7_giveOn wsX7_giveOn) := goodIn_app (goodIn_of _ (by decide +kernel)) ggX7_give_X7_giveOn
theorem dX7_give_0 : decode cX7_give 0 = .ok (.aload_n 0, 1) := by decide +kernel
theorem dX7_give_1 : decode cX7_give 1 = .ok (.iload_n 1, 1) := by decide +kernel
theorem dX7_give_2 : decode cX7_give 2 = .ok (.invokevirtual 134, 3) := by decide +kernel
theorem dX7_give_5 : decode cX7_give 5 = .ok (.ifCond .ne 5, 3) := by decide +kernel
theorem dX7_give_8 : decode cX7_give 8 = .ok (.iconst (-1), 1) := by decide +kernel
theorem dX7_give_9 : decode cX7_give 9 = .ok (.ireturn, 1) := by decide +kernel
theorem dX7_give_10 : decode cX7_give 10 = .ok (.iload_n 2, 1) := by decide +kernel
theorem dX7_give_11 : decode cX7_give 11 = .ok (.i2l, 1) := by decide +kernel
theorem dX7_give_12 : decode cX7_give 12 = .ok (.lconst 1, 1) := by decide +kernel
theorem dX7_give_13 : decode cX7_give 13 = .ok (.ldc2_w 69, 3) := by decide +kernel
theorem dX7_give_16 : decode cX7_give 16 = .ok (.invokestatic 55, 3) := by decide +kernel
theorem dX7_give_19 : decode cX7_give 19 = .ok (.ifCond .ne 6, 3) := by decide +kernel
theorem dX7_give_22 : decode cX7_give 22 = .ok (.bipush (-2), 2) := by decide +kernel
theorem dX7_give_24 : decode cX7_give 24 = .ok (.ireturn, 1) := by decide +kernel
theorem dX7_give_25 : decode cX7_give 25 = .ok (.aload_n 0, 1) := by decide +kernel
theorem dX7_give_26 : decode cX7_give 26 = .ok (.invokevirtual 143, 3) := by decide +kernel
theorem dX7_give_29 : decode cX7_give 29 = .ok (.aload_n 0, 1) := by decide +kernel
theorem dX7_give_30 : decode cX7_give 30 = .ok (.iconst 0, 1) := by decide +kernel
theorem dX7_give_31 : decode cX7_give 31 = .ok (.iload_n 1, 1) := by decide +kernel
theorem dX7_give_32 : decode cX7_give 32 = .ok (.iload_n 2, 1) := by decide +kernel
theorem dX7_give_33 : decode cX7_give 33 = .ok (.invokevirtual 156, 3) := by decide +kernel
theorem dX7_give_36 : decode cX7_give 36 = .ok (.aload_n 0, 1) := by decide +kernel
theorem dX7_give_37 : decode cX7_give 37 = .ok (.getfield 25, 3) := by decide +kernel
theorem dX7_give_40 : decode cX7_give 40 = .ok (.bipush 17, 2) := by decide +kernel
theorem dX7_give_42 : decode cX7_give 42 = .ok (.iload_n 1, 1) := by decide +kernel
theorem dX7_give_43 : decode cX7_give 43 = .ok (.iadd, 1) := by decide +kernel
theorem dX7_give_44 : decode cX7_give 44 = .ok (.iaload, 1) := by decide +kernel
theorem dX7_give_45 : decode cX7_give 45 = .ok (.ireturn, 1) := by decide +kernel
theorem dX7_undo_0 : decode cX7_undo 0 = .ok (.aload_n 0, 1) := by decide +kernel
theorem dX7_undo_1 : decode cX7_undo 1 = .ok (.getfield 102, 3) := by decide +kernel
theorem dX7_undo_4 : decode cX7_undo 4 = .ok (.ifCond .ne 6, 3) := by decide +kernel
theorem dX7_undo_7 : decode cX7_undo 7 = .ok (.bipush (-3), 2) := by decide +kernel
theorem dX7_undo_9 : decode cX7_undo 9 = .ok (.ireturn, 1) := by decide +kernel
theorem dX7_undo_10 : decode cX7_undo 10 = .ok (.aload_n 0, 1) := by decide +kernel
theorem dX7_undo_11 : decode cX7_undo 11 = .ok (.dup, 1) := by decide +kernel
theorem dX7_undo_12 : decode cX7_undo 12 = .ok (.getfield 102, 3) := by decide +kernel
theorem dX7_undo_15 : decode cX7_undo 15 = .ok (.iconst 1, 1) := by decide +kernel
theorem dX7_undo_16 : decode cX7_undo 16 = .ok (.isub, 1) := by decide +kernel
theorem dX7_undo_17 : decode cX7_undo 17 = .ok (.putfield 102, 3) := by decide +kernel
theorem dX7_undo_20 : decode cX7_undo 20 = .ok (.aload_n 0, 1) := by decide +kernel
theorem dX7_undo_21 : decode cX7_undo 21 = .ok (.aload_n 0, 1) := by decide +kernel
theorem dX7_undo_22 : decode cX7_undo 22 = .ok (.getfield 140, 3) := by decide +kernel
theorem dX7_undo_25 : decode cX7_undo 25 = .ok (.bipush 13, 2) := by decide +kernel
theorem dX7_undo_27 : decode cX7_undo 27 = .ok (.iadd, 1) := by decide +kernel
theorem dX7_undo_28 : decode cX7_undo 28 = .ok (.bipush 14, 2) := by decide +kernel
theorem dX7_undo_30 : decode cX7_undo 30 = .ok (.irem, 1) := by decide +kernel
theorem dX7_undo_31 : decode cX7_undo 31 = .ok (.putfield 140, 3) := by decide +kernel
theorem dX7_undo_34 : decode cX7_undo 34 = .ok (.iconst 0, 1) := by decide +kernel
theorem dX7_undo_35 : decode cX7_undo 35 = .ok (.istore_n 1, 1) := by decide +kernel
theorem dX7_undo_36 : decode cX7_undo 36 = .ok (.iload_n 1, 1) := by decide +kernel
theorem dX7_undo_37 : decode cX7_undo 37 = .ok (.bipush 23, 2) := by decide +kernel
theorem dX7_undo_39 : decode cX7_undo 39 = .ok (.if_icmp .ge 29, 3) := by decide +kernel
theorem dX7_undo_42 : decode cX7_undo 42 = .ok (.aload_n 0, 1) := by decide +kernel
theorem dX7_undo_43 : decode cX7_undo 43 = .ok (.getfield 25, 3) := by decide +kernel
theorem dX7_undo_46 : decode cX7_undo 46 = .ok (.iload_n 1, 1) := by decide +kernel
theorem dX7_undo_47 : decode cX7_undo 47 = .ok (.aload_n 0, 1) := by decide +kernel
theorem dX7_undo_48 : decode cX7_undo 48 = .ok (.getfield 37, 3) := by decide +kernel
theorem dX7_undo_51 : decode cX7_undo 51 = .ok (.bipush 23, 2) := by decide +kernel
theorem dX7_undo_53 : decode cX7_undo 53 = .ok (.aload_n 0, 1) := by decide +kernel
theorem dX7_undo_54 : decode cX7_undo 54 = .ok (.getfield 140, 3) := by decide +kernel
theorem dX7_undo_57 : decode cX7_undo 57 = .ok (.imul, 1) := by decide +kernel
theorem dX7_undo_58 : decode cX7_undo 58 = .ok (.iload_n 1, 1) := by decide +kernel
theorem dX7_undo_59 : decode cX7_undo 59 = .ok (.iadd, 1) := by decide +kernel
theorem dX7_undo_60 : decode cX7_undo 60 = .ok (.iaload, 1) := by decide +kernel
theorem dX7_undo_61 : decode cX7_undo 61 = .ok (.iastore, 1) := by decide +kernel
theorem dX7_undo_62 : decode cX7_undo 62 = .ok (.iinc 1 1, 3) := by decide +kernel
theorem dX7_undo_65 : decode cX7_undo 65 = .ok (.goto (-29), 3) := by decide +kernel
theorem dX7_undo_68 : decode cX7_undo 68 = .ok (.aload_n 0, 1) := by decide +kernel
theorem dX7_undo_69 : decode cX7_undo 69 = .ok (.getfield 102, 3) := by decide +kernel
theorem dX7_undo_72 : decode cX7_undo 72 = .ok (.ireturn, 1) := by decide +kernel
theorem dX7_layTrial_0 : decode cX7_layTrial 0 = .ok (.iconst 0, 1) := by decide +kernel
theorem dX7_layTrial_1 : decode cX7_layTrial 1 = .ok (.istore_n 1, 1) := by decide +kernel
theorem dX7_layTrial_2 : decode cX7_layTrial 2 = .ok (.iload_n 1, 1) := by decide +kernel
theorem dX7_layTrial_3 : decode cX7_layTrial 3 = .ok (.bipush 23, 2) := by decide +kernel
theorem dX7_layTrial_5 : decode cX7_layTrial 5 = .ok (.if_icmp .ge 24, 3) := by decide +kernel
theorem dX7_layTrial_8 : decode cX7_layTrial 8 = .ok (.aload_n 0, 1) := by decide +kernel
theorem dX7_layTrial_9 : decode cX7_layTrial 9 = .ok (.getfield 25, 3) := by decide +kernel
theorem dX7_layTrial_12 : decode cX7_layTrial 12 = .ok (.bipush 23, 2) := by decide +kernel
theorem dX7_layTrial_14 : decode cX7_layTrial 14 = .ok (.iload_n 1, 1) := by decide +kernel
theorem dX7_layTrial_15 : decode cX7_layTrial 15 = .ok (.iadd, 1) := by decide +kernel
theorem dX7_layTrial_16 : decode cX7_layTrial 16 = .ok (.aload_n 0, 1) := by decide +kernel
theorem dX7_layTrial_17 : decode cX7_layTrial 17 = .ok (.getfield 25, 3) := by decide +kernel
theorem dX7_layTrial_20 : decode cX7_layTrial 20 = .ok (.iload_n 1, 1) := by decide +kernel
theorem dX7_layTrial_21 : decode cX7_layTrial 21 = .ok (.iaload, 1) := by decide +kernel
theorem dX7_layTrial_22 : decode cX7_layTrial 22 = .ok (.iastore, 1) := by decide +kernel
theorem dX7_layTrial_23 : decode cX7_layTrial 23 = .ok (.iinc 1 1, 3) := by decide +kernel
theorem dX7_layTrial_26 : decode cX7_layTrial 26 = .ok (.goto (-24), 3) := by decide +kernel
theorem dX7_layTrial_29 : decode cX7_layTrial 29 = .ok (.return_, 1) := by decide +kernel
set_option maxRecDepth 20000 in
theorem ggX7_goOn_X7_passOn : GoodIn wsX7_goOn wsX7_passOn := goodIn_r _ [5, 6, 7, 8, 9, 10, 4, 11, 12, 13, 14, 15, 16, 17, 18, 19, 20, 21, 22, 23, 24, 25, 26, 27, 28, 29, 30, 31, 32, 33, 34, 35, 36, 37, 38, 39, 40, 41, 42, 43, 44, 45, 46, 47, 48, 49, 50, 51, 52, 53, 54, 55, 56, 57, 58, 59, 60, 61, 62, 63, 64, 65, 66, 67, 68] (by decide +kernel) (by decide +kernel)
set_option maxRecDepth 20000 in
theorem gX7_goOn_X7_passOn : GoodIn wsX7_goOn (wsV RX7 146 RX7 yX7_passOn wsX7_passOn) := goodIn_app (goodIn_of _ (by decide +kernel)) ggX7_goOn_X7_passOn
theorem dX7_goOn_0 : decode cX7_goOn 0 = .ok (.iconst 0, 1) := by decide +kernel
theorem dX7_goOn_1 : decode cX7_goOn 1 = .ok (.istore_n 3, 1) := by decide +kernel
theorem dX7_goOn_2 : decode cX7_goOn 2 = .ok (.iload_n 3, 1) := by decide +kernel
theorem dX7_goOn_3 : decode cX7_goOn 3 = .ok (.iload_n 1, 1) := by decide +kernel
theorem dX7_goOn_4 : decode cX7_goOn 4 = .ok (.if_icmp .ge 16, 3) := by decide +kernel
theorem dX7_goOn_7 : decode cX7_goOn 7 = .ok (.aload_n 0, 1) := by decide +kernel
theorem dX7_goOn_8 : decode cX7_goOn 8 = .ok (.iconst 1, 1) := by decide +kernel
theorem dX7_goOn_9 : decode cX7_goOn 9 = .ok (.iload_n 2, 1) := by decide +kernel
theorem dX7_goOn_10 : decode cX7_goOn 10 = .ok (.invokevirtual 146, 3) := by decide +kernel
theorem dX7_goOn_13 : decode cX7_goOn 13 = .ok (.pop, 1) := by decide +kernel
theorem dX7_goOn_14 : decode cX7_goOn 14 = .ok (.iinc 3 1, 3) := by decide +kernel
theorem dX7_goOn_17 : decode cX7_goOn 17 = .ok (.goto (-15), 3) := by decide +kernel
theorem dX7_goOn_20 : decode cX7_goOn 20 = .ok (.return_, 1) := by decide +kernel
set_option maxRecDepth 20000 in
theorem ggX7_luck_X7_isPerson : GoodIn wsX7_luck wsX7_isPerson := goodIn_r _ [7, 8, 9, 10, 6, 11, 59, 60, 61, 62, 63, 64, 65, 66, 67, 68, 69, 70, 71, 72, 73, 74, 75, 76, 77, 78, 79, 80, 81, 82, 83, 84] (by decide +kernel) (by decide +kernel)
set_option maxRecDepth 20000 in
theorem gX7_luck_X7_isPerson : GoodIn wsX7_luck (wsV RX7 134 RX7 yX7_isPerson wsX7_isPerson) := goodIn_app (goodIn_of _ (by decide +kernel)) ggX7_luck_X7_isPerson
set_option maxRecDepth 20000 in
theorem ggX7_luck_X7_in : GoodIn wsX7_luck wsX7_in := goodIn_r _ [11] (by decide +kernel) (by decide +kernel)
set_option maxRecDepth 20000 in
theorem gX7_luck_X7_in : GoodIn wsX7_luck (va_wsS RX7 55 yX7_in wsX7_in) := goodIn_app (goodIn_of _ (by decide +kernel)) ggX7_luck_X7_in
set_option maxRecDepth 20000 in
theorem ggX7_luck_X7_layTrial : GoodIn wsX7_luck wsX7_layTrial := goodIn_r _ [15, 2, 59, 60, 61, 62, 63, 64, 65, 66, 67, 68, 69, 70, 71, 72, 73, 74, 75, 76, 77, 78, 79, 80, 81, 82, 83, 84] (by decide +kernel) (by decide +kernel)
set_option maxRecDepth 20000 in
theorem gX7_luck_X7_layTrial : GoodIn wsX7_luck (wsV RX7 161 RX7 yX7_layTrial wsX7_layTrial) := goodIn_app (goodIn_of _ (by decide +kernel)) ggX7_luck_X7_layTrial
set_option maxRecDepth 20000 in
theorem ggX7_luck_X7_goOn : GoodIn wsX7_luck wsX7_goOn := goodIn_r _ [19, 20, 21, 22, 6, 23, 8, 24, 2, 25, 26, 27, 28, 29, 30, 31, 32, 33, 34, 35, 36, 37, 38, 39, 40, 41, 42, 43, 44, 45, 46, 47, 48, 49, 50, 51, 52, 53, 54, 55, 56, 57, 58, 59, 60, 61, 62, 63, 64, 65, 66, 67, 68, 69, 70, 71, 72, 73, 74, 75, 76, 77, 78, 79, 80, 81, 82, 83, 84] (by decide +kernel) (by decide +kernel)
set_option maxRecDepth 20000 in
theorem gX7_luck_X7_goOn : GoodIn wsX7_luck (wsV RX7 164 RX7 yX7_goOn wsX7_goOn) := goodIn_app (goodIn_of _ (by decide +kernel)) ggX7_luck_X7_goOn
theorem dX7_luck_0 : decode cX7_luck 0 = .ok (.aload_n 0, 1) := by decide +kernel
theorem dX7_luck_1 : decode cX7_luck 1 = .ok (.iload_n 1, 1) := by decide +kernel
theorem dX7_luck_2 : decode cX7_luck 2 = .ok (.invokevirtual 134, 3) := by decide +kernel
theorem dX7_luck_5 : decode cX7_luck 5 = .ok (.ifCond .ne 5, 3) := by decide +kernel
theorem dX7_luck_8 : decode cX7_luck 8 = .ok (.iconst (-1), 1) := by decide +kernel
theorem dX7_luck_9 : decode cX7_luck 9 = .ok (.ireturn, 1) := by decide +kernel
theorem dX7_luck_10 : decode cX7_luck 10 = .ok (.iload_n 2, 1) := by decide +kernel
theorem dX7_luck_11 : decode cX7_luck 11 = .ok (.i2l, 1) := by decide +kernel
theorem dX7_luck_12 : decode cX7_luck 12 = .ok (.lconst 0, 1) := by decide +kernel
theorem dX7_luck_13 : decode cX7_luck 13 = .ok (.ldc2_w 159, 3) := by decide +kernel
theorem dX7_luck_16 : decode cX7_luck 16 = .ok (.invokestatic 55, 3) := by decide +kernel
theorem dX7_luck_19 : decode cX7_luck 19 = .ok (.ifCond .ne 6, 3) := by decide +kernel
theorem dX7_luck_22 : decode cX7_luck 22 = .ok (.bipush (-2), 2) := by decide +kernel
theorem dX7_luck_24 : decode cX7_luck 24 = .ok (.ireturn, 1) := by decide +kernel
theorem dX7_luck_25 : decode cX7_luck 25 = .ok (.aload_n 0, 1) := by decide +kernel
theorem dX7_luck_26 : decode cX7_luck 26 = .ok (.invokevirtual 161, 3) := by decide +kernel
theorem dX7_luck_29 : decode cX7_luck 29 = .ok (.aload_n 0, 1) := by decide +kernel
theorem dX7_luck_30 : decode cX7_luck 30 = .ok (.iload_n 2, 1) := by decide +kernel
theorem dX7_luck_31 : decode cX7_luck 31 = .ok (.iconst 0, 1) := by decide +kernel
theorem dX7_luck_32 : decode cX7_luck 32 = .ok (.invokevirtual 164, 3) := by decide +kernel
theorem dX7_luck_35 : decode cX7_luck 35 = .ok (.aload_n 0, 1) := by decide +kernel
theorem dX7_luck_36 : decode cX7_luck 36 = .ok (.getfield 25, 3) := by decide +kernel
theorem dX7_luck_39 : decode cX7_luck 39 = .ok (.bipush 40, 2) := by decide +kernel
theorem dX7_luck_41 : decode cX7_luck 41 = .ok (.iload_n 1, 1) := by decide +kernel
theorem dX7_luck_42 : decode cX7_luck 42 = .ok (.iadd, 1) := by decide +kernel
theorem dX7_luck_43 : decode cX7_luck 43 = .ok (.iaload, 1) := by decide +kernel
theorem dX7_luck_44 : decode cX7_luck 44 = .ok (.ireturn, 1) := by decide +kernel
set_option maxRecDepth 20000 in
theorem ggX7_gold_X7_isLadder : GoodIn wsX7_gold wsX7_isLadder := goodIn_r _ [7, 8, 9, 10, 6, 11, 59, 60, 61, 62, 63, 64, 65, 66, 67, 68, 69, 70, 71, 72, 73, 74, 75, 76, 77, 78, 79, 80, 81, 82, 83, 84] (by decide +kernel) (by decide +kernel)
set_option maxRecDepth 20000 in
theorem gX7_gold_X7_isLadder : GoodIn wsX7_gold (wsV RX7 130 RX7 yX7_isLadder wsX7_isLadder) := goodIn_app (goodIn_of _ (by decide +kernel)) ggX7_gold_X7_isLadder
set_option maxRecDepth 20000 in
theorem ggX7_gold_X7_in : GoodIn wsX7_gold wsX7_in := goodIn_r _ [11] (by decide +kernel) (by decide +kernel)
set_option maxRecDepth 20000 in
theorem gX7_gold_X7_in : GoodIn wsX7_gold (va_wsS RX7 55 yX7_in wsX7_in) := goodIn_app (goodIn_of _ (by decide +kernel)) ggX7_gold_X7_in
set_option maxRecDepth 20000 in
theorem ggX7_gold_X7_layTrial : GoodIn wsX7_gold wsX7_layTrial := goodIn_r _ [15, 2, 59, 60, 61, 62, 63, 64, 65, 66, 67, 68, 69, 70, 71, 72, 73, 74, 75, 76, 77, 78, 79, 80, 81, 82, 83, 84] (by decide +kernel) (by decide +kernel)
set_option maxRecDepth 20000 in
theorem gX7_gold_X7_layTrial : GoodIn wsX7_gold (wsV RX7 161 RX7 yX7_layTrial wsX7_layTrial) := goodIn_app (goodIn_of _ (by decide +kernel)) ggX7_gold_X7_layTrial
set_option maxRecDepth 20000 in
theorem ggX7_gold_X7_goOn : GoodIn wsX7_gold wsX7_goOn := goodIn_r _ [19, 20, 21, 22, 6, 23, 24, 8, 2, 25, 26, 27, 28, 29, 30, 31, 32, 33, 34, 35, 36, 37, 38, 39, 40, 41, 42, 43, 44, 45, 46, 47, 48, 49, 50, 51, 52, 53, 54, 55, 56, 57, 58, 59, 60, 61, 62, 63, 64, 65, 66, 67, 68, 69, 70, 71, 72, 73, 74, 75, 76, 77, 78, 79, 80, 81, 82, 83, 84] (by decide +kernel) (by decide +kernel)
set_option maxRecDepth 20000 in
theorem gX7_gold_X7_goOn : GoodIn wsX7_gold (wsV RX7 164 RX7 yX7_goOn wsX7_goOn) := goodIn_app (goodIn_of _ (by decide +kernel)) ggX7_gold_X7_goOn
theorem dX7_gold_0 : decode cX7_gold 0 = .ok (.aload_n 0, 1) := by decide +kernel
theorem dX7_gold_1 : decode cX7_gold 1 = .ok (.iload_n 1, 1) := by decide +kernel
theorem dX7_gold_2 : decode cX7_gold 2 = .ok (.invokevirtual 130, 3) := by decide +kernel
theorem dX7_gold_5 : decode cX7_gold 5 = .ok (.ifCond .ne 5, 3) := by decide +kernel
theorem dX7_gold_8 : decode cX7_gold 8 = .ok (.iconst (-1), 1) := by decide +kernel
theorem dX7_gold_9 : decode cX7_gold 9 = .ok (.ireturn, 1) := by decide +kernel
theorem dX7_gold_10 : decode cX7_gold 10 = .ok (.iload_n 2, 1) := by decide +kernel
theorem dX7_gold_11 : decode cX7_gold 11 = .ok (.i2l, 1) := by decide +kernel
theorem dX7_gold_12 : decode cX7_gold 12 = .ok (.lconst 0, 1) := by decide +kernel
theorem dX7_gold_13 : decode cX7_gold 13 = .ok (.ldc2_w 159, 3) := by decide +kernel
theorem dX7_gold_16 : decode cX7_gold 16 = .ok (.invokestatic 55, 3) := by decide +kernel
theorem dX7_gold_19 : decode cX7_gold 19 = .ok (.ifCond .ne 6, 3) := by decide +kernel
theorem dX7_gold_22 : decode cX7_gold 22 = .ok (.bipush (-2), 2) := by decide +kernel
theorem dX7_gold_24 : decode cX7_gold 24 = .ok (.ireturn, 1) := by decide +kernel
theorem dX7_gold_25 : decode cX7_gold 25 = .ok (.aload_n 0, 1) := by decide +kernel
theorem dX7_gold_26 : decode cX7_gold 26 = .ok (.invokevirtual 161, 3) := by decide +kernel
theorem dX7_gold_29 : decode cX7_gold 29 = .ok (.aload_n 0, 1) := by decide +kernel
theorem dX7_gold_30 : decode cX7_gold 30 = .ok (.iload_n 2, 1) := by decide +kernel
theorem dX7_gold_31 : decode cX7_gold 31 = .ok (.iconst 0, 1) := by decide +kernel
theorem dX7_gold_32 : decode cX7_gold 32 = .ok (.invokevirtual 164, 3) := by decide +kernel
theorem dX7_gold_35 : decode cX7_gold 35 = .ok (.aload_n 0, 1) := by decide +kernel
theorem dX7_gold_36 : decode cX7_gold 36 = .ok (.getfield 25, 3) := by decide +kernel
theorem dX7_gold_39 : decode cX7_gold 39 = .ok (.bipush 31, 2) := by decide +kernel
theorem dX7_gold_41 : decode cX7_gold 41 = .ok (.iload_n 1, 1) := by decide +kernel
theorem dX7_gold_42 : decode cX7_gold 42 = .ok (.iadd, 1) := by decide +kernel
theorem dX7_gold_43 : decode cX7_gold 43 = .ok (.iaload, 1) := by decide +kernel
theorem dX7_gold_44 : decode cX7_gold 44 = .ok (.ireturn, 1) := by decide +kernel
set_option maxRecDepth 20000 in
theorem ggX7_lost_X7_isPerson : GoodIn wsX7_lost wsX7_isPerson := goodIn_r _ [6, 7, 8, 9, 5, 10, 54, 55, 56, 57, 58, 59, 60, 61, 62, 63, 64, 65, 66, 67, 68, 69, 70, 71, 72, 73, 74, 75, 76, 77, 78, 79] (by decide +kernel) (by decide +kernel)
set_option maxRecDepth 20000 in
theorem gX7_lost_X7_isPerson : GoodIn wsX7_lost (wsV RX7 134 RX7 yX7_isPerson wsX7_isPerson) := goodIn_app (goodIn_of _ (by decide +kernel)) ggX7_lost_X7_isPerson
set_option maxRecDepth 20000 in
theorem ggX7_lost_X7_layTrial : GoodIn wsX7_lost wsX7_layTrial := goodIn_r _ [14, 1, 54, 55, 56, 57, 58, 59, 60, 61, 62, 63, 64, 65, 66, 67, 68, 69, 70, 71, 72, 73, 74, 75, 76, 77, 78, 79] (by decide +kernel) (by decide +kernel)
set_option maxRecDepth 20000 in
theorem gX7_lost_X7_layTrial : GoodIn wsX7_lost (wsV RX7 161 RX7 yX7_layTrial wsX7_layTrial) := goodIn_app (goodIn_of _ (by decide +kernel)) ggX7_lost_X7_layTrial
set_option maxRecDepth 20000 in
theorem ggX7_lost_X7_passOn : GoodIn wsX7_lost wsX7_passOn := goodIn_r _ [18, 7, 19, 1, 20, 21, 5, 22, 23, 24, 25, 26, 27, 28, 29, 30, 31, 32, 33, 34, 35, 36, 37, 38, 39, 40, 41, 42, 43, 44, 45, 46, 47, 48, 49, 50, 51, 52, 53, 54, 55, 56, 57, 58, 59, 60, 61, 62, 63, 64, 65, 66, 67, 68, 69, 70, 71, 72, 73, 74, 75, 76, 77, 78, 79] (by decide +kernel) (by decide +kernel)
set_option maxRecDepth 20000 in
theorem gX7_lost_X7_passOn : GoodIn wsX7_lost (wsV RX7 146 RX7 yX7_passOn wsX7_passOn) := goodIn_app (goodIn_of _ (by decide +kernel)) ggX7_lost_X7_passOn
theorem dX7_lost_0 : decode cX7_lost 0 = .ok (.aload_n 0, 1) := by decide +kernel
theorem dX7_lost_1 : decode cX7_lost 1 = .ok (.iload_n 1, 1) := by decide +kernel
theorem dX7_lost_2 : decode cX7_lost 2 = .ok (.invokevirtual 134, 3) := by decide +kernel
theorem dX7_lost_5 : decode cX7_lost 5 = .ok (.ifCond .ne 5, 3) := by decide +kernel
theorem dX7_lost_8 : decode cX7_lost 8 = .ok (.iconst (-1), 1) := by decide +kernel
theorem dX7_lost_9 : decode cX7_lost 9 = .ok (.ireturn, 1) := by decide +kernel
theorem dX7_lost_10 : decode cX7_lost 10 = .ok (.aload_n 0, 1) := by decide +kernel
theorem dX7_lost_11 : decode cX7_lost 11 = .ok (.invokevirtual 161, 3) := by decide +kernel
theorem dX7_lost_14 : decode cX7_lost 14 = .ok (.iconst 0, 1) := by decide +kernel
theorem dX7_lost_15 : decode cX7_lost 15 = .ok (.istore_n 2, 1) := by decide +kernel
theorem dX7_lost_16 : decode cX7_lost 16 = .ok (.iload_n 2, 1) := by decide +kernel
theorem dX7_lost_17 : decode cX7_lost 17 = .ok (.bipush 21, 2) := by decide +kernel
theorem dX7_lost_19 : decode cX7_lost 19 = .ok (.if_icmp .ge 30, 3) := by decide +kernel
theorem dX7_lost_22 : decode cX7_lost 22 = .ok (.aload_n 0, 1) := by decide +kernel
theorem dX7_lost_23 : decode cX7_lost 23 = .ok (.getfield 25, 3) := by decide +kernel
theorem dX7_lost_26 : decode cX7_lost 26 = .ok (.bipush 40, 2) := by decide +kernel
theorem dX7_lost_28 : decode cX7_lost 28 = .ok (.iload_n 1, 1) := by decide +kernel
theorem dX7_lost_29 : decode cX7_lost 29 = .ok (.iadd, 1) := by decide +kernel
theorem dX7_lost_30 : decode cX7_lost 30 = .ok (.iaload, 1) := by decide +kernel
theorem dX7_lost_31 : decode cX7_lost 31 = .ok (.ifCond .ne 5, 3) := by decide +kernel
theorem dX7_lost_34 : decode cX7_lost 34 = .ok (.iload_n 2, 1) := by decide +kernel
theorem dX7_lost_35 : decode cX7_lost 35 = .ok (.ireturn, 1) := by decide +kernel
theorem dX7_lost_36 : decode cX7_lost 36 = .ok (.aload_n 0, 1) := by decide +kernel
theorem dX7_lost_37 : decode cX7_lost 37 = .ok (.iconst 1, 1) := by decide +kernel
theorem dX7_lost_38 : decode cX7_lost 38 = .ok (.iconst 0, 1) := by decide +kernel
theorem dX7_lost_39 : decode cX7_lost 39 = .ok (.invokevirtual 146, 3) := by decide +kernel
theorem dX7_lost_42 : decode cX7_lost 42 = .ok (.pop, 1) := by decide +kernel
theorem dX7_lost_43 : decode cX7_lost 43 = .ok (.iinc 2 1, 3) := by decide +kernel
theorem dX7_lost_46 : decode cX7_lost 46 = .ok (.goto (-30), 3) := by decide +kernel
theorem dX7_lost_49 : decode cX7_lost 49 = .ok (.bipush (-9), 2) := by decide +kernel
theorem dX7_lost_51 : decode cX7_lost 51 = .ok (.ireturn, 1) := by decide +kernel
set_option maxRecDepth 20000 in
theorem ggX7_spot_X7_isLadder : GoodIn wsX7_spot wsX7_isLadder := goodIn_r _ [6, 7, 8, 9, 5, 10, 58, 59, 60, 61, 62, 63, 64, 65, 66, 67, 68, 69, 70, 71, 72, 73, 74, 75, 76, 77, 78, 79, 80, 81, 82, 83] (by decide +kernel) (by decide +kernel)
set_option maxRecDepth 20000 in
theorem gX7_spot_X7_isLadder : GoodIn wsX7_spot (wsV RX7 130 RX7 yX7_isLadder wsX7_isLadder) := goodIn_app (goodIn_of _ (by decide +kernel)) ggX7_spot_X7_isLadder
set_option maxRecDepth 20000 in
theorem ggX7_spot_X7_in : GoodIn wsX7_spot wsX7_in := goodIn_r _ [10] (by decide +kernel) (by decide +kernel)
set_option maxRecDepth 20000 in
theorem gX7_spot_X7_in : GoodIn wsX7_spot (va_wsS RX7 55 yX7_in wsX7_in) := goodIn_app (goodIn_of _ (by decide +kernel)) ggX7_spot_X7_in
set_option maxRecDepth 20000 in
theorem ggX7_spot_X7_ladderAt : GoodIn wsX7_spot wsX7_ladderAt := goodIn_r _ [14, 7, 1, 58, 59, 60, 61, 62, 63, 64, 65, 66, 67, 68, 69, 70, 71, 72, 73, 74, 75, 76, 77, 78, 79, 80, 81, 82, 83] (by decide +kernel) (by decide +kernel)
set_option maxRecDepth 20000 in
theorem gX7_spot_X7_ladderAt : GoodIn wsX7_spot (wsV RX7 120 RX7 yX7_ladderAt wsX7_ladderAt) := goodIn_app (goodIn_of _ (by decide +kernel)) ggX7_spot_X7_ladderAt
set_option maxRecDepth 20000 in
theorem ggX7_spot_X7_layTrial : GoodIn wsX7_spot wsX7_layTrial := goodIn_r _ [18, 1, 58, 59, 60, 61, 62, 63, 64, 65, 66, 67, 68, 69, 70, 71, 72, 73, 74, 75, 76, 77, 78, 79, 80, 81, 82, 83] (by decide +kernel) (by decide +kernel)
set_option maxRecDepth 20000 in
theorem gX7_spot_X7_layTrial : GoodIn wsX7_spot (wsV RX7 161 RX7 yX7_layTrial wsX7_layTrial) := goodIn_app (goodIn_of _ (by decide +kernel)) ggX7_spot_X7_layTrial
set_option maxRecDepth 20000 in
theorem ggX7_spot_X7_goOn : GoodIn wsX7_spot wsX7_goOn := goodIn_r _ [22, 23, 24, 25, 5, 26, 27, 7, 1, 28, 29, 30, 31, 32, 33, 34, 35, 36, 37, 38, 39, 40, 11, 12, 13, 14, 41, 42, 43, 44, 45, 46, 47, 48, 49, 50, 51, 52, 53, 54, 55, 56, 57, 58, 59, 60, 61, 62, 63, 64, 65, 66, 67, 68, 69, 70, 71, 72, 73, 74, 75, 76, 77, 78, 79, 80, 81, 82, 83] (by decide +kernel) (by decide +kernel)
set_option maxRecDepth 20000 in
theorem gX7_spot_X7_goOn : GoodIn wsX7_spot (wsV RX7 164 RX7 yX7_goOn wsX7_goOn) := goodIn_app (goodIn_of _ (by decide +kernel)) ggX7_spot_X7_goOn
theorem dX7_spot_0 : decode cX7_spot 0 = .ok (.aload_n 0, 1) := by decide +kernel
theorem dX7_spot_1 : decode cX7_spot 1 = .ok (.iload_n 1, 1) := by decide +kernel
theorem dX7_spot_2 : decode cX7_spot 2 = .ok (.invokevirtual 130, 3) := by decide +kernel
theorem dX7_spot_5 : decode cX7_spot 5 = .ok (.ifCond .ne 5, 3) := by decide +kernel
theorem dX7_spot_8 : decode cX7_spot 8 = .ok (.iconst (-1), 1) := by decide +kernel
theorem dX7_spot_9 : decode cX7_spot 9 = .ok (.ireturn, 1) := by decide +kernel
theorem dX7_spot_10 : decode cX7_spot 10 = .ok (.iload_n 2, 1) := by decide +kernel
theorem dX7_spot_11 : decode cX7_spot 11 = .ok (.i2l, 1) := by decide +kernel
theorem dX7_spot_12 : decode cX7_spot 12 = .ok (.lconst 0, 1) := by decide +kernel
theorem dX7_spot_13 : decode cX7_spot 13 = .ok (.lconst 1, 1) := by decide +kernel
theorem dX7_spot_14 : decode cX7_spot 14 = .ok (.invokestatic 55, 3) := by decide +kernel
theorem dX7_spot_17 : decode cX7_spot 17 = .ok (.ifCond .ne 6, 3) := by decide +kernel
theorem dX7_spot_20 : decode cX7_spot 20 = .ok (.bipush (-2), 2) := by decide +kernel
theorem dX7_spot_22 : decode cX7_spot 22 = .ok (.ireturn, 1) := by decide +kernel
theorem dX7_spot_23 : decode cX7_spot 23 = .ok (.bipush (-9), 2) := by decide +kernel
theorem dX7_spot_25 : decode cX7_spot 25 = .ok (.istore_n 3, 1) := by decide +kernel
theorem dX7_spot_26 : decode cX7_spot 26 = .ok (.iconst 0, 1) := by decide +kernel
theorem dX7_spot_27 : decode cX7_spot 27 = .ok (.istore 4, 2) := by decide +kernel
theorem dX7_spot_29 : decode cX7_spot 29 = .ok (.iconst 0, 1) := by decide +kernel
theorem dX7_spot_30 : decode cX7_spot 30 = .ok (.istore 5, 2) := by decide +kernel
theorem dX7_spot_32 : decode cX7_spot 32 = .ok (.iconst 0, 1) := by decide +kernel
theorem dX7_spot_33 : decode cX7_spot 33 = .ok (.istore 6, 2) := by decide +kernel
theorem dX7_spot_35 : decode cX7_spot 35 = .ok (.iload 6, 2) := by decide +kernel
theorem dX7_spot_37 : decode cX7_spot 37 = .ok (.bipush 10, 2) := by decide +kernel
theorem dX7_spot_39 : decode cX7_spot 39 = .ok (.if_icmp .ge 150, 3) := by decide +kernel
theorem dX7_spot_42 : decode cX7_spot 42 = .ok (.aload_n 0, 1) := by decide +kernel
theorem dX7_spot_43 : decode cX7_spot 43 = .ok (.getfield 25, 3) := by decide +kernel
theorem dX7_spot_46 : decode cX7_spot 46 = .ok (.iload_n 1, 1) := by decide +kernel
theorem dX7_spot_47 : decode cX7_spot 47 = .ok (.iaload, 1) := by decide +kernel
theorem dX7_spot_48 : decode cX7_spot 48 = .ok (.iload 6, 2) := by decide +kernel
theorem dX7_spot_50 : decode cX7_spot 50 = .ok (.if_icmp .eq 15, 3) := by decide +kernel
theorem dX7_spot_53 : decode cX7_spot 53 = .ok (.aload_n 0, 1) := by decide +kernel
theorem dX7_spot_54 : decode cX7_spot 54 = .ok (.iconst 0, 1) := by decide +kernel
theorem dX7_spot_55 : decode cX7_spot 55 = .ok (.iload 6, 2) := by decide +kernel
theorem dX7_spot_57 : decode cX7_spot 57 = .ok (.invokevirtual 120, 3) := by decide +kernel
theorem dX7_spot_60 : decode cX7_spot 60 = .ok (.bipush (-9), 2) := by decide +kernel
theorem dX7_spot_62 : decode cX7_spot 62 = .ok (.if_icmp .ne 121, 3) := by decide +kernel
theorem dX7_spot_65 : decode cX7_spot 65 = .ok (.aload_n 0, 1) := by decide +kernel
theorem dX7_spot_66 : decode cX7_spot 66 = .ok (.invokevirtual 161, 3) := by decide +kernel
theorem dX7_spot_69 : decode cX7_spot 69 = .ok (.aload_n 0, 1) := by decide +kernel
theorem dX7_spot_70 : decode cX7_spot 70 = .ok (.getfield 25, 3) := by decide +kernel
theorem dX7_spot_73 : decode cX7_spot 73 = .ok (.bipush 23, 2) := by decide +kernel
theorem dX7_spot_75 : decode cX7_spot 75 = .ok (.iload_n 1, 1) := by decide +kernel
theorem dX7_spot_76 : decode cX7_spot 76 = .ok (.iadd, 1) := by decide +kernel
theorem dX7_spot_77 : decode cX7_spot 77 = .ok (.iload 6, 2) := by decide +kernel
theorem dX7_spot_79 : decode cX7_spot 79 = .ok (.iastore, 1) := by decide +kernel
theorem dX7_spot_80 : decode cX7_spot 80 = .ok (.aload_n 0, 1) := by decide +kernel
theorem dX7_spot_81 : decode cX7_spot 81 = .ok (.bipush 6, 2) := by decide +kernel
theorem dX7_spot_83 : decode cX7_spot 83 = .ok (.iconst 0, 1) := by decide +kernel
theorem dX7_spot_84 : decode cX7_spot 84 = .ok (.invokevirtual 164, 3) := by decide +kernel
theorem dX7_spot_87 : decode cX7_spot 87 = .ok (.aload_n 0, 1) := by decide +kernel
theorem dX7_spot_88 : decode cX7_spot 88 = .ok (.getfield 25, 3) := by decide +kernel
theorem dX7_spot_91 : decode cX7_spot 91 = .ok (.bipush 31, 2) := by decide +kernel
theorem dX7_spot_93 : decode cX7_spot 93 = .ok (.iload_n 1, 1) := by decide +kernel
theorem dX7_spot_94 : decode cX7_spot 94 = .ok (.iadd, 1) := by decide +kernel
theorem dX7_spot_95 : decode cX7_spot 95 = .ok (.iaload, 1) := by decide +kernel
theorem dX7_spot_96 : decode cX7_spot 96 = .ok (.istore 7, 2) := by decide +kernel
theorem dX7_spot_98 : decode cX7_spot 98 = .ok (.aload_n 0, 1) := by decide +kernel
theorem dX7_spot_99 : decode cX7_spot 99 = .ok (.getfield 25, 3) := by decide +kernel
theorem dX7_spot_102 : decode cX7_spot 102 = .ok (.bipush 27, 2) := by decide +kernel
theorem dX7_spot_104 : decode cX7_spot 104 = .ok (.iload_n 1, 1) := by decide +kernel
theorem dX7_spot_105 : decode cX7_spot 105 = .ok (.iadd, 1) := by decide +kernel
theorem dX7_spot_106 : decode cX7_spot 106 = .ok (.iaload, 1) := by decide +kernel
theorem dX7_spot_107 : decode cX7_spot 107 = .ok (.istore 8, 2) := by decide +kernel
theorem dX7_spot_109 : decode cX7_spot 109 = .ok (.iload_n 3, 1) := by decide +kernel
theorem dX7_spot_110 : decode cX7_spot 110 = .ok (.bipush (-9), 2) := by decide +kernel
theorem dX7_spot_112 : decode cX7_spot 112 = .ok (.if_icmp .eq 24, 3) := by decide +kernel
theorem dX7_spot_115 : decode cX7_spot 115 = .ok (.iload 7, 2) := by decide +kernel
theorem dX7_spot_117 : decode cX7_spot 117 = .ok (.iload 4, 2) := by decide +kernel
theorem dX7_spot_119 : decode cX7_spot 119 = .ok (.if_icmp .gt 17, 3) := by decide +kernel
theorem dX7_spot_122 : decode cX7_spot 122 = .ok (.iload 7, 2) := by decide +kernel
theorem dX7_spot_124 : decode cX7_spot 124 = .ok (.iload 4, 2) := by decide +kernel
theorem dX7_spot_126 : decode cX7_spot 126 = .ok (.if_icmp .ne 14, 3) := by decide +kernel
theorem dX7_spot_129 : decode cX7_spot 129 = .ok (.iload 8, 2) := by decide +kernel
theorem dX7_spot_131 : decode cX7_spot 131 = .ok (.iload 5, 2) := by decide +kernel
theorem dX7_spot_133 : decode cX7_spot 133 = .ok (.if_icmp .le 7, 3) := by decide +kernel
theorem dX7_spot_136 : decode cX7_spot 136 = .ok (.iconst 1, 1) := by decide +kernel
theorem dX7_spot_137 : decode cX7_spot 137 = .ok (.goto 4, 3) := by decide +kernel
theorem dX7_spot_140 : decode cX7_spot 140 = .ok (.iconst 0, 1) := by decide +kernel
theorem dX7_spot_141 : decode cX7_spot 141 = .ok (.istore 9, 2) := by decide +kernel
theorem dX7_spot_143 : decode cX7_spot 143 = .ok (.iload 9, 2) := by decide +kernel
theorem dX7_spot_145 : decode cX7_spot 145 = .ok (.ifCond .eq 8, 3) := by decide +kernel
theorem dX7_spot_148 : decode cX7_spot 148 = .ok (.iload 6, 2) := by decide +kernel
theorem dX7_spot_150 : decode cX7_spot 150 = .ok (.goto 4, 3) := by decide +kernel
theorem dX7_spot_153 : decode cX7_spot 153 = .ok (.iload_n 3, 1) := by decide +kernel
theorem dX7_spot_154 : decode cX7_spot 154 = .ok (.istore_n 3, 1) := by decide +kernel
theorem dX7_spot_155 : decode cX7_spot 155 = .ok (.iload 9, 2) := by decide +kernel
theorem dX7_spot_157 : decode cX7_spot 157 = .ok (.ifCond .eq 8, 3) := by decide +kernel
theorem dX7_spot_160 : decode cX7_spot 160 = .ok (.iload 7, 2) := by decide +kernel
theorem dX7_spot_162 : decode cX7_spot 162 = .ok (.goto 5, 3) := by decide +kernel
theorem dX7_spot_165 : decode cX7_spot 165 = .ok (.iload 4, 2) := by decide +kernel
theorem dX7_spot_167 : decode cX7_spot 167 = .ok (.istore 4, 2) := by decide +kernel
theorem dX7_spot_169 : decode cX7_spot 169 = .ok (.iload 9, 2) := by decide +kernel
theorem dX7_spot_171 : decode cX7_spot 171 = .ok (.ifCond .eq 8, 3) := by decide +kernel
theorem dX7_spot_174 : decode cX7_spot 174 = .ok (.iload 8, 2) := by decide +kernel
theorem dX7_spot_176 : decode cX7_spot 176 = .ok (.goto 5, 3) := by decide +kernel
theorem dX7_spot_179 : decode cX7_spot 179 = .ok (.iload 5, 2) := by decide +kernel
theorem dX7_spot_181 : decode cX7_spot 181 = .ok (.istore 5, 2) := by decide +kernel
theorem dX7_spot_183 : decode cX7_spot 183 = .ok (.iinc 6 1, 3) := by decide +kernel
theorem dX7_spot_186 : decode cX7_spot 186 = .ok (.goto (-151), 3) := by decide +kernel
theorem dX7_spot_189 : decode cX7_spot 189 = .ok (.iload_n 2, 1) := by decide +kernel
theorem dX7_spot_190 : decode cX7_spot 190 = .ok (.ifCond .ne 7, 3) := by decide +kernel
theorem dX7_spot_193 : decode cX7_spot 193 = .ok (.iload_n 3, 1) := by decide +kernel
theorem dX7_spot_194 : decode cX7_spot 194 = .ok (.goto 5, 3) := by decide +kernel
theorem dX7_spot_197 : decode cX7_spot 197 = .ok (.iload 4, 2) := by decide +kernel
theorem dX7_spot_199 : decode cX7_spot 199 = .ok (.ireturn, 1) := by decide +kernel
set_option maxRecDepth 20000 in
theorem ggX7_luckRound_X7_goalOf : GoodIn wsX7_luckRound wsX7_goalOf := goodIn_r _ [8, 1, 9, 10, 25, 26, 27, 28, 29, 30, 31, 32, 33, 34, 35, 36, 37, 38, 39, 40, 41, 42, 43, 44, 45, 46, 47, 48, 49, 50] (by decide +kernel) (by decide +kernel)
set_option maxRecDepth 20000 in
theorem gX7_luckRound_X7_goalOf : GoodIn wsX7_luckRound (wsV RX7 117 RX7 yX7_goalOf wsX7_goalOf) := goodIn_app (goodIn_of _ (by decide +kernel)) ggX7_luckRound_X7_goalOf
set_option maxRecDepth 20000 in
theorem ggX7_luckRound_X7_ladderAt : GoodIn wsX7_luckRound wsX7_ladderAt := goodIn_r _ [14, 15, 1, 25, 26, 27, 28, 29, 30, 31, 32, 33, 34, 35, 36, 37, 38, 39, 40, 41, 42, 43, 44, 45, 46, 47, 48, 49, 50] (by decide +kernel) (by decide +kernel)
set_option maxRecDepth 20000 in
theorem gX7_luckRound_X7_ladderAt : GoodIn wsX7_luckRound (wsV RX7 120 RX7 yX7_ladderAt wsX7_ladderAt) := goodIn_app (goodIn_of _ (by decide +kernel)) ggX7_luckRound_X7_ladderAt
set_option maxRecDepth 20000 in
theorem ggX7_luckRound_X7_has : GoodIn wsX7_luckRound wsX7_has := goodIn_r _ [18] (by decide +kernel) (by decide +kernel)
set_option maxRecDepth 20000 in
theorem gX7_luckRound_X7_has : GoodIn wsX7_luckRound (va_wsS RX7 71 yX7_has wsX7_has) := goodIn_app (goodIn_of _ (by decide +kernel)) ggX7_luckRound_X7_has
set_option maxRecDepth 20000 in
theorem ggX7_luckRound_X7_takes : GoodIn wsX7_luckRound wsX7_takes := goodIn_r _ [21, 22, 23, 7, 24] (by decide +kernel) (by decide +kernel)
set_option maxRecDepth 20000 in
theorem gX7_luckRound_X7_takes : GoodIn wsX7_luckRound (va_wsS RX7 109 yX7_takes wsX7_takes) := goodIn_app (goodIn_of _ (by decide +kernel)) ggX7_luckRound_X7_takes
theorem dX7_luckRound_0 : decode cX7_luckRound 0 = .ok (.aload_n 0, 1) := by decide +kernel
theorem dX7_luckRound_1 : decode cX7_luckRound 1 = .ok (.getfield 25, 3) := by decide +kernel
theorem dX7_luckRound_4 : decode cX7_luckRound 4 = .ok (.bipush 17, 2) := by decide +kernel
theorem dX7_luckRound_6 : decode cX7_luckRound 6 = .ok (.iload_n 1, 1) := by decide +kernel
theorem dX7_luckRound_7 : decode cX7_luckRound 7 = .ok (.iadd, 1) := by decide +kernel
theorem dX7_luckRound_8 : decode cX7_luckRound 8 = .ok (.iaload, 1) := by decide +kernel
theorem dX7_luckRound_9 : decode cX7_luckRound 9 = .ok (.istore_n 3, 1) := by decide +kernel
theorem dX7_luckRound_10 : decode cX7_luckRound 10 = .ok (.aload_n 0, 1) := by decide +kernel
theorem dX7_luckRound_11 : decode cX7_luckRound 11 = .ok (.getfield 25, 3) := by decide +kernel
theorem dX7_luckRound_14 : decode cX7_luckRound 14 = .ok (.bipush 12, 2) := by decide +kernel
theorem dX7_luckRound_16 : decode cX7_luckRound 16 = .ok (.iload_n 1, 1) := by decide +kernel
theorem dX7_luckRound_17 : decode cX7_luckRound 17 = .ok (.iadd, 1) := by decide +kernel
theorem dX7_luckRound_18 : decode cX7_luckRound 18 = .ok (.iaload, 1) := by decide +kernel
theorem dX7_luckRound_19 : decode cX7_luckRound 19 = .ok (.istore 4, 2) := by decide +kernel
theorem dX7_luckRound_21 : decode cX7_luckRound 21 = .ok (.aload_n 0, 1) := by decide +kernel
theorem dX7_luckRound_22 : decode cX7_luckRound 22 = .ok (.iconst 0, 1) := by decide +kernel
theorem dX7_luckRound_23 : decode cX7_luckRound 23 = .ok (.iload_n 1, 1) := by decide +kernel
theorem dX7_luckRound_24 : decode cX7_luckRound 24 = .ok (.invokevirtual 117, 3) := by decide +kernel
theorem dX7_luckRound_27 : decode cX7_luckRound 27 = .ok (.istore 5, 2) := by decide +kernel
theorem dX7_luckRound_29 : decode cX7_luckRound 29 = .ok (.iload 4, 2) := by decide +kernel
theorem dX7_luckRound_31 : decode cX7_luckRound 31 = .ok (.iload 5, 2) := by decide +kernel
theorem dX7_luckRound_33 : decode cX7_luckRound 33 = .ok (.if_icmp .eq 91, 3) := by decide +kernel
theorem dX7_luckRound_36 : decode cX7_luckRound 36 = .ok (.iload 4, 2) := by decide +kernel
theorem dX7_luckRound_38 : decode cX7_luckRound 38 = .ok (.iload 4, 2) := by decide +kernel
theorem dX7_luckRound_40 : decode cX7_luckRound 40 = .ok (.iload 5, 2) := by decide +kernel
theorem dX7_luckRound_42 : decode cX7_luckRound 42 = .ok (.if_icmp .ge 7, 3) := by decide +kernel
theorem dX7_luckRound_45 : decode cX7_luckRound 45 = .ok (.iconst 1, 1) := by decide +kernel
theorem dX7_luckRound_46 : decode cX7_luckRound 46 = .ok (.goto 4, 3) := by decide +kernel
theorem dX7_luckRound_49 : decode cX7_luckRound 49 = .ok (.iconst (-1), 1) := by decide +kernel
theorem dX7_luckRound_50 : decode cX7_luckRound 50 = .ok (.iadd, 1) := by decide +kernel
theorem dX7_luckRound_51 : decode cX7_luckRound 51 = .ok (.istore 4, 2) := by decide +kernel
theorem dX7_luckRound_53 : decode cX7_luckRound 53 = .ok (.aload_n 0, 1) := by decide +kernel
theorem dX7_luckRound_54 : decode cX7_luckRound 54 = .ok (.iconst 0, 1) := by decide +kernel
theorem dX7_luckRound_55 : decode cX7_luckRound 55 = .ok (.iload 4, 2) := by decide +kernel
theorem dX7_luckRound_57 : decode cX7_luckRound 57 = .ok (.invokevirtual 120, 3) := by decide +kernel
theorem dX7_luckRound_60 : decode cX7_luckRound 60 = .ok (.istore 6, 2) := by decide +kernel
theorem dX7_luckRound_62 : decode cX7_luckRound 62 = .ok (.iload 6, 2) := by decide +kernel
theorem dX7_luckRound_64 : decode cX7_luckRound 64 = .ok (.bipush (-9), 2) := by decide +kernel
theorem dX7_luckRound_66 : decode cX7_luckRound 66 = .ok (.if_icmp .eq 27, 3) := by decide +kernel
theorem dX7_luckRound_69 : decode cX7_luckRound 69 = .ok (.iload_n 2, 1) := by decide +kernel
theorem dX7_luckRound_70 : decode cX7_luckRound 70 = .ok (.iload 6, 2) := by decide +kernel
theorem dX7_luckRound_72 : decode cX7_luckRound 72 = .ok (.invokestatic 71, 3) := by decide +kernel
theorem dX7_luckRound_75 : decode cX7_luckRound 75 = .ok (.ifCond .eq 18, 3) := by decide +kernel
theorem dX7_luckRound_78 : decode cX7_luckRound 78 = .ok (.iload_n 3, 1) := by decide +kernel
theorem dX7_luckRound_79 : decode cX7_luckRound 79 = .ok (.iload_n 3, 1) := by decide +kernel
theorem dX7_luckRound_80 : decode cX7_luckRound 80 = .ok (.ifCond .le 7, 3) := by decide +kernel
theorem dX7_luckRound_83 : decode cX7_luckRound 83 = .ok (.iconst 1, 1) := by decide +kernel
theorem dX7_luckRound_84 : decode cX7_luckRound 84 = .ok (.goto 4, 3) := by decide +kernel
theorem dX7_luckRound_87 : decode cX7_luckRound 87 = .ok (.iconst 0, 1) := by decide +kernel
theorem dX7_luckRound_88 : decode cX7_luckRound 88 = .ok (.isub, 1) := by decide +kernel
theorem dX7_luckRound_89 : decode cX7_luckRound 89 = .ok (.istore_n 3, 1) := by decide +kernel
theorem dX7_luckRound_90 : decode cX7_luckRound 90 = .ok (.goto 31, 3) := by decide +kernel
theorem dX7_luckRound_93 : decode cX7_luckRound 93 = .ok (.iload 6, 2) := by decide +kernel
theorem dX7_luckRound_95 : decode cX7_luckRound 95 = .ok (.bipush (-9), 2) := by decide +kernel
theorem dX7_luckRound_97 : decode cX7_luckRound 97 = .ok (.if_icmp .eq 24, 3) := by decide +kernel
theorem dX7_luckRound_100 : decode cX7_luckRound 100 = .ok (.iload_n 3, 1) := by decide +kernel
theorem dX7_luckRound_101 : decode cX7_luckRound 101 = .ok (.aload_n 0, 1) := by decide +kernel
theorem dX7_luckRound_102 : decode cX7_luckRound 102 = .ok (.getfield 13, 3) := by decide +kernel
theorem dX7_luckRound_105 : decode cX7_luckRound 105 = .ok (.iload 6, 2) := by decide +kernel
theorem dX7_luckRound_107 : decode cX7_luckRound 107 = .ok (.iaload, 1) := by decide +kernel
theorem dX7_luckRound_108 : decode cX7_luckRound 108 = .ok (.aload_n 0, 1) := by decide +kernel
theorem dX7_luckRound_109 : decode cX7_luckRound 109 = .ok (.getfield 7, 3) := by decide +kernel
theorem dX7_luckRound_112 : decode cX7_luckRound 112 = .ok (.iload 6, 2) := by decide +kernel
theorem dX7_luckRound_114 : decode cX7_luckRound 114 = .ok (.iaload, 1) := by decide +kernel
theorem dX7_luckRound_115 : decode cX7_luckRound 115 = .ok (.iload_n 3, 1) := by decide +kernel
theorem dX7_luckRound_116 : decode cX7_luckRound 116 = .ok (.invokestatic 109, 3) := by decide +kernel
theorem dX7_luckRound_119 : decode cX7_luckRound 119 = .ok (.isub, 1) := by decide +kernel
theorem dX7_luckRound_120 : decode cX7_luckRound 120 = .ok (.istore_n 3, 1) := by decide +kernel
theorem dX7_luckRound_121 : decode cX7_luckRound 121 = .ok (.goto (-92), 3) := by decide +kernel
theorem dX7_luckRound_124 : decode cX7_luckRound 124 = .ok (.iload_n 3, 1) := by decide +kernel
theorem dX7_luckRound_125 : decode cX7_luckRound 125 = .ok (.ireturn, 1) := by decide +kernel
set_option maxRecDepth 20000 in
theorem ggX7_round_X7_isPerson : GoodIn wsX7_round wsX7_isPerson := goodIn_r _ [6, 7, 8, 9, 5, 10, 44, 45, 46, 47, 48, 49, 50, 51, 52, 53, 54, 55, 56, 57, 58, 59, 60, 61, 62, 63, 64, 65, 66, 67, 68, 69] (by decide +kernel) (by decide +kernel)
set_option maxRecDepth 20000 in
theorem gX7_round_X7_isPerson : GoodIn wsX7_round (wsV RX7 134 RX7 yX7_isPerson wsX7_isPerson) := goodIn_app (goodIn_of _ (by decide +kernel)) ggX7_round_X7_isPerson
set_option maxRecDepth 20000 in
theorem ggX7_round_X7_in : GoodIn wsX7_round wsX7_in := goodIn_r _ [10] (by decide +kernel) (by decide +kernel)
set_option maxRecDepth 20000 in
theorem gX7_round_X7_in : GoodIn wsX7_round (va_wsS RX7 55 yX7_in wsX7_in) := goodIn_app (goodIn_of _ (by decide +kernel)) ggX7_round_X7_in
set_option maxRecDepth 20000 in
theorem ggX7_round_X7_onWay : GoodIn wsX7_round wsX7_onWay := goodIn_r _ [14, 15, 16, 17, 18, 5, 19, 20, 21, 22, 23, 24, 25, 1, 44, 45, 46, 47, 48, 49, 50, 51, 52, 53, 54, 55, 56, 57, 58, 59, 60, 61, 62, 63, 64, 65, 66, 67, 68, 69] (by decide +kernel) (by decide +kernel)
set_option maxRecDepth 20000 in
theorem gX7_round_X7_onWay : GoodIn wsX7_round (wsV RX7 137 RX7 yX7_onWay wsX7_onWay) := goodIn_app (goodIn_of _ (by decide +kernel)) ggX7_round_X7_onWay
set_option maxRecDepth 20000 in
theorem ggX7_round_X7_luckRound : GoodIn wsX7_round wsX7_luckRound := goodIn_r _ [29, 15, 30, 31, 16, 17, 18, 5, 19, 20, 21, 22, 23, 24, 25, 1, 32, 33, 34, 35, 36, 37, 38, 39, 40, 44, 45, 46, 47, 48, 49, 50, 51, 52, 53, 54, 55, 56, 57, 58, 59, 60, 61, 62, 63, 64, 65, 66, 67, 68, 69] (by decide +kernel) (by decide +kernel)
set_option maxRecDepth 20000 in
theorem gX7_round_X7_luckRound : GoodIn wsX7_round (wsV RX7 167 RX7 yX7_luckRound wsX7_luckRound) := goodIn_app (goodIn_of _ (by decide +kernel)) ggX7_round_X7_luckRound
set_option maxRecDepth 20000 in
theorem ggX7_round_X7_ones : GoodIn wsX7_round wsX7_ones := goodIn_r _ [43] (by decide +kernel) (by decide +kernel)
set_option maxRecDepth 20000 in
theorem gX7_round_X7_ones : GoodIn wsX7_round (va_wsS RX7 170 yX7_ones wsX7_ones) := goodIn_app (goodIn_of _ (by decide +kernel)) ggX7_round_X7_ones
theorem dX7_round_0 : decode cX7_round 0 = .ok (.aload_n 0, 1) := by decide +kernel
theorem dX7_round_1 : decode cX7_round 1 = .ok (.iload_n 1, 1) := by decide +kernel
theorem dX7_round_2 : decode cX7_round 2 = .ok (.invokevirtual 134, 3) := by decide +kernel
theorem dX7_round_5 : decode cX7_round 5 = .ok (.ifCond .ne 5, 3) := by decide +kernel
theorem dX7_round_8 : decode cX7_round 8 = .ok (.iconst (-1), 1) := by decide +kernel
theorem dX7_round_9 : decode cX7_round 9 = .ok (.ireturn, 1) := by decide +kernel
theorem dX7_round_10 : decode cX7_round 10 = .ok (.iload_n 2, 1) := by decide +kernel
theorem dX7_round_11 : decode cX7_round 11 = .ok (.i2l, 1) := by decide +kernel
theorem dX7_round_12 : decode cX7_round 12 = .ok (.lconst 0, 1) := by decide +kernel
theorem dX7_round_13 : decode cX7_round 13 = .ok (.lconst 1, 1) := by decide +kernel
theorem dX7_round_14 : decode cX7_round 14 = .ok (.invokestatic 55, 3) := by decide +kernel
theorem dX7_round_17 : decode cX7_round 17 = .ok (.ifCond .ne 6, 3) := by decide +kernel
theorem dX7_round_20 : decode cX7_round 20 = .ok (.bipush (-2), 2) := by decide +kernel
theorem dX7_round_22 : decode cX7_round 22 = .ok (.ireturn, 1) := by decide +kernel
theorem dX7_round_23 : decode cX7_round 23 = .ok (.aload_n 0, 1) := by decide +kernel
theorem dX7_round_24 : decode cX7_round 24 = .ok (.iload_n 1, 1) := by decide +kernel
theorem dX7_round_25 : decode cX7_round 25 = .ok (.invokevirtual 137, 3) := by decide +kernel
theorem dX7_round_28 : decode cX7_round 28 = .ok (.istore_n 3, 1) := by decide +kernel
theorem dX7_round_29 : decode cX7_round 29 = .ok (.iconst 0, 1) := by decide +kernel
theorem dX7_round_30 : decode cX7_round 30 = .ok (.istore 4, 2) := by decide +kernel
theorem dX7_round_32 : decode cX7_round 32 = .ok (.iconst 1, 1) := by decide +kernel
theorem dX7_round_33 : decode cX7_round 33 = .ok (.istore 5, 2) := by decide +kernel
theorem dX7_round_35 : decode cX7_round 35 = .ok (.iload 5, 2) := by decide +kernel
theorem dX7_round_37 : decode cX7_round 37 = .ok (.iconst 1, 1) := by decide +kernel
theorem dX7_round_38 : decode cX7_round 38 = .ok (.aload_n 0, 1) := by decide +kernel
theorem dX7_round_39 : decode cX7_round 39 = .ok (.getfield 96, 3) := by decide +kernel
theorem dX7_round_42 : decode cX7_round 42 = .ok (.ishl, 1) := by decide +kernel
theorem dX7_round_43 : decode cX7_round 43 = .ok (.if_icmp .ge 79, 3) := by decide +kernel
theorem dX7_round_46 : decode cX7_round 46 = .ok (.aload_n 0, 1) := by decide +kernel
theorem dX7_round_47 : decode cX7_round 47 = .ok (.iload_n 1, 1) := by decide +kernel
theorem dX7_round_48 : decode cX7_round 48 = .ok (.iload 5, 2) := by decide +kernel
theorem dX7_round_50 : decode cX7_round 50 = .ok (.invokevirtual 167, 3) := by decide +kernel
theorem dX7_round_53 : decode cX7_round 53 = .ok (.aload_n 0, 1) := by decide +kernel
theorem dX7_round_54 : decode cX7_round 54 = .ok (.iload_n 1, 1) := by decide +kernel
theorem dX7_round_55 : decode cX7_round 55 = .ok (.iload 4, 2) := by decide +kernel
theorem dX7_round_57 : decode cX7_round 57 = .ok (.invokevirtual 167, 3) := by decide +kernel
theorem dX7_round_60 : decode cX7_round 60 = .ok (.isub, 1) := by decide +kernel
theorem dX7_round_61 : decode cX7_round 61 = .ok (.istore 6, 2) := by decide +kernel
theorem dX7_round_63 : decode cX7_round 63 = .ok (.iload 6, 2) := by decide +kernel
theorem dX7_round_65 : decode cX7_round 65 = .ok (.ifCond .gt 21, 3) := by decide +kernel
theorem dX7_round_68 : decode cX7_round 68 = .ok (.iload 6, 2) := by decide +kernel
theorem dX7_round_70 : decode cX7_round 70 = .ok (.ifCond .ne 20, 3) := by decide +kernel
theorem dX7_round_73 : decode cX7_round 73 = .ok (.iload 5, 2) := by decide +kernel
theorem dX7_round_75 : decode cX7_round 75 = .ok (.invokestatic 170, 3) := by decide +kernel
theorem dX7_round_78 : decode cX7_round 78 = .ok (.iload 4, 2) := by decide +kernel
theorem dX7_round_80 : decode cX7_round 80 = .ok (.invokestatic 170, 3) := by decide +kernel
theorem dX7_round_83 : decode cX7_round 83 = .ok (.if_icmp .ge 7, 3) := by decide +kernel
theorem dX7_round_86 : decode cX7_round 86 = .ok (.iconst 1, 1) := by decide +kernel
theorem dX7_round_87 : decode cX7_round 87 = .ok (.goto 4, 3) := by decide +kernel
theorem dX7_round_90 : decode cX7_round 90 = .ok (.iconst 0, 1) := by decide +kernel
theorem dX7_round_91 : decode cX7_round 91 = .ok (.istore 7, 2) := by decide +kernel
theorem dX7_round_93 : decode cX7_round 93 = .ok (.iload 5, 2) := by decide +kernel
theorem dX7_round_95 : decode cX7_round 95 = .ok (.iload_n 3, 1) := by decide +kernel
theorem dX7_round_96 : decode cX7_round 96 = .ok (.iconst (-1), 1) := by decide +kernel
theorem dX7_round_97 : decode cX7_round 97 = .ok (.ixor, 1) := by decide +kernel
theorem dX7_round_98 : decode cX7_round 98 = .ok (.iand, 1) := by decide +kernel
theorem dX7_round_99 : decode cX7_round 99 = .ok (.ifCond .ne 13, 3) := by decide +kernel
theorem dX7_round_102 : decode cX7_round 102 = .ok (.iload 7, 2) := by decide +kernel
theorem dX7_round_104 : decode cX7_round 104 = .ok (.ifCond .eq 8, 3) := by decide +kernel
theorem dX7_round_107 : decode cX7_round 107 = .ok (.iload 5, 2) := by decide +kernel
theorem dX7_round_109 : decode cX7_round 109 = .ok (.goto 5, 3) := by decide +kernel
theorem dX7_round_112 : decode cX7_round 112 = .ok (.iload 4, 2) := by decide +kernel
theorem dX7_round_114 : decode cX7_round 114 = .ok (.istore 4, 2) := by decide +kernel
theorem dX7_round_116 : decode cX7_round 116 = .ok (.iinc 5 1, 3) := by decide +kernel
theorem dX7_round_119 : decode cX7_round 119 = .ok (.goto (-84), 3) := by decide +kernel
theorem dX7_round_122 : decode cX7_round 122 = .ok (.iload_n 2, 1) := by decide +kernel
theorem dX7_round_123 : decode cX7_round 123 = .ok (.ifCond .ne 8, 3) := by decide +kernel
theorem dX7_round_126 : decode cX7_round 126 = .ok (.iload 4, 2) := by decide +kernel
theorem dX7_round_128 : decode cX7_round 128 = .ok (.goto 10, 3) := by decide +kernel
theorem dX7_round_131 : decode cX7_round 131 = .ok (.aload_n 0, 1) := by decide +kernel
theorem dX7_round_132 : decode cX7_round 132 = .ok (.iload_n 1, 1) := by decide +kernel
theorem dX7_round_133 : decode cX7_round 133 = .ok (.iload 4, 2) := by decide +kernel
theorem dX7_round_135 : decode cX7_round 135 = .ok (.invokevirtual 167, 3) := by decide +kernel
theorem dX7_round_138 : decode cX7_round 138 = .ok (.ireturn, 1) := by decide +kernel
set_option maxRecDepth 20000 in
theorem ggX7_tryThing_X7_passOn : GoodIn wsX7_tryThing wsX7_passOn := goodIn_r _ [6, 7, 8, 1, 9, 10, 5, 11, 12, 13, 14, 15, 16, 17, 18, 19, 20, 21, 22, 23, 24, 25, 26, 27, 28, 29, 30, 31, 32, 33, 34, 35, 36, 37, 38, 39, 40, 41, 42, 67, 68, 69, 70, 71, 72, 73, 74, 75, 76, 77, 78, 79, 80, 81, 82, 83, 84, 85, 86, 87, 88, 89, 90, 91, 92] (by decide +kernel) (by decide +kernel)
set_option maxRecDepth 20000 in
theorem gX7_tryThing_X7_passOn : GoodIn wsX7_tryThing (wsV RX7 146 RX7 yX7_passOn wsX7_passOn) := goodIn_app (goodIn_of _ (by decide +kernel)) ggX7_tryThing_X7_passOn
set_option maxRecDepth 20000 in
theorem ggX7_tryThing_X7_canMove : GoodIn wsX7_tryThing wsX7_canMove := goodIn_r _ [46, 47, 48, 49, 50, 5, 51, 8, 52, 53, 54, 22, 23, 24, 25, 1, 67, 68, 69, 70, 71, 72, 73, 74, 75, 76, 77, 78, 79, 80, 81, 82, 83, 84, 85, 86, 87, 88, 89, 90, 91, 92] (by decide +kernel) (by decide +kernel)
set_option maxRecDepth 20000 in
theorem gX7_tryThing_X7_canMove : GoodIn wsX7_tryThing (wsV RX7 149 RX7 yX7_canMove wsX7_canMove) := goodIn_app (goodIn_of _ (by decide +kernel)) ggX7_tryThing_X7_canMove
set_option maxRecDepth 20000 in
theorem ggX7_tryThing_X7_isLadder : GoodIn wsX7_tryThing wsX7_isLadder := goodIn_r _ [51, 8, 52, 53, 5, 54, 67, 68, 69, 70, 71, 72, 73, 74, 75, 76, 77, 78, 79, 80, 81, 82, 83, 84, 85, 86, 87, 88, 89, 90, 91, 92] (by decide +kernel) (by decide +kernel)
set_option maxRecDepth 20000 in
theorem gX7_tryThing_X7_isLadder : GoodIn wsX7_tryThing (wsV RX7 130 RX7 yX7_isLadder wsX7_isLadder) := goodIn_app (goodIn_of _ (by decide +kernel)) ggX7_tryThing_X7_isLadder
set_option maxRecDepth 20000 in
theorem ggX7_tryThing_X7_comeDown : GoodIn wsX7_tryThing wsX7_comeDown := goodIn_r _ [58, 1, 67, 68, 69, 70, 71, 72, 73, 74, 75, 76, 77, 78, 79, 80, 81, 82, 83, 84, 85, 86, 87, 88, 89, 90, 91, 92] (by decide +kernel) (by decide +kernel)
set_option maxRecDepth 20000 in
theorem gX7_tryThing_X7_comeDown : GoodIn wsX7_tryThing (wsV RX7 153 RX7 yX7_comeDown wsX7_comeDown) := goodIn_app (goodIn_of _ (by decide +kernel)) ggX7_tryThing_X7_comeDown
set_option maxRecDepth 20000 in
theorem ggX7_tryThing_X7_isPerson : GoodIn wsX7_tryThing wsX7_isPerson := goodIn_r _ [62, 7, 52, 53, 5, 54, 67, 68, 69, 70, 71, 72, 73, 74, 75, 76, 77, 78, 79, 80, 81, 82, 83, 84, 85, 86, 87, 88, 89, 90, 91, 92] (by decide +kernel) (by decide +kernel)
set_option maxRecDepth 20000 in
theorem gX7_tryThing_X7_isPerson : GoodIn wsX7_tryThing (wsV RX7 134 RX7 yX7_isPerson wsX7_isPerson) := goodIn_app (goodIn_of _ (by decide +kernel)) ggX7_tryThing_X7_isPerson
set_option maxRecDepth 20000 in
theorem ggX7_tryThing_X7_giveOn : GoodIn wsX7_tryThing wsX7_giveOn := goodIn_r _ [66, 1, 40, 41, 5, 42, 67, 68, 69, 70, 71, 72, 73, 74, 75, 76, 77, 78, 79, 80, 81, 82, 83, 84, 85, 86, 87, 88, 89, 90, 91, 92] (by decide +kernel) (by decide +kernel)
set_option maxRecDepth 20000 in
theorem gX7_tryThing_X7_giveOn : GoodIn wsX7_tryThing (wsV RX7 156 RX7 yX7_giveOn wsX7_giveOn) := goodIn_app (goodIn_of _ (by decide +kernel)) ggX7_tryThing_X7_giveOn
theorem dX7_tryThing_0 : decode cX7_tryThing 0 = .ok (.iload_n 1, 1) := by decide +kernel
theorem dX7_tryThing_1 : decode cX7_tryThing 1 = .ok (.tableswitch 177 0 4 #[35, 56, 83, 116, 150], 35) := by decide +kernel
theorem dX7_tryThing_36 : decode cX7_tryThing 36 = .ok (.aload_n 0, 1) := by decide +kernel
theorem dX7_tryThing_37 : decode cX7_tryThing 37 = .ok (.iconst 1, 1) := by decide +kernel
theorem dX7_tryThing_38 : decode cX7_tryThing 38 = .ok (.iconst 0, 1) := by decide +kernel
theorem dX7_tryThing_39 : decode cX7_tryThing 39 = .ok (.invokevirtual 146, 3) := by decide +kernel
theorem dX7_tryThing_42 : decode cX7_tryThing 42 = .ok (.pop, 1) := by decide +kernel
theorem dX7_tryThing_43 : decode cX7_tryThing 43 = .ok (.iload_n 2, 1) := by decide +kernel
theorem dX7_tryThing_44 : decode cX7_tryThing 44 = .ok (.ifCond .ne 11, 3) := by decide +kernel
theorem dX7_tryThing_47 : decode cX7_tryThing 47 = .ok (.iload_n 3, 1) := by decide +kernel
theorem dX7_tryThing_48 : decode cX7_tryThing 48 = .ok (.ifCond .ne 7, 3) := by decide +kernel
theorem dX7_tryThing_51 : decode cX7_tryThing 51 = .ok (.iconst 1, 1) := by decide +kernel
theorem dX7_tryThing_52 : decode cX7_tryThing 52 = .ok (.goto 4, 3) := by decide +kernel
theorem dX7_tryThing_55 : decode cX7_tryThing 55 = .ok (.iconst 0, 1) := by decide +kernel
theorem dX7_tryThing_56 : decode cX7_tryThing 56 = .ok (.ireturn, 1) := by decide +kernel
theorem dX7_tryThing_57 : decode cX7_tryThing 57 = .ok (.aload_n 0, 1) := by decide +kernel
theorem dX7_tryThing_58 : decode cX7_tryThing 58 = .ok (.iconst 1, 1) := by decide +kernel
theorem dX7_tryThing_59 : decode cX7_tryThing 59 = .ok (.iload_n 2, 1) := by decide +kernel
theorem dX7_tryThing_60 : decode cX7_tryThing 60 = .ok (.iload_n 3, 1) := by decide +kernel
theorem dX7_tryThing_61 : decode cX7_tryThing 61 = .ok (.invokevirtual 149, 3) := by decide +kernel
theorem dX7_tryThing_64 : decode cX7_tryThing 64 = .ok (.istore 4, 2) := by decide +kernel
theorem dX7_tryThing_66 : decode cX7_tryThing 66 = .ok (.iload 4, 2) := by decide +kernel
theorem dX7_tryThing_68 : decode cX7_tryThing 68 = .ok (.ifCond .eq 13, 3) := by decide +kernel
theorem dX7_tryThing_71 : decode cX7_tryThing 71 = .ok (.aload_n 0, 1) := by decide +kernel
theorem dX7_tryThing_72 : decode cX7_tryThing 72 = .ok (.getfield 25, 3) := by decide +kernel
theorem dX7_tryThing_75 : decode cX7_tryThing 75 = .ok (.bipush 23, 2) := by decide +kernel
theorem dX7_tryThing_77 : decode cX7_tryThing 77 = .ok (.iload_n 2, 1) := by decide +kernel
theorem dX7_tryThing_78 : decode cX7_tryThing 78 = .ok (.iadd, 1) := by decide +kernel
theorem dX7_tryThing_79 : decode cX7_tryThing 79 = .ok (.iload_n 3, 1) := by decide +kernel
theorem dX7_tryThing_80 : decode cX7_tryThing 80 = .ok (.iastore, 1) := by decide +kernel
theorem dX7_tryThing_81 : decode cX7_tryThing 81 = .ok (.iload 4, 2) := by decide +kernel
theorem dX7_tryThing_83 : decode cX7_tryThing 83 = .ok (.ireturn, 1) := by decide +kernel
theorem dX7_tryThing_84 : decode cX7_tryThing 84 = .ok (.iload_n 2, 1) := by decide +kernel
theorem dX7_tryThing_85 : decode cX7_tryThing 85 = .ok (.ifCond .ne 15, 3) := by decide +kernel
theorem dX7_tryThing_88 : decode cX7_tryThing 88 = .ok (.aload_n 0, 1) := by decide +kernel
theorem dX7_tryThing_89 : decode cX7_tryThing 89 = .ok (.iload_n 3, 1) := by decide +kernel
theorem dX7_tryThing_90 : decode cX7_tryThing 90 = .ok (.invokevirtual 130, 3) := by decide +kernel
theorem dX7_tryThing_93 : decode cX7_tryThing 93 = .ok (.ifCond .eq 7, 3) := by decide +kernel
theorem dX7_tryThing_96 : decode cX7_tryThing 96 = .ok (.iconst 1, 1) := by decide +kernel
theorem dX7_tryThing_97 : decode cX7_tryThing 97 = .ok (.goto 4, 3) := by decide +kernel
theorem dX7_tryThing_100 : decode cX7_tryThing 100 = .ok (.iconst 0, 1) := by decide +kernel
theorem dX7_tryThing_101 : decode cX7_tryThing 101 = .ok (.istore 5, 2) := by decide +kernel
theorem dX7_tryThing_103 : decode cX7_tryThing 103 = .ok (.iload 5, 2) := by decide +kernel
theorem dX7_tryThing_105 : decode cX7_tryThing 105 = .ok (.ifCond .eq 9, 3) := by decide +kernel
theorem dX7_tryThing_108 : decode cX7_tryThing 108 = .ok (.aload_n 0, 1) := by decide +kernel
theorem dX7_tryThing_109 : decode cX7_tryThing 109 = .ok (.iconst 1, 1) := by decide +kernel
theorem dX7_tryThing_110 : decode cX7_tryThing 110 = .ok (.iload_n 3, 1) := by decide +kernel
theorem dX7_tryThing_111 : decode cX7_tryThing 111 = .ok (.invokevirtual 153, 3) := by decide +kernel
theorem dX7_tryThing_114 : decode cX7_tryThing 114 = .ok (.iload 5, 2) := by decide +kernel
theorem dX7_tryThing_116 : decode cX7_tryThing 116 = .ok (.ireturn, 1) := by decide +kernel
theorem dX7_tryThing_117 : decode cX7_tryThing 117 = .ok (.aload_n 0, 1) := by decide +kernel
theorem dX7_tryThing_118 : decode cX7_tryThing 118 = .ok (.iload_n 2, 1) := by decide +kernel
theorem dX7_tryThing_119 : decode cX7_tryThing 119 = .ok (.invokevirtual 134, 3) := by decide +kernel
theorem dX7_tryThing_122 : decode cX7_tryThing 122 = .ok (.ifCond .eq 11, 3) := by decide +kernel
theorem dX7_tryThing_125 : decode cX7_tryThing 125 = .ok (.iload_n 3, 1) := by decide +kernel
theorem dX7_tryThing_126 : decode cX7_tryThing 126 = .ok (.ifCond .le 7, 3) := by decide +kernel
theorem dX7_tryThing_129 : decode cX7_tryThing 129 = .ok (.iconst 1, 1) := by decide +kernel
theorem dX7_tryThing_130 : decode cX7_tryThing 130 = .ok (.goto 4, 3) := by decide +kernel
theorem dX7_tryThing_133 : decode cX7_tryThing 133 = .ok (.iconst 0, 1) := by decide +kernel
theorem dX7_tryThing_134 : decode cX7_tryThing 134 = .ok (.istore 6, 2) := by decide +kernel
theorem dX7_tryThing_136 : decode cX7_tryThing 136 = .ok (.iload 6, 2) := by decide +kernel
theorem dX7_tryThing_138 : decode cX7_tryThing 138 = .ok (.ifCond .eq 10, 3) := by decide +kernel
theorem dX7_tryThing_141 : decode cX7_tryThing 141 = .ok (.aload_n 0, 1) := by decide +kernel
theorem dX7_tryThing_142 : decode cX7_tryThing 142 = .ok (.iconst 1, 1) := by decide +kernel
theorem dX7_tryThing_143 : decode cX7_tryThing 143 = .ok (.iload_n 2, 1) := by decide +kernel
theorem dX7_tryThing_144 : decode cX7_tryThing 144 = .ok (.iload_n 3, 1) := by decide +kernel
theorem dX7_tryThing_145 : decode cX7_tryThing 145 = .ok (.invokevirtual 156, 3) := by decide +kernel
theorem dX7_tryThing_148 : decode cX7_tryThing 148 = .ok (.iload 6, 2) := by decide +kernel
theorem dX7_tryThing_150 : decode cX7_tryThing 150 = .ok (.ireturn, 1) := by decide +kernel
theorem dX7_tryThing_151 : decode cX7_tryThing 151 = .ok (.aload_n 0, 1) := by decide +kernel
theorem dX7_tryThing_152 : decode cX7_tryThing 152 = .ok (.iload_n 2, 1) := by decide +kernel
theorem dX7_tryThing_153 : decode cX7_tryThing 153 = .ok (.invokevirtual 134, 3) := by decide +kernel
theorem dX7_tryThing_156 : decode cX7_tryThing 156 = .ok (.ifCond .eq 20, 3) := by decide +kernel
theorem dX7_tryThing_159 : decode cX7_tryThing 159 = .ok (.aload_n 0, 1) := by decide +kernel
theorem dX7_tryThing_160 : decode cX7_tryThing 160 = .ok (.getfield 25, 3) := by decide +kernel
theorem dX7_tryThing_163 : decode cX7_tryThing 163 = .ok (.bipush 40, 2) := by decide +kernel
theorem dX7_tryThing_165 : decode cX7_tryThing 165 = .ok (.iload_n 2, 1) := by decide +kernel
theorem dX7_tryThing_166 : decode cX7_tryThing 166 = .ok (.iadd, 1) := by decide +kernel
theorem dX7_tryThing_167 : decode cX7_tryThing 167 = .ok (.iaload, 1) := by decide +kernel
theorem dX7_tryThing_168 : decode cX7_tryThing 168 = .ok (.iload_n 3, 1) := by decide +kernel
theorem dX7_tryThing_169 : decode cX7_tryThing 169 = .ok (.if_icmp .lt 7, 3) := by decide +kernel
theorem dX7_tryThing_172 : decode cX7_tryThing 172 = .ok (.iconst 1, 1) := by decide +kernel
theorem dX7_tryThing_173 : decode cX7_tryThing 173 = .ok (.goto 4, 3) := by decide +kernel
theorem dX7_tryThing_176 : decode cX7_tryThing 176 = .ok (.iconst 0, 1) := by decide +kernel
theorem dX7_tryThing_177 : decode cX7_tryThing 177 = .ok (.ireturn, 1) := by decide +kernel
theorem dX7_tryThing_178 : decode cX7_tryThing 178 = .ok (.iconst 0, 1) := by decide +kernel
theorem dX7_tryThing_179 : decode cX7_tryThing 179 = .ok (.ireturn, 1) := by decide +kernel
theorem dX7_thousandTo_0 : decode cX7_thousandTo 0 = .ok (.lconst 1, 1) := by decide +kernel
theorem dX7_thousandTo_1 : decode cX7_thousandTo 1 = .ok (.lstore_n 1, 1) := by decide +kernel
theorem dX7_thousandTo_2 : decode cX7_thousandTo 2 = .ok (.iconst 0, 1) := by decide +kernel
theorem dX7_thousandTo_3 : decode cX7_thousandTo 3 = .ok (.istore_n 3, 1) := by decide +kernel
theorem dX7_thousandTo_4 : decode cX7_thousandTo 4 = .ok (.iload_n 3, 1) := by decide +kernel
theorem dX7_thousandTo_5 : decode cX7_thousandTo 5 = .ok (.iload_n 0, 1) := by decide +kernel
theorem dX7_thousandTo_6 : decode cX7_thousandTo 6 = .ok (.if_icmp .ge 15, 3) := by decide +kernel
theorem dX7_thousandTo_9 : decode cX7_thousandTo 9 = .ok (.lload_n 1, 1) := by decide +kernel
theorem dX7_thousandTo_10 : decode cX7_thousandTo 10 = .ok (.ldc2_w 173, 3) := by decide +kernel
theorem dX7_thousandTo_13 : decode cX7_thousandTo 13 = .ok (.lmul, 1) := by decide +kernel
theorem dX7_thousandTo_14 : decode cX7_thousandTo 14 = .ok (.lstore_n 1, 1) := by decide +kernel
theorem dX7_thousandTo_15 : decode cX7_thousandTo 15 = .ok (.iinc 3 1, 3) := by decide +kernel
theorem dX7_thousandTo_18 : decode cX7_thousandTo 18 = .ok (.goto (-14), 3) := by decide +kernel
theorem dX7_thousandTo_21 : decode cX7_thousandTo 21 = .ok (.lload_n 1, 1) := by decide +kernel
theorem dX7_thousandTo_22 : decode cX7_thousandTo 22 = .ok (.lreturn, 1) := by decide +kernel
set_option maxRecDepth 20000 in
theorem ggX7_judge_X7_in : GoodIn wsX7_judge wsX7_in := goodIn_r _ [6] (by decide +kernel) (by decide +kernel)
set_option maxRecDepth 20000 in
theorem gX7_judge_X7_in : GoodIn wsX7_judge (va_wsS RX7 55 yX7_in wsX7_in) := goodIn_app (goodIn_of _ (by decide +kernel)) ggX7_judge_X7_in
set_option maxRecDepth 20000 in
theorem ggX7_judge_X7_thousandTo : GoodIn wsX7_judge wsX7_thousandTo := goodIn_r _ [9, 2] (by decide +kernel) (by decide +kernel)
set_option maxRecDepth 20000 in
theorem gX7_judge_X7_thousandTo : GoodIn wsX7_judge (va_wsS RX7 177 yX7_thousandTo wsX7_thousandTo) := goodIn_app (goodIn_of _ (by decide +kernel)) ggX7_judge_X7_thousandTo
set_option maxRecDepth 20000 in
theorem ggX7_judge_X7_layTrial : GoodIn wsX7_judge wsX7_layTrial := goodIn_r _ [13, 14, 80, 81, 82, 83, 84, 85, 86, 87, 88, 89, 90, 91, 92, 93, 94, 95, 96, 97, 98, 99, 100, 101, 102, 103, 104, 105] (by decide +kernel) (by decide +kernel)
set_option maxRecDepth 20000 in
theorem gX7_judge_X7_layTrial : GoodIn wsX7_judge (wsV RX7 161 RX7 yX7_layTrial wsX7_layTrial) := goodIn_app (goodIn_of _ (by decide +kernel)) ggX7_judge_X7_layTrial
set_option maxRecDepth 20000 in
theorem ggX7_judge_X7_tryThing : GoodIn wsX7_judge wsX7_tryThing := goodIn_r _ [18, 14, 19, 20, 21, 5, 22, 23, 24, 25, 26, 27, 28, 29, 30, 31, 32, 33, 34, 35, 36, 37, 38, 39, 40, 41, 42, 43, 44, 45, 46, 47, 48, 49, 50, 51, 52, 53, 54, 55, 56, 57, 58, 59, 60, 61, 62, 63, 64, 65, 66, 67, 3, 4, 6, 68, 69, 70, 71, 72, 73, 74, 75, 76, 77, 78, 79, 80, 81, 82, 83, 84, 85, 86, 87, 88, 89, 90, 91, 92, 93, 94, 95, 96, 97, 98, 99, 100, 101, 102, 103, 104, 105] (by decide +kernel) (by decide +kernel)
set_option maxRecDepth 20000 in
theorem gX7_judge_X7_tryThing : GoodIn wsX7_judge (wsV RX7 181 RX7 yX7_tryThing wsX7_tryThing) := goodIn_app (goodIn_of _ (by decide +kernel)) ggX7_judge_X7_tryThing
theorem dX7_judge_0 : decode cX7_judge 0 = .ok (.iload_n 1, 1) := by decide +kernel
theorem dX7_judge_1 : decode cX7_judge 1 = .ok (.i2l, 1) := by decide +kernel
theorem dX7_judge_2 : decode cX7_judge 2 = .ok (.lconst 1, 1) := by decide +kernel
theorem dX7_judge_3 : decode cX7_judge 3 = .ok (.ldc2_w 175, 3) := by decide +kernel
theorem dX7_judge_6 : decode cX7_judge 6 = .ok (.invokestatic 55, 3) := by decide +kernel
theorem dX7_judge_9 : decode cX7_judge 9 = .ok (.ifCond .eq 17, 3) := by decide +kernel
theorem dX7_judge_12 : decode cX7_judge 12 = .ok (.lload_n 2, 1) := by decide +kernel
theorem dX7_judge_13 : decode cX7_judge 13 = .ok (.lconst 0, 1) := by decide +kernel
theorem dX7_judge_14 : decode cX7_judge 14 = .ok (.iload_n 1, 1) := by decide +kernel
theorem dX7_judge_15 : decode cX7_judge 15 = .ok (.invokestatic 177, 3) := by decide +kernel
theorem dX7_judge_18 : decode cX7_judge 18 = .ok (.lconst 1, 1) := by decide +kernel
theorem dX7_judge_19 : decode cX7_judge 19 = .ok (.lsub, 1) := by decide +kernel
theorem dX7_judge_20 : decode cX7_judge 20 = .ok (.invokestatic 55, 3) := by decide +kernel
theorem dX7_judge_23 : decode cX7_judge 23 = .ok (.ifCond .ne 6, 3) := by decide +kernel
theorem dX7_judge_26 : decode cX7_judge 26 = .ok (.bipush (-2), 2) := by decide +kernel
theorem dX7_judge_28 : decode cX7_judge 28 = .ok (.ireturn, 1) := by decide +kernel
theorem dX7_judge_29 : decode cX7_judge 29 = .ok (.aload_n 0, 1) := by decide +kernel
theorem dX7_judge_30 : decode cX7_judge 30 = .ok (.invokevirtual 161, 3) := by decide +kernel
theorem dX7_judge_33 : decode cX7_judge 33 = .ok (.iconst 0, 1) := by decide +kernel
theorem dX7_judge_34 : decode cX7_judge 34 = .ok (.istore 4, 2) := by decide +kernel
theorem dX7_judge_36 : decode cX7_judge 36 = .ok (.iload 4, 2) := by decide +kernel
theorem dX7_judge_38 : decode cX7_judge 38 = .ok (.iload_n 1, 1) := by decide +kernel
theorem dX7_judge_39 : decode cX7_judge 39 = .ok (.if_icmp .ge 55, 3) := by decide +kernel
theorem dX7_judge_42 : decode cX7_judge 42 = .ok (.lload_n 2, 1) := by decide +kernel
theorem dX7_judge_43 : decode cX7_judge 43 = .ok (.iload_n 1, 1) := by decide +kernel
theorem dX7_judge_44 : decode cX7_judge 44 = .ok (.iconst 1, 1) := by decide +kernel
theorem dX7_judge_45 : decode cX7_judge 45 = .ok (.isub, 1) := by decide +kernel
theorem dX7_judge_46 : decode cX7_judge 46 = .ok (.iload 4, 2) := by decide +kernel
theorem dX7_judge_48 : decode cX7_judge 48 = .ok (.isub, 1) := by decide +kernel
theorem dX7_judge_49 : decode cX7_judge 49 = .ok (.invokestatic 177, 3) := by decide +kernel
theorem dX7_judge_52 : decode cX7_judge 52 = .ok (.ldiv, 1) := by decide +kernel
theorem dX7_judge_53 : decode cX7_judge 53 = .ok (.ldc2_w 173, 3) := by decide +kernel
theorem dX7_judge_56 : decode cX7_judge 56 = .ok (.lrem, 1) := by decide +kernel
theorem dX7_judge_57 : decode cX7_judge 57 = .ok (.l2i, 1) := by decide +kernel
theorem dX7_judge_58 : decode cX7_judge 58 = .ok (.istore 5, 2) := by decide +kernel
theorem dX7_judge_60 : decode cX7_judge 60 = .ok (.aload_n 0, 1) := by decide +kernel
theorem dX7_judge_61 : decode cX7_judge 61 = .ok (.iload 5, 2) := by decide +kernel
theorem dX7_judge_63 : decode cX7_judge 63 = .ok (.bipush 100, 2) := by decide +kernel
theorem dX7_judge_65 : decode cX7_judge 65 = .ok (.idiv, 1) := by decide +kernel
theorem dX7_judge_66 : decode cX7_judge 66 = .ok (.iload 5, 2) := by decide +kernel
theorem dX7_judge_68 : decode cX7_judge 68 = .ok (.bipush 10, 2) := by decide +kernel
theorem dX7_judge_70 : decode cX7_judge 70 = .ok (.idiv, 1) := by decide +kernel
theorem dX7_judge_71 : decode cX7_judge 71 = .ok (.bipush 10, 2) := by decide +kernel
theorem dX7_judge_73 : decode cX7_judge 73 = .ok (.irem, 1) := by decide +kernel
theorem dX7_judge_74 : decode cX7_judge 74 = .ok (.iload 5, 2) := by decide +kernel
theorem dX7_judge_76 : decode cX7_judge 76 = .ok (.bipush 10, 2) := by decide +kernel
theorem dX7_judge_78 : decode cX7_judge 78 = .ok (.irem, 1) := by decide +kernel
theorem dX7_judge_79 : decode cX7_judge 79 = .ok (.invokevirtual 181, 3) := by decide +kernel
theorem dX7_judge_82 : decode cX7_judge 82 = .ok (.ifCond .ne 6, 3) := by decide +kernel
theorem dX7_judge_85 : decode cX7_judge 85 = .ok (.iload 4, 2) := by decide +kernel
theorem dX7_judge_87 : decode cX7_judge 87 = .ok (.ireturn, 1) := by decide +kernel
theorem dX7_judge_88 : decode cX7_judge 88 = .ok (.iinc 4 1, 3) := by decide +kernel
theorem dX7_judge_91 : decode cX7_judge 91 = .ok (.goto (-55), 3) := by decide +kernel
theorem dX7_judge_94 : decode cX7_judge 94 = .ok (.bipush (-9), 2) := by decide +kernel
theorem dX7_judge_96 : decode cX7_judge 96 = .ok (.ireturn, 1) := by decide +kernel
set_option maxRecDepth 20000 in
theorem ggX7_see_X7_in : GoodIn wsX7_see wsX7_in := goodIn_r _ [8] (by decide +kernel) (by decide +kernel)
set_option maxRecDepth 20000 in
theorem gX7_see_X7_in : GoodIn wsX7_see (va_wsS RX7 55 yX7_in wsX7_in) := goodIn_app (goodIn_of _ (by decide +kernel)) ggX7_see_X7_in
theorem dX7_see_0 : decode cX7_see 0 = .ok (.iload_n 1, 1) := by decide +kernel
theorem dX7_see_1 : decode cX7_see 1 = .ok (.i2l, 1) := by decide +kernel
theorem dX7_see_2 : decode cX7_see 2 = .ok (.lconst 0, 1) := by decide +kernel
theorem dX7_see_3 : decode cX7_see 3 = .ok (.ldc2_w 159, 3) := by decide +kernel
theorem dX7_see_6 : decode cX7_see 6 = .ok (.invokestatic 55, 3) := by decide +kernel
theorem dX7_see_9 : decode cX7_see 9 = .ok (.ifCond .eq 14, 3) := by decide +kernel
theorem dX7_see_12 : decode cX7_see 12 = .ok (.iload_n 2, 1) := by decide +kernel
theorem dX7_see_13 : decode cX7_see 13 = .ok (.i2l, 1) := by decide +kernel
theorem dX7_see_14 : decode cX7_see 14 = .ok (.lconst 0, 1) := by decide +kernel
theorem dX7_see_15 : decode cX7_see 15 = .ok (.iload_n 1, 1) := by decide +kernel
theorem dX7_see_16 : decode cX7_see 16 = .ok (.i2l, 1) := by decide +kernel
theorem dX7_see_17 : decode cX7_see 17 = .ok (.invokestatic 55, 3) := by decide +kernel
theorem dX7_see_20 : decode cX7_see 20 = .ok (.ifCond .ne 6, 3) := by decide +kernel
theorem dX7_see_23 : decode cX7_see 23 = .ok (.bipush (-2), 2) := by decide +kernel
theorem dX7_see_25 : decode cX7_see 25 = .ok (.ireturn, 1) := by decide +kernel
theorem dX7_see_26 : decode cX7_see 26 = .ok (.aload_n 0, 1) := by decide +kernel
theorem dX7_see_27 : decode cX7_see 27 = .ok (.getfield 184, 3) := by decide +kernel
theorem dX7_see_30 : decode cX7_see 30 = .ok (.bipush 6, 2) := by decide +kernel
theorem dX7_see_32 : decode cX7_see 32 = .ok (.if_icmp .ne 6, 3) := by decide +kernel
theorem dX7_see_35 : decode cX7_see 35 = .ok (.bipush (-4), 2) := by decide +kernel
theorem dX7_see_37 : decode cX7_see 37 = .ok (.ireturn, 1) := by decide +kernel
theorem dX7_see_38 : decode cX7_see 38 = .ok (.aload_n 0, 1) := by decide +kernel
theorem dX7_see_39 : decode cX7_see 39 = .ok (.getfield 40, 3) := by decide +kernel
theorem dX7_see_42 : decode cX7_see 42 = .ok (.aload_n 0, 1) := by decide +kernel
theorem dX7_see_43 : decode cX7_see 43 = .ok (.getfield 184, 3) := by decide +kernel
theorem dX7_see_46 : decode cX7_see 46 = .ok (.iload_n 1, 1) := by decide +kernel
theorem dX7_see_47 : decode cX7_see 47 = .ok (.iastore, 1) := by decide +kernel
theorem dX7_see_48 : decode cX7_see 48 = .ok (.aload_n 0, 1) := by decide +kernel
theorem dX7_see_49 : decode cX7_see 49 = .ok (.getfield 43, 3) := by decide +kernel
theorem dX7_see_52 : decode cX7_see 52 = .ok (.aload_n 0, 1) := by decide +kernel
theorem dX7_see_53 : decode cX7_see 53 = .ok (.getfield 184, 3) := by decide +kernel
theorem dX7_see_56 : decode cX7_see 56 = .ok (.iload_n 2, 1) := by decide +kernel
theorem dX7_see_57 : decode cX7_see 57 = .ok (.iastore, 1) := by decide +kernel
theorem dX7_see_58 : decode cX7_see 58 = .ok (.aload_n 0, 1) := by decide +kernel
theorem dX7_see_59 : decode cX7_see 59 = .ok (.dup, 1) := by decide +kernel
theorem dX7_see_60 : decode cX7_see 60 = .ok (.getfield 184, 3) := by decide +kernel
theorem dX7_see_63 : decode cX7_see 63 = .ok (.iconst 1, 1) := by decide +kernel
theorem dX7_see_64 : decode cX7_see 64 = .ok (.iadd, 1) := by decide +kernel
theorem dX7_see_65 : decode cX7_see 65 = .ok (.putfield 184, 3) := by decide +kernel
theorem dX7_see_68 : decode cX7_see 68 = .ok (.aload_n 0, 1) := by decide +kernel
theorem dX7_see_69 : decode cX7_see 69 = .ok (.getfield 184, 3) := by decide +kernel
theorem dX7_see_72 : decode cX7_see 72 = .ok (.ireturn, 1) := by decide +kernel
theorem dX7_unsee_0 : decode cX7_unsee 0 = .ok (.aload_n 0, 1) := by decide +kernel
theorem dX7_unsee_1 : decode cX7_unsee 1 = .ok (.getfield 184, 3) := by decide +kernel
theorem dX7_unsee_4 : decode cX7_unsee 4 = .ok (.istore_n 1, 1) := by decide +kernel
theorem dX7_unsee_5 : decode cX7_unsee 5 = .ok (.aload_n 0, 1) := by decide +kernel
theorem dX7_unsee_6 : decode cX7_unsee 6 = .ok (.iconst 0, 1) := by decide +kernel
theorem dX7_unsee_7 : decode cX7_unsee 7 = .ok (.putfield 184, 3) := by decide +kernel
theorem dX7_unsee_10 : decode cX7_unsee 10 = .ok (.iload_n 1, 1) := by decide +kernel
theorem dX7_unsee_11 : decode cX7_unsee 11 = .ok (.ireturn, 1) := by decide +kernel
set_option maxRecDepth 20000 in
theorem ggX7_mayBe_X7_takes : GoodIn wsX7_mayBe wsX7_takes := goodIn_r _ [7, 8, 9, 6, 10] (by decide +kernel) (by decide +kernel)
set_option maxRecDepth 20000 in
theorem gX7_mayBe_X7_takes : GoodIn wsX7_mayBe (va_wsS RX7 109 yX7_takes wsX7_takes) := goodIn_app (goodIn_of _ (by decide +kernel)) ggX7_mayBe_X7_takes
theorem dX7_mayBe_0 : decode cX7_mayBe 0 = .ok (.iconst 1, 1) := by decide +kernel
theorem dX7_mayBe_1 : decode cX7_mayBe 1 = .ok (.istore_n 3, 1) := by decide +kernel
theorem dX7_mayBe_2 : decode cX7_mayBe 2 = .ok (.iconst 0, 1) := by decide +kernel
theorem dX7_mayBe_3 : decode cX7_mayBe 3 = .ok (.istore 4, 2) := by decide +kernel
theorem dX7_mayBe_5 : decode cX7_mayBe 5 = .ok (.iload 4, 2) := by decide +kernel
theorem dX7_mayBe_7 : decode cX7_mayBe 7 = .ok (.aload_n 0, 1) := by decide +kernel
theorem dX7_mayBe_8 : decode cX7_mayBe 8 = .ok (.getfield 184, 3) := by decide +kernel
theorem dX7_mayBe_11 : decode cX7_mayBe 11 = .ok (.if_icmp .ge 49, 3) := by decide +kernel
theorem dX7_mayBe_14 : decode cX7_mayBe 14 = .ok (.iload_n 3, 1) := by decide +kernel
theorem dX7_mayBe_15 : decode cX7_mayBe 15 = .ok (.ifCond .eq 37, 3) := by decide +kernel
theorem dX7_mayBe_18 : decode cX7_mayBe 18 = .ok (.aload_n 0, 1) := by decide +kernel
theorem dX7_mayBe_19 : decode cX7_mayBe 19 = .ok (.getfield 40, 3) := by decide +kernel
theorem dX7_mayBe_22 : decode cX7_mayBe 22 = .ok (.iload 4, 2) := by decide +kernel
theorem dX7_mayBe_24 : decode cX7_mayBe 24 = .ok (.iaload, 1) := by decide +kernel
theorem dX7_mayBe_25 : decode cX7_mayBe 25 = .ok (.iload_n 1, 1) := by decide +kernel
theorem dX7_mayBe_26 : decode cX7_mayBe 26 = .ok (.iload_n 2, 1) := by decide +kernel
theorem dX7_mayBe_27 : decode cX7_mayBe 27 = .ok (.aload_n 0, 1) := by decide +kernel
theorem dX7_mayBe_28 : decode cX7_mayBe 28 = .ok (.getfield 40, 3) := by decide +kernel
theorem dX7_mayBe_31 : decode cX7_mayBe 31 = .ok (.iload 4, 2) := by decide +kernel
theorem dX7_mayBe_33 : decode cX7_mayBe 33 = .ok (.iaload, 1) := by decide +kernel
theorem dX7_mayBe_34 : decode cX7_mayBe 34 = .ok (.invokestatic 109, 3) := by decide +kernel
theorem dX7_mayBe_37 : decode cX7_mayBe 37 = .ok (.isub, 1) := by decide +kernel
theorem dX7_mayBe_38 : decode cX7_mayBe 38 = .ok (.aload_n 0, 1) := by decide +kernel
theorem dX7_mayBe_39 : decode cX7_mayBe 39 = .ok (.getfield 43, 3) := by decide +kernel
theorem dX7_mayBe_42 : decode cX7_mayBe 42 = .ok (.iload 4, 2) := by decide +kernel
theorem dX7_mayBe_44 : decode cX7_mayBe 44 = .ok (.iaload, 1) := by decide +kernel
theorem dX7_mayBe_45 : decode cX7_mayBe 45 = .ok (.if_icmp .ne 7, 3) := by decide +kernel
theorem dX7_mayBe_48 : decode cX7_mayBe 48 = .ok (.iconst 1, 1) := by decide +kernel
theorem dX7_mayBe_49 : decode cX7_mayBe 49 = .ok (.goto 4, 3) := by decide +kernel
theorem dX7_mayBe_52 : decode cX7_mayBe 52 = .ok (.iconst 0, 1) := by decide +kernel
theorem dX7_mayBe_53 : decode cX7_mayBe 53 = .ok (.istore_n 3, 1) := by decide +kernel
theorem dX7_mayBe_54 : decode cX7_mayBe 54 = .ok (.iinc 4 1, 3) := by decide +kernel
theorem dX7_mayBe_57 : decode cX7_mayBe 57 = .ok (.goto (-52), 3) := by decide +kernel
theorem dX7_mayBe_60 : decode cX7_mayBe 60 = .ok (.iload_n 3, 1) := by decide +kernel
theorem dX7_mayBe_61 : decode cX7_mayBe 61 = .ok (.ireturn, 1) := by decide +kernel
set_option maxRecDepth 20000 in
theorem ggX7_may_X7_in : GoodIn wsX7_may wsX7_in := goodIn_r _ [4] (by decide +kernel) (by decide +kernel)
set_option maxRecDepth 20000 in
theorem gX7_may_X7_in : GoodIn wsX7_may (va_wsS RX7 55 yX7_in wsX7_in) := goodIn_app (goodIn_of _ (by decide +kernel)) ggX7_may_X7_in
set_option maxRecDepth 20000 in
theorem ggX7_may_X7_mayBe : GoodIn wsX7_may wsX7_mayBe := goodIn_r _ [8, 9, 10, 11, 12, 13, 3, 14, 15, 16, 17, 18, 19, 20, 21, 22, 23, 24, 25, 26, 27, 28, 29, 30, 31, 32, 33, 34, 35, 36, 37, 38, 39, 40, 41, 42, 43] (by decide +kernel) (by decide +kernel)
set_option maxRecDepth 20000 in
theorem gX7_may_X7_mayBe : GoodIn wsX7_may (wsV RX7 187 RX7 yX7_mayBe wsX7_mayBe) := goodIn_app (goodIn_of _ (by decide +kernel)) ggX7_may_X7_mayBe
theorem dX7_may_0 : decode cX7_may 0 = .ok (.iload_n 1, 1) := by decide +kernel
theorem dX7_may_1 : decode cX7_may 1 = .ok (.i2l, 1) := by decide +kernel
theorem dX7_may_2 : decode cX7_may 2 = .ok (.lconst 0, 1) := by decide +kernel
theorem dX7_may_3 : decode cX7_may 3 = .ok (.lconst 1, 1) := by decide +kernel
theorem dX7_may_4 : decode cX7_may 4 = .ok (.invokestatic 55, 3) := by decide +kernel
theorem dX7_may_7 : decode cX7_may 7 = .ok (.ifCond .ne 6, 3) := by decide +kernel
theorem dX7_may_10 : decode cX7_may 10 = .ok (.bipush (-2), 2) := by decide +kernel
theorem dX7_may_12 : decode cX7_may 12 = .ok (.ireturn, 1) := by decide +kernel
theorem dX7_may_13 : decode cX7_may 13 = .ok (.iconst 0, 1) := by decide +kernel
theorem dX7_may_14 : decode cX7_may 14 = .ok (.istore_n 2, 1) := by decide +kernel
theorem dX7_may_15 : decode cX7_may 15 = .ok (.bipush (-9), 2) := by decide +kernel
theorem dX7_may_17 : decode cX7_may 17 = .ok (.istore_n 3, 1) := by decide +kernel
theorem dX7_may_18 : decode cX7_may 18 = .ok (.iconst 0, 1) := by decide +kernel
theorem dX7_may_19 : decode cX7_may 19 = .ok (.istore 4, 2) := by decide +kernel
theorem dX7_may_21 : decode cX7_may 21 = .ok (.iload 4, 2) := by decide +kernel
theorem dX7_may_23 : decode cX7_may 23 = .ok (.bipush 27, 2) := by decide +kernel
theorem dX7_may_25 : decode cX7_may 25 = .ok (.if_icmp .ge 69, 3) := by decide +kernel
theorem dX7_may_28 : decode cX7_may 28 = .ok (.iload 4, 2) := by decide +kernel
theorem dX7_may_30 : decode cX7_may 30 = .ok (.bipush 9, 2) := by decide +kernel
theorem dX7_may_32 : decode cX7_may 32 = .ok (.idiv, 1) := by decide +kernel
theorem dX7_may_33 : decode cX7_may 33 = .ok (.iconst 2, 1) := by decide +kernel
theorem dX7_may_34 : decode cX7_may 34 = .ok (.if_icmp .ne 7, 3) := by decide +kernel
theorem dX7_may_37 : decode cX7_may 37 = .ok (.iconst 3, 1) := by decide +kernel
theorem dX7_may_38 : decode cX7_may 38 = .ok (.goto 8, 3) := by decide +kernel
theorem dX7_may_41 : decode cX7_may 41 = .ok (.iload 4, 2) := by decide +kernel
theorem dX7_may_43 : decode cX7_may 43 = .ok (.bipush 9, 2) := by decide +kernel
theorem dX7_may_45 : decode cX7_may 45 = .ok (.idiv, 1) := by decide +kernel
theorem dX7_may_46 : decode cX7_may 46 = .ok (.istore 5, 2) := by decide +kernel
theorem dX7_may_48 : decode cX7_may 48 = .ok (.iconst 1, 1) := by decide +kernel
theorem dX7_may_49 : decode cX7_may 49 = .ok (.iload 4, 2) := by decide +kernel
theorem dX7_may_51 : decode cX7_may 51 = .ok (.bipush 9, 2) := by decide +kernel
theorem dX7_may_53 : decode cX7_may 53 = .ok (.irem, 1) := by decide +kernel
theorem dX7_may_54 : decode cX7_may 54 = .ok (.iadd, 1) := by decide +kernel
theorem dX7_may_55 : decode cX7_may 55 = .ok (.istore 6, 2) := by decide +kernel
theorem dX7_may_57 : decode cX7_may 57 = .ok (.aload_n 0, 1) := by decide +kernel
theorem dX7_may_58 : decode cX7_may 58 = .ok (.iload 5, 2) := by decide +kernel
theorem dX7_may_60 : decode cX7_may 60 = .ok (.iload 6, 2) := by decide +kernel
theorem dX7_may_62 : decode cX7_may 62 = .ok (.invokevirtual 187, 3) := by decide +kernel
theorem dX7_may_65 : decode cX7_may 65 = .ok (.ifCond .eq 23, 3) := by decide +kernel
theorem dX7_may_68 : decode cX7_may 68 = .ok (.iload_n 2, 1) := by decide +kernel
theorem dX7_may_69 : decode cX7_may 69 = .ok (.ifCond .ne 14, 3) := by decide +kernel
theorem dX7_may_72 : decode cX7_may 72 = .ok (.bipush 10, 2) := by decide +kernel
theorem dX7_may_74 : decode cX7_may 74 = .ok (.iload 5, 2) := by decide +kernel
theorem dX7_may_76 : decode cX7_may 76 = .ok (.imul, 1) := by decide +kernel
theorem dX7_may_77 : decode cX7_may 77 = .ok (.iload 6, 2) := by decide +kernel
theorem dX7_may_79 : decode cX7_may 79 = .ok (.iadd, 1) := by decide +kernel
theorem dX7_may_80 : decode cX7_may 80 = .ok (.goto 4, 3) := by decide +kernel
theorem dX7_may_83 : decode cX7_may 83 = .ok (.iload_n 3, 1) := by decide +kernel
theorem dX7_may_84 : decode cX7_may 84 = .ok (.istore_n 3, 1) := by decide +kernel
theorem dX7_may_85 : decode cX7_may 85 = .ok (.iinc 2 1, 3) := by decide +kernel
theorem dX7_may_88 : decode cX7_may 88 = .ok (.iinc 4 1, 3) := by decide +kernel
theorem dX7_may_91 : decode cX7_may 91 = .ok (.goto (-70), 3) := by decide +kernel
theorem dX7_may_94 : decode cX7_may 94 = .ok (.iload_n 1, 1) := by decide +kernel
theorem dX7_may_95 : decode cX7_may 95 = .ok (.ifCond .ne 7, 3) := by decide +kernel
theorem dX7_may_98 : decode cX7_may 98 = .ok (.iload_n 2, 1) := by decide +kernel
theorem dX7_may_99 : decode cX7_may 99 = .ok (.goto 4, 3) := by decide +kernel
theorem dX7_may_102 : decode cX7_may 102 = .ok (.iload_n 3, 1) := by decide +kernel
theorem dX7_may_103 : decode cX7_may 103 = .ok (.ireturn, 1) := by decide +kernel
theorem dX7_factorial_0 : decode cX7_factorial 0 = .ok (.iconst 1, 1) := by decide +kernel
theorem dX7_factorial_1 : decode cX7_factorial 1 = .ok (.istore_n 1, 1) := by decide +kernel
theorem dX7_factorial_2 : decode cX7_factorial 2 = .ok (.iconst 2, 1) := by decide +kernel
theorem dX7_factorial_3 : decode cX7_factorial 3 = .ok (.istore_n 2, 1) := by decide +kernel
theorem dX7_factorial_4 : decode cX7_factorial 4 = .ok (.iload_n 2, 1) := by decide +kernel
theorem dX7_factorial_5 : decode cX7_factorial 5 = .ok (.iload_n 0, 1) := by decide +kernel
theorem dX7_factorial_6 : decode cX7_factorial 6 = .ok (.if_icmp .gt 13, 3) := by decide +kernel
theorem dX7_factorial_9 : decode cX7_factorial 9 = .ok (.iload_n 1, 1) := by decide +kernel
theorem dX7_factorial_10 : decode cX7_factorial 10 = .ok (.iload_n 2, 1) := by decide +kernel
theorem dX7_factorial_11 : decode cX7_factorial 11 = .ok (.imul, 1) := by decide +kernel
theorem dX7_factorial_12 : decode cX7_factorial 12 = .ok (.istore_n 1, 1) := by decide +kernel
theorem dX7_factorial_13 : decode cX7_factorial 13 = .ok (.iinc 2 1, 3) := by decide +kernel
theorem dX7_factorial_16 : decode cX7_factorial 16 = .ok (.goto (-12), 3) := by decide +kernel
theorem dX7_factorial_19 : decode cX7_factorial 19 = .ok (.iload_n 1, 1) := by decide +kernel
theorem dX7_factorial_20 : decode cX7_factorial 20 = .ok (.ireturn, 1) := by decide +kernel
theorem dX7_common_0 : decode cX7_common 0 = .ok (.iload_n 0, 1) := by decide +kernel
theorem dX7_common_1 : decode cX7_common 1 = .ok (.ifCond .ge 8, 3) := by decide +kernel
theorem dX7_common_4 : decode cX7_common 4 = .ok (.iload_n 0, 1) := by decide +kernel
theorem dX7_common_5 : decode cX7_common 5 = .ok (.ineg, 1) := by decide +kernel
theorem dX7_common_6 : decode cX7_common 6 = .ok (.goto 4, 3) := by decide +kernel
theorem dX7_common_9 : decode cX7_common 9 = .ok (.iload_n 0, 1) := by decide +kernel
theorem dX7_common_10 : decode cX7_common 10 = .ok (.istore_n 2, 1) := by decide +kernel
theorem dX7_common_11 : decode cX7_common 11 = .ok (.iload_n 1, 1) := by decide +kernel
theorem dX7_common_12 : decode cX7_common 12 = .ok (.istore_n 3, 1) := by decide +kernel
theorem dX7_common_13 : decode cX7_common 13 = .ok (.iload_n 3, 1) := by decide +kernel
theorem dX7_common_14 : decode cX7_common 14 = .ok (.ifCond .eq 16, 3) := by decide +kernel
theorem dX7_common_17 : decode cX7_common 17 = .ok (.iload_n 2, 1) := by decide +kernel
theorem dX7_common_18 : decode cX7_common 18 = .ok (.iload_n 3, 1) := by decide +kernel
theorem dX7_common_19 : decode cX7_common 19 = .ok (.irem, 1) := by decide +kernel
theorem dX7_common_20 : decode cX7_common 20 = .ok (.istore 4, 2) := by decide +kernel
theorem dX7_common_22 : decode cX7_common 22 = .ok (.iload_n 3, 1) := by decide +kernel
theorem dX7_common_23 : decode cX7_common 23 = .ok (.istore_n 2, 1) := by decide +kernel
theorem dX7_common_24 : decode cX7_common 24 = .ok (.iload 4, 2) := by decide +kernel
theorem dX7_common_26 : decode cX7_common 26 = .ok (.istore_n 3, 1) := by decide +kernel
theorem dX7_common_27 : decode cX7_common 27 = .ok (.goto (-14), 3) := by decide +kernel
theorem dX7_common_30 : decode cX7_common 30 = .ok (.iload_n 2, 1) := by decide +kernel
theorem dX7_common_31 : decode cX7_common 31 = .ok (.ireturn, 1) := by decide +kernel
set_option maxRecDepth 20000 in
theorem ggX7_goldBy_X7_layTrial : GoodIn wsX7_goldBy wsX7_layTrial := goodIn_r _ [6, 1, 51, 52, 53, 54, 55, 56, 57, 58, 59, 60, 61, 62, 63, 64, 65, 66, 67, 68, 69, 70, 71, 72, 73, 74, 75, 76] (by decide +kernel) (by decide +kernel)
set_option maxRecDepth 20000 in
theorem gX7_goldBy_X7_layTrial : GoodIn wsX7_goldBy (wsV RX7 161 RX7 yX7_layTrial wsX7_layTrial) := goodIn_app (goodIn_of _ (by decide +kernel)) ggX7_goldBy_X7_layTrial
set_option maxRecDepth 20000 in
theorem ggX7_goldBy_X7_goOn : GoodIn wsX7_goldBy wsX7_goOn := goodIn_r _ [10, 11, 12, 13, 5, 14, 15, 16, 1, 17, 18, 19, 20, 21, 22, 23, 24, 25, 26, 27, 28, 29, 30, 31, 32, 33, 34, 35, 36, 37, 38, 39, 40, 41, 42, 43, 44, 45, 46, 47, 48, 49, 50, 51, 52, 53, 54, 55, 56, 57, 58, 59, 60, 61, 62, 63, 64, 65, 66, 67, 68, 69, 70, 71, 72, 73, 74, 75, 76] (by decide +kernel) (by decide +kernel)
set_option maxRecDepth 20000 in
theorem gX7_goldBy_X7_goOn : GoodIn wsX7_goldBy (wsV RX7 164 RX7 yX7_goOn wsX7_goOn) := goodIn_app (goodIn_of _ (by decide +kernel)) ggX7_goldBy_X7_goOn
theorem dX7_goldBy_0 : decode cX7_goldBy 0 = .ok (.aload_n 0, 1) := by decide +kernel
theorem dX7_goldBy_1 : decode cX7_goldBy 1 = .ok (.invokevirtual 161, 3) := by decide +kernel
theorem dX7_goldBy_4 : decode cX7_goldBy 4 = .ok (.aload_n 0, 1) := by decide +kernel
theorem dX7_goldBy_5 : decode cX7_goldBy 5 = .ok (.bipush 6, 2) := by decide +kernel
theorem dX7_goldBy_7 : decode cX7_goldBy 7 = .ok (.iload_n 1, 1) := by decide +kernel
theorem dX7_goldBy_8 : decode cX7_goldBy 8 = .ok (.iconst (-1), 1) := by decide +kernel
theorem dX7_goldBy_9 : decode cX7_goldBy 9 = .ok (.ixor, 1) := by decide +kernel
theorem dX7_goldBy_10 : decode cX7_goldBy 10 = .ok (.invokevirtual 164, 3) := by decide +kernel
theorem dX7_goldBy_13 : decode cX7_goldBy 13 = .ok (.aload_n 0, 1) := by decide +kernel
theorem dX7_goldBy_14 : decode cX7_goldBy 14 = .ok (.getfield 25, 3) := by decide +kernel
theorem dX7_goldBy_17 : decode cX7_goldBy 17 = .ok (.bipush 31, 2) := by decide +kernel
theorem dX7_goldBy_19 : decode cX7_goldBy 19 = .ok (.iload_n 2, 1) := by decide +kernel
theorem dX7_goldBy_20 : decode cX7_goldBy 20 = .ok (.iadd, 1) := by decide +kernel
theorem dX7_goldBy_21 : decode cX7_goldBy 21 = .ok (.iaload, 1) := by decide +kernel
theorem dX7_goldBy_22 : decode cX7_goldBy 22 = .ok (.ireturn, 1) := by decide +kernel
set_option maxRecDepth 20000 in
theorem ggX7_share_X7_isPerson : GoodIn wsX7_share wsX7_isPerson := goodIn_r _ [6, 1, 7, 8, 5, 9, 75, 76, 77, 78, 79, 80, 81, 82, 83, 84, 85, 86, 87, 88, 89, 90, 91, 92, 93, 94, 95, 96, 97, 98, 99, 100] (by decide +kernel) (by decide +kernel)
set_option maxRecDepth 20000 in
theorem gX7_share_X7_isPerson : GoodIn wsX7_share (wsV RX7 134 RX7 yX7_isPerson wsX7_isPerson) := goodIn_app (goodIn_of _ (by decide +kernel)) ggX7_share_X7_isPerson
set_option maxRecDepth 20000 in
theorem ggX7_share_X7_isLadder : GoodIn wsX7_share wsX7_isLadder := goodIn_r _ [13, 14, 7, 8, 5, 9, 75, 76, 77, 78, 79, 80, 81, 82, 83, 84, 85, 86, 87, 88, 89, 90, 91, 92, 93, 94, 95, 96, 97, 98, 99, 100] (by decide +kernel) (by decide +kernel)
set_option maxRecDepth 20000 in
theorem gX7_share_X7_isLadder : GoodIn wsX7_share (wsV RX7 130 RX7 yX7_isLadder wsX7_isLadder) := goodIn_app (goodIn_of _ (by decide +kernel)) ggX7_share_X7_isLadder
set_option maxRecDepth 20000 in
theorem ggX7_share_X7_has : GoodIn wsX7_share wsX7_has := goodIn_r _ [17] (by decide +kernel) (by decide +kernel)
set_option maxRecDepth 20000 in
theorem gX7_share_X7_has : GoodIn wsX7_share (va_wsS RX7 71 yX7_has wsX7_has) := goodIn_app (goodIn_of _ (by decide +kernel)) ggX7_share_X7_has
set_option maxRecDepth 20000 in
theorem ggX7_share_X7_ones : GoodIn wsX7_share wsX7_ones := goodIn_r _ [20] (by decide +kernel) (by decide +kernel)
set_option maxRecDepth 20000 in
theorem gX7_share_X7_ones : GoodIn wsX7_share (va_wsS RX7 170 yX7_ones wsX7_ones) := goodIn_app (goodIn_of _ (by decide +kernel)) ggX7_share_X7_ones
set_option maxRecDepth 20000 in
theorem ggX7_share_X7_factorial : GoodIn wsX7_share wsX7_factorial := goodIn_r _ [23] (by decide +kernel) (by decide +kernel)
set_option maxRecDepth 20000 in
theorem gX7_share_X7_factorial : GoodIn wsX7_share (va_wsS RX7 190 yX7_factorial wsX7_factorial) := goodIn_app (goodIn_of _ (by decide +kernel)) ggX7_share_X7_factorial
set_option maxRecDepth 20000 in
theorem ggX7_share_X7_goldBy : GoodIn wsX7_share wsX7_goldBy := goodIn_r _ [27, 28, 29, 30, 31, 5, 32, 33, 34, 35, 36, 37, 38, 39, 40, 1, 14, 15, 16, 17, 41, 42, 43, 44, 45, 46, 47, 48, 49, 50, 51, 52, 53, 54, 55, 56, 57, 58, 59, 60, 61, 62, 63, 64, 65, 66, 67, 68, 69, 70, 71, 75, 76, 77, 78, 79, 80, 81, 82, 83, 84, 85, 86, 87, 88, 89, 90, 91, 92, 93, 94, 95, 96, 97, 98, 99, 100] (by decide +kernel) (by decide +kernel)
set_option maxRecDepth 20000 in
theorem gX7_share_X7_goldBy : GoodIn wsX7_share (wsV RX7 193 RX7 yX7_goldBy wsX7_goldBy) := goodIn_app (goodIn_of _ (by decide +kernel)) ggX7_share_X7_goldBy
set_option maxRecDepth 20000 in
theorem ggX7_share_X7_common : GoodIn wsX7_share wsX7_common := goodIn_r _ [74] (by decide +kernel) (by decide +kernel)
set_option maxRecDepth 20000 in
theorem gX7_share_X7_common : GoodIn wsX7_share (va_wsS RX7 196 yX7_common wsX7_common) := goodIn_app (goodIn_of _ (by decide +kernel)) ggX7_share_X7_common
theorem dX7_share_0 : decode cX7_share 0 = .ok (.aload_n 0, 1) := by decide +kernel
theorem dX7_share_1 : decode cX7_share 1 = .ok (.iload_n 1, 1) := by decide +kernel
theorem dX7_share_2 : decode cX7_share 2 = .ok (.invokevirtual 134, 3) := by decide +kernel
theorem dX7_share_5 : decode cX7_share 5 = .ok (.ifCond .eq 11, 3) := by decide +kernel
theorem dX7_share_8 : decode cX7_share 8 = .ok (.aload_n 0, 1) := by decide +kernel
theorem dX7_share_9 : decode cX7_share 9 = .ok (.iload_n 2, 1) := by decide +kernel
theorem dX7_share_10 : decode cX7_share 10 = .ok (.invokevirtual 130, 3) := by decide +kernel
theorem dX7_share_13 : decode cX7_share 13 = .ok (.ifCond .ne 5, 3) := by decide +kernel
theorem dX7_share_16 : decode cX7_share 16 = .ok (.iconst (-1), 1) := by decide +kernel
theorem dX7_share_17 : decode cX7_share 17 = .ok (.ireturn, 1) := by decide +kernel
theorem dX7_share_18 : decode cX7_share 18 = .ok (.iconst 0, 1) := by decide +kernel
theorem dX7_share_19 : decode cX7_share 19 = .ok (.istore 4, 2) := by decide +kernel
theorem dX7_share_21 : decode cX7_share 21 = .ok (.iconst 0, 1) := by decide +kernel
theorem dX7_share_22 : decode cX7_share 22 = .ok (.istore 5, 2) := by decide +kernel
theorem dX7_share_24 : decode cX7_share 24 = .ok (.iload 5, 2) := by decide +kernel
theorem dX7_share_26 : decode cX7_share 26 = .ok (.iconst 1, 1) := by decide +kernel
theorem dX7_share_27 : decode cX7_share 27 = .ok (.aload_n 0, 1) := by decide +kernel
theorem dX7_share_28 : decode cX7_share 28 = .ok (.getfield 99, 3) := by decide +kernel
theorem dX7_share_31 : decode cX7_share 31 = .ok (.ishl, 1) := by decide +kernel
theorem dX7_share_32 : decode cX7_share 32 = .ok (.if_icmp .ge 71, 3) := by decide +kernel
theorem dX7_share_35 : decode cX7_share 35 = .ok (.iload 5, 2) := by decide +kernel
theorem dX7_share_37 : decode cX7_share 37 = .ok (.iload_n 1, 1) := by decide +kernel
theorem dX7_share_38 : decode cX7_share 38 = .ok (.invokestatic 71, 3) := by decide +kernel
theorem dX7_share_41 : decode cX7_share 41 = .ok (.ifCond .ne 56, 3) := by decide +kernel
theorem dX7_share_44 : decode cX7_share 44 = .ok (.iload 5, 2) := by decide +kernel
theorem dX7_share_46 : decode cX7_share 46 = .ok (.invokestatic 170, 3) := by decide +kernel
theorem dX7_share_49 : decode cX7_share 49 = .ok (.invokestatic 190, 3) := by decide +kernel
theorem dX7_share_52 : decode cX7_share 52 = .ok (.aload_n 0, 1) := by decide +kernel
theorem dX7_share_53 : decode cX7_share 53 = .ok (.getfield 99, 3) := by decide +kernel
theorem dX7_share_56 : decode cX7_share 56 = .ok (.iconst 1, 1) := by decide +kernel
theorem dX7_share_57 : decode cX7_share 57 = .ok (.isub, 1) := by decide +kernel
theorem dX7_share_58 : decode cX7_share 58 = .ok (.iload 5, 2) := by decide +kernel
theorem dX7_share_60 : decode cX7_share 60 = .ok (.invokestatic 170, 3) := by decide +kernel
theorem dX7_share_63 : decode cX7_share 63 = .ok (.isub, 1) := by decide +kernel
theorem dX7_share_64 : decode cX7_share 64 = .ok (.invokestatic 190, 3) := by decide +kernel
theorem dX7_share_67 : decode cX7_share 67 = .ok (.imul, 1) := by decide +kernel
theorem dX7_share_68 : decode cX7_share 68 = .ok (.istore 6, 2) := by decide +kernel
theorem dX7_share_70 : decode cX7_share 70 = .ok (.iload 4, 2) := by decide +kernel
theorem dX7_share_72 : decode cX7_share 72 = .ok (.iload 6, 2) := by decide +kernel
theorem dX7_share_74 : decode cX7_share 74 = .ok (.aload_n 0, 1) := by decide +kernel
theorem dX7_share_75 : decode cX7_share 75 = .ok (.iload 5, 2) := by decide +kernel
theorem dX7_share_77 : decode cX7_share 77 = .ok (.iconst 1, 1) := by decide +kernel
theorem dX7_share_78 : decode cX7_share 78 = .ok (.iload_n 1, 1) := by decide +kernel
theorem dX7_share_79 : decode cX7_share 79 = .ok (.ishl, 1) := by decide +kernel
theorem dX7_share_80 : decode cX7_share 80 = .ok (.ior, 1) := by decide +kernel
theorem dX7_share_81 : decode cX7_share 81 = .ok (.iload_n 2, 1) := by decide +kernel
theorem dX7_share_82 : decode cX7_share 82 = .ok (.invokevirtual 193, 3) := by decide +kernel
theorem dX7_share_85 : decode cX7_share 85 = .ok (.aload_n 0, 1) := by decide +kernel
theorem dX7_share_86 : decode cX7_share 86 = .ok (.iload 5, 2) := by decide +kernel
theorem dX7_share_88 : decode cX7_share 88 = .ok (.iload_n 2, 1) := by decide +kernel
theorem dX7_share_89 : decode cX7_share 89 = .ok (.invokevirtual 193, 3) := by decide +kernel
theorem dX7_share_92 : decode cX7_share 92 = .ok (.isub, 1) := by decide +kernel
theorem dX7_share_93 : decode cX7_share 93 = .ok (.imul, 1) := by decide +kernel
theorem dX7_share_94 : decode cX7_share 94 = .ok (.iadd, 1) := by decide +kernel
theorem dX7_share_95 : decode cX7_share 95 = .ok (.istore 4, 2) := by decide +kernel
theorem dX7_share_97 : decode cX7_share 97 = .ok (.iinc 5 1, 3) := by decide +kernel
theorem dX7_share_100 : decode cX7_share 100 = .ok (.goto (-76), 3) := by decide +kernel
theorem dX7_share_103 : decode cX7_share 103 = .ok (.iload 4, 2) := by decide +kernel
theorem dX7_share_105 : decode cX7_share 105 = .ok (.aload_n 0, 1) := by decide +kernel
theorem dX7_share_106 : decode cX7_share 106 = .ok (.getfield 99, 3) := by decide +kernel
theorem dX7_share_109 : decode cX7_share 109 = .ok (.invokestatic 190, 3) := by decide +kernel
theorem dX7_share_112 : decode cX7_share 112 = .ok (.invokestatic 196, 3) := by decide +kernel
theorem dX7_share_115 : decode cX7_share 115 = .ok (.istore 5, 2) := by decide +kernel
theorem dX7_share_117 : decode cX7_share 117 = .ok (.iload_n 3, 1) := by decide +kernel
theorem dX7_share_118 : decode cX7_share 118 = .ok (.ifCond .eq 11, 3) := by decide +kernel
theorem dX7_share_121 : decode cX7_share 121 = .ok (.iload 4, 2) := by decide +kernel
theorem dX7_share_123 : decode cX7_share 123 = .ok (.iload 5, 2) := by decide +kernel
theorem dX7_share_125 : decode cX7_share 125 = .ok (.idiv, 1) := by decide +kernel
theorem dX7_share_126 : decode cX7_share 126 = .ok (.goto 13, 3) := by decide +kernel
theorem dX7_share_129 : decode cX7_share 129 = .ok (.aload_n 0, 1) := by decide +kernel
theorem dX7_share_130 : decode cX7_share 130 = .ok (.getfield 99, 3) := by decide +kernel
theorem dX7_share_133 : decode cX7_share 133 = .ok (.invokestatic 190, 3) := by decide +kernel
theorem dX7_share_136 : decode cX7_share 136 = .ok (.iload 5, 2) := by decide +kernel
theorem dX7_share_138 : decode cX7_share 138 = .ok (.idiv, 1) := by decide +kernel
theorem dX7_share_139 : decode cX7_share 139 = .ok (.ireturn, 1) := by decide +kernel
set_option maxRecDepth 20000 in
theorem ggX7_gain_X7_layTrial : GoodIn wsX7_gain wsX7_layTrial := goodIn_r _ [6, 1, 51, 52, 53, 54, 55, 56, 57, 58, 59, 60, 61, 62, 63, 64, 65, 66, 67, 68, 69, 70, 71, 72, 73, 74, 75, 76] (by decide +kernel) (by decide +kernel)
set_option maxRecDepth 20000 in
theorem gX7_gain_X7_layTrial : GoodIn wsX7_gain (wsV RX7 161 RX7 yX7_layTrial wsX7_layTrial) := goodIn_app (goodIn_of _ (by decide +kernel)) ggX7_gain_X7_layTrial
set_option maxRecDepth 20000 in
theorem ggX7_gain_X7_goOn : GoodIn wsX7_gain wsX7_goOn := goodIn_r _ [10, 11, 12, 13, 5, 14, 15, 16, 1, 17, 18, 19, 20, 21, 22, 23, 24, 25, 26, 27, 28, 29, 30, 31, 32, 33, 34, 35, 36, 37, 38, 39, 40, 41, 42, 43, 44, 45, 46, 47, 48, 49, 50, 51, 52, 53, 54, 55, 56, 57, 58, 59, 60, 61, 62, 63, 64, 65, 66, 67, 68, 69, 70, 71, 72, 73, 74, 75, 76] (by decide +kernel) (by decide +kernel)
set_option maxRecDepth 20000 in
theorem gX7_gain_X7_goOn : GoodIn wsX7_gain (wsV RX7 164 RX7 yX7_goOn wsX7_goOn) := goodIn_app (goodIn_of _ (by decide +kernel)) ggX7_gain_X7_goOn
theorem dX7_gain_0 : decode cX7_gain 0 = .ok (.aload_n 0, 1) := by decide +kernel
theorem dX7_gain_1 : decode cX7_gain 1 = .ok (.invokevirtual 161, 3) := by decide +kernel
theorem dX7_gain_4 : decode cX7_gain 4 = .ok (.aload_n 0, 1) := by decide +kernel
theorem dX7_gain_5 : decode cX7_gain 5 = .ok (.getfield 25, 3) := by decide +kernel
theorem dX7_gain_8 : decode cX7_gain 8 = .ok (.bipush 23, 2) := by decide +kernel
theorem dX7_gain_10 : decode cX7_gain 10 = .ok (.iload_n 1, 1) := by decide +kernel
theorem dX7_gain_11 : decode cX7_gain 11 = .ok (.iadd, 1) := by decide +kernel
theorem dX7_gain_12 : decode cX7_gain 12 = .ok (.iload_n 3, 1) := by decide +kernel
theorem dX7_gain_13 : decode cX7_gain 13 = .ok (.iastore, 1) := by decide +kernel
theorem dX7_gain_14 : decode cX7_gain 14 = .ok (.aload_n 0, 1) := by decide +kernel
theorem dX7_gain_15 : decode cX7_gain 15 = .ok (.getfield 25, 3) := by decide +kernel
theorem dX7_gain_18 : decode cX7_gain 18 = .ok (.bipush 23, 2) := by decide +kernel
theorem dX7_gain_20 : decode cX7_gain 20 = .ok (.iload_n 2, 1) := by decide +kernel
theorem dX7_gain_21 : decode cX7_gain 21 = .ok (.iadd, 1) := by decide +kernel
theorem dX7_gain_22 : decode cX7_gain 22 = .ok (.iload 4, 2) := by decide +kernel
theorem dX7_gain_24 : decode cX7_gain 24 = .ok (.iastore, 1) := by decide +kernel
theorem dX7_gain_25 : decode cX7_gain 25 = .ok (.aload_n 0, 1) := by decide +kernel
theorem dX7_gain_26 : decode cX7_gain 26 = .ok (.bipush 6, 2) := by decide +kernel
theorem dX7_gain_28 : decode cX7_gain 28 = .ok (.iconst 0, 1) := by decide +kernel
theorem dX7_gain_29 : decode cX7_gain 29 = .ok (.invokevirtual 164, 3) := by decide +kernel
theorem dX7_gain_32 : decode cX7_gain 32 = .ok (.aload_n 0, 1) := by decide +kernel
theorem dX7_gain_33 : decode cX7_gain 33 = .ok (.getfield 25, 3) := by decide +kernel
theorem dX7_gain_36 : decode cX7_gain 36 = .ok (.bipush 31, 2) := by decide +kernel
theorem dX7_gain_38 : decode cX7_gain 38 = .ok (.iload 5, 2) := by decide +kernel
theorem dX7_gain_40 : decode cX7_gain 40 = .ok (.iadd, 1) := by decide +kernel
theorem dX7_gain_41 : decode cX7_gain 41 = .ok (.iaload, 1) := by decide +kernel
theorem dX7_gain_42 : decode cX7_gain 42 = .ok (.ireturn, 1) := by decide +kernel
set_option maxRecDepth 20000 in
theorem ggX7_mayStand_X7_ladderAt : GoodIn wsX7_mayStand wsX7_ladderAt := goodIn_r _ [6, 7, 1, 8, 9, 10, 11, 12, 13, 14, 15, 16, 17, 18, 19, 20, 21, 22, 23, 24, 25, 26, 27, 28, 29, 30, 31, 32, 33] (by decide +kernel) (by decide +kernel)
set_option maxRecDepth 20000 in
theorem gX7_mayStand_X7_ladderAt : GoodIn wsX7_mayStand (wsV RX7 120 RX7 yX7_ladderAt wsX7_ladderAt) := goodIn_app (goodIn_of _ (by decide +kernel)) ggX7_mayStand_X7_ladderAt
theorem dX7_mayStand_0 : decode cX7_mayStand 0 = .ok (.aload_n 0, 1) := by decide +kernel
theorem dX7_mayStand_1 : decode cX7_mayStand 1 = .ok (.getfield 25, 3) := by decide +kernel
theorem dX7_mayStand_4 : decode cX7_mayStand 4 = .ok (.iload_n 1, 1) := by decide +kernel
theorem dX7_mayStand_5 : decode cX7_mayStand 5 = .ok (.iaload, 1) := by decide +kernel
theorem dX7_mayStand_6 : decode cX7_mayStand 6 = .ok (.iload_n 2, 1) := by decide +kernel
theorem dX7_mayStand_7 : decode cX7_mayStand 7 = .ok (.if_icmp .eq 14, 3) := by decide +kernel
theorem dX7_mayStand_10 : decode cX7_mayStand 10 = .ok (.aload_n 0, 1) := by decide +kernel
theorem dX7_mayStand_11 : decode cX7_mayStand 11 = .ok (.iconst 0, 1) := by decide +kernel
theorem dX7_mayStand_12 : decode cX7_mayStand 12 = .ok (.iload_n 2, 1) := by decide +kernel
theorem dX7_mayStand_13 : decode cX7_mayStand 13 = .ok (.invokevirtual 120, 3) := by decide +kernel
theorem dX7_mayStand_16 : decode cX7_mayStand 16 = .ok (.bipush (-9), 2) := by decide +kernel
theorem dX7_mayStand_18 : decode cX7_mayStand 18 = .ok (.if_icmp .ne 7, 3) := by decide +kernel
theorem dX7_mayStand_21 : decode cX7_mayStand 21 = .ok (.iconst 1, 1) := by decide +kernel
theorem dX7_mayStand_22 : decode cX7_mayStand 22 = .ok (.goto 4, 3) := by decide +kernel
theorem dX7_mayStand_25 : decode cX7_mayStand 25 = .ok (.iconst 0, 1) := by decide +kernel
theorem dX7_mayStand_26 : decode cX7_mayStand 26 = .ok (.ireturn, 1) := by decide +kernel
set_option maxRecDepth 20000 in
theorem ggX7_isRest_X7_gain : GoodIn wsX7_isRest wsX7_gain := goodIn_r _ [5, 6, 7, 8, 9, 4, 10, 11, 12, 13, 14, 15, 16, 17, 18, 19, 20, 21, 22, 23, 24, 25, 26, 27, 28, 29, 30, 31, 32, 33, 34, 35, 36, 37, 38, 39, 40, 41, 42, 43, 44, 45, 46, 47, 48, 49, 50, 51, 52, 53, 54, 59, 60, 61, 62, 63, 64, 65, 66, 67, 68, 69, 70, 71, 72, 73, 74, 75, 76, 77, 78, 79, 80, 81, 82, 83, 84] (by decide +kernel) (by decide +kernel)
set_option maxRecDepth 20000 in
theorem gX7_isRest_X7_gain : GoodIn wsX7_isRest (wsV RX7 199 RX7 yX7_gain wsX7_gain) := goodIn_app (goodIn_of _ (by decide +kernel)) ggX7_isRest_X7_gain
set_option maxRecDepth 20000 in
theorem ggX7_isRest_X7_mayStand : GoodIn wsX7_isRest wsX7_mayStand := goodIn_r _ [58, 6, 34, 35, 36, 4, 37, 20, 59, 60, 61, 62, 63, 64, 65, 66, 67, 68, 69, 70, 71, 72, 73, 74, 75, 76, 77, 78, 79, 80, 81, 82, 83, 84] (by decide +kernel) (by decide +kernel)
set_option maxRecDepth 20000 in
theorem gX7_isRest_X7_mayStand : GoodIn wsX7_isRest (wsV RX7 203 RX7 yX7_mayStand wsX7_mayStand) := goodIn_app (goodIn_of _ (by decide +kernel)) ggX7_isRest_X7_mayStand
theorem dX7_isRest_0 : decode cX7_isRest 0 = .ok (.aload_n 0, 1) := by decide +kernel
theorem dX7_isRest_1 : decode cX7_isRest 1 = .ok (.iload_n 1, 1) := by decide +kernel
theorem dX7_isRest_2 : decode cX7_isRest 2 = .ok (.iload_n 2, 1) := by decide +kernel
theorem dX7_isRest_3 : decode cX7_isRest 3 = .ok (.iload_n 3, 1) := by decide +kernel
theorem dX7_isRest_4 : decode cX7_isRest 4 = .ok (.iload 4, 2) := by decide +kernel
theorem dX7_isRest_6 : decode cX7_isRest 6 = .ok (.iload_n 1, 1) := by decide +kernel
theorem dX7_isRest_7 : decode cX7_isRest 7 = .ok (.invokevirtual 199, 3) := by decide +kernel
theorem dX7_isRest_10 : decode cX7_isRest 10 = .ok (.istore 5, 2) := by decide +kernel
theorem dX7_isRest_12 : decode cX7_isRest 12 = .ok (.aload_n 0, 1) := by decide +kernel
theorem dX7_isRest_13 : decode cX7_isRest 13 = .ok (.iload_n 1, 1) := by decide +kernel
theorem dX7_isRest_14 : decode cX7_isRest 14 = .ok (.iload_n 2, 1) := by decide +kernel
theorem dX7_isRest_15 : decode cX7_isRest 15 = .ok (.iload_n 3, 1) := by decide +kernel
theorem dX7_isRest_16 : decode cX7_isRest 16 = .ok (.iload 4, 2) := by decide +kernel
theorem dX7_isRest_18 : decode cX7_isRest 18 = .ok (.iload_n 2, 1) := by decide +kernel
theorem dX7_isRest_19 : decode cX7_isRest 19 = .ok (.invokevirtual 199, 3) := by decide +kernel
theorem dX7_isRest_22 : decode cX7_isRest 22 = .ok (.istore 6, 2) := by decide +kernel
theorem dX7_isRest_24 : decode cX7_isRest 24 = .ok (.iconst 0, 1) := by decide +kernel
theorem dX7_isRest_25 : decode cX7_isRest 25 = .ok (.istore 7, 2) := by decide +kernel
theorem dX7_isRest_27 : decode cX7_isRest 27 = .ok (.iload 7, 2) := by decide +kernel
theorem dX7_isRest_29 : decode cX7_isRest 29 = .ok (.bipush 10, 2) := by decide +kernel
theorem dX7_isRest_31 : decode cX7_isRest 31 = .ok (.if_icmp .ge 77, 3) := by decide +kernel
theorem dX7_isRest_34 : decode cX7_isRest 34 = .ok (.aload_n 0, 1) := by decide +kernel
theorem dX7_isRest_35 : decode cX7_isRest 35 = .ok (.iload_n 1, 1) := by decide +kernel
theorem dX7_isRest_36 : decode cX7_isRest 36 = .ok (.iload 7, 2) := by decide +kernel
theorem dX7_isRest_38 : decode cX7_isRest 38 = .ok (.invokevirtual 203, 3) := by decide +kernel
theorem dX7_isRest_41 : decode cX7_isRest 41 = .ok (.ifCond .eq 28, 3) := by decide +kernel
theorem dX7_isRest_44 : decode cX7_isRest 44 = .ok (.iload 7, 2) := by decide +kernel
theorem dX7_isRest_46 : decode cX7_isRest 46 = .ok (.iload 4, 2) := by decide +kernel
theorem dX7_isRest_48 : decode cX7_isRest 48 = .ok (.if_icmp .eq 21, 3) := by decide +kernel
theorem dX7_isRest_51 : decode cX7_isRest 51 = .ok (.aload_n 0, 1) := by decide +kernel
theorem dX7_isRest_52 : decode cX7_isRest 52 = .ok (.iload_n 1, 1) := by decide +kernel
theorem dX7_isRest_53 : decode cX7_isRest 53 = .ok (.iload_n 2, 1) := by decide +kernel
theorem dX7_isRest_54 : decode cX7_isRest 54 = .ok (.iload 7, 2) := by decide +kernel
theorem dX7_isRest_56 : decode cX7_isRest 56 = .ok (.iload 4, 2) := by decide +kernel
theorem dX7_isRest_58 : decode cX7_isRest 58 = .ok (.iload_n 1, 1) := by decide +kernel
theorem dX7_isRest_59 : decode cX7_isRest 59 = .ok (.invokevirtual 199, 3) := by decide +kernel
theorem dX7_isRest_62 : decode cX7_isRest 62 = .ok (.iload 5, 2) := by decide +kernel
theorem dX7_isRest_64 : decode cX7_isRest 64 = .ok (.if_icmp .le 5, 3) := by decide +kernel
theorem dX7_isRest_67 : decode cX7_isRest 67 = .ok (.iconst 0, 1) := by decide +kernel
theorem dX7_isRest_68 : decode cX7_isRest 68 = .ok (.ireturn, 1) := by decide +kernel
theorem dX7_isRest_69 : decode cX7_isRest 69 = .ok (.aload_n 0, 1) := by decide +kernel
theorem dX7_isRest_70 : decode cX7_isRest 70 = .ok (.iload_n 2, 1) := by decide +kernel
theorem dX7_isRest_71 : decode cX7_isRest 71 = .ok (.iload 7, 2) := by decide +kernel
theorem dX7_isRest_73 : decode cX7_isRest 73 = .ok (.invokevirtual 203, 3) := by decide +kernel
theorem dX7_isRest_76 : decode cX7_isRest 76 = .ok (.ifCond .eq 26, 3) := by decide +kernel
theorem dX7_isRest_79 : decode cX7_isRest 79 = .ok (.iload 7, 2) := by decide +kernel
theorem dX7_isRest_81 : decode cX7_isRest 81 = .ok (.iload_n 3, 1) := by decide +kernel
theorem dX7_isRest_82 : decode cX7_isRest 82 = .ok (.if_icmp .eq 20, 3) := by decide +kernel
theorem dX7_isRest_85 : decode cX7_isRest 85 = .ok (.aload_n 0, 1) := by decide +kernel
theorem dX7_isRest_86 : decode cX7_isRest 86 = .ok (.iload_n 1, 1) := by decide +kernel
theorem dX7_isRest_87 : decode cX7_isRest 87 = .ok (.iload_n 2, 1) := by decide +kernel
theorem dX7_isRest_88 : decode cX7_isRest 88 = .ok (.iload_n 3, 1) := by decide +kernel
theorem dX7_isRest_89 : decode cX7_isRest 89 = .ok (.iload 7, 2) := by decide +kernel
theorem dX7_isRest_91 : decode cX7_isRest 91 = .ok (.iload_n 2, 1) := by decide +kernel
theorem dX7_isRest_92 : decode cX7_isRest 92 = .ok (.invokevirtual 199, 3) := by decide +kernel
theorem dX7_isRest_95 : decode cX7_isRest 95 = .ok (.iload 6, 2) := by decide +kernel
theorem dX7_isRest_97 : decode cX7_isRest 97 = .ok (.if_icmp .le 5, 3) := by decide +kernel
theorem dX7_isRest_100 : decode cX7_isRest 100 = .ok (.iconst 0, 1) := by decide +kernel
theorem dX7_isRest_101 : decode cX7_isRest 101 = .ok (.ireturn, 1) := by decide +kernel
theorem dX7_isRest_102 : decode cX7_isRest 102 = .ok (.iinc 7 1, 3) := by decide +kernel
theorem dX7_isRest_105 : decode cX7_isRest 105 = .ok (.goto (-78), 3) := by decide +kernel
theorem dX7_isRest_108 : decode cX7_isRest 108 = .ok (.iconst 1, 1) := by decide +kernel
theorem dX7_isRest_109 : decode cX7_isRest 109 = .ok (.ireturn, 1) := by decide +kernel
set_option maxRecDepth 20000 in
theorem ggX7_rests_X7_isLadder : GoodIn wsX7_rests wsX7_isLadder := goodIn_r _ [5, 6, 7, 8, 4, 9, 70, 71, 72, 73, 74, 75, 76, 77, 78, 79, 80, 81, 82, 83, 84, 85, 86, 87, 88, 89, 90, 91, 92, 93, 94, 95] (by decide +kernel) (by decide +kernel)
set_option maxRecDepth 20000 in
theorem gX7_rests_X7_isLadder : GoodIn wsX7_rests (wsV RX7 130 RX7 yX7_isLadder wsX7_isLadder) := goodIn_app (goodIn_of _ (by decide +kernel)) ggX7_rests_X7_isLadder
set_option maxRecDepth 20000 in
theorem ggX7_rests_X7_in : GoodIn wsX7_rests wsX7_in := goodIn_r _ [9] (by decide +kernel) (by decide +kernel)
set_option maxRecDepth 20000 in
theorem gX7_rests_X7_in : GoodIn wsX7_rests (va_wsS RX7 55 yX7_in wsX7_in) := goodIn_app (goodIn_of _ (by decide +kernel)) ggX7_rests_X7_in
set_option maxRecDepth 20000 in
theorem ggX7_rests_X7_mayStand : GoodIn wsX7_rests wsX7_mayStand := goodIn_r _ [13, 14, 15, 16, 17, 4, 18, 6, 70, 71, 72, 73, 74, 75, 76, 77, 78, 79, 80, 81, 82, 83, 84, 85, 86, 87, 88, 89, 90, 91, 92, 93, 94, 95] (by decide +kernel) (by decide +kernel)
set_option maxRecDepth 20000 in
theorem gX7_rests_X7_mayStand : GoodIn wsX7_rests (wsV RX7 203 RX7 yX7_mayStand wsX7_mayStand) := goodIn_app (goodIn_of _ (by decide +kernel)) ggX7_rests_X7_mayStand
set_option maxRecDepth 20000 in
theorem ggX7_rests_X7_isRest : GoodIn wsX7_rests wsX7_isRest := goodIn_r _ [22, 23, 24, 25, 4, 26, 14, 27, 28, 29, 30, 31, 32, 33, 34, 35, 36, 37, 38, 39, 6, 40, 41, 42, 43, 44, 45, 46, 47, 48, 49, 50, 51, 52, 15, 16, 17, 18, 53, 54, 55, 56, 57, 58, 59, 60, 61, 62, 63, 64, 65, 66, 67, 68, 69, 10, 11, 12, 13, 70, 71, 72, 73, 74, 75, 76, 77, 78, 79, 80, 81, 82, 83, 84, 85, 86, 87, 88, 89, 90, 91, 92, 93, 94, 95] (by decide +kernel) (by decide +kernel)
set_option maxRecDepth 20000 in
theorem gX7_rests_X7_isRest : GoodIn wsX7_rests (wsV RX7 206 RX7 yX7_isRest wsX7_isRest) := goodIn_app (goodIn_of _ (by decide +kernel)) ggX7_rests_X7_isRest
theorem dX7_rests_0 : decode cX7_rests 0 = .ok (.aload_n 0, 1) := by decide +kernel
theorem dX7_rests_1 : decode cX7_rests 1 = .ok (.iload_n 1, 1) := by decide +kernel
theorem dX7_rests_2 : decode cX7_rests 2 = .ok (.invokevirtual 130, 3) := by decide +kernel
theorem dX7_rests_5 : decode cX7_rests 5 = .ok (.ifCond .eq 11, 3) := by decide +kernel
theorem dX7_rests_8 : decode cX7_rests 8 = .ok (.aload_n 0, 1) := by decide +kernel
theorem dX7_rests_9 : decode cX7_rests 9 = .ok (.iload_n 2, 1) := by decide +kernel
theorem dX7_rests_10 : decode cX7_rests 10 = .ok (.invokevirtual 130, 3) := by decide +kernel
theorem dX7_rests_13 : decode cX7_rests 13 = .ok (.ifCond .ne 5, 3) := by decide +kernel
theorem dX7_rests_16 : decode cX7_rests 16 = .ok (.iconst (-1), 1) := by decide +kernel
theorem dX7_rests_17 : decode cX7_rests 17 = .ok (.ireturn, 1) := by decide +kernel
theorem dX7_rests_18 : decode cX7_rests 18 = .ok (.iload_n 1, 1) := by decide +kernel
theorem dX7_rests_19 : decode cX7_rests 19 = .ok (.iload_n 2, 1) := by decide +kernel
theorem dX7_rests_20 : decode cX7_rests 20 = .ok (.if_icmp .eq 13, 3) := by decide +kernel
theorem dX7_rests_23 : decode cX7_rests 23 = .ok (.iload_n 3, 1) := by decide +kernel
theorem dX7_rests_24 : decode cX7_rests 24 = .ok (.i2l, 1) := by decide +kernel
theorem dX7_rests_25 : decode cX7_rests 25 = .ok (.lconst 0, 1) := by decide +kernel
theorem dX7_rests_26 : decode cX7_rests 26 = .ok (.lconst 1, 1) := by decide +kernel
theorem dX7_rests_27 : decode cX7_rests 27 = .ok (.invokestatic 55, 3) := by decide +kernel
theorem dX7_rests_30 : decode cX7_rests 30 = .ok (.ifCond .ne 6, 3) := by decide +kernel
theorem dX7_rests_33 : decode cX7_rests 33 = .ok (.bipush (-2), 2) := by decide +kernel
theorem dX7_rests_35 : decode cX7_rests 35 = .ok (.ireturn, 1) := by decide +kernel
theorem dX7_rests_36 : decode cX7_rests 36 = .ok (.iconst 0, 1) := by decide +kernel
theorem dX7_rests_37 : decode cX7_rests 37 = .ok (.istore 4, 2) := by decide +kernel
theorem dX7_rests_39 : decode cX7_rests 39 = .ok (.bipush (-9), 2) := by decide +kernel
theorem dX7_rests_41 : decode cX7_rests 41 = .ok (.istore 5, 2) := by decide +kernel
theorem dX7_rests_43 : decode cX7_rests 43 = .ok (.iconst 0, 1) := by decide +kernel
theorem dX7_rests_44 : decode cX7_rests 44 = .ok (.istore 6, 2) := by decide +kernel
theorem dX7_rests_46 : decode cX7_rests 46 = .ok (.iload 6, 2) := by decide +kernel
theorem dX7_rests_48 : decode cX7_rests 48 = .ok (.bipush 100, 2) := by decide +kernel
theorem dX7_rests_50 : decode cX7_rests 50 = .ok (.if_icmp .ge 80, 3) := by decide +kernel
theorem dX7_rests_53 : decode cX7_rests 53 = .ok (.iload 6, 2) := by decide +kernel
theorem dX7_rests_55 : decode cX7_rests 55 = .ok (.bipush 10, 2) := by decide +kernel
theorem dX7_rests_57 : decode cX7_rests 57 = .ok (.idiv, 1) := by decide +kernel
theorem dX7_rests_58 : decode cX7_rests 58 = .ok (.istore 7, 2) := by decide +kernel
theorem dX7_rests_60 : decode cX7_rests 60 = .ok (.iload 6, 2) := by decide +kernel
theorem dX7_rests_62 : decode cX7_rests 62 = .ok (.bipush 10, 2) := by decide +kernel
theorem dX7_rests_64 : decode cX7_rests 64 = .ok (.irem, 1) := by decide +kernel
theorem dX7_rests_65 : decode cX7_rests 65 = .ok (.istore 8, 2) := by decide +kernel
theorem dX7_rests_67 : decode cX7_rests 67 = .ok (.iload 7, 2) := by decide +kernel
theorem dX7_rests_69 : decode cX7_rests 69 = .ok (.iload 8, 2) := by decide +kernel
theorem dX7_rests_71 : decode cX7_rests 71 = .ok (.if_icmp .eq 53, 3) := by decide +kernel
theorem dX7_rests_74 : decode cX7_rests 74 = .ok (.aload_n 0, 1) := by decide +kernel
theorem dX7_rests_75 : decode cX7_rests 75 = .ok (.iload_n 1, 1) := by decide +kernel
theorem dX7_rests_76 : decode cX7_rests 76 = .ok (.iload 7, 2) := by decide +kernel
theorem dX7_rests_78 : decode cX7_rests 78 = .ok (.invokevirtual 203, 3) := by decide +kernel
theorem dX7_rests_81 : decode cX7_rests 81 = .ok (.ifCond .eq 43, 3) := by decide +kernel
theorem dX7_rests_84 : decode cX7_rests 84 = .ok (.aload_n 0, 1) := by decide +kernel
theorem dX7_rests_85 : decode cX7_rests 85 = .ok (.iload_n 2, 1) := by decide +kernel
theorem dX7_rests_86 : decode cX7_rests 86 = .ok (.iload 8, 2) := by decide +kernel
theorem dX7_rests_88 : decode cX7_rests 88 = .ok (.invokevirtual 203, 3) := by decide +kernel
theorem dX7_rests_91 : decode cX7_rests 91 = .ok (.ifCond .eq 33, 3) := by decide +kernel
theorem dX7_rests_94 : decode cX7_rests 94 = .ok (.aload_n 0, 1) := by decide +kernel
theorem dX7_rests_95 : decode cX7_rests 95 = .ok (.iload_n 1, 1) := by decide +kernel
theorem dX7_rests_96 : decode cX7_rests 96 = .ok (.iload_n 2, 1) := by decide +kernel
theorem dX7_rests_97 : decode cX7_rests 97 = .ok (.iload 7, 2) := by decide +kernel
theorem dX7_rests_99 : decode cX7_rests 99 = .ok (.iload 8, 2) := by decide +kernel
theorem dX7_rests_101 : decode cX7_rests 101 = .ok (.invokevirtual 206, 3) := by decide +kernel
theorem dX7_rests_104 : decode cX7_rests 104 = .ok (.ifCond .eq 20, 3) := by decide +kernel
theorem dX7_rests_107 : decode cX7_rests 107 = .ok (.iload 4, 2) := by decide +kernel
theorem dX7_rests_109 : decode cX7_rests 109 = .ok (.ifCond .ne 8, 3) := by decide +kernel
theorem dX7_rests_112 : decode cX7_rests 112 = .ok (.iload 6, 2) := by decide +kernel
theorem dX7_rests_114 : decode cX7_rests 114 = .ok (.goto 5, 3) := by decide +kernel
theorem dX7_rests_117 : decode cX7_rests 117 = .ok (.iload 5, 2) := by decide +kernel
theorem dX7_rests_119 : decode cX7_rests 119 = .ok (.istore 5, 2) := by decide +kernel
theorem dX7_rests_121 : decode cX7_rests 121 = .ok (.iinc 4 1, 3) := by decide +kernel
theorem dX7_rests_124 : decode cX7_rests 124 = .ok (.iinc 6 1, 3) := by decide +kernel
theorem dX7_rests_127 : decode cX7_rests 127 = .ok (.goto (-81), 3) := by decide +kernel
theorem dX7_rests_130 : decode cX7_rests 130 = .ok (.iload_n 3, 1) := by decide +kernel
theorem dX7_rests_131 : decode cX7_rests 131 = .ok (.ifCond .ne 8, 3) := by decide +kernel
theorem dX7_rests_134 : decode cX7_rests 134 = .ok (.iload 4, 2) := by decide +kernel
theorem dX7_rests_136 : decode cX7_rests 136 = .ok (.goto 5, 3) := by decide +kernel
theorem dX7_rests_139 : decode cX7_rests 139 = .ok (.iload 5, 2) := by decide +kernel
theorem dX7_rests_141 : decode cX7_rests 141 = .ok (.ireturn, 1) := by decide +kernel
theorem dX7_power_0 : decode cX7_power 0 = .ok (.iconst 1, 1) := by decide +kernel
theorem dX7_power_1 : decode cX7_power 1 = .ok (.istore_n 2, 1) := by decide +kernel
theorem dX7_power_2 : decode cX7_power 2 = .ok (.iconst 0, 1) := by decide +kernel
theorem dX7_power_3 : decode cX7_power 3 = .ok (.istore_n 3, 1) := by decide +kernel
theorem dX7_power_4 : decode cX7_power 4 = .ok (.iload_n 3, 1) := by decide +kernel
theorem dX7_power_5 : decode cX7_power 5 = .ok (.iload_n 1, 1) := by decide +kernel
theorem dX7_power_6 : decode cX7_power 6 = .ok (.if_icmp .ge 13, 3) := by decide +kernel
theorem dX7_power_9 : decode cX7_power 9 = .ok (.iload_n 2, 1) := by decide +kernel
theorem dX7_power_10 : decode cX7_power 10 = .ok (.iload_n 0, 1) := by decide +kernel
theorem dX7_power_11 : decode cX7_power 11 = .ok (.imul, 1) := by decide +kernel
theorem dX7_power_12 : decode cX7_power 12 = .ok (.istore_n 2, 1) := by decide +kernel
theorem dX7_power_13 : decode cX7_power 13 = .ok (.iinc 3 1, 3) := by decide +kernel
theorem dX7_power_16 : decode cX7_power 16 = .ok (.goto (-12), 3) := by decide +kernel
theorem dX7_power_19 : decode cX7_power 19 = .ok (.iload_n 2, 1) := by decide +kernel
theorem dX7_power_20 : decode cX7_power 20 = .ok (.ireturn, 1) := by decide +kernel
set_option maxRecDepth 20000 in
theorem ggX7_stays_X7_isLadder : GoodIn wsX7_stays wsX7_isLadder := goodIn_r _ [9, 10, 11, 12, 8, 13, 65, 66, 67, 68, 69, 70, 71, 72, 73, 74, 75, 76, 77, 78, 79, 80, 81, 82, 83, 84, 85, 86, 87, 88, 89, 90] (by decide +kernel) (by decide +kernel)
set_option maxRecDepth 20000 in
theorem gX7_stays_X7_isLadder : GoodIn wsX7_stays (wsV RX7 130 RX7 yX7_isLadder wsX7_isLadder) := goodIn_app (goodIn_of _ (by decide +kernel)) ggX7_stays_X7_isLadder
set_option maxRecDepth 20000 in
theorem ggX7_stays_X7_in : GoodIn wsX7_stays wsX7_in := goodIn_r _ [13] (by decide +kernel) (by decide +kernel)
set_option maxRecDepth 20000 in
theorem gX7_stays_X7_in : GoodIn wsX7_stays (va_wsS RX7 55 yX7_in wsX7_in) := goodIn_app (goodIn_of _ (by decide +kernel)) ggX7_stays_X7_in
set_option maxRecDepth 20000 in
theorem ggX7_stays_X7_ones : GoodIn wsX7_stays wsX7_ones := goodIn_r _ [16] (by decide +kernel) (by decide +kernel)
set_option maxRecDepth 20000 in
theorem gX7_stays_X7_ones : GoodIn wsX7_stays (va_wsS RX7 170 yX7_ones wsX7_ones) := goodIn_app (goodIn_of _ (by decide +kernel)) ggX7_stays_X7_ones
set_option maxRecDepth 20000 in
theorem ggX7_stays_X7_power : GoodIn wsX7_stays wsX7_power := goodIn_r _ [19] (by decide +kernel) (by decide +kernel)
set_option maxRecDepth 20000 in
theorem gX7_stays_X7_power : GoodIn wsX7_stays (va_wsS RX7 214 yX7_power wsX7_power) := goodIn_app (goodIn_of _ (by decide +kernel)) ggX7_stays_X7_power
set_option maxRecDepth 20000 in
theorem ggX7_stays_X7_layTrial : GoodIn wsX7_stays wsX7_layTrial := goodIn_r _ [23, 4, 65, 66, 67, 68, 69, 70, 71, 72, 73, 74, 75, 76, 77, 78, 79, 80, 81, 82, 83, 84, 85, 86, 87, 88, 89, 90] (by decide +kernel) (by decide +kernel)
set_option maxRecDepth 20000 in
theorem gX7_stays_X7_layTrial : GoodIn wsX7_stays (wsV RX7 161 RX7 yX7_layTrial wsX7_layTrial) := goodIn_app (goodIn_of _ (by decide +kernel)) ggX7_stays_X7_layTrial
set_option maxRecDepth 20000 in
theorem ggX7_stays_X7_passOn : GoodIn wsX7_stays wsX7_passOn := goodIn_r _ [27, 3, 10, 4, 28, 29, 8, 30, 31, 32, 33, 34, 35, 36, 37, 38, 39, 40, 41, 42, 43, 44, 45, 46, 47, 48, 49, 50, 51, 52, 53, 54, 55, 56, 57, 58, 59, 60, 61, 65, 66, 67, 68, 69, 70, 71, 72, 73, 74, 75, 76, 77, 78, 79, 80, 81, 82, 83, 84, 85, 86, 87, 88, 89, 90] (by decide +kernel) (by decide +kernel)
set_option maxRecDepth 20000 in
theorem gX7_stays_X7_passOn : GoodIn wsX7_stays (wsV RX7 146 RX7 yX7_passOn wsX7_passOn) := goodIn_app (goodIn_of _ (by decide +kernel)) ggX7_stays_X7_passOn
set_option maxRecDepth 20000 in
theorem ggX7_stays_X7_common : GoodIn wsX7_stays wsX7_common := goodIn_r _ [64] (by decide +kernel) (by decide +kernel)
set_option maxRecDepth 20000 in
theorem gX7_stays_X7_common : GoodIn wsX7_stays (va_wsS RX7 196 yX7_common wsX7_common) := goodIn_app (goodIn_of _ (by decide +kernel)) ggX7_stays_X7_common
theorem dX7_stays_0 : decode cX7_stays 0 = .ok (.aload_n 0, 1) := by decide +kernel
theorem dX7_stays_1 : decode cX7_stays 1 = .ok (.iload_n 1, 1) := by decide +kernel
theorem dX7_stays_2 : decode cX7_stays 2 = .ok (.invokevirtual 130, 3) := by decide +kernel
theorem dX7_stays_5 : decode cX7_stays 5 = .ok (.ifCond .ne 5, 3) := by decide +kernel
theorem dX7_stays_8 : decode cX7_stays 8 = .ok (.iconst (-1), 1) := by decide +kernel
theorem dX7_stays_9 : decode cX7_stays 9 = .ok (.ireturn, 1) := by decide +kernel
theorem dX7_stays_10 : decode cX7_stays 10 = .ok (.iload_n 2, 1) := by decide +kernel
theorem dX7_stays_11 : decode cX7_stays 11 = .ok (.i2l, 1) := by decide +kernel
theorem dX7_stays_12 : decode cX7_stays 12 = .ok (.lconst 0, 1) := by decide +kernel
theorem dX7_stays_13 : decode cX7_stays 13 = .ok (.ldc2_w 210, 3) := by decide +kernel
theorem dX7_stays_16 : decode cX7_stays 16 = .ok (.invokestatic 55, 3) := by decide +kernel
theorem dX7_stays_19 : decode cX7_stays 19 = .ok (.ifCond .eq 15, 3) := by decide +kernel
theorem dX7_stays_22 : decode cX7_stays 22 = .ok (.iload_n 3, 1) := by decide +kernel
theorem dX7_stays_23 : decode cX7_stays 23 = .ok (.i2l, 1) := by decide +kernel
theorem dX7_stays_24 : decode cX7_stays 24 = .ok (.lconst 0, 1) := by decide +kernel
theorem dX7_stays_25 : decode cX7_stays 25 = .ok (.ldc2_w 212, 3) := by decide +kernel
theorem dX7_stays_28 : decode cX7_stays 28 = .ok (.invokestatic 55, 3) := by decide +kernel
theorem dX7_stays_31 : decode cX7_stays 31 = .ok (.ifCond .ne 6, 3) := by decide +kernel
theorem dX7_stays_34 : decode cX7_stays 34 = .ok (.bipush (-2), 2) := by decide +kernel
theorem dX7_stays_36 : decode cX7_stays 36 = .ok (.ireturn, 1) := by decide +kernel
theorem dX7_stays_37 : decode cX7_stays 37 = .ok (.iconst 0, 1) := by decide +kernel
theorem dX7_stays_38 : decode cX7_stays 38 = .ok (.istore 5, 2) := by decide +kernel
theorem dX7_stays_40 : decode cX7_stays 40 = .ok (.iconst 0, 1) := by decide +kernel
theorem dX7_stays_41 : decode cX7_stays 41 = .ok (.istore 6, 2) := by decide +kernel
theorem dX7_stays_43 : decode cX7_stays 43 = .ok (.iconst 0, 1) := by decide +kernel
theorem dX7_stays_44 : decode cX7_stays 44 = .ok (.istore 7, 2) := by decide +kernel
theorem dX7_stays_46 : decode cX7_stays 46 = .ok (.iload 7, 2) := by decide +kernel
theorem dX7_stays_48 : decode cX7_stays 48 = .ok (.iconst 1, 1) := by decide +kernel
theorem dX7_stays_49 : decode cX7_stays 49 = .ok (.aload_n 0, 1) := by decide +kernel
theorem dX7_stays_50 : decode cX7_stays 50 = .ok (.getfield 99, 3) := by decide +kernel
theorem dX7_stays_53 : decode cX7_stays 53 = .ok (.ishl, 1) := by decide +kernel
theorem dX7_stays_54 : decode cX7_stays 54 = .ok (.if_icmp .ge 81, 3) := by decide +kernel
theorem dX7_stays_57 : decode cX7_stays 57 = .ok (.iload_n 3, 1) := by decide +kernel
theorem dX7_stays_58 : decode cX7_stays 58 = .ok (.iload 7, 2) := by decide +kernel
theorem dX7_stays_60 : decode cX7_stays 60 = .ok (.invokestatic 170, 3) := by decide +kernel
theorem dX7_stays_63 : decode cX7_stays 63 = .ok (.invokestatic 214, 3) := by decide +kernel
theorem dX7_stays_66 : decode cX7_stays 66 = .ok (.bipush 10, 2) := by decide +kernel
theorem dX7_stays_68 : decode cX7_stays 68 = .ok (.iload_n 3, 1) := by decide +kernel
theorem dX7_stays_69 : decode cX7_stays 69 = .ok (.isub, 1) := by decide +kernel
theorem dX7_stays_70 : decode cX7_stays 70 = .ok (.aload_n 0, 1) := by decide +kernel
theorem dX7_stays_71 : decode cX7_stays 71 = .ok (.getfield 99, 3) := by decide +kernel
theorem dX7_stays_74 : decode cX7_stays 74 = .ok (.iload 7, 2) := by decide +kernel
theorem dX7_stays_76 : decode cX7_stays 76 = .ok (.invokestatic 170, 3) := by decide +kernel
theorem dX7_stays_79 : decode cX7_stays 79 = .ok (.isub, 1) := by decide +kernel
theorem dX7_stays_80 : decode cX7_stays 80 = .ok (.invokestatic 214, 3) := by decide +kernel
theorem dX7_stays_83 : decode cX7_stays 83 = .ok (.imul, 1) := by decide +kernel
theorem dX7_stays_84 : decode cX7_stays 84 = .ok (.istore 8, 2) := by decide +kernel
theorem dX7_stays_86 : decode cX7_stays 86 = .ok (.aload_n 0, 1) := by decide +kernel
theorem dX7_stays_87 : decode cX7_stays 87 = .ok (.invokevirtual 161, 3) := by decide +kernel
theorem dX7_stays_90 : decode cX7_stays 90 = .ok (.aload_n 0, 1) := by decide +kernel
theorem dX7_stays_91 : decode cX7_stays 91 = .ok (.iconst 1, 1) := by decide +kernel
theorem dX7_stays_92 : decode cX7_stays 92 = .ok (.iload 7, 2) := by decide +kernel
theorem dX7_stays_94 : decode cX7_stays 94 = .ok (.invokevirtual 146, 3) := by decide +kernel
theorem dX7_stays_97 : decode cX7_stays 97 = .ok (.pop, 1) := by decide +kernel
theorem dX7_stays_98 : decode cX7_stays 98 = .ok (.iload 6, 2) := by decide +kernel
theorem dX7_stays_100 : decode cX7_stays 100 = .ok (.iload 8, 2) := by decide +kernel
theorem dX7_stays_102 : decode cX7_stays 102 = .ok (.iadd, 1) := by decide +kernel
theorem dX7_stays_103 : decode cX7_stays 103 = .ok (.istore 6, 2) := by decide +kernel
theorem dX7_stays_105 : decode cX7_stays 105 = .ok (.iload 5, 2) := by decide +kernel
theorem dX7_stays_107 : decode cX7_stays 107 = .ok (.aload_n 0, 1) := by decide +kernel
theorem dX7_stays_108 : decode cX7_stays 108 = .ok (.getfield 25, 3) := by decide +kernel
theorem dX7_stays_111 : decode cX7_stays 111 = .ok (.bipush 31, 2) := by decide +kernel
theorem dX7_stays_113 : decode cX7_stays 113 = .ok (.iload_n 1, 1) := by decide +kernel
theorem dX7_stays_114 : decode cX7_stays 114 = .ok (.iadd, 1) := by decide +kernel
theorem dX7_stays_115 : decode cX7_stays 115 = .ok (.iaload, 1) := by decide +kernel
theorem dX7_stays_116 : decode cX7_stays 116 = .ok (.iload_n 2, 1) := by decide +kernel
theorem dX7_stays_117 : decode cX7_stays 117 = .ok (.if_icmp .lt 8, 3) := by decide +kernel
theorem dX7_stays_120 : decode cX7_stays 120 = .ok (.iload 8, 2) := by decide +kernel
theorem dX7_stays_122 : decode cX7_stays 122 = .ok (.goto 4, 3) := by decide +kernel
theorem dX7_stays_125 : decode cX7_stays 125 = .ok (.iconst 0, 1) := by decide +kernel
theorem dX7_stays_126 : decode cX7_stays 126 = .ok (.iadd, 1) := by decide +kernel
theorem dX7_stays_127 : decode cX7_stays 127 = .ok (.istore 5, 2) := by decide +kernel
theorem dX7_stays_129 : decode cX7_stays 129 = .ok (.iinc 7 1, 3) := by decide +kernel
theorem dX7_stays_132 : decode cX7_stays 132 = .ok (.goto (-86), 3) := by decide +kernel
theorem dX7_stays_135 : decode cX7_stays 135 = .ok (.iload 5, 2) := by decide +kernel
theorem dX7_stays_137 : decode cX7_stays 137 = .ok (.iload 6, 2) := by decide +kernel
theorem dX7_stays_139 : decode cX7_stays 139 = .ok (.invokestatic 196, 3) := by decide +kernel
theorem dX7_stays_142 : decode cX7_stays 142 = .ok (.istore 7, 2) := by decide +kernel
theorem dX7_stays_144 : decode cX7_stays 144 = .ok (.iload 4, 2) := by decide +kernel
theorem dX7_stays_146 : decode cX7_stays 146 = .ok (.ifCond .eq 11, 3) := by decide +kernel
theorem dX7_stays_149 : decode cX7_stays 149 = .ok (.iload 5, 2) := by decide +kernel
theorem dX7_stays_151 : decode cX7_stays 151 = .ok (.iload 7, 2) := by decide +kernel
theorem dX7_stays_153 : decode cX7_stays 153 = .ok (.idiv, 1) := by decide +kernel
theorem dX7_stays_154 : decode cX7_stays 154 = .ok (.goto 8, 3) := by decide +kernel
theorem dX7_stays_157 : decode cX7_stays 157 = .ok (.iload 6, 2) := by decide +kernel
theorem dX7_stays_159 : decode cX7_stays 159 = .ok (.iload 7, 2) := by decide +kernel
theorem dX7_stays_161 : decode cX7_stays 161 = .ok (.idiv, 1) := by decide +kernel
theorem dX7_stays_162 : decode cX7_stays 162 = .ok (.ireturn, 1) := by decide +kernel
theorem dX7_seed_0 : decode cX7_seed 0 = .ok (.aload_n 0, 1) := by decide +kernel
theorem dX7_seed_1 : decode cX7_seed 1 = .ok (.getfield 217, 3) := by decide +kernel
theorem dX7_seed_4 : decode cX7_seed 4 = .ok (.lstore_n 3, 1) := by decide +kernel
theorem dX7_seed_5 : decode cX7_seed 5 = .ok (.aload_n 0, 1) := by decide +kernel
theorem dX7_seed_6 : decode cX7_seed 6 = .ok (.lload_n 1, 1) := by decide +kernel
theorem dX7_seed_7 : decode cX7_seed 7 = .ok (.putfield 217, 3) := by decide +kernel
theorem dX7_seed_10 : decode cX7_seed 10 = .ok (.lload_n 3, 1) := by decide +kernel
theorem dX7_seed_11 : decode cX7_seed 11 = .ok (.lreturn, 1) := by decide +kernel
set_option maxRecDepth 20000 in
theorem ggX7_years_X7_in : GoodIn wsX7_years wsX7_in := goodIn_r _ [10] (by decide +kernel) (by decide +kernel)
set_option maxRecDepth 20000 in
theorem gX7_years_X7_in : GoodIn wsX7_years (va_wsS RX7 55 yX7_in wsX7_in) := goodIn_app (goodIn_of _ (by decide +kernel)) ggX7_years_X7_in
set_option maxRecDepth 20000 in
theorem ggX7_years_X7_layTrial : GoodIn wsX7_years wsX7_layTrial := goodIn_r _ [14, 5, 75, 76, 77, 78, 79, 80, 81, 82, 83, 84, 85, 86, 87, 88, 89, 90, 91, 92, 93, 94, 95, 96, 97, 98, 99, 100] (by decide +kernel) (by decide +kernel)
set_option maxRecDepth 20000 in
theorem gX7_years_X7_layTrial : GoodIn wsX7_years (wsV RX7 161 RX7 yX7_layTrial wsX7_layTrial) := goodIn_app (goodIn_of _ (by decide +kernel)) ggX7_years_X7_layTrial
set_option maxRecDepth 20000 in
theorem ggX7_years_X7_passOn : GoodIn wsX7_years wsX7_passOn := goodIn_r _ [18, 19, 6, 5, 20, 21, 9, 22, 23, 24, 25, 26, 27, 28, 29, 30, 31, 32, 33, 34, 35, 36, 37, 38, 39, 40, 41, 42, 43, 44, 45, 46, 47, 48, 49, 50, 51, 52, 53, 75, 76, 77, 78, 79, 80, 81, 82, 83, 84, 85, 86, 87, 88, 89, 90, 91, 92, 93, 94, 95, 96, 97, 98, 99, 100] (by decide +kernel) (by decide +kernel)
set_option maxRecDepth 20000 in
theorem gX7_years_X7_passOn : GoodIn wsX7_years (wsV RX7 146 RX7 yX7_passOn wsX7_passOn) := goodIn_app (goodIn_of _ (by decide +kernel)) ggX7_years_X7_passOn
set_option maxRecDepth 20000 in
theorem ggX7_years_X7_isPerson : GoodIn wsX7_years wsX7_isPerson := goodIn_r _ [57, 19, 7, 8, 9, 10, 75, 76, 77, 78, 79, 80, 81, 82, 83, 84, 85, 86, 87, 88, 89, 90, 91, 92, 93, 94, 95, 96, 97, 98, 99, 100] (by decide +kernel) (by decide +kernel)
set_option maxRecDepth 20000 in
theorem gX7_years_X7_isPerson : GoodIn wsX7_years (wsV RX7 134 RX7 yX7_isPerson wsX7_isPerson) := goodIn_app (goodIn_of _ (by decide +kernel)) ggX7_years_X7_isPerson
set_option maxRecDepth 20000 in
theorem ggX7_years_X7_giveOn : GoodIn wsX7_years wsX7_giveOn := goodIn_r _ [61, 5, 51, 52, 9, 53, 75, 76, 77, 78, 79, 80, 81, 82, 83, 84, 85, 86, 87, 88, 89, 90, 91, 92, 93, 94, 95, 96, 97, 98, 99, 100] (by decide +kernel) (by decide +kernel)
set_option maxRecDepth 20000 in
theorem gX7_years_X7_giveOn : GoodIn wsX7_years (wsV RX7 156 RX7 yX7_giveOn wsX7_giveOn) := goodIn_app (goodIn_of _ (by decide +kernel)) ggX7_years_X7_giveOn
set_option maxRecDepth 20000 in
theorem ggX7_years_X7_canMove : GoodIn wsX7_years wsX7_canMove := goodIn_r _ [65, 66, 67, 68, 69, 9, 70, 6, 7, 8, 10, 33, 34, 35, 36, 5, 75, 76, 77, 78, 79, 80, 81, 82, 83, 84, 85, 86, 87, 88, 89, 90, 91, 92, 93, 94, 95, 96, 97, 98, 99, 100] (by decide +kernel) (by decide +kernel)
set_option maxRecDepth 20000 in
theorem gX7_years_X7_canMove : GoodIn wsX7_years (wsV RX7 149 RX7 yX7_canMove wsX7_canMove) := goodIn_app (goodIn_of _ (by decide +kernel)) ggX7_years_X7_canMove
set_option maxRecDepth 20000 in
theorem ggX7_years_X7_sumOf : GoodIn wsX7_years wsX7_sumOf := goodIn_r _ [74, 5, 75, 76, 77, 78, 79, 80, 81, 82, 83, 84, 85, 86, 87, 88, 89, 90, 91, 92, 93, 94, 95, 96, 97, 98, 99, 100] (by decide +kernel) (by decide +kernel)
set_option maxRecDepth 20000 in
theorem gX7_years_X7_sumOf : GoodIn wsX7_years (wsV RX7 227 RX7 yX7_sumOf wsX7_sumOf) := goodIn_app (goodIn_of _ (by decide +kernel)) ggX7_years_X7_sumOf
theorem dX7_years_0 : decode cX7_years 0 = .ok (.iload_n 1, 1) := by decide +kernel
theorem dX7_years_1 : decode cX7_years 1 = .ok (.i2l, 1) := by decide +kernel
theorem dX7_years_2 : decode cX7_years 2 = .ok (.lconst 1, 1) := by decide +kernel
theorem dX7_years_3 : decode cX7_years 3 = .ok (.ldc2_w 221, 3) := by decide +kernel
theorem dX7_years_6 : decode cX7_years 6 = .ok (.invokestatic 55, 3) := by decide +kernel
theorem dX7_years_9 : decode cX7_years 9 = .ok (.ifCond .ne 6, 3) := by decide +kernel
theorem dX7_years_12 : decode cX7_years 12 = .ok (.bipush (-2), 2) := by decide +kernel
theorem dX7_years_14 : decode cX7_years 14 = .ok (.ireturn, 1) := by decide +kernel
theorem dX7_years_15 : decode cX7_years 15 = .ok (.aload_n 0, 1) := by decide +kernel
theorem dX7_years_16 : decode cX7_years 16 = .ok (.invokevirtual 161, 3) := by decide +kernel
theorem dX7_years_19 : decode cX7_years 19 = .ok (.iconst 0, 1) := by decide +kernel
theorem dX7_years_20 : decode cX7_years 20 = .ok (.istore_n 2, 1) := by decide +kernel
theorem dX7_years_21 : decode cX7_years 21 = .ok (.iconst 0, 1) := by decide +kernel
theorem dX7_years_22 : decode cX7_years 22 = .ok (.istore_n 3, 1) := by decide +kernel
theorem dX7_years_23 : decode cX7_years 23 = .ok (.iload_n 3, 1) := by decide +kernel
theorem dX7_years_24 : decode cX7_years 24 = .ok (.iload_n 1, 1) := by decide +kernel
theorem dX7_years_25 : decode cX7_years 25 = .ok (.if_icmp .ge 123, 3) := by decide +kernel
theorem dX7_years_28 : decode cX7_years 28 = .ok (.aload_n 0, 1) := by decide +kernel
theorem dX7_years_29 : decode cX7_years 29 = .ok (.aload_n 0, 1) := by decide +kernel
theorem dX7_years_30 : decode cX7_years 30 = .ok (.getfield 217, 3) := by decide +kernel
theorem dX7_years_33 : decode cX7_years 33 = .ok (.ldc2_w 223, 3) := by decide +kernel
theorem dX7_years_36 : decode cX7_years 36 = .ok (.lmul, 1) := by decide +kernel
theorem dX7_years_37 : decode cX7_years 37 = .ok (.ldc2_w 225, 3) := by decide +kernel
theorem dX7_years_40 : decode cX7_years 40 = .ok (.ladd, 1) := by decide +kernel
theorem dX7_years_41 : decode cX7_years 41 = .ok (.putfield 217, 3) := by decide +kernel
theorem dX7_years_44 : decode cX7_years 44 = .ok (.aload_n 0, 1) := by decide +kernel
theorem dX7_years_45 : decode cX7_years 45 = .ok (.getfield 217, 3) := by decide +kernel
theorem dX7_years_48 : decode cX7_years 48 = .ok (.bipush 33, 2) := by decide +kernel
theorem dX7_years_50 : decode cX7_years 50 = .ok (.lushr, 1) := by decide +kernel
theorem dX7_years_51 : decode cX7_years 51 = .ok (.ldc2_w 221, 3) := by decide +kernel
theorem dX7_years_54 : decode cX7_years 54 = .ok (.lrem, 1) := by decide +kernel
theorem dX7_years_55 : decode cX7_years 55 = .ok (.l2i, 1) := by decide +kernel
theorem dX7_years_56 : decode cX7_years 56 = .ok (.istore 4, 2) := by decide +kernel
theorem dX7_years_58 : decode cX7_years 58 = .ok (.iload 4, 2) := by decide +kernel
theorem dX7_years_60 : decode cX7_years 60 = .ok (.bipush 14, 2) := by decide +kernel
theorem dX7_years_62 : decode cX7_years 62 = .ok (.if_icmp .le 13, 3) := by decide +kernel
theorem dX7_years_65 : decode cX7_years 65 = .ok (.aload_n 0, 1) := by decide +kernel
theorem dX7_years_66 : decode cX7_years 66 = .ok (.iconst 1, 1) := by decide +kernel
theorem dX7_years_67 : decode cX7_years 67 = .ok (.iconst 0, 1) := by decide +kernel
theorem dX7_years_68 : decode cX7_years 68 = .ok (.invokevirtual 146, 3) := by decide +kernel
theorem dX7_years_71 : decode cX7_years 71 = .ok (.pop, 1) := by decide +kernel
theorem dX7_years_72 : decode cX7_years 72 = .ok (.goto 56, 3) := by decide +kernel
theorem dX7_years_75 : decode cX7_years 75 = .ok (.iload 4, 2) := by decide +kernel
theorem dX7_years_77 : decode cX7_years 77 = .ok (.bipush 9, 2) := by decide +kernel
theorem dX7_years_79 : decode cX7_years 79 = .ok (.if_icmp .le 29, 3) := by decide +kernel
theorem dX7_years_82 : decode cX7_years 82 = .ok (.aload_n 0, 1) := by decide +kernel
theorem dX7_years_83 : decode cX7_years 83 = .ok (.iload 4, 2) := by decide +kernel
theorem dX7_years_85 : decode cX7_years 85 = .ok (.bipush 10, 2) := by decide +kernel
theorem dX7_years_87 : decode cX7_years 87 = .ok (.isub, 1) := by decide +kernel
theorem dX7_years_88 : decode cX7_years 88 = .ok (.invokevirtual 134, 3) := by decide +kernel
theorem dX7_years_91 : decode cX7_years 91 = .ok (.ifCond .eq 37, 3) := by decide +kernel
theorem dX7_years_94 : decode cX7_years 94 = .ok (.aload_n 0, 1) := by decide +kernel
theorem dX7_years_95 : decode cX7_years 95 = .ok (.iconst 1, 1) := by decide +kernel
theorem dX7_years_96 : decode cX7_years 96 = .ok (.iload 4, 2) := by decide +kernel
theorem dX7_years_98 : decode cX7_years 98 = .ok (.bipush 10, 2) := by decide +kernel
theorem dX7_years_100 : decode cX7_years 100 = .ok (.isub, 1) := by decide +kernel
theorem dX7_years_101 : decode cX7_years 101 = .ok (.iconst 1, 1) := by decide +kernel
theorem dX7_years_102 : decode cX7_years 102 = .ok (.invokevirtual 156, 3) := by decide +kernel
theorem dX7_years_105 : decode cX7_years 105 = .ok (.goto 23, 3) := by decide +kernel
theorem dX7_years_108 : decode cX7_years 108 = .ok (.aload_n 0, 1) := by decide +kernel
theorem dX7_years_109 : decode cX7_years 109 = .ok (.iconst 1, 1) := by decide +kernel
theorem dX7_years_110 : decode cX7_years 110 = .ok (.iconst 0, 1) := by decide +kernel
theorem dX7_years_111 : decode cX7_years 111 = .ok (.iload 4, 2) := by decide +kernel
theorem dX7_years_113 : decode cX7_years 113 = .ok (.invokevirtual 149, 3) := by decide +kernel
theorem dX7_years_116 : decode cX7_years 116 = .ok (.ifCond .eq 12, 3) := by decide +kernel
theorem dX7_years_119 : decode cX7_years 119 = .ok (.aload_n 0, 1) := by decide +kernel
theorem dX7_years_120 : decode cX7_years 120 = .ok (.getfield 25, 3) := by decide +kernel
theorem dX7_years_123 : decode cX7_years 123 = .ok (.bipush 23, 2) := by decide +kernel
theorem dX7_years_125 : decode cX7_years 125 = .ok (.iload 4, 2) := by decide +kernel
theorem dX7_years_127 : decode cX7_years 127 = .ok (.iastore, 1) := by decide +kernel
theorem dX7_years_128 : decode cX7_years 128 = .ok (.iload_n 2, 1) := by decide +kernel
theorem dX7_years_129 : decode cX7_years 129 = .ok (.aload_n 0, 1) := by decide +kernel
theorem dX7_years_130 : decode cX7_years 130 = .ok (.iconst 1, 1) := by decide +kernel
theorem dX7_years_131 : decode cX7_years 131 = .ok (.bipush 8, 2) := by decide +kernel
theorem dX7_years_133 : decode cX7_years 133 = .ok (.aload_n 0, 1) := by decide +kernel
theorem dX7_years_134 : decode cX7_years 134 = .ok (.getfield 96, 3) := by decide +kernel
theorem dX7_years_137 : decode cX7_years 137 = .ok (.invokevirtual 227, 3) := by decide +kernel
theorem dX7_years_140 : decode cX7_years 140 = .ok (.iadd, 1) := by decide +kernel
theorem dX7_years_141 : decode cX7_years 141 = .ok (.istore_n 2, 1) := by decide +kernel
theorem dX7_years_142 : decode cX7_years 142 = .ok (.iinc 3 1, 3) := by decide +kernel
theorem dX7_years_145 : decode cX7_years 145 = .ok (.goto (-122), 3) := by decide +kernel
theorem dX7_years_148 : decode cX7_years 148 = .ok (.iload_n 2, 1) := by decide +kernel
theorem dX7_years_149 : decode cX7_years 149 = .ok (.ireturn, 1) := by decide +kernel
set_option maxRecDepth 20000 in
theorem ggX7_keep_X7_in : GoodIn wsX7_keep wsX7_in := goodIn_r _ [7] (by decide +kernel) (by decide +kernel)
set_option maxRecDepth 20000 in
theorem gX7_keep_X7_in : GoodIn wsX7_keep (va_wsS RX7 55 yX7_in wsX7_in) := goodIn_app (goodIn_of _ (by decide +kernel)) ggX7_keep_X7_in
theorem dX7_keep_0 : decode cX7_keep 0 = .ok (.iload_n 1, 1) := by decide +kernel
theorem dX7_keep_1 : decode cX7_keep 1 = .ok (.i2l, 1) := by decide +kernel
theorem dX7_keep_2 : decode cX7_keep 2 = .ok (.lconst 0, 1) := by decide +kernel
theorem dX7_keep_3 : decode cX7_keep 3 = .ok (.lconst 1, 1) := by decide +kernel
theorem dX7_keep_4 : decode cX7_keep 4 = .ok (.invokestatic 55, 3) := by decide +kernel
theorem dX7_keep_7 : decode cX7_keep 7 = .ok (.ifCond .ne 5, 3) := by decide +kernel
theorem dX7_keep_10 : decode cX7_keep 10 = .ok (.iconst (-1), 1) := by decide +kernel
theorem dX7_keep_11 : decode cX7_keep 11 = .ok (.ireturn, 1) := by decide +kernel
theorem dX7_keep_12 : decode cX7_keep 12 = .ok (.aload_n 0, 1) := by decide +kernel
theorem dX7_keep_13 : decode cX7_keep 13 = .ok (.getfield 46, 3) := by decide +kernel
theorem dX7_keep_16 : decode cX7_keep 16 = .ok (.iload_n 1, 1) := by decide +kernel
theorem dX7_keep_17 : decode cX7_keep 17 = .ok (.iconst 1, 1) := by decide +kernel
theorem dX7_keep_18 : decode cX7_keep 18 = .ok (.bastore, 1) := by decide +kernel
theorem dX7_keep_19 : decode cX7_keep 19 = .ok (.iconst 0, 1) := by decide +kernel
theorem dX7_keep_20 : decode cX7_keep 20 = .ok (.istore_n 2, 1) := by decide +kernel
theorem dX7_keep_21 : decode cX7_keep 21 = .ok (.iload_n 2, 1) := by decide +kernel
theorem dX7_keep_22 : decode cX7_keep 22 = .ok (.bipush 23, 2) := by decide +kernel
theorem dX7_keep_24 : decode cX7_keep 24 = .ok (.if_icmp .ge 26, 3) := by decide +kernel
theorem dX7_keep_27 : decode cX7_keep 27 = .ok (.aload_n 0, 1) := by decide +kernel
theorem dX7_keep_28 : decode cX7_keep 28 = .ok (.getfield 50, 3) := by decide +kernel
theorem dX7_keep_31 : decode cX7_keep 31 = .ok (.bipush 23, 2) := by decide +kernel
theorem dX7_keep_33 : decode cX7_keep 33 = .ok (.iload_n 1, 1) := by decide +kernel
theorem dX7_keep_34 : decode cX7_keep 34 = .ok (.imul, 1) := by decide +kernel
theorem dX7_keep_35 : decode cX7_keep 35 = .ok (.iload_n 2, 1) := by decide +kernel
theorem dX7_keep_36 : decode cX7_keep 36 = .ok (.iadd, 1) := by decide +kernel
theorem dX7_keep_37 : decode cX7_keep 37 = .ok (.aload_n 0, 1) := by decide +kernel
theorem dX7_keep_38 : decode cX7_keep 38 = .ok (.getfield 25, 3) := by decide +kernel
theorem dX7_keep_41 : decode cX7_keep 41 = .ok (.iload_n 2, 1) := by decide +kernel
theorem dX7_keep_42 : decode cX7_keep 42 = .ok (.iaload, 1) := by decide +kernel
theorem dX7_keep_43 : decode cX7_keep 43 = .ok (.iastore, 1) := by decide +kernel
theorem dX7_keep_44 : decode cX7_keep 44 = .ok (.iinc 2 1, 3) := by decide +kernel
theorem dX7_keep_47 : decode cX7_keep 47 = .ok (.goto (-26), 3) := by decide +kernel
theorem dX7_keep_50 : decode cX7_keep 50 = .ok (.aload_n 0, 1) := by decide +kernel
theorem dX7_keep_51 : decode cX7_keep 51 = .ok (.getfield 25, 3) := by decide +kernel
theorem dX7_keep_54 : decode cX7_keep 54 = .ok (.bipush 22, 2) := by decide +kernel
theorem dX7_keep_56 : decode cX7_keep 56 = .ok (.iaload, 1) := by decide +kernel
theorem dX7_keep_57 : decode cX7_keep 57 = .ok (.ireturn, 1) := by decide +kernel
set_option maxRecDepth 20000 in
theorem ggX7_again_X7_in : GoodIn wsX7_again wsX7_in := goodIn_r _ [8] (by decide +kernel) (by decide +kernel)
set_option maxRecDepth 20000 in
theorem gX7_again_X7_in : GoodIn wsX7_again (va_wsS RX7 55 yX7_in wsX7_in) := goodIn_app (goodIn_of _ (by decide +kernel)) ggX7_again_X7_in
theorem dX7_again_0 : decode cX7_again 0 = .ok (.iload_n 1, 1) := by decide +kernel
theorem dX7_again_1 : decode cX7_again 1 = .ok (.i2l, 1) := by decide +kernel
theorem dX7_again_2 : decode cX7_again 2 = .ok (.lconst 0, 1) := by decide +kernel
theorem dX7_again_3 : decode cX7_again 3 = .ok (.lconst 1, 1) := by decide +kernel
theorem dX7_again_4 : decode cX7_again 4 = .ok (.invokestatic 55, 3) := by decide +kernel
theorem dX7_again_7 : decode cX7_again 7 = .ok (.ifCond .ne 5, 3) := by decide +kernel
theorem dX7_again_10 : decode cX7_again 10 = .ok (.iconst (-1), 1) := by decide +kernel
theorem dX7_again_11 : decode cX7_again 11 = .ok (.ireturn, 1) := by decide +kernel
theorem dX7_again_12 : decode cX7_again 12 = .ok (.aload_n 0, 1) := by decide +kernel
theorem dX7_again_13 : decode cX7_again 13 = .ok (.getfield 46, 3) := by decide +kernel
theorem dX7_again_16 : decode cX7_again 16 = .ok (.iload_n 1, 1) := by decide +kernel
theorem dX7_again_17 : decode cX7_again 17 = .ok (.baload, 1) := by decide +kernel
theorem dX7_again_18 : decode cX7_again 18 = .ok (.ifCond .ne 6, 3) := by decide +kernel
theorem dX7_again_21 : decode cX7_again 21 = .ok (.bipush (-3), 2) := by decide +kernel
theorem dX7_again_23 : decode cX7_again 23 = .ok (.ireturn, 1) := by decide +kernel
theorem dX7_again_24 : decode cX7_again 24 = .ok (.iconst 0, 1) := by decide +kernel
theorem dX7_again_25 : decode cX7_again 25 = .ok (.istore_n 2, 1) := by decide +kernel
theorem dX7_again_26 : decode cX7_again 26 = .ok (.iload_n 2, 1) := by decide +kernel
theorem dX7_again_27 : decode cX7_again 27 = .ok (.bipush 23, 2) := by decide +kernel
theorem dX7_again_29 : decode cX7_again 29 = .ok (.if_icmp .ge 26, 3) := by decide +kernel
theorem dX7_again_32 : decode cX7_again 32 = .ok (.aload_n 0, 1) := by decide +kernel
theorem dX7_again_33 : decode cX7_again 33 = .ok (.getfield 25, 3) := by decide +kernel
theorem dX7_again_36 : decode cX7_again 36 = .ok (.iload_n 2, 1) := by decide +kernel
theorem dX7_again_37 : decode cX7_again 37 = .ok (.aload_n 0, 1) := by decide +kernel
theorem dX7_again_38 : decode cX7_again 38 = .ok (.getfield 50, 3) := by decide +kernel
theorem dX7_again_41 : decode cX7_again 41 = .ok (.bipush 23, 2) := by decide +kernel
theorem dX7_again_43 : decode cX7_again 43 = .ok (.iload_n 1, 1) := by decide +kernel
theorem dX7_again_44 : decode cX7_again 44 = .ok (.imul, 1) := by decide +kernel
theorem dX7_again_45 : decode cX7_again 45 = .ok (.iload_n 2, 1) := by decide +kernel
theorem dX7_again_46 : decode cX7_again 46 = .ok (.iadd, 1) := by decide +kernel
theorem dX7_again_47 : decode cX7_again 47 = .ok (.iaload, 1) := by decide +kernel
theorem dX7_again_48 : decode cX7_again 48 = .ok (.iastore, 1) := by decide +kernel
theorem dX7_again_49 : decode cX7_again 49 = .ok (.iinc 2 1, 3) := by decide +kernel
theorem dX7_again_52 : decode cX7_again 52 = .ok (.goto (-26), 3) := by decide +kernel
theorem dX7_again_55 : decode cX7_again 55 = .ok (.aload_n 0, 1) := by decide +kernel
theorem dX7_again_56 : decode cX7_again 56 = .ok (.iconst 0, 1) := by decide +kernel
theorem dX7_again_57 : decode cX7_again 57 = .ok (.putfield 102, 3) := by decide +kernel
theorem dX7_again_60 : decode cX7_again 60 = .ok (.aload_n 0, 1) := by decide +kernel
theorem dX7_again_61 : decode cX7_again 61 = .ok (.getfield 25, 3) := by decide +kernel
theorem dX7_again_64 : decode cX7_again 64 = .ok (.bipush 22, 2) := by decide +kernel
theorem dX7_again_66 : decode cX7_again 66 = .ok (.iaload, 1) := by decide +kernel
theorem dX7_again_67 : decode cX7_again 67 = .ok (.ireturn, 1) := by decide +kernel
theorem dX7_atHome_0 : decode cX7_atHome 0 = .ok (.iconst 0, 1) := by decide +kernel
theorem dX7_atHome_1 : decode cX7_atHome 1 = .ok (.istore_n 1, 1) := by decide +kernel
theorem dX7_atHome_2 : decode cX7_atHome 2 = .ok (.iconst 0, 1) := by decide +kernel
theorem dX7_atHome_3 : decode cX7_atHome 3 = .ok (.istore_n 2, 1) := by decide +kernel
theorem dX7_atHome_4 : decode cX7_atHome 4 = .ok (.iload_n 2, 1) := by decide +kernel
theorem dX7_atHome_5 : decode cX7_atHome 5 = .ok (.aload_n 0, 1) := by decide +kernel
theorem dX7_atHome_6 : decode cX7_atHome 6 = .ok (.getfield 99, 3) := by decide +kernel
theorem dX7_atHome_9 : decode cX7_atHome 9 = .ok (.if_icmp .ge 37, 3) := by decide +kernel
theorem dX7_atHome_12 : decode cX7_atHome 12 = .ok (.iload_n 1, 1) := by decide +kernel
theorem dX7_atHome_13 : decode cX7_atHome 13 = .ok (.aload_n 0, 1) := by decide +kernel
theorem dX7_atHome_14 : decode cX7_atHome 14 = .ok (.getfield 25, 3) := by decide +kernel
theorem dX7_atHome_17 : decode cX7_atHome 17 = .ok (.bipush 12, 2) := by decide +kernel
theorem dX7_atHome_19 : decode cX7_atHome 19 = .ok (.iload_n 2, 1) := by decide +kernel
theorem dX7_atHome_20 : decode cX7_atHome 20 = .ok (.iadd, 1) := by decide +kernel
theorem dX7_atHome_21 : decode cX7_atHome 21 = .ok (.iaload, 1) := by decide +kernel
theorem dX7_atHome_22 : decode cX7_atHome 22 = .ok (.aload_n 0, 1) := by decide +kernel
theorem dX7_atHome_23 : decode cX7_atHome 23 = .ok (.getfield 16, 3) := by decide +kernel
theorem dX7_atHome_26 : decode cX7_atHome 26 = .ok (.iload_n 2, 1) := by decide +kernel
theorem dX7_atHome_27 : decode cX7_atHome 27 = .ok (.iaload, 1) := by decide +kernel
theorem dX7_atHome_28 : decode cX7_atHome 28 = .ok (.if_icmp .ne 9, 3) := by decide +kernel
theorem dX7_atHome_31 : decode cX7_atHome 31 = .ok (.iconst 1, 1) := by decide +kernel
theorem dX7_atHome_32 : decode cX7_atHome 32 = .ok (.iload_n 2, 1) := by decide +kernel
theorem dX7_atHome_33 : decode cX7_atHome 33 = .ok (.ishl, 1) := by decide +kernel
theorem dX7_atHome_34 : decode cX7_atHome 34 = .ok (.goto 4, 3) := by decide +kernel
theorem dX7_atHome_37 : decode cX7_atHome 37 = .ok (.iconst 0, 1) := by decide +kernel
theorem dX7_atHome_38 : decode cX7_atHome 38 = .ok (.ior, 1) := by decide +kernel
theorem dX7_atHome_39 : decode cX7_atHome 39 = .ok (.istore_n 1, 1) := by decide +kernel
theorem dX7_atHome_40 : decode cX7_atHome 40 = .ok (.iinc 2 1, 3) := by decide +kernel
theorem dX7_atHome_43 : decode cX7_atHome 43 = .ok (.goto (-39), 3) := by decide +kernel
theorem dX7_atHome_46 : decode cX7_atHome 46 = .ok (.iload_n 1, 1) := by decide +kernel
theorem dX7_atHome_47 : decode cX7_atHome 47 = .ok (.ireturn, 1) := by decide +kernel
set_option maxRecDepth 20000 in
theorem ggX7_count_X7_sumOf : GoodIn wsX7_count wsX7_sumOf := goodIn_r _ [11, 4, 17, 18, 19, 20, 21, 22, 23, 24, 25, 26, 27, 28, 29, 30, 31, 32, 33, 34, 35, 36, 37, 38, 39, 40, 41, 42] (by decide +kernel) (by decide +kernel)
set_option maxRecDepth 20000 in
theorem gX7_count_X7_sumOf : GoodIn wsX7_count (wsV RX7 227 RX7 yX7_sumOf wsX7_sumOf) := goodIn_app (goodIn_of _ (by decide +kernel)) ggX7_count_X7_sumOf
set_option maxRecDepth 20000 in
theorem ggX7_count_X7_atHome : GoodIn wsX7_count wsX7_atHome := goodIn_r _ [15, 3, 4, 16, 17, 18, 19, 20, 21, 22, 23, 24, 25, 26, 27, 28, 29, 30, 31, 32, 33, 34, 35, 36, 37, 38, 39, 40, 41, 42] (by decide +kernel) (by decide +kernel)
set_option maxRecDepth 20000 in
theorem gX7_count_X7_atHome : GoodIn wsX7_count (wsV RX7 230 RX7 yX7_atHome wsX7_atHome) := goodIn_app (goodIn_of _ (by decide +kernel)) ggX7_count_X7_atHome
theorem dX7_count_0 : decode cX7_count 0 = .ok (.iload_n 1, 1) := by decide +kernel
theorem dX7_count_1 : decode cX7_count 1 = .ok (.tableswitch 128 0 9 #[55, 60, 65, 70, 78, 90, 101, 113, 118, 123], 55) := by decide +kernel
theorem dX7_count_56 : decode cX7_count 56 = .ok (.aload_n 0, 1) := by decide +kernel
theorem dX7_count_57 : decode cX7_count 57 = .ok (.getfield 59, 3) := by decide +kernel
theorem dX7_count_60 : decode cX7_count 60 = .ok (.ireturn, 1) := by decide +kernel
theorem dX7_count_61 : decode cX7_count 61 = .ok (.aload_n 0, 1) := by decide +kernel
theorem dX7_count_62 : decode cX7_count 62 = .ok (.getfield 96, 3) := by decide +kernel
theorem dX7_count_65 : decode cX7_count 65 = .ok (.ireturn, 1) := by decide +kernel
theorem dX7_count_66 : decode cX7_count 66 = .ok (.aload_n 0, 1) := by decide +kernel
theorem dX7_count_67 : decode cX7_count 67 = .ok (.getfield 99, 3) := by decide +kernel
theorem dX7_count_70 : decode cX7_count 70 = .ok (.ireturn, 1) := by decide +kernel
theorem dX7_count_71 : decode cX7_count 71 = .ok (.aload_n 0, 1) := by decide +kernel
theorem dX7_count_72 : decode cX7_count 72 = .ok (.getfield 25, 3) := by decide +kernel
theorem dX7_count_75 : decode cX7_count 75 = .ok (.bipush 22, 2) := by decide +kernel
theorem dX7_count_77 : decode cX7_count 77 = .ok (.iaload, 1) := by decide +kernel
theorem dX7_count_78 : decode cX7_count 78 = .ok (.ireturn, 1) := by decide +kernel
theorem dX7_count_79 : decode cX7_count 79 = .ok (.aload_n 0, 1) := by decide +kernel
theorem dX7_count_80 : decode cX7_count 80 = .ok (.iconst 0, 1) := by decide +kernel
theorem dX7_count_81 : decode cX7_count 81 = .ok (.bipush 17, 2) := by decide +kernel
theorem dX7_count_83 : decode cX7_count 83 = .ok (.aload_n 0, 1) := by decide +kernel
theorem dX7_count_84 : decode cX7_count 84 = .ok (.getfield 99, 3) := by decide +kernel
theorem dX7_count_87 : decode cX7_count 87 = .ok (.invokevirtual 227, 3) := by decide +kernel
theorem dX7_count_90 : decode cX7_count 90 = .ok (.ireturn, 1) := by decide +kernel
theorem dX7_count_91 : decode cX7_count 91 = .ok (.aload_n 0, 1) := by decide +kernel
theorem dX7_count_92 : decode cX7_count 92 = .ok (.iconst 0, 1) := by decide +kernel
theorem dX7_count_93 : decode cX7_count 93 = .ok (.iconst 4, 1) := by decide +kernel
theorem dX7_count_94 : decode cX7_count 94 = .ok (.aload_n 0, 1) := by decide +kernel
theorem dX7_count_95 : decode cX7_count 95 = .ok (.getfield 96, 3) := by decide +kernel
theorem dX7_count_98 : decode cX7_count 98 = .ok (.invokevirtual 227, 3) := by decide +kernel
theorem dX7_count_101 : decode cX7_count 101 = .ok (.ireturn, 1) := by decide +kernel
theorem dX7_count_102 : decode cX7_count 102 = .ok (.aload_n 0, 1) := by decide +kernel
theorem dX7_count_103 : decode cX7_count 103 = .ok (.iconst 0, 1) := by decide +kernel
theorem dX7_count_104 : decode cX7_count 104 = .ok (.bipush 8, 2) := by decide +kernel
theorem dX7_count_106 : decode cX7_count 106 = .ok (.aload_n 0, 1) := by decide +kernel
theorem dX7_count_107 : decode cX7_count 107 = .ok (.getfield 96, 3) := by decide +kernel
theorem dX7_count_110 : decode cX7_count 110 = .ok (.invokevirtual 227, 3) := by decide +kernel
theorem dX7_count_113 : decode cX7_count 113 = .ok (.ireturn, 1) := by decide +kernel
theorem dX7_count_114 : decode cX7_count 114 = .ok (.aload_n 0, 1) := by decide +kernel
theorem dX7_count_115 : decode cX7_count 115 = .ok (.invokevirtual 230, 3) := by decide +kernel
theorem dX7_count_118 : decode cX7_count 118 = .ok (.ireturn, 1) := by decide +kernel
theorem dX7_count_119 : decode cX7_count 119 = .ok (.aload_n 0, 1) := by decide +kernel
theorem dX7_count_120 : decode cX7_count 120 = .ok (.getfield 102, 3) := by decide +kernel
theorem dX7_count_123 : decode cX7_count 123 = .ok (.ireturn, 1) := by decide +kernel
theorem dX7_count_124 : decode cX7_count 124 = .ok (.aload_n 0, 1) := by decide +kernel
theorem dX7_count_125 : decode cX7_count 125 = .ok (.getfield 184, 3) := by decide +kernel
theorem dX7_count_128 : decode cX7_count 128 = .ok (.ireturn, 1) := by decide +kernel
theorem dX7_count_129 : decode cX7_count 129 = .ok (.bipush (-2), 2) := by decide +kernel
theorem dX7_count_131 : decode cX7_count 131 = .ok (.ireturn, 1) := by decide +kernel
