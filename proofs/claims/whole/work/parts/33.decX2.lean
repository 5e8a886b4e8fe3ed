theorem dX2_init_0 : decode cX2_init 0 = .ok (.aload_n 0, 1) := by decide +kernel
theorem dX2_init_1 : decode cX2_init 1 = .ok (.invokespecial 3, 3) := by decide +kernel
theorem dX2_init_4 : decode cX2_init 4 = .ok (.aload_n 0, 1) := by decide +kernel
theorem dX2_init_5 : decode cX2_init 5 = .ok (.iconst 4, 1) := by decide +kernel
theorem dX2_init_6 : decode cX2_init 6 = .ok (.newarray .int, 2) := by decide +kernel
theorem dX2_init_8 : decode cX2_init 8 = .ok (.putfield 9, 3) := by decide +kernel
theorem dX2_init_11 : decode cX2_init 11 = .ok (.aload_n 0, 1) := by decide +kernel
theorem dX2_init_12 : decode cX2_init 12 = .ok (.iconst 4, 1) := by decide +kernel
theorem dX2_init_13 : decode cX2_init 13 = .ok (.newarray .int, 2) := by decide +kernel
theorem dX2_init_15 : decode cX2_init 15 = .ok (.putfield 15, 3) := by decide +kernel
theorem dX2_init_18 : decode cX2_init 18 = .ok (.aload_n 0, 1) := by decide +kernel
theorem dX2_init_19 : decode cX2_init 19 = .ok (.iconst 4, 1) := by decide +kernel
theorem dX2_init_20 : decode cX2_init 20 = .ok (.newarray .int, 2) := by decide +kernel
theorem dX2_init_22 : decode cX2_init 22 = .ok (.putfield 18, 3) := by decide +kernel
theorem dX2_init_25 : decode cX2_init 25 = .ok (.aload_n 0, 1) := by decide +kernel
theorem dX2_init_26 : decode cX2_init 26 = .ok (.iconst 5, 1) := by decide +kernel
theorem dX2_init_27 : decode cX2_init 27 = .ok (.newarray .int, 2) := by decide +kernel
theorem dX2_init_29 : decode cX2_init 29 = .ok (.putfield 21, 3) := by decide +kernel
theorem dX2_init_32 : decode cX2_init 32 = .ok (.aload_n 0, 1) := by decide +kernel
theorem dX2_init_33 : decode cX2_init 33 = .ok (.iconst 5, 1) := by decide +kernel
theorem dX2_init_34 : decode cX2_init 34 = .ok (.newarray .int, 2) := by decide +kernel
theorem dX2_init_36 : decode cX2_init 36 = .ok (.putfield 24, 3) := by decide +kernel
theorem dX2_init_39 : decode cX2_init 39 = .ok (.aload_n 0, 1) := by decide +kernel
theorem dX2_init_40 : decode cX2_init 40 = .ok (.iconst 5, 1) := by decide +kernel
theorem dX2_init_41 : decode cX2_init 41 = .ok (.newarray .int, 2) := by decide +kernel
theorem dX2_init_43 : decode cX2_init 43 = .ok (.putfield 27, 3) := by decide +kernel
theorem dX2_init_46 : decode cX2_init 46 = .ok (.aload_n 0, 1) := by decide +kernel
theorem dX2_init_47 : decode cX2_init 47 = .ok (.iconst 5, 1) := by decide +kernel
theorem dX2_init_48 : decode cX2_init 48 = .ok (.newarray .int, 2) := by decide +kernel
theorem dX2_init_50 : decode cX2_init 50 = .ok (.putfield 30, 3) := by decide +kernel
theorem dX2_init_53 : decode cX2_init 53 = .ok (.return_, 1) := by decide +kernel
set_option maxRecDepth 20000 in
theorem ggX2_readFrom_X5_letterAt : GoodIn wsX2_readFrom wsX5_letterAt := goodIn_r _ [7, 8, 9, 44, 45] (by decide +kernel) (by decide +kernel)
set_option maxRecDepth 20000 in
theorem gX2_readFrom_X5_letterAt : GoodIn wsX2_readFrom (wsV RX2 40 RX5 yX5_letterAt wsX5_letterAt) := goodIn_app (goodIn_of _ (by decide +kernel)) ggX2_readFrom_X5_letterAt
set_option maxRecDepth 20000 in
theorem ggX2_readFrom_X2_readLadder : GoodIn wsX2_readFrom wsX2_readLadder := goodIn_r _ [14, 1, 15, 16, 17, 18, 19, 20, 6, 21, 22, 4, 5, 7, 8, 9, 23, 24, 25, 13, 26, 35, 36, 37, 38, 39, 40, 41, 42, 43, 44, 45] (by decide +kernel) (by decide +kernel)
set_option maxRecDepth 20000 in
theorem gX2_readFrom_X2_readLadder : GoodIn wsX2_readFrom (wsV RX2 49 RX2 yX2_readLadder wsX2_readLadder) := goodIn_app (goodIn_of _ (by decide +kernel)) ggX2_readFrom_X2_readLadder
set_option maxRecDepth 20000 in
theorem ggX2_readFrom_X2_readPerson : GoodIn wsX2_readFrom wsX2_readPerson := goodIn_r _ [30, 2, 31, 32, 33, 34, 3, 4, 5, 6, 7, 8, 9, 18, 19, 20, 21, 22, 35, 36, 37, 38, 39, 40, 41, 42, 43, 44, 45] (by decide +kernel) (by decide +kernel)
set_option maxRecDepth 20000 in
theorem gX2_readFrom_X2_readPerson : GoodIn wsX2_readFrom (wsV RX2 53 RX2 yX2_readPerson wsX2_readPerson) := goodIn_app (goodIn_of _ (by decide +kernel)) ggX2_readFrom_X2_readPerson
theorem dX2_readFrom_0 : decode cX2_readFrom 0 = .ok (.aload_n 0, 1) := by decide +kernel
theorem dX2_readFrom_1 : decode cX2_readFrom 1 = .ok (.iconst 0, 1) := by decide +kernel
theorem dX2_readFrom_2 : decode cX2_readFrom 2 = .ok (.putfield 33, 3) := by decide +kernel
theorem dX2_readFrom_5 : decode cX2_readFrom 5 = .ok (.aload_n 0, 1) := by decide +kernel
theorem dX2_readFrom_6 : decode cX2_readFrom 6 = .ok (.iconst 0, 1) := by decide +kernel
theorem dX2_readFrom_7 : decode cX2_readFrom 7 = .ok (.putfield 37, 3) := by decide +kernel
theorem dX2_readFrom_10 : decode cX2_readFrom 10 = .ok (.aload_n 1, 1) := by decide +kernel
theorem dX2_readFrom_11 : decode cX2_readFrom 11 = .ok (.iconst 0, 1) := by decide +kernel
theorem dX2_readFrom_12 : decode cX2_readFrom 12 = .ok (.invokevirtual 40, 3) := by decide +kernel
theorem dX2_readFrom_15 : decode cX2_readFrom 15 = .ok (.bipush 77, 2) := by decide +kernel
theorem dX2_readFrom_17 : decode cX2_readFrom 17 = .ok (.if_icmp .eq 5, 3) := by decide +kernel
theorem dX2_readFrom_20 : decode cX2_readFrom 20 = .ok (.iconst 0, 1) := by decide +kernel
theorem dX2_readFrom_21 : decode cX2_readFrom 21 = .ok (.ireturn, 1) := by decide +kernel
theorem dX2_readFrom_22 : decode cX2_readFrom 22 = .ok (.iconst 1, 1) := by decide +kernel
theorem dX2_readFrom_23 : decode cX2_readFrom 23 = .ok (.istore_n 2, 1) := by decide +kernel
theorem dX2_readFrom_24 : decode cX2_readFrom 24 = .ok (.iconst 0, 1) := by decide +kernel
theorem dX2_readFrom_25 : decode cX2_readFrom 25 = .ok (.istore_n 3, 1) := by decide +kernel
theorem dX2_readFrom_26 : decode cX2_readFrom 26 = .ok (.iload_n 3, 1) := by decide +kernel
theorem dX2_readFrom_27 : decode cX2_readFrom 27 = .ok (.bipush 9, 2) := by decide +kernel
theorem dX2_readFrom_29 : decode cX2_readFrom 29 = .ok (.if_icmp .gt 79, 3) := by decide +kernel
theorem dX2_readFrom_32 : decode cX2_readFrom 32 = .ok (.iload_n 2, 1) := by decide +kernel
theorem dX2_readFrom_33 : decode cX2_readFrom 33 = .ok (.aload_n 1, 1) := by decide +kernel
theorem dX2_readFrom_34 : decode cX2_readFrom 34 = .ok (.getfield 46, 3) := by decide +kernel
theorem dX2_readFrom_37 : decode cX2_readFrom 37 = .ok (.if_icmp .ge 71, 3) := by decide +kernel
theorem dX2_readFrom_40 : decode cX2_readFrom 40 = .ok (.aload_n 1, 1) := by decide +kernel
theorem dX2_readFrom_41 : decode cX2_readFrom 41 = .ok (.iload_n 2, 1) := by decide +kernel
theorem dX2_readFrom_42 : decode cX2_readFrom 42 = .ok (.invokevirtual 40, 3) := by decide +kernel
theorem dX2_readFrom_45 : decode cX2_readFrom 45 = .ok (.bipush 76, 2) := by decide +kernel
theorem dX2_readFrom_47 : decode cX2_readFrom 47 = .ok (.if_icmp .ne 7, 3) := by decide +kernel
theorem dX2_readFrom_50 : decode cX2_readFrom 50 = .ok (.iconst 1, 1) := by decide +kernel
theorem dX2_readFrom_51 : decode cX2_readFrom 51 = .ok (.goto 4, 3) := by decide +kernel
theorem dX2_readFrom_54 : decode cX2_readFrom 54 = .ok (.iconst 0, 1) := by decide +kernel
theorem dX2_readFrom_55 : decode cX2_readFrom 55 = .ok (.istore 4, 2) := by decide +kernel
theorem dX2_readFrom_57 : decode cX2_readFrom 57 = .ok (.iload 4, 2) := by decide +kernel
theorem dX2_readFrom_59 : decode cX2_readFrom 59 = .ok (.ifCond .eq 12, 3) := by decide +kernel
theorem dX2_readFrom_62 : decode cX2_readFrom 62 = .ok (.aload_n 0, 1) := by decide +kernel
theorem dX2_readFrom_63 : decode cX2_readFrom 63 = .ok (.aload_n 1, 1) := by decide +kernel
theorem dX2_readFrom_64 : decode cX2_readFrom 64 = .ok (.iload_n 2, 1) := by decide +kernel
theorem dX2_readFrom_65 : decode cX2_readFrom 65 = .ok (.invokevirtual 49, 3) := by decide +kernel
theorem dX2_readFrom_68 : decode cX2_readFrom 68 = .ok (.goto 9, 3) := by decide +kernel
theorem dX2_readFrom_71 : decode cX2_readFrom 71 = .ok (.aload_n 0, 1) := by decide +kernel
theorem dX2_readFrom_72 : decode cX2_readFrom 72 = .ok (.aload_n 1, 1) := by decide +kernel
theorem dX2_readFrom_73 : decode cX2_readFrom 73 = .ok (.iload_n 2, 1) := by decide +kernel
theorem dX2_readFrom_74 : decode cX2_readFrom 74 = .ok (.invokevirtual 53, 3) := by decide +kernel
theorem dX2_readFrom_77 : decode cX2_readFrom 77 = .ok (.istore 5, 2) := by decide +kernel
theorem dX2_readFrom_79 : decode cX2_readFrom 79 = .ok (.iload 5, 2) := by decide +kernel
theorem dX2_readFrom_81 : decode cX2_readFrom 81 = .ok (.bipush (-9), 2) := by decide +kernel
theorem dX2_readFrom_83 : decode cX2_readFrom 83 = .ok (.if_icmp .eq 6, 3) := by decide +kernel
theorem dX2_readFrom_86 : decode cX2_readFrom 86 = .ok (.iload 5, 2) := by decide +kernel
theorem dX2_readFrom_88 : decode cX2_readFrom 88 = .ok (.ireturn, 1) := by decide +kernel
theorem dX2_readFrom_89 : decode cX2_readFrom 89 = .ok (.iload_n 2, 1) := by decide +kernel
theorem dX2_readFrom_90 : decode cX2_readFrom 90 = .ok (.iload 4, 2) := by decide +kernel
theorem dX2_readFrom_92 : decode cX2_readFrom 92 = .ok (.ifCond .eq 7, 3) := by decide +kernel
theorem dX2_readFrom_95 : decode cX2_readFrom 95 = .ok (.iconst 4, 1) := by decide +kernel
theorem dX2_readFrom_96 : decode cX2_readFrom 96 = .ok (.goto 4, 3) := by decide +kernel
theorem dX2_readFrom_99 : decode cX2_readFrom 99 = .ok (.iconst 5, 1) := by decide +kernel
theorem dX2_readFrom_100 : decode cX2_readFrom 100 = .ok (.iadd, 1) := by decide +kernel
theorem dX2_readFrom_101 : decode cX2_readFrom 101 = .ok (.istore_n 2, 1) := by decide +kernel
theorem dX2_readFrom_102 : decode cX2_readFrom 102 = .ok (.iinc 3 1, 3) := by decide +kernel
theorem dX2_readFrom_105 : decode cX2_readFrom 105 = .ok (.goto (-79), 3) := by decide +kernel
theorem dX2_readFrom_108 : decode cX2_readFrom 108 = .ok (.bipush (-9), 2) := by decide +kernel
theorem dX2_readFrom_110 : decode cX2_readFrom 110 = .ok (.ireturn, 1) := by decide +kernel
set_option maxRecDepth 20000 in
theorem ggX2_readLadder_X5_figureAt : GoodIn wsX2_readLadder wsX5_figureAt := goodIn_r _ [9, 10, 11, 12, 8, 13, 14, 15, 30, 31] (by decide +kernel) (by decide +kernel)
set_option maxRecDepth 20000 in
theorem gX2_readLadder_X5_figureAt : GoodIn wsX2_readLadder (wsV RX2 56 RX5 yX5_figureAt wsX5_figureAt) := goodIn_app (goodIn_of _ (by decide +kernel)) ggX2_readLadder_X5_figureAt
set_option maxRecDepth 20000 in
theorem ggX2_readLadder_X2_isTold : GoodIn wsX2_readLadder wsX2_isTold := goodIn_r _ [20, 1, 2, 21, 22, 23, 24, 25, 26, 27, 28, 29] (by decide +kernel) (by decide +kernel)
set_option maxRecDepth 20000 in
theorem gX2_readLadder_X2_isTold : GoodIn wsX2_readLadder (wsV RX2 59 RX2 yX2_isTold wsX2_isTold) := goodIn_app (goodIn_of _ (by decide +kernel)) ggX2_readLadder_X2_isTold
theorem dX2_readLadder_0 : decode cX2_readLadder 0 = .ok (.aload_n 0, 1) := by decide +kernel
theorem dX2_readLadder_1 : decode cX2_readLadder 1 = .ok (.getfield 33, 3) := by decide +kernel
theorem dX2_readLadder_4 : decode cX2_readLadder 4 = .ok (.iconst 4, 1) := by decide +kernel
theorem dX2_readLadder_5 : decode cX2_readLadder 5 = .ok (.if_icmp .lt 5, 3) := by decide +kernel
theorem dX2_readLadder_8 : decode cX2_readLadder 8 = .ok (.iload_n 2, 1) := by decide +kernel
theorem dX2_readLadder_9 : decode cX2_readLadder 9 = .ok (.ireturn, 1) := by decide +kernel
theorem dX2_readLadder_10 : decode cX2_readLadder 10 = .ok (.aload_n 1, 1) := by decide +kernel
theorem dX2_readLadder_11 : decode cX2_readLadder 11 = .ok (.iload_n 2, 1) := by decide +kernel
theorem dX2_readLadder_12 : decode cX2_readLadder 12 = .ok (.iconst 1, 1) := by decide +kernel
theorem dX2_readLadder_13 : decode cX2_readLadder 13 = .ok (.iadd, 1) := by decide +kernel
theorem dX2_readLadder_14 : decode cX2_readLadder 14 = .ok (.invokevirtual 56, 3) := by decide +kernel
theorem dX2_readLadder_17 : decode cX2_readLadder 17 = .ok (.istore_n 3, 1) := by decide +kernel
theorem dX2_readLadder_18 : decode cX2_readLadder 18 = .ok (.iload_n 3, 1) := by decide +kernel
theorem dX2_readLadder_19 : decode cX2_readLadder 19 = .ok (.ifCond .lt 11, 3) := by decide +kernel
theorem dX2_readLadder_22 : decode cX2_readLadder 22 = .ok (.aload_n 0, 1) := by decide +kernel
theorem dX2_readLadder_23 : decode cX2_readLadder 23 = .ok (.iload_n 3, 1) := by decide +kernel
theorem dX2_readLadder_24 : decode cX2_readLadder 24 = .ok (.invokevirtual 59, 3) := by decide +kernel
theorem dX2_readLadder_27 : decode cX2_readLadder 27 = .ok (.ifCond .eq 7, 3) := by decide +kernel
theorem dX2_readLadder_30 : decode cX2_readLadder 30 = .ok (.iload_n 2, 1) := by decide +kernel
theorem dX2_readLadder_31 : decode cX2_readLadder 31 = .ok (.iconst 1, 1) := by decide +kernel
theorem dX2_readLadder_32 : decode cX2_readLadder 32 = .ok (.iadd, 1) := by decide +kernel
theorem dX2_readLadder_33 : decode cX2_readLadder 33 = .ok (.ireturn, 1) := by decide +kernel
theorem dX2_readLadder_34 : decode cX2_readLadder 34 = .ok (.aload_n 1, 1) := by decide +kernel
theorem dX2_readLadder_35 : decode cX2_readLadder 35 = .ok (.iload_n 2, 1) := by decide +kernel
theorem dX2_readLadder_36 : decode cX2_readLadder 36 = .ok (.iconst 2, 1) := by decide +kernel
theorem dX2_readLadder_37 : decode cX2_readLadder 37 = .ok (.iadd, 1) := by decide +kernel
theorem dX2_readLadder_38 : decode cX2_readLadder 38 = .ok (.invokevirtual 56, 3) := by decide +kernel
theorem dX2_readLadder_41 : decode cX2_readLadder 41 = .ok (.istore 4, 2) := by decide +kernel
theorem dX2_readLadder_43 : decode cX2_readLadder 43 = .ok (.iload 4, 2) := by decide +kernel
theorem dX2_readLadder_45 : decode cX2_readLadder 45 = .ok (.iconst 1, 1) := by decide +kernel
theorem dX2_readLadder_46 : decode cX2_readLadder 46 = .ok (.if_icmp .ge 7, 3) := by decide +kernel
theorem dX2_readLadder_49 : decode cX2_readLadder 49 = .ok (.iload_n 2, 1) := by decide +kernel
theorem dX2_readLadder_50 : decode cX2_readLadder 50 = .ok (.iconst 2, 1) := by decide +kernel
theorem dX2_readLadder_51 : decode cX2_readLadder 51 = .ok (.iadd, 1) := by decide +kernel
theorem dX2_readLadder_52 : decode cX2_readLadder 52 = .ok (.ireturn, 1) := by decide +kernel
theorem dX2_readLadder_53 : decode cX2_readLadder 53 = .ok (.aload_n 1, 1) := by decide +kernel
theorem dX2_readLadder_54 : decode cX2_readLadder 54 = .ok (.iload_n 2, 1) := by decide +kernel
theorem dX2_readLadder_55 : decode cX2_readLadder 55 = .ok (.iconst 3, 1) := by decide +kernel
theorem dX2_readLadder_56 : decode cX2_readLadder 56 = .ok (.iadd, 1) := by decide +kernel
theorem dX2_readLadder_57 : decode cX2_readLadder 57 = .ok (.invokevirtual 56, 3) := by decide +kernel
theorem dX2_readLadder_60 : decode cX2_readLadder 60 = .ok (.istore 5, 2) := by decide +kernel
theorem dX2_readLadder_62 : decode cX2_readLadder 62 = .ok (.iload 5, 2) := by decide +kernel
theorem dX2_readLadder_64 : decode cX2_readLadder 64 = .ok (.ifCond .lt 9, 3) := by decide +kernel
theorem dX2_readLadder_67 : decode cX2_readLadder 67 = .ok (.iload 5, 2) := by decide +kernel
theorem dX2_readLadder_69 : decode cX2_readLadder 69 = .ok (.iconst 3, 1) := by decide +kernel
theorem dX2_readLadder_70 : decode cX2_readLadder 70 = .ok (.if_icmp .le 7, 3) := by decide +kernel
theorem dX2_readLadder_73 : decode cX2_readLadder 73 = .ok (.iload_n 2, 1) := by decide +kernel
theorem dX2_readLadder_74 : decode cX2_readLadder 74 = .ok (.iconst 3, 1) := by decide +kernel
theorem dX2_readLadder_75 : decode cX2_readLadder 75 = .ok (.iadd, 1) := by decide +kernel
theorem dX2_readLadder_76 : decode cX2_readLadder 76 = .ok (.ireturn, 1) := by decide +kernel
theorem dX2_readLadder_77 : decode cX2_readLadder 77 = .ok (.aload_n 0, 1) := by decide +kernel
theorem dX2_readLadder_78 : decode cX2_readLadder 78 = .ok (.getfield 9, 3) := by decide +kernel
theorem dX2_readLadder_81 : decode cX2_readLadder 81 = .ok (.aload_n 0, 1) := by decide +kernel
theorem dX2_readLadder_82 : decode cX2_readLadder 82 = .ok (.getfield 33, 3) := by decide +kernel
theorem dX2_readLadder_85 : decode cX2_readLadder 85 = .ok (.iload_n 3, 1) := by decide +kernel
theorem dX2_readLadder_86 : decode cX2_readLadder 86 = .ok (.iastore, 1) := by decide +kernel
theorem dX2_readLadder_87 : decode cX2_readLadder 87 = .ok (.aload_n 0, 1) := by decide +kernel
theorem dX2_readLadder_88 : decode cX2_readLadder 88 = .ok (.getfield 15, 3) := by decide +kernel
theorem dX2_readLadder_91 : decode cX2_readLadder 91 = .ok (.aload_n 0, 1) := by decide +kernel
theorem dX2_readLadder_92 : decode cX2_readLadder 92 = .ok (.getfield 33, 3) := by decide +kernel
theorem dX2_readLadder_95 : decode cX2_readLadder 95 = .ok (.iload 4, 2) := by decide +kernel
theorem dX2_readLadder_97 : decode cX2_readLadder 97 = .ok (.iastore, 1) := by decide +kernel
theorem dX2_readLadder_98 : decode cX2_readLadder 98 = .ok (.aload_n 0, 1) := by decide +kernel
theorem dX2_readLadder_99 : decode cX2_readLadder 99 = .ok (.getfield 18, 3) := by decide +kernel
theorem dX2_readLadder_102 : decode cX2_readLadder 102 = .ok (.aload_n 0, 1) := by decide +kernel
theorem dX2_readLadder_103 : decode cX2_readLadder 103 = .ok (.getfield 33, 3) := by decide +kernel
theorem dX2_readLadder_106 : decode cX2_readLadder 106 = .ok (.iload 5, 2) := by decide +kernel
theorem dX2_readLadder_108 : decode cX2_readLadder 108 = .ok (.iastore, 1) := by decide +kernel
theorem dX2_readLadder_109 : decode cX2_readLadder 109 = .ok (.aload_n 0, 1) := by decide +kernel
theorem dX2_readLadder_110 : decode cX2_readLadder 110 = .ok (.dup, 1) := by decide +kernel
theorem dX2_readLadder_111 : decode cX2_readLadder 111 = .ok (.getfield 33, 3) := by decide +kernel
theorem dX2_readLadder_114 : decode cX2_readLadder 114 = .ok (.iconst 1, 1) := by decide +kernel
theorem dX2_readLadder_115 : decode cX2_readLadder 115 = .ok (.iadd, 1) := by decide +kernel
theorem dX2_readLadder_116 : decode cX2_readLadder 116 = .ok (.putfield 33, 3) := by decide +kernel
theorem dX2_readLadder_119 : decode cX2_readLadder 119 = .ok (.bipush (-9), 2) := by decide +kernel
theorem dX2_readLadder_121 : decode cX2_readLadder 121 = .ok (.ireturn, 1) := by decide +kernel
set_option maxRecDepth 20000 in
theorem ggX2_readPerson_X5_letterAt : GoodIn wsX2_readPerson wsX5_letterAt := goodIn_r _ [10, 11, 12, 27, 28] (by decide +kernel) (by decide +kernel)
set_option maxRecDepth 20000 in
theorem gX2_readPerson_X5_letterAt : GoodIn wsX2_readPerson (wsV RX2 40 RX5 yX5_letterAt wsX5_letterAt) := goodIn_app (goodIn_of _ (by decide +kernel)) ggX2_readPerson_X5_letterAt
set_option maxRecDepth 20000 in
theorem ggX2_readPerson_X5_figureAt : GoodIn wsX2_readPerson wsX5_figureAt := goodIn_r _ [16, 17, 7, 8, 9, 10, 11, 12, 27, 28] (by decide +kernel) (by decide +kernel)
set_option maxRecDepth 20000 in
theorem gX2_readPerson_X5_figureAt : GoodIn wsX2_readPerson (wsV RX2 56 RX5 yX5_figureAt wsX5_figureAt) := goodIn_app (goodIn_of _ (by decide +kernel)) ggX2_readPerson_X5_figureAt
theorem dX2_readPerson_0 : decode cX2_readPerson 0 = .ok (.aload_n 1, 1) := by decide +kernel
theorem dX2_readPerson_1 : decode cX2_readPerson 1 = .ok (.iload_n 2, 1) := by decide +kernel
theorem dX2_readPerson_2 : decode cX2_readPerson 2 = .ok (.invokevirtual 40, 3) := by decide +kernel
theorem dX2_readPerson_5 : decode cX2_readPerson 5 = .ok (.bipush 80, 2) := by decide +kernel
theorem dX2_readPerson_7 : decode cX2_readPerson 7 = .ok (.if_icmp .ne 11, 3) := by decide +kernel
theorem dX2_readPerson_10 : decode cX2_readPerson 10 = .ok (.aload_n 0, 1) := by decide +kernel
theorem dX2_readPerson_11 : decode cX2_readPerson 11 = .ok (.getfield 37, 3) := by decide +kernel
theorem dX2_readPerson_14 : decode cX2_readPerson 14 = .ok (.iconst 5, 1) := by decide +kernel
theorem dX2_readPerson_15 : decode cX2_readPerson 15 = .ok (.if_icmp .lt 5, 3) := by decide +kernel
theorem dX2_readPerson_18 : decode cX2_readPerson 18 = .ok (.iload_n 2, 1) := by decide +kernel
theorem dX2_readPerson_19 : decode cX2_readPerson 19 = .ok (.ireturn, 1) := by decide +kernel
theorem dX2_readPerson_20 : decode cX2_readPerson 20 = .ok (.aload_n 1, 1) := by decide +kernel
theorem dX2_readPerson_21 : decode cX2_readPerson 21 = .ok (.iload_n 2, 1) := by decide +kernel
theorem dX2_readPerson_22 : decode cX2_readPerson 22 = .ok (.iconst 1, 1) := by decide +kernel
theorem dX2_readPerson_23 : decode cX2_readPerson 23 = .ok (.iadd, 1) := by decide +kernel
theorem dX2_readPerson_24 : decode cX2_readPerson 24 = .ok (.invokevirtual 56, 3) := by decide +kernel
theorem dX2_readPerson_27 : decode cX2_readPerson 27 = .ok (.istore_n 3, 1) := by decide +kernel
theorem dX2_readPerson_28 : decode cX2_readPerson 28 = .ok (.iload_n 3, 1) := by decide +kernel
theorem dX2_readPerson_29 : decode cX2_readPerson 29 = .ok (.ifCond .ge 7, 3) := by decide +kernel
theorem dX2_readPerson_32 : decode cX2_readPerson 32 = .ok (.iload_n 2, 1) := by decide +kernel
theorem dX2_readPerson_33 : decode cX2_readPerson 33 = .ok (.iconst 1, 1) := by decide +kernel
theorem dX2_readPerson_34 : decode cX2_readPerson 34 = .ok (.iadd, 1) := by decide +kernel
theorem dX2_readPerson_35 : decode cX2_readPerson 35 = .ok (.ireturn, 1) := by decide +kernel
theorem dX2_readPerson_36 : decode cX2_readPerson 36 = .ok (.aload_n 1, 1) := by decide +kernel
theorem dX2_readPerson_37 : decode cX2_readPerson 37 = .ok (.iload_n 2, 1) := by decide +kernel
theorem dX2_readPerson_38 : decode cX2_readPerson 38 = .ok (.iconst 2, 1) := by decide +kernel
theorem dX2_readPerson_39 : decode cX2_readPerson 39 = .ok (.iadd, 1) := by decide +kernel
theorem dX2_readPerson_40 : decode cX2_readPerson 40 = .ok (.invokevirtual 56, 3) := by decide +kernel
theorem dX2_readPerson_43 : decode cX2_readPerson 43 = .ok (.istore 4, 2) := by decide +kernel
theorem dX2_readPerson_45 : decode cX2_readPerson 45 = .ok (.iload 4, 2) := by decide +kernel
theorem dX2_readPerson_47 : decode cX2_readPerson 47 = .ok (.ifCond .lt 9, 3) := by decide +kernel
theorem dX2_readPerson_50 : decode cX2_readPerson 50 = .ok (.iload 4, 2) := by decide +kernel
theorem dX2_readPerson_52 : decode cX2_readPerson 52 = .ok (.iload_n 3, 1) := by decide +kernel
theorem dX2_readPerson_53 : decode cX2_readPerson 53 = .ok (.if_icmp .ne 7, 3) := by decide +kernel
theorem dX2_readPerson_56 : decode cX2_readPerson 56 = .ok (.iload_n 2, 1) := by decide +kernel
theorem dX2_readPerson_57 : decode cX2_readPerson 57 = .ok (.iconst 2, 1) := by decide +kernel
theorem dX2_readPerson_58 : decode cX2_readPerson 58 = .ok (.iadd, 1) := by decide +kernel
theorem dX2_readPerson_59 : decode cX2_readPerson 59 = .ok (.ireturn, 1) := by decide +kernel
theorem dX2_readPerson_60 : decode cX2_readPerson 60 = .ok (.aload_n 1, 1) := by decide +kernel
theorem dX2_readPerson_61 : decode cX2_readPerson 61 = .ok (.iload_n 2, 1) := by decide +kernel
theorem dX2_readPerson_62 : decode cX2_readPerson 62 = .ok (.iconst 3, 1) := by decide +kernel
theorem dX2_readPerson_63 : decode cX2_readPerson 63 = .ok (.iadd, 1) := by decide +kernel
theorem dX2_readPerson_64 : decode cX2_readPerson 64 = .ok (.invokevirtual 56, 3) := by decide +kernel
theorem dX2_readPerson_67 : decode cX2_readPerson 67 = .ok (.istore 5, 2) := by decide +kernel
theorem dX2_readPerson_69 : decode cX2_readPerson 69 = .ok (.iload 5, 2) := by decide +kernel
theorem dX2_readPerson_71 : decode cX2_readPerson 71 = .ok (.ifCond .ge 7, 3) := by decide +kernel
theorem dX2_readPerson_74 : decode cX2_readPerson 74 = .ok (.iload_n 2, 1) := by decide +kernel
theorem dX2_readPerson_75 : decode cX2_readPerson 75 = .ok (.iconst 3, 1) := by decide +kernel
theorem dX2_readPerson_76 : decode cX2_readPerson 76 = .ok (.iadd, 1) := by decide +kernel
theorem dX2_readPerson_77 : decode cX2_readPerson 77 = .ok (.ireturn, 1) := by decide +kernel
theorem dX2_readPerson_78 : decode cX2_readPerson 78 = .ok (.aload_n 1, 1) := by decide +kernel
theorem dX2_readPerson_79 : decode cX2_readPerson 79 = .ok (.iload_n 2, 1) := by decide +kernel
theorem dX2_readPerson_80 : decode cX2_readPerson 80 = .ok (.iconst 4, 1) := by decide +kernel
theorem dX2_readPerson_81 : decode cX2_readPerson 81 = .ok (.iadd, 1) := by decide +kernel
theorem dX2_readPerson_82 : decode cX2_readPerson 82 = .ok (.invokevirtual 56, 3) := by decide +kernel
theorem dX2_readPerson_85 : decode cX2_readPerson 85 = .ok (.istore 6, 2) := by decide +kernel
theorem dX2_readPerson_87 : decode cX2_readPerson 87 = .ok (.iload 6, 2) := by decide +kernel
theorem dX2_readPerson_89 : decode cX2_readPerson 89 = .ok (.ifCond .lt 9, 3) := by decide +kernel
theorem dX2_readPerson_92 : decode cX2_readPerson 92 = .ok (.iload 6, 2) := by decide +kernel
theorem dX2_readPerson_94 : decode cX2_readPerson 94 = .ok (.iconst 3, 1) := by decide +kernel
theorem dX2_readPerson_95 : decode cX2_readPerson 95 = .ok (.if_icmp .le 7, 3) := by decide +kernel
theorem dX2_readPerson_98 : decode cX2_readPerson 98 = .ok (.iload_n 2, 1) := by decide +kernel
theorem dX2_readPerson_99 : decode cX2_readPerson 99 = .ok (.iconst 4, 1) := by decide +kernel
theorem dX2_readPerson_100 : decode cX2_readPerson 100 = .ok (.iadd, 1) := by decide +kernel
theorem dX2_readPerson_101 : decode cX2_readPerson 101 = .ok (.ireturn, 1) := by decide +kernel
theorem dX2_readPerson_102 : decode cX2_readPerson 102 = .ok (.aload_n 0, 1) := by decide +kernel
theorem dX2_readPerson_103 : decode cX2_readPerson 103 = .ok (.getfield 21, 3) := by decide +kernel
theorem dX2_readPerson_106 : decode cX2_readPerson 106 = .ok (.aload_n 0, 1) := by decide +kernel
theorem dX2_readPerson_107 : decode cX2_readPerson 107 = .ok (.getfield 37, 3) := by decide +kernel
theorem dX2_readPerson_110 : decode cX2_readPerson 110 = .ok (.iload_n 3, 1) := by decide +kernel
theorem dX2_readPerson_111 : decode cX2_readPerson 111 = .ok (.iastore, 1) := by decide +kernel
theorem dX2_readPerson_112 : decode cX2_readPerson 112 = .ok (.aload_n 0, 1) := by decide +kernel
theorem dX2_readPerson_113 : decode cX2_readPerson 113 = .ok (.getfield 24, 3) := by decide +kernel
theorem dX2_readPerson_116 : decode cX2_readPerson 116 = .ok (.aload_n 0, 1) := by decide +kernel
theorem dX2_readPerson_117 : decode cX2_readPerson 117 = .ok (.getfield 37, 3) := by decide +kernel
theorem dX2_readPerson_120 : decode cX2_readPerson 120 = .ok (.iload 4, 2) := by decide +kernel
theorem dX2_readPerson_122 : decode cX2_readPerson 122 = .ok (.iastore, 1) := by decide +kernel
theorem dX2_readPerson_123 : decode cX2_readPerson 123 = .ok (.aload_n 0, 1) := by decide +kernel
theorem dX2_readPerson_124 : decode cX2_readPerson 124 = .ok (.getfield 27, 3) := by decide +kernel
theorem dX2_readPerson_127 : decode cX2_readPerson 127 = .ok (.aload_n 0, 1) := by decide +kernel
theorem dX2_readPerson_128 : decode cX2_readPerson 128 = .ok (.getfield 37, 3) := by decide +kernel
theorem dX2_readPerson_131 : decode cX2_readPerson 131 = .ok (.iload 5, 2) := by decide +kernel
theorem dX2_readPerson_133 : decode cX2_readPerson 133 = .ok (.iastore, 1) := by decide +kernel
theorem dX2_readPerson_134 : decode cX2_readPerson 134 = .ok (.aload_n 0, 1) := by decide +kernel
theorem dX2_readPerson_135 : decode cX2_readPerson 135 = .ok (.getfield 30, 3) := by decide +kernel
theorem dX2_readPerson_138 : decode cX2_readPerson 138 = .ok (.aload_n 0, 1) := by decide +kernel
theorem dX2_readPerson_139 : decode cX2_readPerson 139 = .ok (.getfield 37, 3) := by decide +kernel
theorem dX2_readPerson_142 : decode cX2_readPerson 142 = .ok (.iload 6, 2) := by decide +kernel
theorem dX2_readPerson_144 : decode cX2_readPerson 144 = .ok (.iastore, 1) := by decide +kernel
theorem dX2_readPerson_145 : decode cX2_readPerson 145 = .ok (.aload_n 0, 1) := by decide +kernel
theorem dX2_readPerson_146 : decode cX2_readPerson 146 = .ok (.dup, 1) := by decide +kernel
theorem dX2_readPerson_147 : decode cX2_readPerson 147 = .ok (.getfield 37, 3) := by decide +kernel
theorem dX2_readPerson_150 : decode cX2_readPerson 150 = .ok (.iconst 1, 1) := by decide +kernel
theorem dX2_readPerson_151 : decode cX2_readPerson 151 = .ok (.iadd, 1) := by decide +kernel
theorem dX2_readPerson_152 : decode cX2_readPerson 152 = .ok (.putfield 37, 3) := by decide +kernel
theorem dX2_readPerson_155 : decode cX2_readPerson 155 = .ok (.bipush (-9), 2) := by decide +kernel
theorem dX2_readPerson_157 : decode cX2_readPerson 157 = .ok (.ireturn, 1) := by decide +kernel
theorem dX2_isTold_0 : decode cX2_isTold 0 = .ok (.iconst 0, 1) := by decide +kernel
theorem dX2_isTold_1 : decode cX2_isTold 1 = .ok (.istore_n 2, 1) := by decide +kernel
theorem dX2_isTold_2 : decode cX2_isTold 2 = .ok (.iload_n 2, 1) := by decide +kernel
theorem dX2_isTold_3 : decode cX2_isTold 3 = .ok (.aload_n 0, 1) := by decide +kernel
theorem dX2_isTold_4 : decode cX2_isTold 4 = .ok (.getfield 33, 3) := by decide +kernel
theorem dX2_isTold_7 : decode cX2_isTold 7 = .ok (.if_icmp .ge 21, 3) := by decide +kernel
theorem dX2_isTold_10 : decode cX2_isTold 10 = .ok (.aload_n 0, 1) := by decide +kernel
theorem dX2_isTold_11 : decode cX2_isTold 11 = .ok (.getfield 9, 3) := by decide +kernel
theorem dX2_isTold_14 : decode cX2_isTold 14 = .ok (.iload_n 2, 1) := by decide +kernel
theorem dX2_isTold_15 : decode cX2_isTold 15 = .ok (.iaload, 1) := by decide +kernel
theorem dX2_isTold_16 : decode cX2_isTold 16 = .ok (.iload_n 1, 1) := by decide +kernel
theorem dX2_isTold_17 : decode cX2_isTold 17 = .ok (.if_icmp .ne 5, 3) := by decide +kernel
theorem dX2_isTold_20 : decode cX2_isTold 20 = .ok (.iconst 1, 1) := by decide +kernel
theorem dX2_isTold_21 : decode cX2_isTold 21 = .ok (.ireturn, 1) := by decide +kernel
theorem dX2_isTold_22 : decode cX2_isTold 22 = .ok (.iinc 2 1, 3) := by decide +kernel
theorem dX2_isTold_25 : decode cX2_isTold 25 = .ok (.goto (-23), 3) := by decide +kernel
theorem dX2_isTold_28 : decode cX2_isTold 28 = .ok (.iconst 0, 1) := by decide +kernel
theorem dX2_isTold_29 : decode cX2_isTold 29 = .ok (.ireturn, 1) := by decide +kernel
