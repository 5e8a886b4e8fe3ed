theorem dX4_init_0 : decode cX4_init 0 = .ok (.aload_n 0, 1) := by decide +kernel
theorem dX4_init_1 : decode cX4_init 1 = .ok (.invokespecial 3, 3) := by decide +kernel
theorem dX4_init_4 : decode cX4_init 4 = .ok (.aload_n 0, 1) := by decide +kernel
theorem dX4_init_5 : decode cX4_init 5 = .ok (.aload_n 1, 1) := by decide +kernel
theorem dX4_init_6 : decode cX4_init 6 = .ok (.putfield 9, 3) := by decide +kernel
theorem dX4_init_9 : decode cX4_init 9 = .ok (.aload_n 0, 1) := by decide +kernel
theorem dX4_init_10 : decode cX4_init 10 = .ok (.iconst 4, 1) := by decide +kernel
theorem dX4_init_11 : decode cX4_init 11 = .ok (.newarray .int, 2) := by decide +kernel
theorem dX4_init_13 : decode cX4_init 13 = .ok (.putfield 15, 3) := by decide +kernel
theorem dX4_init_16 : decode cX4_init 16 = .ok (.aload_n 0, 1) := by decide +kernel
theorem dX4_init_17 : decode cX4_init 17 = .ok (.bipush 10, 2) := by decide +kernel
theorem dX4_init_19 : decode cX4_init 19 = .ok (.newarray .int, 2) := by decide +kernel
theorem dX4_init_21 : decode cX4_init 21 = .ok (.putfield 19, 3) := by decide +kernel
theorem dX4_init_24 : decode cX4_init 24 = .ok (.aload_n 0, 1) := by decide +kernel
theorem dX4_init_25 : decode cX4_init 25 = .ok (.iconst 4, 1) := by decide +kernel
theorem dX4_init_26 : decode cX4_init 26 = .ok (.newarray .int, 2) := by decide +kernel
theorem dX4_init_28 : decode cX4_init 28 = .ok (.putfield 22, 3) := by decide +kernel
theorem dX4_init_31 : decode cX4_init 31 = .ok (.aload_n 0, 1) := by decide +kernel
theorem dX4_init_32 : decode cX4_init 32 = .ok (.iconst 4, 1) := by decide +kernel
theorem dX4_init_33 : decode cX4_init 33 = .ok (.newarray .int, 2) := by decide +kernel
theorem dX4_init_35 : decode cX4_init 35 = .ok (.putfield 25, 3) := by decide +kernel
theorem dX4_init_38 : decode cX4_init 38 = .ok (.aload_n 0, 1) := by decide +kernel
theorem dX4_init_39 : decode cX4_init 39 = .ok (.iconst 5, 1) := by decide +kernel
theorem dX4_init_40 : decode cX4_init 40 = .ok (.newarray .int, 2) := by decide +kernel
theorem dX4_init_42 : decode cX4_init 42 = .ok (.putfield 28, 3) := by decide +kernel
theorem dX4_init_45 : decode cX4_init 45 = .ok (.aload_n 0, 1) := by decide +kernel
theorem dX4_init_46 : decode cX4_init 46 = .ok (.iconst 5, 1) := by decide +kernel
theorem dX4_init_47 : decode cX4_init 47 = .ok (.newarray .int, 2) := by decide +kernel
theorem dX4_init_49 : decode cX4_init 49 = .ok (.putfield 31, 3) := by decide +kernel
theorem dX4_init_52 : decode cX4_init 52 = .ok (.iconst 0, 1) := by decide +kernel
theorem dX4_init_53 : decode cX4_init 53 = .ok (.istore_n 2, 1) := by decide +kernel
theorem dX4_init_54 : decode cX4_init 54 = .ok (.iload_n 2, 1) := by decide +kernel
theorem dX4_init_55 : decode cX4_init 55 = .ok (.bipush 10, 2) := by decide +kernel
theorem dX4_init_57 : decode cX4_init 57 = .ok (.if_icmp .ge 17, 3) := by decide +kernel
theorem dX4_init_60 : decode cX4_init 60 = .ok (.aload_n 0, 1) := by decide +kernel
theorem dX4_init_61 : decode cX4_init 61 = .ok (.getfield 19, 3) := by decide +kernel
theorem dX4_init_64 : decode cX4_init 64 = .ok (.iload_n 2, 1) := by decide +kernel
theorem dX4_init_65 : decode cX4_init 65 = .ok (.bipush (-9), 2) := by decide +kernel
theorem dX4_init_67 : decode cX4_init 67 = .ok (.iastore, 1) := by decide +kernel
theorem dX4_init_68 : decode cX4_init 68 = .ok (.iinc 2 1, 3) := by decide +kernel
theorem dX4_init_71 : decode cX4_init 71 = .ok (.goto (-17), 3) := by decide +kernel
theorem dX4_init_74 : decode cX4_init 74 = .ok (.return_, 1) := by decide +kernel
set_option maxRecDepth 20000 in
theorem ggX4_begin_X4_mark : GoodIn wsX4_begin wsX4_mark := goodIn_r _ [11, 1, 12, 13, 14, 21, 22, 23, 24, 25, 26, 27, 28] (by decide +kernel) (by decide +kernel)
set_option maxRecDepth 20000 in
theorem gX4_begin_X4_mark : GoodIn wsX4_begin (wsV RX4 43 RX4 yX4_mark wsX4_mark) := goodIn_app (goodIn_of _ (by decide +kernel)) ggX4_begin_X4_mark
set_option maxRecDepth 20000 in
theorem ggX4_begin_X4_changeMan : GoodIn wsX4_begin wsX4_changeMan := goodIn_r _ [18, 19, 20, 21, 22, 23, 24, 25, 26, 27, 28] (by decide +kernel) (by decide +kernel)
set_option maxRecDepth 20000 in
theorem gX4_begin_X4_changeMan : GoodIn wsX4_begin (wsV RX4 47 RX4 yX4_changeMan wsX4_changeMan) := goodIn_app (goodIn_of _ (by decide +kernel)) ggX4_begin_X4_changeMan
theorem dX4_begin_0 : decode cX4_begin 0 = .ok (.iconst 0, 1) := by decide +kernel
theorem dX4_begin_1 : decode cX4_begin 1 = .ok (.istore_n 1, 1) := by decide +kernel
theorem dX4_begin_2 : decode cX4_begin 2 = .ok (.iload_n 1, 1) := by decide +kernel
theorem dX4_begin_3 : decode cX4_begin 3 = .ok (.bipush 10, 2) := by decide +kernel
theorem dX4_begin_5 : decode cX4_begin 5 = .ok (.if_icmp .ge 17, 3) := by decide +kernel
theorem dX4_begin_8 : decode cX4_begin 8 = .ok (.aload_n 0, 1) := by decide +kernel
theorem dX4_begin_9 : decode cX4_begin 9 = .ok (.getfield 19, 3) := by decide +kernel
theorem dX4_begin_12 : decode cX4_begin 12 = .ok (.iload_n 1, 1) := by decide +kernel
theorem dX4_begin_13 : decode cX4_begin 13 = .ok (.bipush (-9), 2) := by decide +kernel
theorem dX4_begin_15 : decode cX4_begin 15 = .ok (.iastore, 1) := by decide +kernel
theorem dX4_begin_16 : decode cX4_begin 16 = .ok (.iinc 1 1, 3) := by decide +kernel
theorem dX4_begin_19 : decode cX4_begin 19 = .ok (.goto (-17), 3) := by decide +kernel
theorem dX4_begin_22 : decode cX4_begin 22 = .ok (.iconst 0, 1) := by decide +kernel
theorem dX4_begin_23 : decode cX4_begin 23 = .ok (.istore_n 1, 1) := by decide +kernel
theorem dX4_begin_24 : decode cX4_begin 24 = .ok (.iload_n 1, 1) := by decide +kernel
theorem dX4_begin_25 : decode cX4_begin 25 = .ok (.aload_n 0, 1) := by decide +kernel
theorem dX4_begin_26 : decode cX4_begin 26 = .ok (.getfield 9, 3) := by decide +kernel
theorem dX4_begin_29 : decode cX4_begin 29 = .ok (.getfield 34, 3) := by decide +kernel
theorem dX4_begin_32 : decode cX4_begin 32 = .ok (.if_icmp .ge 40, 3) := by decide +kernel
theorem dX4_begin_35 : decode cX4_begin 35 = .ok (.aload_n 0, 1) := by decide +kernel
theorem dX4_begin_36 : decode cX4_begin 36 = .ok (.getfield 15, 3) := by decide +kernel
theorem dX4_begin_39 : decode cX4_begin 39 = .ok (.iload_n 1, 1) := by decide +kernel
theorem dX4_begin_40 : decode cX4_begin 40 = .ok (.aload_n 0, 1) := by decide +kernel
theorem dX4_begin_41 : decode cX4_begin 41 = .ok (.getfield 9, 3) := by decide +kernel
theorem dX4_begin_44 : decode cX4_begin 44 = .ok (.getfield 40, 3) := by decide +kernel
theorem dX4_begin_47 : decode cX4_begin 47 = .ok (.iload_n 1, 1) := by decide +kernel
theorem dX4_begin_48 : decode cX4_begin 48 = .ok (.iaload, 1) := by decide +kernel
theorem dX4_begin_49 : decode cX4_begin 49 = .ok (.iastore, 1) := by decide +kernel
theorem dX4_begin_50 : decode cX4_begin 50 = .ok (.aload_n 0, 1) := by decide +kernel
theorem dX4_begin_51 : decode cX4_begin 51 = .ok (.aload_n 0, 1) := by decide +kernel
theorem dX4_begin_52 : decode cX4_begin 52 = .ok (.getfield 15, 3) := by decide +kernel
theorem dX4_begin_55 : decode cX4_begin 55 = .ok (.iload_n 1, 1) := by decide +kernel
theorem dX4_begin_56 : decode cX4_begin 56 = .ok (.iaload, 1) := by decide +kernel
theorem dX4_begin_57 : decode cX4_begin 57 = .ok (.iload_n 1, 1) := by decide +kernel
theorem dX4_begin_58 : decode cX4_begin 58 = .ok (.invokevirtual 43, 3) := by decide +kernel
theorem dX4_begin_61 : decode cX4_begin 61 = .ok (.aload_n 0, 1) := by decide +kernel
theorem dX4_begin_62 : decode cX4_begin 62 = .ok (.iload_n 1, 1) := by decide +kernel
theorem dX4_begin_63 : decode cX4_begin 63 = .ok (.invokevirtual 47, 3) := by decide +kernel
theorem dX4_begin_66 : decode cX4_begin 66 = .ok (.iinc 1 1, 3) := by decide +kernel
theorem dX4_begin_69 : decode cX4_begin 69 = .ok (.goto (-45), 3) := by decide +kernel
theorem dX4_begin_72 : decode cX4_begin 72 = .ok (.iconst 0, 1) := by decide +kernel
theorem dX4_begin_73 : decode cX4_begin 73 = .ok (.istore_n 1, 1) := by decide +kernel
theorem dX4_begin_74 : decode cX4_begin 74 = .ok (.iload_n 1, 1) := by decide +kernel
theorem dX4_begin_75 : decode cX4_begin 75 = .ok (.aload_n 0, 1) := by decide +kernel
theorem dX4_begin_76 : decode cX4_begin 76 = .ok (.getfield 9, 3) := by decide +kernel
theorem dX4_begin_79 : decode cX4_begin 79 = .ok (.getfield 51, 3) := by decide +kernel
theorem dX4_begin_82 : decode cX4_begin 82 = .ok (.if_icmp .ge 39, 3) := by decide +kernel
theorem dX4_begin_85 : decode cX4_begin 85 = .ok (.aload_n 0, 1) := by decide +kernel
theorem dX4_begin_86 : decode cX4_begin 86 = .ok (.getfield 28, 3) := by decide +kernel
theorem dX4_begin_89 : decode cX4_begin 89 = .ok (.iload_n 1, 1) := by decide +kernel
theorem dX4_begin_90 : decode cX4_begin 90 = .ok (.aload_n 0, 1) := by decide +kernel
theorem dX4_begin_91 : decode cX4_begin 91 = .ok (.getfield 9, 3) := by decide +kernel
theorem dX4_begin_94 : decode cX4_begin 94 = .ok (.getfield 54, 3) := by decide +kernel
theorem dX4_begin_97 : decode cX4_begin 97 = .ok (.iload_n 1, 1) := by decide +kernel
theorem dX4_begin_98 : decode cX4_begin 98 = .ok (.iaload, 1) := by decide +kernel
theorem dX4_begin_99 : decode cX4_begin 99 = .ok (.iastore, 1) := by decide +kernel
theorem dX4_begin_100 : decode cX4_begin 100 = .ok (.aload_n 0, 1) := by decide +kernel
theorem dX4_begin_101 : decode cX4_begin 101 = .ok (.getfield 31, 3) := by decide +kernel
theorem dX4_begin_104 : decode cX4_begin 104 = .ok (.iload_n 1, 1) := by decide +kernel
theorem dX4_begin_105 : decode cX4_begin 105 = .ok (.aload_n 0, 1) := by decide +kernel
theorem dX4_begin_106 : decode cX4_begin 106 = .ok (.getfield 9, 3) := by decide +kernel
theorem dX4_begin_109 : decode cX4_begin 109 = .ok (.getfield 57, 3) := by decide +kernel
theorem dX4_begin_112 : decode cX4_begin 112 = .ok (.iload_n 1, 1) := by decide +kernel
theorem dX4_begin_113 : decode cX4_begin 113 = .ok (.iaload, 1) := by decide +kernel
theorem dX4_begin_114 : decode cX4_begin 114 = .ok (.iastore, 1) := by decide +kernel
theorem dX4_begin_115 : decode cX4_begin 115 = .ok (.iinc 1 1, 3) := by decide +kernel
theorem dX4_begin_118 : decode cX4_begin 118 = .ok (.goto (-44), 3) := by decide +kernel
theorem dX4_begin_121 : decode cX4_begin 121 = .ok (.aload_n 0, 1) := by decide +kernel
theorem dX4_begin_122 : decode cX4_begin 122 = .ok (.iconst 0, 1) := by decide +kernel
theorem dX4_begin_123 : decode cX4_begin 123 = .ok (.putfield 60, 3) := by decide +kernel
theorem dX4_begin_126 : decode cX4_begin 126 = .ok (.return_, 1) := by decide +kernel
theorem dX4_setTo_0 : decode cX4_setTo 0 = .ok (.aload_n 1, 1) := by decide +kernel
theorem dX4_setTo_1 : decode cX4_setTo 1 = .ok (.getfield 15, 3) := by decide +kernel
theorem dX4_setTo_4 : decode cX4_setTo 4 = .ok (.iconst 0, 1) := by decide +kernel
theorem dX4_setTo_5 : decode cX4_setTo 5 = .ok (.aload_n 0, 1) := by decide +kernel
theorem dX4_setTo_6 : decode cX4_setTo 6 = .ok (.getfield 15, 3) := by decide +kernel
theorem dX4_setTo_9 : decode cX4_setTo 9 = .ok (.iconst 0, 1) := by decide +kernel
theorem dX4_setTo_10 : decode cX4_setTo 10 = .ok (.iconst 4, 1) := by decide +kernel
theorem dX4_setTo_11 : decode cX4_setTo 11 = .ok (.invokestatic 63, 3) := by decide +kernel
theorem dX4_setTo_14 : decode cX4_setTo 14 = .ok (.aload_n 1, 1) := by decide +kernel
theorem dX4_setTo_15 : decode cX4_setTo 15 = .ok (.getfield 19, 3) := by decide +kernel
theorem dX4_setTo_18 : decode cX4_setTo 18 = .ok (.iconst 0, 1) := by decide +kernel
theorem dX4_setTo_19 : decode cX4_setTo 19 = .ok (.aload_n 0, 1) := by decide +kernel
theorem dX4_setTo_20 : decode cX4_setTo 20 = .ok (.getfield 19, 3) := by decide +kernel
theorem dX4_setTo_23 : decode cX4_setTo 23 = .ok (.iconst 0, 1) := by decide +kernel
theorem dX4_setTo_24 : decode cX4_setTo 24 = .ok (.bipush 10, 2) := by decide +kernel
theorem dX4_setTo_26 : decode cX4_setTo 26 = .ok (.invokestatic 63, 3) := by decide +kernel
theorem dX4_setTo_29 : decode cX4_setTo 29 = .ok (.aload_n 1, 1) := by decide +kernel
theorem dX4_setTo_30 : decode cX4_setTo 30 = .ok (.getfield 22, 3) := by decide +kernel
theorem dX4_setTo_33 : decode cX4_setTo 33 = .ok (.iconst 0, 1) := by decide +kernel
theorem dX4_setTo_34 : decode cX4_setTo 34 = .ok (.aload_n 0, 1) := by decide +kernel
theorem dX4_setTo_35 : decode cX4_setTo 35 = .ok (.getfield 22, 3) := by decide +kernel
theorem dX4_setTo_38 : decode cX4_setTo 38 = .ok (.iconst 0, 1) := by decide +kernel
theorem dX4_setTo_39 : decode cX4_setTo 39 = .ok (.iconst 4, 1) := by decide +kernel
theorem dX4_setTo_40 : decode cX4_setTo 40 = .ok (.invokestatic 63, 3) := by decide +kernel
theorem dX4_setTo_43 : decode cX4_setTo 43 = .ok (.aload_n 1, 1) := by decide +kernel
theorem dX4_setTo_44 : decode cX4_setTo 44 = .ok (.getfield 25, 3) := by decide +kernel
theorem dX4_setTo_47 : decode cX4_setTo 47 = .ok (.iconst 0, 1) := by decide +kernel
theorem dX4_setTo_48 : decode cX4_setTo 48 = .ok (.aload_n 0, 1) := by decide +kernel
theorem dX4_setTo_49 : decode cX4_setTo 49 = .ok (.getfield 25, 3) := by decide +kernel
theorem dX4_setTo_52 : decode cX4_setTo 52 = .ok (.iconst 0, 1) := by decide +kernel
theorem dX4_setTo_53 : decode cX4_setTo 53 = .ok (.iconst 4, 1) := by decide +kernel
theorem dX4_setTo_54 : decode cX4_setTo 54 = .ok (.invokestatic 63, 3) := by decide +kernel
theorem dX4_setTo_57 : decode cX4_setTo 57 = .ok (.aload_n 1, 1) := by decide +kernel
theorem dX4_setTo_58 : decode cX4_setTo 58 = .ok (.getfield 28, 3) := by decide +kernel
theorem dX4_setTo_61 : decode cX4_setTo 61 = .ok (.iconst 0, 1) := by decide +kernel
theorem dX4_setTo_62 : decode cX4_setTo 62 = .ok (.aload_n 0, 1) := by decide +kernel
theorem dX4_setTo_63 : decode cX4_setTo 63 = .ok (.getfield 28, 3) := by decide +kernel
theorem dX4_setTo_66 : decode cX4_setTo 66 = .ok (.iconst 0, 1) := by decide +kernel
theorem dX4_setTo_67 : decode cX4_setTo 67 = .ok (.iconst 5, 1) := by decide +kernel
theorem dX4_setTo_68 : decode cX4_setTo 68 = .ok (.invokestatic 63, 3) := by decide +kernel
theorem dX4_setTo_71 : decode cX4_setTo 71 = .ok (.aload_n 1, 1) := by decide +kernel
theorem dX4_setTo_72 : decode cX4_setTo 72 = .ok (.getfield 31, 3) := by decide +kernel
theorem dX4_setTo_75 : decode cX4_setTo 75 = .ok (.iconst 0, 1) := by decide +kernel
theorem dX4_setTo_76 : decode cX4_setTo 76 = .ok (.aload_n 0, 1) := by decide +kernel
theorem dX4_setTo_77 : decode cX4_setTo 77 = .ok (.getfield 31, 3) := by decide +kernel
theorem dX4_setTo_80 : decode cX4_setTo 80 = .ok (.iconst 0, 1) := by decide +kernel
theorem dX4_setTo_81 : decode cX4_setTo 81 = .ok (.iconst 5, 1) := by decide +kernel
theorem dX4_setTo_82 : decode cX4_setTo 82 = .ok (.invokestatic 63, 3) := by decide +kernel
theorem dX4_setTo_85 : decode cX4_setTo 85 = .ok (.aload_n 0, 1) := by decide +kernel
theorem dX4_setTo_86 : decode cX4_setTo 86 = .ok (.aload_n 1, 1) := by decide +kernel
theorem dX4_setTo_87 : decode cX4_setTo 87 = .ok (.getfield 60, 3) := by decide +kernel
theorem dX4_setTo_90 : decode cX4_setTo 90 = .ok (.putfield 60, 3) := by decide +kernel
theorem dX4_setTo_93 : decode cX4_setTo 93 = .ok (.return_, 1) := by decide +kernel
set_option maxRecDepth 20000 in
theorem ggX4_isFree_X6_isPlace : GoodIn wsX4_isFree wsX6_isPlace := goodIn_r _ [4] (by decide +kernel) (by decide +kernel)
set_option maxRecDepth 20000 in
theorem gX4_isFree_X6_isPlace_n69 : GoodIn wsX4_isFree (wsX6_isPlace) := ggX4_isFree_X6_isPlace
theorem dX4_isFree_0 : decode cX4_isFree 0 = .ok (.iload_n 1, 1) := by decide +kernel
theorem dX4_isFree_1 : decode cX4_isFree 1 = .ok (.invokestatic 69, 3) := by decide +kernel
theorem dX4_isFree_4 : decode cX4_isFree 4 = .ok (.ifCond .eq 18, 3) := by decide +kernel
theorem dX4_isFree_7 : decode cX4_isFree 7 = .ok (.aload_n 0, 1) := by decide +kernel
theorem dX4_isFree_8 : decode cX4_isFree 8 = .ok (.getfield 19, 3) := by decide +kernel
theorem dX4_isFree_11 : decode cX4_isFree 11 = .ok (.iload_n 1, 1) := by decide +kernel
theorem dX4_isFree_12 : decode cX4_isFree 12 = .ok (.iaload, 1) := by decide +kernel
theorem dX4_isFree_13 : decode cX4_isFree 13 = .ok (.bipush (-9), 2) := by decide +kernel
theorem dX4_isFree_15 : decode cX4_isFree 15 = .ok (.if_icmp .ne 7, 3) := by decide +kernel
theorem dX4_isFree_18 : decode cX4_isFree 18 = .ok (.iconst 1, 1) := by decide +kernel
theorem dX4_isFree_19 : decode cX4_isFree 19 = .ok (.goto 4, 3) := by decide +kernel
theorem dX4_isFree_22 : decode cX4_isFree 22 = .ok (.iconst 0, 1) := by decide +kernel
theorem dX4_isFree_23 : decode cX4_isFree 23 = .ok (.ireturn, 1) := by decide +kernel
set_option maxRecDepth 20000 in
theorem ggX4_isOwnOrFree_X6_isPlace : GoodIn wsX4_isOwnOrFree wsX6_isPlace := goodIn_r _ [4] (by decide +kernel) (by decide +kernel)
set_option maxRecDepth 20000 in
theorem gX4_isOwnOrFree_X6_isPlace_n69 : GoodIn wsX4_isOwnOrFree (wsX6_isPlace) := ggX4_isOwnOrFree_X6_isPlace
theorem dX4_isOwnOrFree_0 : decode cX4_isOwnOrFree 0 = .ok (.iload_n 2, 1) := by decide +kernel
theorem dX4_isOwnOrFree_1 : decode cX4_isOwnOrFree 1 = .ok (.invokestatic 69, 3) := by decide +kernel
theorem dX4_isOwnOrFree_4 : decode cX4_isOwnOrFree 4 = .ok (.ifCond .eq 28, 3) := by decide +kernel
theorem dX4_isOwnOrFree_7 : decode cX4_isOwnOrFree 7 = .ok (.aload_n 0, 1) := by decide +kernel
theorem dX4_isOwnOrFree_8 : decode cX4_isOwnOrFree 8 = .ok (.getfield 19, 3) := by decide +kernel
theorem dX4_isOwnOrFree_11 : decode cX4_isOwnOrFree 11 = .ok (.iload_n 2, 1) := by decide +kernel
theorem dX4_isOwnOrFree_12 : decode cX4_isOwnOrFree 12 = .ok (.iaload, 1) := by decide +kernel
theorem dX4_isOwnOrFree_13 : decode cX4_isOwnOrFree 13 = .ok (.iload_n 1, 1) := by decide +kernel
theorem dX4_isOwnOrFree_14 : decode cX4_isOwnOrFree 14 = .ok (.if_icmp .eq 14, 3) := by decide +kernel
theorem dX4_isOwnOrFree_17 : decode cX4_isOwnOrFree 17 = .ok (.aload_n 0, 1) := by decide +kernel
theorem dX4_isOwnOrFree_18 : decode cX4_isOwnOrFree 18 = .ok (.getfield 19, 3) := by decide +kernel
theorem dX4_isOwnOrFree_21 : decode cX4_isOwnOrFree 21 = .ok (.iload_n 2, 1) := by decide +kernel
theorem dX4_isOwnOrFree_22 : decode cX4_isOwnOrFree 22 = .ok (.iaload, 1) := by decide +kernel
theorem dX4_isOwnOrFree_23 : decode cX4_isOwnOrFree 23 = .ok (.bipush (-9), 2) := by decide +kernel
theorem dX4_isOwnOrFree_25 : decode cX4_isOwnOrFree 25 = .ok (.if_icmp .ne 7, 3) := by decide +kernel
theorem dX4_isOwnOrFree_28 : decode cX4_isOwnOrFree 28 = .ok (.iconst 1, 1) := by decide +kernel
theorem dX4_isOwnOrFree_29 : decode cX4_isOwnOrFree 29 = .ok (.goto 4, 3) := by decide +kernel
theorem dX4_isOwnOrFree_32 : decode cX4_isOwnOrFree 32 = .ok (.iconst 0, 1) := by decide +kernel
theorem dX4_isOwnOrFree_33 : decode cX4_isOwnOrFree 33 = .ok (.ireturn, 1) := by decide +kernel
set_option maxRecDepth 20000 in
theorem ggX4_put_X4_mark : GoodIn wsX4_put wsX4_mark := goodIn_r _ [6, 7, 8, 9, 10, 11, 12, 13, 14, 15, 16, 17, 18] (by decide +kernel) (by decide +kernel)
set_option maxRecDepth 20000 in
theorem gX4_put_X4_mark : GoodIn wsX4_put (wsV RX4 43 RX4 yX4_mark wsX4_mark) := goodIn_app (goodIn_of _ (by decide +kernel)) ggX4_put_X4_mark
theorem dX4_put_0 : decode cX4_put 0 = .ok (.aload_n 0, 1) := by decide +kernel
theorem dX4_put_1 : decode cX4_put 1 = .ok (.aload_n 0, 1) := by decide +kernel
theorem dX4_put_2 : decode cX4_put 2 = .ok (.getfield 15, 3) := by decide +kernel
theorem dX4_put_5 : decode cX4_put 5 = .ok (.iload_n 1, 1) := by decide +kernel
theorem dX4_put_6 : decode cX4_put 6 = .ok (.iaload, 1) := by decide +kernel
theorem dX4_put_7 : decode cX4_put 7 = .ok (.bipush (-9), 2) := by decide +kernel
theorem dX4_put_9 : decode cX4_put 9 = .ok (.invokevirtual 43, 3) := by decide +kernel
theorem dX4_put_12 : decode cX4_put 12 = .ok (.aload_n 0, 1) := by decide +kernel
theorem dX4_put_13 : decode cX4_put 13 = .ok (.getfield 15, 3) := by decide +kernel
theorem dX4_put_16 : decode cX4_put 16 = .ok (.iload_n 1, 1) := by decide +kernel
theorem dX4_put_17 : decode cX4_put 17 = .ok (.iload_n 2, 1) := by decide +kernel
theorem dX4_put_18 : decode cX4_put 18 = .ok (.iastore, 1) := by decide +kernel
theorem dX4_put_19 : decode cX4_put 19 = .ok (.aload_n 0, 1) := by decide +kernel
theorem dX4_put_20 : decode cX4_put 20 = .ok (.iload_n 2, 1) := by decide +kernel
theorem dX4_put_21 : decode cX4_put 21 = .ok (.iload_n 1, 1) := by decide +kernel
theorem dX4_put_22 : decode cX4_put 22 = .ok (.invokevirtual 43, 3) := by decide +kernel
theorem dX4_put_25 : decode cX4_put 25 = .ok (.return_, 1) := by decide +kernel
set_option maxRecDepth 20000 in
theorem ggX4_mark_X6_isPlace : GoodIn wsX4_mark wsX6_isPlace := goodIn_r _ [4] (by decide +kernel) (by decide +kernel)
set_option maxRecDepth 20000 in
theorem gX4_mark_X6_isPlace_n69 : GoodIn wsX4_mark (wsX6_isPlace) := ggX4_mark_X6_isPlace
theorem dX4_mark_0 : decode cX4_mark 0 = .ok (.iload_n 1, 1) := by decide +kernel
theorem dX4_mark_1 : decode cX4_mark 1 = .ok (.invokestatic 69, 3) := by decide +kernel
theorem dX4_mark_4 : decode cX4_mark 4 = .ok (.ifCond .eq 10, 3) := by decide +kernel
theorem dX4_mark_7 : decode cX4_mark 7 = .ok (.aload_n 0, 1) := by decide +kernel
theorem dX4_mark_8 : decode cX4_mark 8 = .ok (.getfield 19, 3) := by decide +kernel
theorem dX4_mark_11 : decode cX4_mark 11 = .ok (.iload_n 1, 1) := by decide +kernel
theorem dX4_mark_12 : decode cX4_mark 12 = .ok (.iload_n 2, 1) := by decide +kernel
theorem dX4_mark_13 : decode cX4_mark 13 = .ok (.iastore, 1) := by decide +kernel
theorem dX4_mark_14 : decode cX4_mark 14 = .ok (.return_, 1) := by decide +kernel
theorem dX4_changeMan_0 : decode cX4_changeMan 0 = .ok (.aload_n 0, 1) := by decide +kernel
theorem dX4_changeMan_1 : decode cX4_changeMan 1 = .ok (.getfield 22, 3) := by decide +kernel
theorem dX4_changeMan_4 : decode cX4_changeMan 4 = .ok (.iload_n 1, 1) := by decide +kernel
theorem dX4_changeMan_5 : decode cX4_changeMan 5 = .ok (.iconst 0, 1) := by decide +kernel
theorem dX4_changeMan_6 : decode cX4_changeMan 6 = .ok (.iastore, 1) := by decide +kernel
theorem dX4_changeMan_7 : decode cX4_changeMan 7 = .ok (.aload_n 0, 1) := by decide +kernel
theorem dX4_changeMan_8 : decode cX4_changeMan 8 = .ok (.getfield 25, 3) := by decide +kernel
theorem dX4_changeMan_11 : decode cX4_changeMan 11 = .ok (.iload_n 1, 1) := by decide +kernel
theorem dX4_changeMan_12 : decode cX4_changeMan 12 = .ok (.iconst 0, 1) := by decide +kernel
theorem dX4_changeMan_13 : decode cX4_changeMan 13 = .ok (.iastore, 1) := by decide +kernel
theorem dX4_changeMan_14 : decode cX4_changeMan 14 = .ok (.return_, 1) := by decide +kernel
theorem dX4_endow_0 : decode cX4_endow 0 = .ok (.aload_n 0, 1) := by decide +kernel
theorem dX4_endow_1 : decode cX4_endow 1 = .ok (.getfield 31, 3) := by decide +kernel
theorem dX4_endow_4 : decode cX4_endow 4 = .ok (.iload_n 1, 1) := by decide +kernel
theorem dX4_endow_5 : decode cX4_endow 5 = .ok (.iaload, 1) := by decide +kernel
theorem dX4_endow_6 : decode cX4_endow 6 = .ok (.iload_n 2, 1) := by decide +kernel
theorem dX4_endow_7 : decode cX4_endow 7 = .ok (.iadd, 1) := by decide +kernel
theorem dX4_endow_8 : decode cX4_endow 8 = .ok (.istore_n 3, 1) := by decide +kernel
theorem dX4_endow_9 : decode cX4_endow 9 = .ok (.aload_n 0, 1) := by decide +kernel
theorem dX4_endow_10 : decode cX4_endow 10 = .ok (.getfield 31, 3) := by decide +kernel
theorem dX4_endow_13 : decode cX4_endow 13 = .ok (.iload_n 1, 1) := by decide +kernel
theorem dX4_endow_14 : decode cX4_endow 14 = .ok (.iload_n 3, 1) := by decide +kernel
theorem dX4_endow_15 : decode cX4_endow 15 = .ok (.bipush 99, 2) := by decide +kernel
theorem dX4_endow_17 : decode cX4_endow 17 = .ok (.if_icmp .ge 7, 3) := by decide +kernel
theorem dX4_endow_20 : decode cX4_endow 20 = .ok (.iload_n 3, 1) := by decide +kernel
theorem dX4_endow_21 : decode cX4_endow 21 = .ok (.goto 5, 3) := by decide +kernel
theorem dX4_endow_24 : decode cX4_endow 24 = .ok (.bipush 99, 2) := by decide +kernel
theorem dX4_endow_26 : decode cX4_endow 26 = .ok (.iastore, 1) := by decide +kernel
theorem dX4_endow_27 : decode cX4_endow 27 = .ok (.return_, 1) := by decide +kernel
set_option maxRecDepth 20000 in
theorem ggX4_passDays_X4_passDay : GoodIn wsX4_passDays wsX4_passDay := goodIn_r _ [5, 6, 7, 8, 9, 10, 11, 12, 4, 13, 14, 15, 16, 17, 18, 19, 20, 21, 22, 23, 24, 25, 26, 27, 28, 29, 30, 31, 32, 33, 34, 35, 36, 37, 38, 39, 40, 41, 42, 43, 44, 45, 46, 47, 48, 49, 50, 51, 52, 53, 54, 55, 56, 57, 58, 59, 60, 61, 62, 63, 64] (by decide +kernel) (by decide +kernel)
set_option maxRecDepth 20000 in
theorem gX4_passDays_X4_passDay : GoodIn wsX4_passDays (wsV RX4 73 RX4 yX4_passDay wsX4_passDay) := goodIn_app (goodIn_of _ (by decide +kernel)) ggX4_passDays_X4_passDay
theorem dX4_passDays_0 : decode cX4_passDays 0 = .ok (.iconst 0, 1) := by decide +kernel
theorem dX4_passDays_1 : decode cX4_passDays 1 = .ok (.istore_n 3, 1) := by decide +kernel
theorem dX4_passDays_2 : decode cX4_passDays 2 = .ok (.iload_n 3, 1) := by decide +kernel
theorem dX4_passDays_3 : decode cX4_passDays 3 = .ok (.iload_n 1, 1) := by decide +kernel
theorem dX4_passDays_4 : decode cX4_passDays 4 = .ok (.if_icmp .ge 15, 3) := by decide +kernel
theorem dX4_passDays_7 : decode cX4_passDays 7 = .ok (.aload_n 0, 1) := by decide +kernel
theorem dX4_passDays_8 : decode cX4_passDays 8 = .ok (.iload_n 2, 1) := by decide +kernel
theorem dX4_passDays_9 : decode cX4_passDays 9 = .ok (.invokevirtual 73, 3) := by decide +kernel
theorem dX4_passDays_12 : decode cX4_passDays 12 = .ok (.pop, 1) := by decide +kernel
theorem dX4_passDays_13 : decode cX4_passDays 13 = .ok (.iinc 3 1, 3) := by decide +kernel
theorem dX4_passDays_16 : decode cX4_passDays 16 = .ok (.goto (-14), 3) := by decide +kernel
theorem dX4_passDays_19 : decode cX4_passDays 19 = .ok (.return_, 1) := by decide +kernel
set_option maxRecDepth 20000 in
theorem ggX4_passDay_X4_walk : GoodIn wsX4_passDay wsX4_walk := goodIn_r _ [9, 10, 11, 12, 13, 8, 14, 15, 16, 17, 18, 19, 20, 21, 22, 1, 23, 24, 25, 26, 27, 28, 29, 30, 31, 32, 33, 34, 35, 2, 36, 37, 38, 39, 40, 41, 42, 43, 44, 45, 46, 47, 48, 49, 50, 51, 52, 53, 54, 55, 56, 57, 58, 59, 60] (by decide +kernel) (by decide +kernel)
set_option maxRecDepth 20000 in
theorem gX4_passDay_X4_walk : GoodIn wsX4_passDay (wsV RX4 77 RX4 yX4_walk wsX4_walk) := goodIn_app (goodIn_of _ (by decide +kernel)) ggX4_passDay_X4_walk
theorem dX4_passDay_0 : decode cX4_passDay 0 = .ok (.iconst 0, 1) := by decide +kernel
theorem dX4_passDay_1 : decode cX4_passDay 1 = .ok (.istore_n 2, 1) := by decide +kernel
theorem dX4_passDay_2 : decode cX4_passDay 2 = .ok (.iload_n 2, 1) := by decide +kernel
theorem dX4_passDay_3 : decode cX4_passDay 3 = .ok (.aload_n 0, 1) := by decide +kernel
theorem dX4_passDay_4 : decode cX4_passDay 4 = .ok (.getfield 9, 3) := by decide +kernel
theorem dX4_passDay_7 : decode cX4_passDay 7 = .ok (.getfield 51, 3) := by decide +kernel
theorem dX4_passDay_10 : decode cX4_passDay 10 = .ok (.if_icmp .ge 23, 3) := by decide +kernel
theorem dX4_passDay_13 : decode cX4_passDay 13 = .ok (.iload_n 1, 1) := by decide +kernel
theorem dX4_passDay_14 : decode cX4_passDay 14 = .ok (.iload_n 2, 1) := by decide +kernel
theorem dX4_passDay_15 : decode cX4_passDay 15 = .ok (.ishr, 1) := by decide +kernel
theorem dX4_passDay_16 : decode cX4_passDay 16 = .ok (.iconst 1, 1) := by decide +kernel
theorem dX4_passDay_17 : decode cX4_passDay 17 = .ok (.iand, 1) := by decide +kernel
theorem dX4_passDay_18 : decode cX4_passDay 18 = .ok (.iconst 1, 1) := by decide +kernel
theorem dX4_passDay_19 : decode cX4_passDay 19 = .ok (.if_icmp .ne 8, 3) := by decide +kernel
theorem dX4_passDay_22 : decode cX4_passDay 22 = .ok (.aload_n 0, 1) := by decide +kernel
theorem dX4_passDay_23 : decode cX4_passDay 23 = .ok (.iload_n 2, 1) := by decide +kernel
theorem dX4_passDay_24 : decode cX4_passDay 24 = .ok (.invokevirtual 77, 3) := by decide +kernel
theorem dX4_passDay_27 : decode cX4_passDay 27 = .ok (.iinc 2 1, 3) := by decide +kernel
theorem dX4_passDay_30 : decode cX4_passDay 30 = .ok (.goto (-28), 3) := by decide +kernel
theorem dX4_passDay_33 : decode cX4_passDay 33 = .ok (.iconst 0, 1) := by decide +kernel
theorem dX4_passDay_34 : decode cX4_passDay 34 = .ok (.istore_n 2, 1) := by decide +kernel
theorem dX4_passDay_35 : decode cX4_passDay 35 = .ok (.iconst 0, 1) := by decide +kernel
theorem dX4_passDay_36 : decode cX4_passDay 36 = .ok (.istore_n 3, 1) := by decide +kernel
theorem dX4_passDay_37 : decode cX4_passDay 37 = .ok (.iload_n 3, 1) := by decide +kernel
theorem dX4_passDay_38 : decode cX4_passDay 38 = .ok (.aload_n 0, 1) := by decide +kernel
theorem dX4_passDay_39 : decode cX4_passDay 39 = .ok (.getfield 9, 3) := by decide +kernel
theorem dX4_passDay_42 : decode cX4_passDay 42 = .ok (.getfield 34, 3) := by decide +kernel
theorem dX4_passDay_45 : decode cX4_passDay 45 = .ok (.if_icmp .ge 48, 3) := by decide +kernel
theorem dX4_passDay_48 : decode cX4_passDay 48 = .ok (.aload_n 0, 1) := by decide +kernel
theorem dX4_passDay_49 : decode cX4_passDay 49 = .ok (.getfield 22, 3) := by decide +kernel
theorem dX4_passDay_52 : decode cX4_passDay 52 = .ok (.iload_n 3, 1) := by decide +kernel
theorem dX4_passDay_53 : decode cX4_passDay 53 = .ok (.iaload, 1) := by decide +kernel
theorem dX4_passDay_54 : decode cX4_passDay 54 = .ok (.iconst 5, 1) := by decide +kernel
theorem dX4_passDay_55 : decode cX4_passDay 55 = .ok (.idiv, 1) := by decide +kernel
theorem dX4_passDay_56 : decode cX4_passDay 56 = .ok (.istore 4, 2) := by decide +kernel
theorem dX4_passDay_58 : decode cX4_passDay 58 = .ok (.aload_n 0, 1) := by decide +kernel
theorem dX4_passDay_59 : decode cX4_passDay 59 = .ok (.getfield 25, 3) := by decide +kernel
theorem dX4_passDay_62 : decode cX4_passDay 62 = .ok (.iload_n 3, 1) := by decide +kernel
theorem dX4_passDay_63 : decode cX4_passDay 63 = .ok (.dup2, 1) := by decide +kernel
theorem dX4_passDay_64 : decode cX4_passDay 64 = .ok (.iaload, 1) := by decide +kernel
theorem dX4_passDay_65 : decode cX4_passDay 65 = .ok (.iload 4, 2) := by decide +kernel
theorem dX4_passDay_67 : decode cX4_passDay 67 = .ok (.iadd, 1) := by decide +kernel
theorem dX4_passDay_68 : decode cX4_passDay 68 = .ok (.iastore, 1) := by decide +kernel
theorem dX4_passDay_69 : decode cX4_passDay 69 = .ok (.aload_n 0, 1) := by decide +kernel
theorem dX4_passDay_70 : decode cX4_passDay 70 = .ok (.getfield 22, 3) := by decide +kernel
theorem dX4_passDay_73 : decode cX4_passDay 73 = .ok (.iload_n 3, 1) := by decide +kernel
theorem dX4_passDay_74 : decode cX4_passDay 74 = .ok (.dup2, 1) := by decide +kernel
theorem dX4_passDay_75 : decode cX4_passDay 75 = .ok (.iaload, 1) := by decide +kernel
theorem dX4_passDay_76 : decode cX4_passDay 76 = .ok (.iload 4, 2) := by decide +kernel
theorem dX4_passDay_78 : decode cX4_passDay 78 = .ok (.iconst 5, 1) := by decide +kernel
theorem dX4_passDay_79 : decode cX4_passDay 79 = .ok (.imul, 1) := by decide +kernel
theorem dX4_passDay_80 : decode cX4_passDay 80 = .ok (.isub, 1) := by decide +kernel
theorem dX4_passDay_81 : decode cX4_passDay 81 = .ok (.iastore, 1) := by decide +kernel
theorem dX4_passDay_82 : decode cX4_passDay 82 = .ok (.iload_n 2, 1) := by decide +kernel
theorem dX4_passDay_83 : decode cX4_passDay 83 = .ok (.iload 4, 2) := by decide +kernel
theorem dX4_passDay_85 : decode cX4_passDay 85 = .ok (.iadd, 1) := by decide +kernel
theorem dX4_passDay_86 : decode cX4_passDay 86 = .ok (.istore_n 2, 1) := by decide +kernel
theorem dX4_passDay_87 : decode cX4_passDay 87 = .ok (.iinc 3 1, 3) := by decide +kernel
theorem dX4_passDay_90 : decode cX4_passDay 90 = .ok (.goto (-53), 3) := by decide +kernel
theorem dX4_passDay_93 : decode cX4_passDay 93 = .ok (.aload_n 0, 1) := by decide +kernel
theorem dX4_passDay_94 : decode cX4_passDay 94 = .ok (.dup, 1) := by decide +kernel
theorem dX4_passDay_95 : decode cX4_passDay 95 = .ok (.getfield 60, 3) := by decide +kernel
theorem dX4_passDay_98 : decode cX4_passDay 98 = .ok (.iconst 1, 1) := by decide +kernel
theorem dX4_passDay_99 : decode cX4_passDay 99 = .ok (.iadd, 1) := by decide +kernel
theorem dX4_passDay_100 : decode cX4_passDay 100 = .ok (.putfield 60, 3) := by decide +kernel
theorem dX4_passDay_103 : decode cX4_passDay 103 = .ok (.iload_n 2, 1) := by decide +kernel
theorem dX4_passDay_104 : decode cX4_passDay 104 = .ok (.ireturn, 1) := by decide +kernel
set_option maxRecDepth 20000 in
theorem ggX4_walk_X4_stepsAhead : GoodIn wsX4_walk wsX4_stepsAhead := goodIn_r _ [6, 1, 7, 8, 9, 10, 11, 12, 13, 5, 14, 15, 38, 39, 40, 41, 42, 43, 44, 45, 46, 47, 48, 49, 50, 51, 52, 53, 54] (by decide +kernel) (by decide +kernel)
set_option maxRecDepth 20000 in
theorem gX4_walk_X4_stepsAhead : GoodIn wsX4_walk (wsV RX4 80 RX4 yX4_stepsAhead wsX4_stepsAhead) := goodIn_app (goodIn_of _ (by decide +kernel)) ggX4_walk_X4_stepsAhead
set_option maxRecDepth 20000 in
theorem ggX4_walk_X4_ladderAhead : GoodIn wsX4_walk wsX4_ladderAhead := goodIn_r _ [19, 1, 20, 11, 12, 13, 5, 14, 15, 21, 22, 23, 38, 39, 40, 41, 42, 43, 44, 45, 46, 47, 48, 49, 50, 51, 52, 53, 54] (by decide +kernel) (by decide +kernel)
set_option maxRecDepth 20000 in
theorem gX4_walk_X4_ladderAhead : GoodIn wsX4_walk (wsV RX4 83 RX4 yX4_ladderAhead wsX4_ladderAhead) := goodIn_app (goodIn_of _ (by decide +kernel)) ggX4_walk_X4_ladderAhead
set_option maxRecDepth 20000 in
theorem ggX4_walk_X4_meet : GoodIn wsX4_walk wsX4_meet := goodIn_r _ [27, 15, 28, 29, 30, 22, 31, 32, 33, 34, 35, 36, 5, 37, 38, 39, 40, 41, 42, 43, 44, 45, 46, 47, 48, 49, 50, 51, 52, 53, 54] (by decide +kernel) (by decide +kernel)
set_option maxRecDepth 20000 in
theorem gX4_walk_X4_meet : GoodIn wsX4_walk (wsV RX4 87 RX4 yX4_meet wsX4_meet) := goodIn_app (goodIn_of _ (by decide +kernel)) ggX4_walk_X4_meet
set_option maxRecDepth 20000 in
theorem ggX4_walk_X4_goal : GoodIn wsX4_walk wsX4_goal := goodIn_r _ [14, 1, 15, 38, 39, 40, 41, 42, 43, 44, 45, 46, 47, 48, 49, 50, 51, 52, 53, 54] (by decide +kernel) (by decide +kernel)
set_option maxRecDepth 20000 in
theorem gX4_walk_X4_goal : GoodIn wsX4_walk (wsV RX4 90 RX4 yX4_goal wsX4_goal) := goodIn_app (goodIn_of _ (by decide +kernel)) ggX4_walk_X4_goal
theorem dX4_walk_0 : decode cX4_walk 0 = .ok (.aload_n 0, 1) := by decide +kernel
theorem dX4_walk_1 : decode cX4_walk 1 = .ok (.iload_n 1, 1) := by decide +kernel
theorem dX4_walk_2 : decode cX4_walk 2 = .ok (.invokevirtual 80, 3) := by decide +kernel
theorem dX4_walk_5 : decode cX4_walk 5 = .ok (.istore_n 2, 1) := by decide +kernel
theorem dX4_walk_6 : decode cX4_walk 6 = .ok (.iconst 1, 1) := by decide +kernel
theorem dX4_walk_7 : decode cX4_walk 7 = .ok (.istore_n 3, 1) := by decide +kernel
theorem dX4_walk_8 : decode cX4_walk 8 = .ok (.iload_n 3, 1) := by decide +kernel
theorem dX4_walk_9 : decode cX4_walk 9 = .ok (.iload_n 2, 1) := by decide +kernel
theorem dX4_walk_10 : decode cX4_walk 10 = .ok (.if_icmp .gt 31, 3) := by decide +kernel
theorem dX4_walk_13 : decode cX4_walk 13 = .ok (.aload_n 0, 1) := by decide +kernel
theorem dX4_walk_14 : decode cX4_walk 14 = .ok (.iload_n 1, 1) := by decide +kernel
theorem dX4_walk_15 : decode cX4_walk 15 = .ok (.iload_n 3, 1) := by decide +kernel
theorem dX4_walk_16 : decode cX4_walk 16 = .ok (.invokevirtual 83, 3) := by decide +kernel
theorem dX4_walk_19 : decode cX4_walk 19 = .ok (.istore 4, 2) := by decide +kernel
theorem dX4_walk_21 : decode cX4_walk 21 = .ok (.iload 4, 2) := by decide +kernel
theorem dX4_walk_23 : decode cX4_walk 23 = .ok (.bipush (-9), 2) := by decide +kernel
theorem dX4_walk_25 : decode cX4_walk 25 = .ok (.if_icmp .eq 10, 3) := by decide +kernel
theorem dX4_walk_28 : decode cX4_walk 28 = .ok (.aload_n 0, 1) := by decide +kernel
theorem dX4_walk_29 : decode cX4_walk 29 = .ok (.iload_n 1, 1) := by decide +kernel
theorem dX4_walk_30 : decode cX4_walk 30 = .ok (.iload 4, 2) := by decide +kernel
theorem dX4_walk_32 : decode cX4_walk 32 = .ok (.invokevirtual 87, 3) := by decide +kernel
theorem dX4_walk_35 : decode cX4_walk 35 = .ok (.iinc 3 1, 3) := by decide +kernel
theorem dX4_walk_38 : decode cX4_walk 38 = .ok (.goto (-30), 3) := by decide +kernel
theorem dX4_walk_41 : decode cX4_walk 41 = .ok (.aload_n 0, 1) := by decide +kernel
theorem dX4_walk_42 : decode cX4_walk 42 = .ok (.getfield 28, 3) := by decide +kernel
theorem dX4_walk_45 : decode cX4_walk 45 = .ok (.iload_n 1, 1) := by decide +kernel
theorem dX4_walk_46 : decode cX4_walk 46 = .ok (.aload_n 0, 1) := by decide +kernel
theorem dX4_walk_47 : decode cX4_walk 47 = .ok (.iload_n 1, 1) := by decide +kernel
theorem dX4_walk_48 : decode cX4_walk 48 = .ok (.invokevirtual 90, 3) := by decide +kernel
theorem dX4_walk_51 : decode cX4_walk 51 = .ok (.iastore, 1) := by decide +kernel
theorem dX4_walk_52 : decode cX4_walk 52 = .ok (.return_, 1) := by decide +kernel
theorem dX4_goal_0 : decode cX4_goal 0 = .ok (.aload_n 0, 1) := by decide +kernel
theorem dX4_goal_1 : decode cX4_goal 1 = .ok (.getfield 28, 3) := by decide +kernel
theorem dX4_goal_4 : decode cX4_goal 4 = .ok (.iload_n 1, 1) := by decide +kernel
theorem dX4_goal_5 : decode cX4_goal 5 = .ok (.iaload, 1) := by decide +kernel
theorem dX4_goal_6 : decode cX4_goal 6 = .ok (.aload_n 0, 1) := by decide +kernel
theorem dX4_goal_7 : decode cX4_goal 7 = .ok (.getfield 9, 3) := by decide +kernel
theorem dX4_goal_10 : decode cX4_goal 10 = .ok (.getfield 54, 3) := by decide +kernel
theorem dX4_goal_13 : decode cX4_goal 13 = .ok (.iload_n 1, 1) := by decide +kernel
theorem dX4_goal_14 : decode cX4_goal 14 = .ok (.iaload, 1) := by decide +kernel
theorem dX4_goal_15 : decode cX4_goal 15 = .ok (.if_icmp .ne 15, 3) := by decide +kernel
theorem dX4_goal_18 : decode cX4_goal 18 = .ok (.aload_n 0, 1) := by decide +kernel
theorem dX4_goal_19 : decode cX4_goal 19 = .ok (.getfield 9, 3) := by decide +kernel
theorem dX4_goal_22 : decode cX4_goal 22 = .ok (.getfield 93, 3) := by decide +kernel
theorem dX4_goal_25 : decode cX4_goal 25 = .ok (.iload_n 1, 1) := by decide +kernel
theorem dX4_goal_26 : decode cX4_goal 26 = .ok (.iaload, 1) := by decide +kernel
theorem dX4_goal_27 : decode cX4_goal 27 = .ok (.goto 12, 3) := by decide +kernel
theorem dX4_goal_30 : decode cX4_goal 30 = .ok (.aload_n 0, 1) := by decide +kernel
theorem dX4_goal_31 : decode cX4_goal 31 = .ok (.getfield 9, 3) := by decide +kernel
theorem dX4_goal_34 : decode cX4_goal 34 = .ok (.getfield 54, 3) := by decide +kernel
theorem dX4_goal_37 : decode cX4_goal 37 = .ok (.iload_n 1, 1) := by decide +kernel
theorem dX4_goal_38 : decode cX4_goal 38 = .ok (.iaload, 1) := by decide +kernel
theorem dX4_goal_39 : decode cX4_goal 39 = .ok (.ireturn, 1) := by decide +kernel
set_option maxRecDepth 20000 in
theorem ggX4_stepsAhead_X4_goal : GoodIn wsX4_stepsAhead wsX4_goal := goodIn_r _ [10, 1, 11, 12, 13, 14, 15, 16, 17, 18, 19, 20, 21, 22, 23, 24, 25, 26, 27, 28] (by decide +kernel) (by decide +kernel)
set_option maxRecDepth 20000 in
theorem gX4_stepsAhead_X4_goal : GoodIn wsX4_stepsAhead (wsV RX4 90 RX4 yX4_goal wsX4_goal) := goodIn_app (goodIn_of _ (by decide +kernel)) ggX4_stepsAhead_X4_goal
theorem dX4_stepsAhead_0 : decode cX4_stepsAhead 0 = .ok (.aload_n 0, 1) := by decide +kernel
theorem dX4_stepsAhead_1 : decode cX4_stepsAhead 1 = .ok (.iload_n 1, 1) := by decide +kernel
theorem dX4_stepsAhead_2 : decode cX4_stepsAhead 2 = .ok (.invokevirtual 90, 3) := by decide +kernel
theorem dX4_stepsAhead_5 : decode cX4_stepsAhead 5 = .ok (.aload_n 0, 1) := by decide +kernel
theorem dX4_stepsAhead_6 : decode cX4_stepsAhead 6 = .ok (.getfield 28, 3) := by decide +kernel
theorem dX4_stepsAhead_9 : decode cX4_stepsAhead 9 = .ok (.iload_n 1, 1) := by decide +kernel
theorem dX4_stepsAhead_10 : decode cX4_stepsAhead 10 = .ok (.iaload, 1) := by decide +kernel
theorem dX4_stepsAhead_11 : decode cX4_stepsAhead 11 = .ok (.isub, 1) := by decide +kernel
theorem dX4_stepsAhead_12 : decode cX4_stepsAhead 12 = .ok (.invokestatic 96, 3) := by decide +kernel
theorem dX4_stepsAhead_15 : decode cX4_stepsAhead 15 = .ok (.ireturn, 1) := by decide +kernel
set_option maxRecDepth 20000 in
theorem ggX4_ladderAhead_X4_goal : GoodIn wsX4_ladderAhead wsX4_goal := goodIn_r _ [7, 1, 8, 12, 13, 14, 15, 16, 17, 18, 19, 20, 21, 22, 23, 24, 25, 26, 27, 28] (by decide +kernel) (by decide +kernel)
set_option maxRecDepth 20000 in
theorem gX4_ladderAhead_X4_goal : GoodIn wsX4_ladderAhead (wsV RX4 90 RX4 yX4_goal wsX4_goal) := goodIn_app (goodIn_of _ (by decide +kernel)) ggX4_ladderAhead_X4_goal
set_option maxRecDepth 20000 in
theorem ggX4_ladderAhead_X6_isPlace : GoodIn wsX4_ladderAhead wsX6_isPlace := goodIn_r _ [11] (by decide +kernel) (by decide +kernel)
set_option maxRecDepth 20000 in
theorem gX4_ladderAhead_X6_isPlace_n69 : GoodIn wsX4_ladderAhead (wsX6_isPlace) := ggX4_ladderAhead_X6_isPlace
theorem dX4_ladderAhead_0 : decode cX4_ladderAhead 0 = .ok (.aload_n 0, 1) := by decide +kernel
theorem dX4_ladderAhead_1 : decode cX4_ladderAhead 1 = .ok (.getfield 28, 3) := by decide +kernel
theorem dX4_ladderAhead_4 : decode cX4_ladderAhead 4 = .ok (.iload_n 1, 1) := by decide +kernel
theorem dX4_ladderAhead_5 : decode cX4_ladderAhead 5 = .ok (.iaload, 1) := by decide +kernel
theorem dX4_ladderAhead_6 : decode cX4_ladderAhead 6 = .ok (.istore_n 3, 1) := by decide +kernel
theorem dX4_ladderAhead_7 : decode cX4_ladderAhead 7 = .ok (.iload_n 3, 1) := by decide +kernel
theorem dX4_ladderAhead_8 : decode cX4_ladderAhead 8 = .ok (.aload_n 0, 1) := by decide +kernel
theorem dX4_ladderAhead_9 : decode cX4_ladderAhead 9 = .ok (.iload_n 1, 1) := by decide +kernel
theorem dX4_ladderAhead_10 : decode cX4_ladderAhead 10 = .ok (.invokevirtual 90, 3) := by decide +kernel
theorem dX4_ladderAhead_13 : decode cX4_ladderAhead 13 = .ok (.if_icmp .ge 9, 3) := by decide +kernel
theorem dX4_ladderAhead_16 : decode cX4_ladderAhead 16 = .ok (.iload_n 3, 1) := by decide +kernel
theorem dX4_ladderAhead_17 : decode cX4_ladderAhead 17 = .ok (.iload_n 2, 1) := by decide +kernel
theorem dX4_ladderAhead_18 : decode cX4_ladderAhead 18 = .ok (.iadd, 1) := by decide +kernel
theorem dX4_ladderAhead_19 : decode cX4_ladderAhead 19 = .ok (.goto 6, 3) := by decide +kernel
theorem dX4_ladderAhead_22 : decode cX4_ladderAhead 22 = .ok (.iload_n 3, 1) := by decide +kernel
theorem dX4_ladderAhead_23 : decode cX4_ladderAhead 23 = .ok (.iload_n 2, 1) := by decide +kernel
theorem dX4_ladderAhead_24 : decode cX4_ladderAhead 24 = .ok (.isub, 1) := by decide +kernel
theorem dX4_ladderAhead_25 : decode cX4_ladderAhead 25 = .ok (.istore 4, 2) := by decide +kernel
theorem dX4_ladderAhead_27 : decode cX4_ladderAhead 27 = .ok (.iload 4, 2) := by decide +kernel
theorem dX4_ladderAhead_29 : decode cX4_ladderAhead 29 = .ok (.invokestatic 69, 3) := by decide +kernel
theorem dX4_ladderAhead_32 : decode cX4_ladderAhead 32 = .ok (.ifCond .eq 13, 3) := by decide +kernel
theorem dX4_ladderAhead_35 : decode cX4_ladderAhead 35 = .ok (.aload_n 0, 1) := by decide +kernel
theorem dX4_ladderAhead_36 : decode cX4_ladderAhead 36 = .ok (.getfield 19, 3) := by decide +kernel
theorem dX4_ladderAhead_39 : decode cX4_ladderAhead 39 = .ok (.iload 4, 2) := by decide +kernel
theorem dX4_ladderAhead_41 : decode cX4_ladderAhead 41 = .ok (.iaload, 1) := by decide +kernel
theorem dX4_ladderAhead_42 : decode cX4_ladderAhead 42 = .ok (.goto 5, 3) := by decide +kernel
theorem dX4_ladderAhead_45 : decode cX4_ladderAhead 45 = .ok (.bipush (-9), 2) := by decide +kernel
theorem dX4_ladderAhead_47 : decode cX4_ladderAhead 47 = .ok (.ireturn, 1) := by decide +kernel
set_option maxRecDepth 20000 in
theorem ggX4_meet_X6_lessByMud : GoodIn wsX4_meet wsX6_lessByMud := goodIn_r _ [6] (by decide +kernel) (by decide +kernel)
set_option maxRecDepth 20000 in
theorem gX4_meet_X6_lessByMud_n104 : GoodIn wsX4_meet (wsX6_lessByMud) := ggX4_meet_X6_lessByMud
set_option maxRecDepth 20000 in
theorem ggX4_meet_X6_taken : GoodIn wsX4_meet wsX6_taken := goodIn_r _ [8] (by decide +kernel) (by decide +kernel)
set_option maxRecDepth 20000 in
theorem gX4_meet_X6_taken_n113 : GoodIn wsX4_meet (wsX6_taken) := ggX4_meet_X6_taken
set_option maxRecDepth 20000 in
theorem ggX4_meet_X4_endow : GoodIn wsX4_meet wsX4_endow := goodIn_r _ [13, 2, 14, 15, 16, 17, 18, 19, 20, 21] (by decide +kernel) (by decide +kernel)
set_option maxRecDepth 20000 in
theorem gX4_meet_X4_endow : GoodIn wsX4_meet (wsV RX4 117 RX4 yX4_endow wsX4_endow) := goodIn_app (goodIn_of _ (by decide +kernel)) ggX4_meet_X4_endow
theorem dX4_meet_0 : decode cX4_meet 0 = .ok (.aload_n 0, 1) := by decide +kernel
theorem dX4_meet_1 : decode cX4_meet 1 = .ok (.getfield 9, 3) := by decide +kernel
theorem dX4_meet_4 : decode cX4_meet 4 = .ok (.getfield 101, 3) := by decide +kernel
theorem dX4_meet_7 : decode cX4_meet 7 = .ok (.iload_n 1, 1) := by decide +kernel
theorem dX4_meet_8 : decode cX4_meet 8 = .ok (.iaload, 1) := by decide +kernel
theorem dX4_meet_9 : decode cX4_meet 9 = .ok (.istore_n 3, 1) := by decide +kernel
theorem dX4_meet_10 : decode cX4_meet 10 = .ok (.aload_n 0, 1) := by decide +kernel
theorem dX4_meet_11 : decode cX4_meet 11 = .ok (.getfield 31, 3) := by decide +kernel
theorem dX4_meet_14 : decode cX4_meet 14 = .ok (.iload_n 1, 1) := by decide +kernel
theorem dX4_meet_15 : decode cX4_meet 15 = .ok (.iaload, 1) := by decide +kernel
theorem dX4_meet_16 : decode cX4_meet 16 = .ok (.istore 4, 2) := by decide +kernel
theorem dX4_meet_18 : decode cX4_meet 18 = .ok (.iload_n 3, 1) := by decide +kernel
theorem dX4_meet_19 : decode cX4_meet 19 = .ok (.iconst 1, 1) := by decide +kernel
theorem dX4_meet_20 : decode cX4_meet 20 = .ok (.if_icmp .eq 13, 3) := by decide +kernel
theorem dX4_meet_23 : decode cX4_meet 23 = .ok (.iload_n 3, 1) := by decide +kernel
theorem dX4_meet_24 : decode cX4_meet 24 = .ok (.ifCond .ne 21, 3) := by decide +kernel
theorem dX4_meet_27 : decode cX4_meet 27 = .ok (.iload 4, 2) := by decide +kernel
theorem dX4_meet_29 : decode cX4_meet 29 = .ok (.iconst 4, 1) := by decide +kernel
theorem dX4_meet_30 : decode cX4_meet 30 = .ok (.if_icmp .lt 15, 3) := by decide +kernel
theorem dX4_meet_33 : decode cX4_meet 33 = .ok (.aload_n 0, 1) := by decide +kernel
theorem dX4_meet_34 : decode cX4_meet 34 = .ok (.getfield 31, 3) := by decide +kernel
theorem dX4_meet_37 : decode cX4_meet 37 = .ok (.iload_n 1, 1) := by decide +kernel
theorem dX4_meet_38 : decode cX4_meet 38 = .ok (.iload 4, 2) := by decide +kernel
theorem dX4_meet_40 : decode cX4_meet 40 = .ok (.invokestatic 104, 3) := by decide +kernel
theorem dX4_meet_43 : decode cX4_meet 43 = .ok (.iastore, 1) := by decide +kernel
theorem dX4_meet_44 : decode cX4_meet 44 = .ok (.return_, 1) := by decide +kernel
theorem dX4_meet_45 : decode cX4_meet 45 = .ok (.aload_n 0, 1) := by decide +kernel
theorem dX4_meet_46 : decode cX4_meet 46 = .ok (.getfield 9, 3) := by decide +kernel
theorem dX4_meet_49 : decode cX4_meet 49 = .ok (.getfield 107, 3) := by decide +kernel
theorem dX4_meet_52 : decode cX4_meet 52 = .ok (.iload_n 2, 1) := by decide +kernel
theorem dX4_meet_53 : decode cX4_meet 53 = .ok (.iaload, 1) := by decide +kernel
theorem dX4_meet_54 : decode cX4_meet 54 = .ok (.istore 5, 2) := by decide +kernel
theorem dX4_meet_56 : decode cX4_meet 56 = .ok (.iload 5, 2) := by decide +kernel
theorem dX4_meet_58 : decode cX4_meet 58 = .ok (.aload_n 0, 1) := by decide +kernel
theorem dX4_meet_59 : decode cX4_meet 59 = .ok (.getfield 9, 3) := by decide +kernel
theorem dX4_meet_62 : decode cX4_meet 62 = .ok (.getfield 110, 3) := by decide +kernel
theorem dX4_meet_65 : decode cX4_meet 65 = .ok (.iload_n 2, 1) := by decide +kernel
theorem dX4_meet_66 : decode cX4_meet 66 = .ok (.iaload, 1) := by decide +kernel
theorem dX4_meet_67 : decode cX4_meet 67 = .ok (.iload 4, 2) := by decide +kernel
theorem dX4_meet_69 : decode cX4_meet 69 = .ok (.invokestatic 113, 3) := by decide +kernel
theorem dX4_meet_72 : decode cX4_meet 72 = .ok (.istore 6, 2) := by decide +kernel
theorem dX4_meet_74 : decode cX4_meet 74 = .ok (.aload_n 0, 1) := by decide +kernel
theorem dX4_meet_75 : decode cX4_meet 75 = .ok (.getfield 31, 3) := by decide +kernel
theorem dX4_meet_78 : decode cX4_meet 78 = .ok (.iload_n 1, 1) := by decide +kernel
theorem dX4_meet_79 : decode cX4_meet 79 = .ok (.iload 4, 2) := by decide +kernel
theorem dX4_meet_81 : decode cX4_meet 81 = .ok (.iload 6, 2) := by decide +kernel
theorem dX4_meet_83 : decode cX4_meet 83 = .ok (.isub, 1) := by decide +kernel
theorem dX4_meet_84 : decode cX4_meet 84 = .ok (.iastore, 1) := by decide +kernel
theorem dX4_meet_85 : decode cX4_meet 85 = .ok (.aload_n 0, 1) := by decide +kernel
theorem dX4_meet_86 : decode cX4_meet 86 = .ok (.getfield 22, 3) := by decide +kernel
theorem dX4_meet_89 : decode cX4_meet 89 = .ok (.iload_n 2, 1) := by decide +kernel
theorem dX4_meet_90 : decode cX4_meet 90 = .ok (.dup2, 1) := by decide +kernel
theorem dX4_meet_91 : decode cX4_meet 91 = .ok (.iaload, 1) := by decide +kernel
theorem dX4_meet_92 : decode cX4_meet 92 = .ok (.iload 6, 2) := by decide +kernel
theorem dX4_meet_94 : decode cX4_meet 94 = .ok (.iadd, 1) := by decide +kernel
theorem dX4_meet_95 : decode cX4_meet 95 = .ok (.iastore, 1) := by decide +kernel
theorem dX4_meet_96 : decode cX4_meet 96 = .ok (.iload 5, 2) := by decide +kernel
theorem dX4_meet_98 : decode cX4_meet 98 = .ok (.iconst 2, 1) := by decide +kernel
theorem dX4_meet_99 : decode cX4_meet 99 = .ok (.if_icmp .ne 22, 3) := by decide +kernel
theorem dX4_meet_102 : decode cX4_meet 102 = .ok (.aload_n 0, 1) := by decide +kernel
theorem dX4_meet_103 : decode cX4_meet 103 = .ok (.getfield 22, 3) := by decide +kernel
theorem dX4_meet_106 : decode cX4_meet 106 = .ok (.iload_n 2, 1) := by decide +kernel
theorem dX4_meet_107 : decode cX4_meet 107 = .ok (.iaload, 1) := by decide +kernel
theorem dX4_meet_108 : decode cX4_meet 108 = .ok (.bipush 12, 2) := by decide +kernel
theorem dX4_meet_110 : decode cX4_meet 110 = .ok (.if_icmp .le 11, 3) := by decide +kernel
theorem dX4_meet_113 : decode cX4_meet 113 = .ok (.aload_n 0, 1) := by decide +kernel
theorem dX4_meet_114 : decode cX4_meet 114 = .ok (.getfield 22, 3) := by decide +kernel
theorem dX4_meet_117 : decode cX4_meet 117 = .ok (.iload_n 2, 1) := by decide +kernel
theorem dX4_meet_118 : decode cX4_meet 118 = .ok (.bipush 12, 2) := by decide +kernel
theorem dX4_meet_120 : decode cX4_meet 120 = .ok (.iastore, 1) := by decide +kernel
theorem dX4_meet_121 : decode cX4_meet 121 = .ok (.iload_n 3, 1) := by decide +kernel
theorem dX4_meet_122 : decode cX4_meet 122 = .ok (.iconst 3, 1) := by decide +kernel
theorem dX4_meet_123 : decode cX4_meet 123 = .ok (.if_icmp .ne 9, 3) := by decide +kernel
theorem dX4_meet_126 : decode cX4_meet 126 = .ok (.aload_n 0, 1) := by decide +kernel
theorem dX4_meet_127 : decode cX4_meet 127 = .ok (.iload_n 1, 1) := by decide +kernel
theorem dX4_meet_128 : decode cX4_meet 128 = .ok (.iconst 1, 1) := by decide +kernel
theorem dX4_meet_129 : decode cX4_meet 129 = .ok (.invokevirtual 117, 3) := by decide +kernel
theorem dX4_meet_132 : decode cX4_meet 132 = .ok (.return_, 1) := by decide +kernel
set_option maxRecDepth 20000 in
theorem ggX4_laddersAhead_X4_stepsAhead : GoodIn wsX4_laddersAhead wsX4_stepsAhead := goodIn_r _ [5, 6, 7, 8, 9, 10, 11, 12, 13, 4, 14, 15, 24, 25, 26, 27, 28, 29, 30, 31, 32, 33, 34, 35, 36, 37, 38, 39, 40] (by decide +kernel) (by decide +kernel)
set_option maxRecDepth 20000 in
theorem gX4_laddersAhead_X4_stepsAhead : GoodIn wsX4_laddersAhead (wsV RX4 80 RX4 yX4_stepsAhead wsX4_stepsAhead) := goodIn_app (goodIn_of _ (by decide +kernel)) ggX4_laddersAhead_X4_stepsAhead
set_option maxRecDepth 20000 in
theorem ggX4_laddersAhead_X4_ladderAhead : GoodIn wsX4_laddersAhead wsX4_ladderAhead := goodIn_r _ [19, 6, 20, 11, 12, 13, 4, 14, 15, 21, 22, 23, 24, 25, 26, 27, 28, 29, 30, 31, 32, 33, 34, 35, 36, 37, 38, 39, 40] (by decide +kernel) (by decide +kernel)
set_option maxRecDepth 20000 in
theorem gX4_laddersAhead_X4_ladderAhead : GoodIn wsX4_laddersAhead (wsV RX4 83 RX4 yX4_ladderAhead wsX4_ladderAhead) := goodIn_app (goodIn_of _ (by decide +kernel)) ggX4_laddersAhead_X4_ladderAhead
theorem dX4_laddersAhead_0 : decode cX4_laddersAhead 0 = .ok (.aload_n 0, 1) := by decide +kernel
theorem dX4_laddersAhead_1 : decode cX4_laddersAhead 1 = .ok (.iload_n 1, 1) := by decide +kernel
theorem dX4_laddersAhead_2 : decode cX4_laddersAhead 2 = .ok (.invokevirtual 80, 3) := by decide +kernel
theorem dX4_laddersAhead_5 : decode cX4_laddersAhead 5 = .ok (.istore_n 2, 1) := by decide +kernel
theorem dX4_laddersAhead_6 : decode cX4_laddersAhead 6 = .ok (.iconst 0, 1) := by decide +kernel
theorem dX4_laddersAhead_7 : decode cX4_laddersAhead 7 = .ok (.istore_n 3, 1) := by decide +kernel
theorem dX4_laddersAhead_8 : decode cX4_laddersAhead 8 = .ok (.iconst 1, 1) := by decide +kernel
theorem dX4_laddersAhead_9 : decode cX4_laddersAhead 9 = .ok (.istore 4, 2) := by decide +kernel
theorem dX4_laddersAhead_11 : decode cX4_laddersAhead 11 = .ok (.iload 4, 2) := by decide +kernel
theorem dX4_laddersAhead_13 : decode cX4_laddersAhead 13 = .ok (.iload_n 2, 1) := by decide +kernel
theorem dX4_laddersAhead_14 : decode cX4_laddersAhead 14 = .ok (.if_icmp .gt 32, 3) := by decide +kernel
theorem dX4_laddersAhead_17 : decode cX4_laddersAhead 17 = .ok (.aload_n 0, 1) := by decide +kernel
theorem dX4_laddersAhead_18 : decode cX4_laddersAhead 18 = .ok (.iload_n 1, 1) := by decide +kernel
theorem dX4_laddersAhead_19 : decode cX4_laddersAhead 19 = .ok (.iload 4, 2) := by decide +kernel
theorem dX4_laddersAhead_21 : decode cX4_laddersAhead 21 = .ok (.invokevirtual 83, 3) := by decide +kernel
theorem dX4_laddersAhead_24 : decode cX4_laddersAhead 24 = .ok (.istore 5, 2) := by decide +kernel
theorem dX4_laddersAhead_26 : decode cX4_laddersAhead 26 = .ok (.iload 5, 2) := by decide +kernel
theorem dX4_laddersAhead_28 : decode cX4_laddersAhead 28 = .ok (.bipush (-9), 2) := by decide +kernel
theorem dX4_laddersAhead_30 : decode cX4_laddersAhead 30 = .ok (.if_icmp .eq 10, 3) := by decide +kernel
theorem dX4_laddersAhead_33 : decode cX4_laddersAhead 33 = .ok (.iload_n 3, 1) := by decide +kernel
theorem dX4_laddersAhead_34 : decode cX4_laddersAhead 34 = .ok (.iconst 1, 1) := by decide +kernel
theorem dX4_laddersAhead_35 : decode cX4_laddersAhead 35 = .ok (.iload 5, 2) := by decide +kernel
theorem dX4_laddersAhead_37 : decode cX4_laddersAhead 37 = .ok (.ishl, 1) := by decide +kernel
theorem dX4_laddersAhead_38 : decode cX4_laddersAhead 38 = .ok (.ior, 1) := by decide +kernel
theorem dX4_laddersAhead_39 : decode cX4_laddersAhead 39 = .ok (.istore_n 3, 1) := by decide +kernel
theorem dX4_laddersAhead_40 : decode cX4_laddersAhead 40 = .ok (.iinc 4 1, 3) := by decide +kernel
theorem dX4_laddersAhead_43 : decode cX4_laddersAhead 43 = .ok (.goto (-32), 3) := by decide +kernel
theorem dX4_laddersAhead_46 : decode cX4_laddersAhead 46 = .ok (.iload_n 3, 1) := by decide +kernel
theorem dX4_laddersAhead_47 : decode cX4_laddersAhead 47 = .ok (.ireturn, 1) := by decide +kernel
set_option maxRecDepth 20000 in
theorem ggX4_luckByStepping_X4_stepsAhead : GoodIn wsX4_luckByStepping wsX4_stepsAhead := goodIn_r _ [7, 8, 9, 10, 11, 12, 13, 14, 15, 6, 16, 2, 29, 30, 31, 32, 33, 34, 35, 36, 37, 38, 39, 40, 41, 42, 43, 44, 45] (by decide +kernel) (by decide +kernel)
set_option maxRecDepth 20000 in
theorem gX4_luckByStepping_X4_stepsAhead : GoodIn wsX4_luckByStepping (wsV RX4 80 RX4 yX4_stepsAhead wsX4_stepsAhead) := goodIn_app (goodIn_of _ (by decide +kernel)) ggX4_luckByStepping_X4_stepsAhead
set_option maxRecDepth 20000 in
theorem ggX4_luckByStepping_X4_ladderAhead : GoodIn wsX4_luckByStepping wsX4_ladderAhead := goodIn_r _ [20, 8, 21, 13, 14, 15, 6, 16, 2, 22, 23, 24, 29, 30, 31, 32, 33, 34, 35, 36, 37, 38, 39, 40, 41, 42, 43, 44, 45] (by decide +kernel) (by decide +kernel)
set_option maxRecDepth 20000 in
theorem gX4_luckByStepping_X4_ladderAhead : GoodIn wsX4_luckByStepping (wsV RX4 83 RX4 yX4_ladderAhead wsX4_ladderAhead) := goodIn_app (goodIn_of _ (by decide +kernel)) ggX4_luckByStepping_X4_ladderAhead
set_option maxRecDepth 20000 in
theorem ggX4_luckByStepping_X6_lessByMud : GoodIn wsX4_luckByStepping wsX6_lessByMud := goodIn_r _ [26] (by decide +kernel) (by decide +kernel)
set_option maxRecDepth 20000 in
theorem gX4_luckByStepping_X6_lessByMud_n104 : GoodIn wsX4_luckByStepping (wsX6_lessByMud) := ggX4_luckByStepping_X6_lessByMud
set_option maxRecDepth 20000 in
theorem ggX4_luckByStepping_X6_taken : GoodIn wsX4_luckByStepping wsX6_taken := goodIn_r _ [28] (by decide +kernel) (by decide +kernel)
set_option maxRecDepth 20000 in
theorem gX4_luckByStepping_X6_taken_n113 : GoodIn wsX4_luckByStepping (wsX6_taken) := ggX4_luckByStepping_X6_taken
theorem dX4_luckByStepping_0 : decode cX4_luckByStepping 0 = .ok (.aload_n 0, 1) := by decide +kernel
theorem dX4_luckByStepping_1 : decode cX4_luckByStepping 1 = .ok (.iload_n 1, 1) := by decide +kernel
theorem dX4_luckByStepping_2 : decode cX4_luckByStepping 2 = .ok (.invokevirtual 80, 3) := by decide +kernel
theorem dX4_luckByStepping_5 : decode cX4_luckByStepping 5 = .ok (.istore_n 3, 1) := by decide +kernel
theorem dX4_luckByStepping_6 : decode cX4_luckByStepping 6 = .ok (.aload_n 0, 1) := by decide +kernel
theorem dX4_luckByStepping_7 : decode cX4_luckByStepping 7 = .ok (.getfield 31, 3) := by decide +kernel
theorem dX4_luckByStepping_10 : decode cX4_luckByStepping 10 = .ok (.iload_n 1, 1) := by decide +kernel
theorem dX4_luckByStepping_11 : decode cX4_luckByStepping 11 = .ok (.iaload, 1) := by decide +kernel
theorem dX4_luckByStepping_12 : decode cX4_luckByStepping 12 = .ok (.istore 4, 2) := by decide +kernel
theorem dX4_luckByStepping_14 : decode cX4_luckByStepping 14 = .ok (.iconst 1, 1) := by decide +kernel
theorem dX4_luckByStepping_15 : decode cX4_luckByStepping 15 = .ok (.istore 5, 2) := by decide +kernel
theorem dX4_luckByStepping_17 : decode cX4_luckByStepping 17 = .ok (.iload 5, 2) := by decide +kernel
theorem dX4_luckByStepping_19 : decode cX4_luckByStepping 19 = .ok (.iload_n 3, 1) := by decide +kernel
theorem dX4_luckByStepping_20 : decode cX4_luckByStepping 20 = .ok (.if_icmp .gt 78, 3) := by decide +kernel
theorem dX4_luckByStepping_23 : decode cX4_luckByStepping 23 = .ok (.aload_n 0, 1) := by decide +kernel
theorem dX4_luckByStepping_24 : decode cX4_luckByStepping 24 = .ok (.iload_n 1, 1) := by decide +kernel
theorem dX4_luckByStepping_25 : decode cX4_luckByStepping 25 = .ok (.iload 5, 2) := by decide +kernel
theorem dX4_luckByStepping_27 : decode cX4_luckByStepping 27 = .ok (.invokevirtual 83, 3) := by decide +kernel
theorem dX4_luckByStepping_30 : decode cX4_luckByStepping 30 = .ok (.istore 6, 2) := by decide +kernel
theorem dX4_luckByStepping_32 : decode cX4_luckByStepping 32 = .ok (.iload 6, 2) := by decide +kernel
theorem dX4_luckByStepping_34 : decode cX4_luckByStepping 34 = .ok (.bipush (-9), 2) := by decide +kernel
theorem dX4_luckByStepping_36 : decode cX4_luckByStepping 36 = .ok (.if_icmp .ne 6, 3) := by decide +kernel
theorem dX4_luckByStepping_39 : decode cX4_luckByStepping 39 = .ok (.goto 53, 3) := by decide +kernel
theorem dX4_luckByStepping_42 : decode cX4_luckByStepping 42 = .ok (.iload_n 2, 1) := by decide +kernel
theorem dX4_luckByStepping_43 : decode cX4_luckByStepping 43 = .ok (.iload 6, 2) := by decide +kernel
theorem dX4_luckByStepping_45 : decode cX4_luckByStepping 45 = .ok (.ishr, 1) := by decide +kernel
theorem dX4_luckByStepping_46 : decode cX4_luckByStepping 46 = .ok (.iconst 1, 1) := by decide +kernel
theorem dX4_luckByStepping_47 : decode cX4_luckByStepping 47 = .ok (.iand, 1) := by decide +kernel
theorem dX4_luckByStepping_48 : decode cX4_luckByStepping 48 = .ok (.iconst 1, 1) := by decide +kernel
theorem dX4_luckByStepping_49 : decode cX4_luckByStepping 49 = .ok (.if_icmp .ne 13, 3) := by decide +kernel
theorem dX4_luckByStepping_52 : decode cX4_luckByStepping 52 = .ok (.iload 4, 2) := by decide +kernel
theorem dX4_luckByStepping_54 : decode cX4_luckByStepping 54 = .ok (.invokestatic 104, 3) := by decide +kernel
theorem dX4_luckByStepping_57 : decode cX4_luckByStepping 57 = .ok (.istore 4, 2) := by decide +kernel
theorem dX4_luckByStepping_59 : decode cX4_luckByStepping 59 = .ok (.goto 33, 3) := by decide +kernel
theorem dX4_luckByStepping_62 : decode cX4_luckByStepping 62 = .ok (.iload 4, 2) := by decide +kernel
theorem dX4_luckByStepping_64 : decode cX4_luckByStepping 64 = .ok (.aload_n 0, 1) := by decide +kernel
theorem dX4_luckByStepping_65 : decode cX4_luckByStepping 65 = .ok (.getfield 9, 3) := by decide +kernel
theorem dX4_luckByStepping_68 : decode cX4_luckByStepping 68 = .ok (.getfield 107, 3) := by decide +kernel
theorem dX4_luckByStepping_71 : decode cX4_luckByStepping 71 = .ok (.iload 6, 2) := by decide +kernel
theorem dX4_luckByStepping_73 : decode cX4_luckByStepping 73 = .ok (.iaload, 1) := by decide +kernel
theorem dX4_luckByStepping_74 : decode cX4_luckByStepping 74 = .ok (.aload_n 0, 1) := by decide +kernel
theorem dX4_luckByStepping_75 : decode cX4_luckByStepping 75 = .ok (.getfield 9, 3) := by decide +kernel
theorem dX4_luckByStepping_78 : decode cX4_luckByStepping 78 = .ok (.getfield 110, 3) := by decide +kernel
theorem dX4_luckByStepping_81 : decode cX4_luckByStepping 81 = .ok (.iload 6, 2) := by decide +kernel
theorem dX4_luckByStepping_83 : decode cX4_luckByStepping 83 = .ok (.iaload, 1) := by decide +kernel
theorem dX4_luckByStepping_84 : decode cX4_luckByStepping 84 = .ok (.iload 4, 2) := by decide +kernel
theorem dX4_luckByStepping_86 : decode cX4_luckByStepping 86 = .ok (.invokestatic 113, 3) := by decide +kernel
theorem dX4_luckByStepping_89 : decode cX4_luckByStepping 89 = .ok (.isub, 1) := by decide +kernel
theorem dX4_luckByStepping_90 : decode cX4_luckByStepping 90 = .ok (.istore 4, 2) := by decide +kernel
theorem dX4_luckByStepping_92 : decode cX4_luckByStepping 92 = .ok (.iinc 5 1, 3) := by decide +kernel
theorem dX4_luckByStepping_95 : decode cX4_luckByStepping 95 = .ok (.goto (-78), 3) := by decide +kernel
theorem dX4_luckByStepping_98 : decode cX4_luckByStepping 98 = .ok (.iload 4, 2) := by decide +kernel
theorem dX4_luckByStepping_100 : decode cX4_luckByStepping 100 = .ok (.ireturn, 1) := by decide +kernel
set_option maxRecDepth 20000 in
theorem ggX4_doDrawn_X4_passDay : GoodIn wsX4_doDrawn wsX4_passDay := goodIn_r _ [6, 1, 7, 8, 9, 10, 11, 12, 5, 13, 14, 15, 16, 17, 18, 19, 20, 21, 22, 23, 24, 25, 26, 27, 28, 29, 30, 31, 32, 33, 34, 35, 36, 37, 38, 39, 40, 41, 42, 43, 44, 45, 46, 47, 61, 62, 63, 64, 65, 66, 67, 68, 69, 70, 71, 72, 73, 74, 75, 76, 77] (by decide +kernel) (by decide +kernel)
set_option maxRecDepth 20000 in
theorem gX4_doDrawn_X4_passDay : GoodIn wsX4_doDrawn (wsV RX4 73 RX4 yX4_passDay wsX4_passDay) := goodIn_app (goodIn_of _ (by decide +kernel)) ggX4_doDrawn_X4_passDay
set_option maxRecDepth 20000 in
theorem ggX4_doDrawn_X4_endow : GoodIn wsX4_doDrawn wsX4_endow := goodIn_r _ [47, 39, 61, 62, 63, 64, 65, 66, 67, 68] (by decide +kernel) (by decide +kernel)
set_option maxRecDepth 20000 in
theorem gX4_doDrawn_X4_endow : GoodIn wsX4_doDrawn (wsV RX4 117 RX4 yX4_endow wsX4_endow) := goodIn_app (goodIn_of _ (by decide +kernel)) ggX4_doDrawn_X4_endow
set_option maxRecDepth 20000 in
theorem ggX4_doDrawn_X4_isFree : GoodIn wsX4_doDrawn wsX4_isFree := goodIn_r _ [51, 31, 32, 33, 34, 61, 62, 63, 64, 65, 66, 67, 68] (by decide +kernel) (by decide +kernel)
set_option maxRecDepth 20000 in
theorem gX4_doDrawn_X4_isFree : GoodIn wsX4_doDrawn (wsV RX4 120 RX4 yX4_isFree wsX4_isFree) := goodIn_app (goodIn_of _ (by decide +kernel)) ggX4_doDrawn_X4_isFree
set_option maxRecDepth 20000 in
theorem ggX4_doDrawn_X4_put : GoodIn wsX4_doDrawn wsX4_put := goodIn_r _ [55, 56, 57, 58, 59, 5, 60, 31, 32, 33, 34, 61, 62, 63, 64, 65, 66, 67, 68] (by decide +kernel) (by decide +kernel)
set_option maxRecDepth 20000 in
theorem gX4_doDrawn_X4_put : GoodIn wsX4_doDrawn (wsV RX4 123 RX4 yX4_put wsX4_put) := goodIn_app (goodIn_of _ (by decide +kernel)) ggX4_doDrawn_X4_put
theorem dX4_doDrawn_0 : decode cX4_doDrawn 0 = .ok (.iload_n 1, 1) := by decide +kernel
theorem dX4_doDrawn_1 : decode cX4_doDrawn 1 = .ok (.bipush 15, 2) := by decide +kernel
theorem dX4_doDrawn_3 : decode cX4_doDrawn 3 = .ok (.if_icmp .lt 13, 3) := by decide +kernel
theorem dX4_doDrawn_6 : decode cX4_doDrawn 6 = .ok (.aload_n 0, 1) := by decide +kernel
theorem dX4_doDrawn_7 : decode cX4_doDrawn 7 = .ok (.bipush 31, 2) := by decide +kernel
theorem dX4_doDrawn_9 : decode cX4_doDrawn 9 = .ok (.invokevirtual 73, 3) := by decide +kernel
theorem dX4_doDrawn_12 : decode cX4_doDrawn 12 = .ok (.pop, 1) := by decide +kernel
theorem dX4_doDrawn_13 : decode cX4_doDrawn 13 = .ok (.goto 62, 3) := by decide +kernel
theorem dX4_doDrawn_16 : decode cX4_doDrawn 16 = .ok (.iload_n 1, 1) := by decide +kernel
theorem dX4_doDrawn_17 : decode cX4_doDrawn 17 = .ok (.bipush 10, 2) := by decide +kernel
theorem dX4_doDrawn_19 : decode cX4_doDrawn 19 = .ok (.if_icmp .lt 28, 3) := by decide +kernel
theorem dX4_doDrawn_22 : decode cX4_doDrawn 22 = .ok (.iload_n 1, 1) := by decide +kernel
theorem dX4_doDrawn_23 : decode cX4_doDrawn 23 = .ok (.bipush 10, 2) := by decide +kernel
theorem dX4_doDrawn_25 : decode cX4_doDrawn 25 = .ok (.isub, 1) := by decide +kernel
theorem dX4_doDrawn_26 : decode cX4_doDrawn 26 = .ok (.istore_n 2, 1) := by decide +kernel
theorem dX4_doDrawn_27 : decode cX4_doDrawn 27 = .ok (.iload_n 2, 1) := by decide +kernel
theorem dX4_doDrawn_28 : decode cX4_doDrawn 28 = .ok (.aload_n 0, 1) := by decide +kernel
theorem dX4_doDrawn_29 : decode cX4_doDrawn 29 = .ok (.getfield 9, 3) := by decide +kernel
theorem dX4_doDrawn_32 : decode cX4_doDrawn 32 = .ok (.getfield 51, 3) := by decide +kernel
theorem dX4_doDrawn_35 : decode cX4_doDrawn 35 = .ok (.if_icmp .ge 9, 3) := by decide +kernel
theorem dX4_doDrawn_38 : decode cX4_doDrawn 38 = .ok (.aload_n 0, 1) := by decide +kernel
theorem dX4_doDrawn_39 : decode cX4_doDrawn 39 = .ok (.iload_n 2, 1) := by decide +kernel
theorem dX4_doDrawn_40 : decode cX4_doDrawn 40 = .ok (.iconst 1, 1) := by decide +kernel
theorem dX4_doDrawn_41 : decode cX4_doDrawn 41 = .ok (.invokevirtual 117, 3) := by decide +kernel
theorem dX4_doDrawn_44 : decode cX4_doDrawn 44 = .ok (.goto 31, 3) := by decide +kernel
theorem dX4_doDrawn_47 : decode cX4_doDrawn 47 = .ok (.iload_n 1, 1) := by decide +kernel
theorem dX4_doDrawn_48 : decode cX4_doDrawn 48 = .ok (.ifCond .lt 27, 3) := by decide +kernel
theorem dX4_doDrawn_51 : decode cX4_doDrawn 51 = .ok (.aload_n 0, 1) := by decide +kernel
theorem dX4_doDrawn_52 : decode cX4_doDrawn 52 = .ok (.getfield 9, 3) := by decide +kernel
theorem dX4_doDrawn_55 : decode cX4_doDrawn 55 = .ok (.getfield 34, 3) := by decide +kernel
theorem dX4_doDrawn_58 : decode cX4_doDrawn 58 = .ok (.ifCond .le 17, 3) := by decide +kernel
theorem dX4_doDrawn_61 : decode cX4_doDrawn 61 = .ok (.aload_n 0, 1) := by decide +kernel
theorem dX4_doDrawn_62 : decode cX4_doDrawn 62 = .ok (.iload_n 1, 1) := by decide +kernel
theorem dX4_doDrawn_63 : decode cX4_doDrawn 63 = .ok (.invokevirtual 120, 3) := by decide +kernel
theorem dX4_doDrawn_66 : decode cX4_doDrawn 66 = .ok (.ifCond .eq 9, 3) := by decide +kernel
theorem dX4_doDrawn_69 : decode cX4_doDrawn 69 = .ok (.aload_n 0, 1) := by decide +kernel
theorem dX4_doDrawn_70 : decode cX4_doDrawn 70 = .ok (.iconst 0, 1) := by decide +kernel
theorem dX4_doDrawn_71 : decode cX4_doDrawn 71 = .ok (.iload_n 1, 1) := by decide +kernel
theorem dX4_doDrawn_72 : decode cX4_doDrawn 72 = .ok (.invokevirtual 123, 3) := by decide +kernel
theorem dX4_doDrawn_75 : decode cX4_doDrawn 75 = .ok (.return_, 1) := by decide +kernel
theorem dX4_luckOfPeople_0 : decode cX4_luckOfPeople 0 = .ok (.iconst 0, 1) := by decide +kernel
theorem dX4_luckOfPeople_1 : decode cX4_luckOfPeople 1 = .ok (.istore_n 1, 1) := by decide +kernel
theorem dX4_luckOfPeople_2 : decode cX4_luckOfPeople 2 = .ok (.iconst 0, 1) := by decide +kernel
theorem dX4_luckOfPeople_3 : decode cX4_luckOfPeople 3 = .ok (.istore_n 2, 1) := by decide +kernel
theorem dX4_luckOfPeople_4 : decode cX4_luckOfPeople 4 = .ok (.iload_n 2, 1) := by decide +kernel
theorem dX4_luckOfPeople_5 : decode cX4_luckOfPeople 5 = .ok (.aload_n 0, 1) := by decide +kernel
theorem dX4_luckOfPeople_6 : decode cX4_luckOfPeople 6 = .ok (.getfield 9, 3) := by decide +kernel
theorem dX4_luckOfPeople_9 : decode cX4_luckOfPeople 9 = .ok (.getfield 51, 3) := by decide +kernel
theorem dX4_luckOfPeople_12 : decode cX4_luckOfPeople 12 = .ok (.if_icmp .ge 18, 3) := by decide +kernel
theorem dX4_luckOfPeople_15 : decode cX4_luckOfPeople 15 = .ok (.iload_n 1, 1) := by decide +kernel
theorem dX4_luckOfPeople_16 : decode cX4_luckOfPeople 16 = .ok (.aload_n 0, 1) := by decide +kernel
theorem dX4_luckOfPeople_17 : decode cX4_luckOfPeople 17 = .ok (.getfield 31, 3) := by decide +kernel
theorem dX4_luckOfPeople_20 : decode cX4_luckOfPeople 20 = .ok (.iload_n 2, 1) := by decide +kernel
theorem dX4_luckOfPeople_21 : decode cX4_luckOfPeople 21 = .ok (.iaload, 1) := by decide +kernel
theorem dX4_luckOfPeople_22 : decode cX4_luckOfPeople 22 = .ok (.iadd, 1) := by decide +kernel
theorem dX4_luckOfPeople_23 : decode cX4_luckOfPeople 23 = .ok (.istore_n 1, 1) := by decide +kernel
theorem dX4_luckOfPeople_24 : decode cX4_luckOfPeople 24 = .ok (.iinc 2 1, 3) := by decide +kernel
theorem dX4_luckOfPeople_27 : decode cX4_luckOfPeople 27 = .ok (.goto (-23), 3) := by decide +kernel
theorem dX4_luckOfPeople_30 : decode cX4_luckOfPeople 30 = .ok (.iload_n 1, 1) := by decide +kernel
theorem dX4_luckOfPeople_31 : decode cX4_luckOfPeople 31 = .ok (.ireturn, 1) := by decide +kernel
theorem dX4_luckOfMen_0 : decode cX4_luckOfMen 0 = .ok (.iconst 0, 1) := by decide +kernel
theorem dX4_luckOfMen_1 : decode cX4_luckOfMen 1 = .ok (.istore_n 1, 1) := by decide +kernel
theorem dX4_luckOfMen_2 : decode cX4_luckOfMen 2 = .ok (.iconst 0, 1) := by decide +kernel
theorem dX4_luckOfMen_3 : decode cX4_luckOfMen 3 = .ok (.istore_n 2, 1) := by decide +kernel
theorem dX4_luckOfMen_4 : decode cX4_luckOfMen 4 = .ok (.iload_n 2, 1) := by decide +kernel
theorem dX4_luckOfMen_5 : decode cX4_luckOfMen 5 = .ok (.aload_n 0, 1) := by decide +kernel
theorem dX4_luckOfMen_6 : decode cX4_luckOfMen 6 = .ok (.getfield 9, 3) := by decide +kernel
theorem dX4_luckOfMen_9 : decode cX4_luckOfMen 9 = .ok (.getfield 34, 3) := by decide +kernel
theorem dX4_luckOfMen_12 : decode cX4_luckOfMen 12 = .ok (.if_icmp .ge 18, 3) := by decide +kernel
theorem dX4_luckOfMen_15 : decode cX4_luckOfMen 15 = .ok (.iload_n 1, 1) := by decide +kernel
theorem dX4_luckOfMen_16 : decode cX4_luckOfMen 16 = .ok (.aload_n 0, 1) := by decide +kernel
theorem dX4_luckOfMen_17 : decode cX4_luckOfMen 17 = .ok (.getfield 22, 3) := by decide +kernel
theorem dX4_luckOfMen_20 : decode cX4_luckOfMen 20 = .ok (.iload_n 2, 1) := by decide +kernel
theorem dX4_luckOfMen_21 : decode cX4_luckOfMen 21 = .ok (.iaload, 1) := by decide +kernel
theorem dX4_luckOfMen_22 : decode cX4_luckOfMen 22 = .ok (.iadd, 1) := by decide +kernel
theorem dX4_luckOfMen_23 : decode cX4_luckOfMen 23 = .ok (.istore_n 1, 1) := by decide +kernel
theorem dX4_luckOfMen_24 : decode cX4_luckOfMen 24 = .ok (.iinc 2 1, 3) := by decide +kernel
theorem dX4_luckOfMen_27 : decode cX4_luckOfMen 27 = .ok (.goto (-23), 3) := by decide +kernel
theorem dX4_luckOfMen_30 : decode cX4_luckOfMen 30 = .ok (.iload_n 1, 1) := by decide +kernel
theorem dX4_luckOfMen_31 : decode cX4_luckOfMen 31 = .ok (.ireturn, 1) := by decide +kernel
theorem dX4_goldOfMen_0 : decode cX4_goldOfMen 0 = .ok (.iconst 0, 1) := by decide +kernel
theorem dX4_goldOfMen_1 : decode cX4_goldOfMen 1 = .ok (.istore_n 1, 1) := by decide +kernel
theorem dX4_goldOfMen_2 : decode cX4_goldOfMen 2 = .ok (.iconst 0, 1) := by decide +kernel
theorem dX4_goldOfMen_3 : decode cX4_goldOfMen 3 = .ok (.istore_n 2, 1) := by decide +kernel
theorem dX4_goldOfMen_4 : decode cX4_goldOfMen 4 = .ok (.iload_n 2, 1) := by decide +kernel
theorem dX4_goldOfMen_5 : decode cX4_goldOfMen 5 = .ok (.aload_n 0, 1) := by decide +kernel
theorem dX4_goldOfMen_6 : decode cX4_goldOfMen 6 = .ok (.getfield 9, 3) := by decide +kernel
theorem dX4_goldOfMen_9 : decode cX4_goldOfMen 9 = .ok (.getfield 34, 3) := by decide +kernel
theorem dX4_goldOfMen_12 : decode cX4_goldOfMen 12 = .ok (.if_icmp .ge 18, 3) := by decide +kernel
theorem dX4_goldOfMen_15 : decode cX4_goldOfMen 15 = .ok (.iload_n 1, 1) := by decide +kernel
theorem dX4_goldOfMen_16 : decode cX4_goldOfMen 16 = .ok (.aload_n 0, 1) := by decide +kernel
theorem dX4_goldOfMen_17 : decode cX4_goldOfMen 17 = .ok (.getfield 25, 3) := by decide +kernel
theorem dX4_goldOfMen_20 : decode cX4_goldOfMen 20 = .ok (.iload_n 2, 1) := by decide +kernel
theorem dX4_goldOfMen_21 : decode cX4_goldOfMen 21 = .ok (.iaload, 1) := by decide +kernel
theorem dX4_goldOfMen_22 : decode cX4_goldOfMen 22 = .ok (.iadd, 1) := by decide +kernel
theorem dX4_goldOfMen_23 : decode cX4_goldOfMen 23 = .ok (.istore_n 1, 1) := by decide +kernel
theorem dX4_goldOfMen_24 : decode cX4_goldOfMen 24 = .ok (.iinc 2 1, 3) := by decide +kernel
theorem dX4_goldOfMen_27 : decode cX4_goldOfMen 27 = .ok (.goto (-23), 3) := by decide +kernel
theorem dX4_goldOfMen_30 : decode cX4_goldOfMen 30 = .ok (.iload_n 1, 1) := by decide +kernel
theorem dX4_goldOfMen_31 : decode cX4_goldOfMen 31 = .ok (.ireturn, 1) := by decide +kernel
theorem dX4_peopleAtHome_0 : decode cX4_peopleAtHome 0 = .ok (.iconst 0, 1) := by decide +kernel
theorem dX4_peopleAtHome_1 : decode cX4_peopleAtHome 1 = .ok (.istore_n 1, 1) := by decide +kernel
theorem dX4_peopleAtHome_2 : decode cX4_peopleAtHome 2 = .ok (.iconst 0, 1) := by decide +kernel
theorem dX4_peopleAtHome_3 : decode cX4_peopleAtHome 3 = .ok (.istore_n 2, 1) := by decide +kernel
theorem dX4_peopleAtHome_4 : decode cX4_peopleAtHome 4 = .ok (.iload_n 2, 1) := by decide +kernel
theorem dX4_peopleAtHome_5 : decode cX4_peopleAtHome 5 = .ok (.aload_n 0, 1) := by decide +kernel
theorem dX4_peopleAtHome_6 : decode cX4_peopleAtHome 6 = .ok (.getfield 9, 3) := by decide +kernel
theorem dX4_peopleAtHome_9 : decode cX4_peopleAtHome 9 = .ok (.getfield 51, 3) := by decide +kernel
theorem dX4_peopleAtHome_12 : decode cX4_peopleAtHome 12 = .ok (.if_icmp .ge 33, 3) := by decide +kernel
theorem dX4_peopleAtHome_15 : decode cX4_peopleAtHome 15 = .ok (.aload_n 0, 1) := by decide +kernel
theorem dX4_peopleAtHome_16 : decode cX4_peopleAtHome 16 = .ok (.getfield 28, 3) := by decide +kernel
theorem dX4_peopleAtHome_19 : decode cX4_peopleAtHome 19 = .ok (.iload_n 2, 1) := by decide +kernel
theorem dX4_peopleAtHome_20 : decode cX4_peopleAtHome 20 = .ok (.iaload, 1) := by decide +kernel
theorem dX4_peopleAtHome_21 : decode cX4_peopleAtHome 21 = .ok (.aload_n 0, 1) := by decide +kernel
theorem dX4_peopleAtHome_22 : decode cX4_peopleAtHome 22 = .ok (.getfield 9, 3) := by decide +kernel
theorem dX4_peopleAtHome_25 : decode cX4_peopleAtHome 25 = .ok (.getfield 54, 3) := by decide +kernel
theorem dX4_peopleAtHome_28 : decode cX4_peopleAtHome 28 = .ok (.iload_n 2, 1) := by decide +kernel
theorem dX4_peopleAtHome_29 : decode cX4_peopleAtHome 29 = .ok (.iaload, 1) := by decide +kernel
theorem dX4_peopleAtHome_30 : decode cX4_peopleAtHome 30 = .ok (.if_icmp .ne 9, 3) := by decide +kernel
theorem dX4_peopleAtHome_33 : decode cX4_peopleAtHome 33 = .ok (.iload_n 1, 1) := by decide +kernel
theorem dX4_peopleAtHome_34 : decode cX4_peopleAtHome 34 = .ok (.iconst 1, 1) := by decide +kernel
theorem dX4_peopleAtHome_35 : decode cX4_peopleAtHome 35 = .ok (.iload_n 2, 1) := by decide +kernel
theorem dX4_peopleAtHome_36 : decode cX4_peopleAtHome 36 = .ok (.ishl, 1) := by decide +kernel
theorem dX4_peopleAtHome_37 : decode cX4_peopleAtHome 37 = .ok (.ior, 1) := by decide +kernel
theorem dX4_peopleAtHome_38 : decode cX4_peopleAtHome 38 = .ok (.istore_n 1, 1) := by decide +kernel
theorem dX4_peopleAtHome_39 : decode cX4_peopleAtHome 39 = .ok (.iinc 2 1, 3) := by decide +kernel
theorem dX4_peopleAtHome_42 : decode cX4_peopleAtHome 42 = .ok (.goto (-38), 3) := by decide +kernel
theorem dX4_peopleAtHome_45 : decode cX4_peopleAtHome 45 = .ok (.iload_n 1, 1) := by decide +kernel
theorem dX4_peopleAtHome_46 : decode cX4_peopleAtHome 46 = .ok (.ireturn, 1) := by decide +kernel
