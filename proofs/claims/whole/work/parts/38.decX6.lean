set_option maxRecDepth 20000 in
theorem ggX6_init_X5_init : GoodIn wsX6_init wsX5_init := goodIn_r _ [35, 36, 2, 3, 37, 38, 85, 86] (by decide +kernel) (by decide +kernel)
set_option maxRecDepth 20000 in
theorem gX6_init_X5_init : GoodIn wsX6_init (wsX5_init) := ggX6_init_X5_init
set_option maxRecDepth 20000 in
theorem ggX6_init_X2_init : GoodIn wsX6_init wsX2_init := goodIn_r _ [41, 42, 2, 3, 37, 43, 44, 45, 46, 47, 48, 49, 98, 99, 100, 101, 102, 103, 104, 105, 106] (by decide +kernel) (by decide +kernel)
set_option maxRecDepth 20000 in
theorem gX6_init_X2_init : GoodIn wsX6_init (wsX2_init) := ggX6_init_X2_init
set_option maxRecDepth 20000 in
theorem ggX6_init_X4_init : GoodIn wsX6_init wsX4_init := goodIn_r _ [52, 53, 2, 3, 54, 37, 55, 56, 57, 58, 59, 60, 107, 108, 109, 110, 111, 112, 113, 114] (by decide +kernel) (by decide +kernel)
set_option maxRecDepth 20000 in
theorem gX6_init_X4_init : GoodIn wsX6_init (wsX4_init) := ggX6_init_X4_init
set_option maxRecDepth 20000 in
theorem ggX6_init_X0_init : GoodIn wsX6_init wsX0_init := goodIn_r _ [63, 64, 2, 3, 65, 66, 14, 15, 67, 51, 52, 53, 54, 37, 55, 56, 57, 58, 59, 60, 115, 116, 117, 107, 108, 109, 110, 111, 112, 113, 114] (by decide +kernel) (by decide +kernel)
set_option maxRecDepth 20000 in
theorem gX6_init_X0_init : GoodIn wsX6_init (wsX0_init) := ggX6_init_X0_init
set_option maxRecDepth 20000 in
theorem ggX6_init_X3_init : GoodIn wsX6_init wsX3_init := goodIn_r _ [70, 71, 2, 3, 37, 72, 73, 118, 119, 120] (by decide +kernel) (by decide +kernel)
set_option maxRecDepth 20000 in
theorem gX6_init_X3_init : GoodIn wsX6_init (wsX3_init) := ggX6_init_X3_init
set_option maxRecDepth 20000 in
theorem ggX6_init_X1_init : GoodIn wsX6_init wsX1_init := goodIn_r _ [76, 77, 2, 3, 78, 79, 80, 37, 81, 82, 83, 84, 121, 122, 123, 124, 125, 126, 127, 128, 129] (by decide +kernel) (by decide +kernel)
set_option maxRecDepth 20000 in
theorem gX6_init_X1_init : GoodIn wsX6_init (wsX1_init) := ggX6_init_X1_init
theorem dX6_init_0 : decode cX6_init 0 = .ok (.aload_n 0, 1) := by decide +kernel
theorem dX6_init_1 : decode cX6_init 1 = .ok (.invokespecial 3, 3) := by decide +kernel
theorem dX6_init_4 : decode cX6_init 4 = .ok (.aload_n 0, 1) := by decide +kernel
theorem dX6_init_5 : decode cX6_init 5 = .ok (.new 9, 3) := by decide +kernel
theorem dX6_init_8 : decode cX6_init 8 = .ok (.dup, 1) := by decide +kernel
theorem dX6_init_9 : decode cX6_init 9 = .ok (.invokespecial 11, 3) := by decide +kernel
theorem dX6_init_12 : decode cX6_init 12 = .ok (.putfield 12, 3) := by decide +kernel
theorem dX6_init_15 : decode cX6_init 15 = .ok (.aload_n 0, 1) := by decide +kernel
theorem dX6_init_16 : decode cX6_init 16 = .ok (.new 16, 3) := by decide +kernel
theorem dX6_init_19 : decode cX6_init 19 = .ok (.dup, 1) := by decide +kernel
theorem dX6_init_20 : decode cX6_init 20 = .ok (.invokespecial 18, 3) := by decide +kernel
theorem dX6_init_23 : decode cX6_init 23 = .ok (.putfield 19, 3) := by decide +kernel
theorem dX6_init_26 : decode cX6_init 26 = .ok (.aload_n 0, 1) := by decide +kernel
theorem dX6_init_27 : decode cX6_init 27 = .ok (.new 16, 3) := by decide +kernel
theorem dX6_init_30 : decode cX6_init 30 = .ok (.dup, 1) := by decide +kernel
theorem dX6_init_31 : decode cX6_init 31 = .ok (.invokespecial 18, 3) := by decide +kernel
theorem dX6_init_34 : decode cX6_init 34 = .ok (.putfield 23, 3) := by decide +kernel
theorem dX6_init_37 : decode cX6_init 37 = .ok (.aload_n 0, 1) := by decide +kernel
theorem dX6_init_38 : decode cX6_init 38 = .ok (.new 26, 3) := by decide +kernel
theorem dX6_init_41 : decode cX6_init 41 = .ok (.dup, 1) := by decide +kernel
theorem dX6_init_42 : decode cX6_init 42 = .ok (.aload_n 0, 1) := by decide +kernel
theorem dX6_init_43 : decode cX6_init 43 = .ok (.getfield 23, 3) := by decide +kernel
theorem dX6_init_46 : decode cX6_init 46 = .ok (.invokespecial 28, 3) := by decide +kernel
theorem dX6_init_49 : decode cX6_init 49 = .ok (.putfield 31, 3) := by decide +kernel
theorem dX6_init_52 : decode cX6_init 52 = .ok (.aload_n 0, 1) := by decide +kernel
theorem dX6_init_53 : decode cX6_init 53 = .ok (.new 26, 3) := by decide +kernel
theorem dX6_init_56 : decode cX6_init 56 = .ok (.dup, 1) := by decide +kernel
theorem dX6_init_57 : decode cX6_init 57 = .ok (.aload_n 0, 1) := by decide +kernel
theorem dX6_init_58 : decode cX6_init 58 = .ok (.getfield 23, 3) := by decide +kernel
theorem dX6_init_61 : decode cX6_init 61 = .ok (.invokespecial 28, 3) := by decide +kernel
theorem dX6_init_64 : decode cX6_init 64 = .ok (.putfield 35, 3) := by decide +kernel
theorem dX6_init_67 : decode cX6_init 67 = .ok (.aload_n 0, 1) := by decide +kernel
theorem dX6_init_68 : decode cX6_init 68 = .ok (.new 38, 3) := by decide +kernel
theorem dX6_init_71 : decode cX6_init 71 = .ok (.dup, 1) := by decide +kernel
theorem dX6_init_72 : decode cX6_init 72 = .ok (.aload_n 0, 1) := by decide +kernel
theorem dX6_init_73 : decode cX6_init 73 = .ok (.getfield 23, 3) := by decide +kernel
theorem dX6_init_76 : decode cX6_init 76 = .ok (.invokespecial 40, 3) := by decide +kernel
theorem dX6_init_79 : decode cX6_init 79 = .ok (.putfield 41, 3) := by decide +kernel
theorem dX6_init_82 : decode cX6_init 82 = .ok (.aload_n 0, 1) := by decide +kernel
theorem dX6_init_83 : decode cX6_init 83 = .ok (.new 45, 3) := by decide +kernel
theorem dX6_init_86 : decode cX6_init 86 = .ok (.dup, 1) := by decide +kernel
theorem dX6_init_87 : decode cX6_init 87 = .ok (.invokespecial 47, 3) := by decide +kernel
theorem dX6_init_90 : decode cX6_init 90 = .ok (.putfield 48, 3) := by decide +kernel
theorem dX6_init_93 : decode cX6_init 93 = .ok (.aload_n 0, 1) := by decide +kernel
theorem dX6_init_94 : decode cX6_init 94 = .ok (.new 52, 3) := by decide +kernel
theorem dX6_init_97 : decode cX6_init 97 = .ok (.dup, 1) := by decide +kernel
theorem dX6_init_98 : decode cX6_init 98 = .ok (.aload_n 0, 1) := by decide +kernel
theorem dX6_init_99 : decode cX6_init 99 = .ok (.getfield 23, 3) := by decide +kernel
theorem dX6_init_102 : decode cX6_init 102 = .ok (.aload_n 0, 1) := by decide +kernel
theorem dX6_init_103 : decode cX6_init 103 = .ok (.getfield 31, 3) := by decide +kernel
theorem dX6_init_106 : decode cX6_init 106 = .ok (.aload_n 0, 1) := by decide +kernel
theorem dX6_init_107 : decode cX6_init 107 = .ok (.getfield 35, 3) := by decide +kernel
theorem dX6_init_110 : decode cX6_init 110 = .ok (.invokespecial 54, 3) := by decide +kernel
theorem dX6_init_113 : decode cX6_init 113 = .ok (.putfield 57, 3) := by decide +kernel
theorem dX6_init_116 : decode cX6_init 116 = .ok (.aload_n 0, 1) := by decide +kernel
theorem dX6_init_117 : decode cX6_init 117 = .ok (.iconst 2, 1) := by decide +kernel
theorem dX6_init_118 : decode cX6_init 118 = .ok (.anewarray 26, 3) := by decide +kernel
theorem dX6_init_121 : decode cX6_init 121 = .ok (.putfield 61, 3) := by decide +kernel
theorem dX6_init_124 : decode cX6_init 124 = .ok (.iconst 0, 1) := by decide +kernel
theorem dX6_init_125 : decode cX6_init 125 = .ok (.istore_n 1, 1) := by decide +kernel
theorem dX6_init_126 : decode cX6_init 126 = .ok (.iload_n 1, 1) := by decide +kernel
theorem dX6_init_127 : decode cX6_init 127 = .ok (.iconst 2, 1) := by decide +kernel
theorem dX6_init_128 : decode cX6_init 128 = .ok (.if_icmp .ge 26, 3) := by decide +kernel
theorem dX6_init_131 : decode cX6_init 131 = .ok (.aload_n 0, 1) := by decide +kernel
theorem dX6_init_132 : decode cX6_init 132 = .ok (.getfield 61, 3) := by decide +kernel
theorem dX6_init_135 : decode cX6_init 135 = .ok (.iload_n 1, 1) := by decide +kernel
theorem dX6_init_136 : decode cX6_init 136 = .ok (.new 26, 3) := by decide +kernel
theorem dX6_init_139 : decode cX6_init 139 = .ok (.dup, 1) := by decide +kernel
theorem dX6_init_140 : decode cX6_init 140 = .ok (.aload_n 0, 1) := by decide +kernel
theorem dX6_init_141 : decode cX6_init 141 = .ok (.getfield 23, 3) := by decide +kernel
theorem dX6_init_144 : decode cX6_init 144 = .ok (.invokespecial 28, 3) := by decide +kernel
theorem dX6_init_147 : decode cX6_init 147 = .ok (.aastore, 1) := by decide +kernel
theorem dX6_init_148 : decode cX6_init 148 = .ok (.iinc 1 1, 3) := by decide +kernel
theorem dX6_init_151 : decode cX6_init 151 = .ok (.goto (-25), 3) := by decide +kernel
theorem dX6_init_154 : decode cX6_init 154 = .ok (.aload_n 0, 1) := by decide +kernel
theorem dX6_init_155 : decode cX6_init 155 = .ok (.iconst 2, 1) := by decide +kernel
theorem dX6_init_156 : decode cX6_init 156 = .ok (.newarray .boolean, 2) := by decide +kernel
theorem dX6_init_158 : decode cX6_init 158 = .ok (.putfield 65, 3) := by decide +kernel
theorem dX6_init_161 : decode cX6_init 161 = .ok (.return_, 1) := by decide +kernel
set_option maxRecDepth 20000 in
theorem ggX6_write_X5_add : GoodIn wsX6_write wsX5_add := goodIn_r _ [6, 7, 8, 20, 21] (by decide +kernel) (by decide +kernel)
set_option maxRecDepth 20000 in
theorem gX6_write_X5_add : GoodIn wsX6_write (wsV RX6 69 RX5 yX5_add wsX5_add) := goodIn_app (goodIn_of _ (by decide +kernel)) ggX6_write_X5_add
theorem dX6_write_0 : decode cX6_write 0 = .ok (.iload_n 1, 1) := by decide +kernel
theorem dX6_write_1 : decode cX6_write 1 = .ok (.ifCond .lt 10, 3) := by decide +kernel
theorem dX6_write_4 : decode cX6_write 4 = .ok (.iload_n 1, 1) := by decide +kernel
theorem dX6_write_5 : decode cX6_write 5 = .ok (.sipush 255, 3) := by decide +kernel
theorem dX6_write_8 : decode cX6_write 8 = .ok (.if_icmp .le 6, 3) := by decide +kernel
theorem dX6_write_11 : decode cX6_write 11 = .ok (.bipush (-2), 2) := by decide +kernel
theorem dX6_write_13 : decode cX6_write 13 = .ok (.ireturn, 1) := by decide +kernel
theorem dX6_write_14 : decode cX6_write 14 = .ok (.aload_n 0, 1) := by decide +kernel
theorem dX6_write_15 : decode cX6_write 15 = .ok (.getfield 12, 3) := by decide +kernel
theorem dX6_write_18 : decode cX6_write 18 = .ok (.iload_n 1, 1) := by decide +kernel
theorem dX6_write_19 : decode cX6_write 19 = .ok (.invokevirtual 69, 3) := by decide +kernel
theorem dX6_write_22 : decode cX6_write 22 = .ok (.ireturn, 1) := by decide +kernel
set_option maxRecDepth 20000 in
theorem ggX6_wipe_X5_clear : GoodIn wsX6_wipe wsX5_clear := goodIn_r _ [6, 7, 19, 20] (by decide +kernel) (by decide +kernel)
set_option maxRecDepth 20000 in
theorem gX6_wipe_X5_clear : GoodIn wsX6_wipe (wsV RX6 73 RX5 yX5_clear wsX5_clear) := goodIn_app (goodIn_of _ (by decide +kernel)) ggX6_wipe_X5_clear
theorem dX6_wipe_0 : decode cX6_wipe 0 = .ok (.aload_n 0, 1) := by decide +kernel
theorem dX6_wipe_1 : decode cX6_wipe 1 = .ok (.getfield 12, 3) := by decide +kernel
theorem dX6_wipe_4 : decode cX6_wipe 4 = .ok (.invokevirtual 73, 3) := by decide +kernel
theorem dX6_wipe_7 : decode cX6_wipe 7 = .ok (.ireturn, 1) := by decide +kernel
set_option maxRecDepth 20000 in
theorem ggX6_fault_X2_readFrom : GoodIn wsX6_fault wsX2_readFrom := goodIn_r _ [7, 8, 9, 10, 11, 12, 13, 14, 15, 16, 17, 18, 19, 6, 20, 21, 22, 23, 24, 25, 26, 27, 28, 29, 30, 31, 32, 33, 34, 35, 36, 37, 38, 39, 40, 52, 53, 54, 55, 56, 57, 58, 59, 60, 61, 62] (by decide +kernel) (by decide +kernel)
set_option maxRecDepth 20000 in
theorem gX6_fault_X2_readFrom : GoodIn wsX6_fault (wsV RX6 77 RX2 yX2_readFrom wsX2_readFrom) := goodIn_app (goodIn_of _ (by decide +kernel)) ggX6_fault_X2_readFrom
theorem dX6_fault_0 : decode cX6_fault 0 = .ok (.aload_n 0, 1) := by decide +kernel
theorem dX6_fault_1 : decode cX6_fault 1 = .ok (.getfield 19, 3) := by decide +kernel
theorem dX6_fault_4 : decode cX6_fault 4 = .ok (.aload_n 0, 1) := by decide +kernel
theorem dX6_fault_5 : decode cX6_fault 5 = .ok (.getfield 12, 3) := by decide +kernel
theorem dX6_fault_8 : decode cX6_fault 8 = .ok (.invokevirtual 77, 3) := by decide +kernel
theorem dX6_fault_11 : decode cX6_fault 11 = .ok (.ireturn, 1) := by decide +kernel
set_option maxRecDepth 20000 in
theorem ggX6_market_X2_readFrom : GoodIn wsX6_market wsX2_readFrom := goodIn_r _ [11, 12, 13, 14, 15, 16, 17, 18, 19, 20, 21, 22, 23, 10, 24, 25, 26, 27, 28, 29, 30, 31, 32, 33, 34, 35, 36, 37, 38, 39, 40, 41, 42, 43, 44, 86, 87, 88, 89, 90, 91, 92, 93, 94, 95, 96] (by decide +kernel) (by decide +kernel)
set_option maxRecDepth 20000 in
theorem gX6_market_X2_readFrom : GoodIn wsX6_market (wsV RX6 77 RX2 yX2_readFrom wsX2_readFrom) := goodIn_app (goodIn_of _ (by decide +kernel)) ggX6_market_X2_readFrom
set_option maxRecDepth 20000 in
theorem ggX6_market_X4_begin : GoodIn wsX6_market wsX4_begin := goodIn_r _ [49, 50, 51, 52, 53, 54, 55, 56, 57, 58, 48, 59, 60, 61, 62, 63, 64, 65, 66, 67, 68, 97, 98, 99, 100, 101, 102, 103, 104, 86, 87, 88, 89, 90, 91, 92, 93, 94] (by decide +kernel) (by decide +kernel)
set_option maxRecDepth 20000 in
theorem gX6_market_X4_begin : GoodIn wsX6_market (wsV RX6 81 RX4 yX4_begin wsX4_begin) := goodIn_app (goodIn_of _ (by decide +kernel)) ggX6_market_X4_begin
set_option maxRecDepth 20000 in
theorem ggX6_market_X0_clear : GoodIn wsX6_market wsX0_clear := goodIn_r _ [73, 74, 105, 106, 107] (by decide +kernel) (by decide +kernel)
set_option maxRecDepth 20000 in
theorem gX6_market_X0_clear : GoodIn wsX6_market (wsV RX6 84 RX0 yX0_clear wsX0_clear) := goodIn_app (goodIn_of _ (by decide +kernel)) ggX6_market_X0_clear
theorem dX6_market_0 : decode cX6_market 0 = .ok (.aload_n 0, 1) := by decide +kernel
theorem dX6_market_1 : decode cX6_market 1 = .ok (.getfield 19, 3) := by decide +kernel
theorem dX6_market_4 : decode cX6_market 4 = .ok (.aload_n 0, 1) := by decide +kernel
theorem dX6_market_5 : decode cX6_market 5 = .ok (.getfield 12, 3) := by decide +kernel
theorem dX6_market_8 : decode cX6_market 8 = .ok (.invokevirtual 77, 3) := by decide +kernel
theorem dX6_market_11 : decode cX6_market 11 = .ok (.bipush (-9), 2) := by decide +kernel
theorem dX6_market_13 : decode cX6_market 13 = .ok (.if_icmp .eq 6, 3) := by decide +kernel
theorem dX6_market_16 : decode cX6_market 16 = .ok (.bipush (-3), 2) := by decide +kernel
theorem dX6_market_18 : decode cX6_market 18 = .ok (.ireturn, 1) := by decide +kernel
theorem dX6_market_19 : decode cX6_market 19 = .ok (.aload_n 0, 1) := by decide +kernel
theorem dX6_market_20 : decode cX6_market 20 = .ok (.getfield 23, 3) := by decide +kernel
theorem dX6_market_23 : decode cX6_market 23 = .ok (.aload_n 0, 1) := by decide +kernel
theorem dX6_market_24 : decode cX6_market 24 = .ok (.getfield 12, 3) := by decide +kernel
theorem dX6_market_27 : decode cX6_market 27 = .ok (.invokevirtual 77, 3) := by decide +kernel
theorem dX6_market_30 : decode cX6_market 30 = .ok (.pop, 1) := by decide +kernel
theorem dX6_market_31 : decode cX6_market 31 = .ok (.aload_n 0, 1) := by decide +kernel
theorem dX6_market_32 : decode cX6_market 32 = .ok (.getfield 31, 3) := by decide +kernel
theorem dX6_market_35 : decode cX6_market 35 = .ok (.invokevirtual 81, 3) := by decide +kernel
theorem dX6_market_38 : decode cX6_market 38 = .ok (.aload_n 0, 1) := by decide +kernel
theorem dX6_market_39 : decode cX6_market 39 = .ok (.getfield 41, 3) := by decide +kernel
theorem dX6_market_42 : decode cX6_market 42 = .ok (.invokevirtual 84, 3) := by decide +kernel
theorem dX6_market_45 : decode cX6_market 45 = .ok (.iconst 0, 1) := by decide +kernel
theorem dX6_market_46 : decode cX6_market 46 = .ok (.istore_n 1, 1) := by decide +kernel
theorem dX6_market_47 : decode cX6_market 47 = .ok (.iload_n 1, 1) := by decide +kernel
theorem dX6_market_48 : decode cX6_market 48 = .ok (.iconst 2, 1) := by decide +kernel
theorem dX6_market_49 : decode cX6_market 49 = .ok (.if_icmp .ge 16, 3) := by decide +kernel
theorem dX6_market_52 : decode cX6_market 52 = .ok (.aload_n 0, 1) := by decide +kernel
theorem dX6_market_53 : decode cX6_market 53 = .ok (.getfield 65, 3) := by decide +kernel
theorem dX6_market_56 : decode cX6_market 56 = .ok (.iload_n 1, 1) := by decide +kernel
theorem dX6_market_57 : decode cX6_market 57 = .ok (.iconst 0, 1) := by decide +kernel
theorem dX6_market_58 : decode cX6_market 58 = .ok (.bastore, 1) := by decide +kernel
theorem dX6_market_59 : decode cX6_market 59 = .ok (.iinc 1 1, 3) := by decide +kernel
theorem dX6_market_62 : decode cX6_market 62 = .ok (.goto (-15), 3) := by decide +kernel
theorem dX6_market_65 : decode cX6_market 65 = .ok (.bipush 10, 2) := by decide +kernel
theorem dX6_market_67 : decode cX6_market 67 = .ok (.aload_n 0, 1) := by decide +kernel
theorem dX6_market_68 : decode cX6_market 68 = .ok (.getfield 23, 3) := by decide +kernel
theorem dX6_market_71 : decode cX6_market 71 = .ok (.getfield 86, 3) := by decide +kernel
theorem dX6_market_74 : decode cX6_market 74 = .ok (.imul, 1) := by decide +kernel
theorem dX6_market_75 : decode cX6_market 75 = .ok (.aload_n 0, 1) := by decide +kernel
theorem dX6_market_76 : decode cX6_market 76 = .ok (.getfield 23, 3) := by decide +kernel
theorem dX6_market_79 : decode cX6_market 79 = .ok (.getfield 90, 3) := by decide +kernel
theorem dX6_market_82 : decode cX6_market 82 = .ok (.iadd, 1) := by decide +kernel
theorem dX6_market_83 : decode cX6_market 83 = .ok (.ireturn, 1) := by decide +kernel
set_option maxRecDepth 20000 in
theorem ggX6_ladder_X6_isLadder : GoodIn wsX6_ladder wsX6_isLadder := goodIn_r _ [7, 2, 8, 9, 10, 11, 12, 13, 14, 15, 16, 17, 18, 27, 28, 29, 30, 31, 32, 33, 34, 35] (by decide +kernel) (by decide +kernel)
set_option maxRecDepth 20000 in
theorem gX6_ladder_X6_isLadder : GoodIn wsX6_ladder (wsV RX6 93 RX6 yX6_isLadder wsX6_isLadder) := goodIn_app (goodIn_of _ (by decide +kernel)) ggX6_ladder_X6_isLadder
theorem dX6_ladder_0 : decode cX6_ladder 0 = .ok (.aload_n 0, 1) := by decide +kernel
theorem dX6_ladder_1 : decode cX6_ladder 1 = .ok (.iload_n 1, 1) := by decide +kernel
theorem dX6_ladder_2 : decode cX6_ladder 2 = .ok (.invokevirtual 93, 3) := by decide +kernel
theorem dX6_ladder_5 : decode cX6_ladder 5 = .ok (.ifCond .ne 5, 3) := by decide +kernel
theorem dX6_ladder_8 : decode cX6_ladder 8 = .ok (.iconst (-1), 1) := by decide +kernel
theorem dX6_ladder_9 : decode cX6_ladder 9 = .ok (.ireturn, 1) := by decide +kernel
theorem dX6_ladder_10 : decode cX6_ladder 10 = .ok (.iload_n 2, 1) := by decide +kernel
theorem dX6_ladder_11 : decode cX6_ladder 11 = .ok (.tableswitch 83 0 4 #[33, 43, 53, 63, 73], 33) := by decide +kernel
theorem dX6_ladder_44 : decode cX6_ladder 44 = .ok (.aload_n 0, 1) := by decide +kernel
theorem dX6_ladder_45 : decode cX6_ladder 45 = .ok (.getfield 31, 3) := by decide +kernel
theorem dX6_ladder_48 : decode cX6_ladder 48 = .ok (.getfield 97, 3) := by decide +kernel
theorem dX6_ladder_51 : decode cX6_ladder 51 = .ok (.iload_n 1, 1) := by decide +kernel
theorem dX6_ladder_52 : decode cX6_ladder 52 = .ok (.iaload, 1) := by decide +kernel
theorem dX6_ladder_53 : decode cX6_ladder 53 = .ok (.ireturn, 1) := by decide +kernel
theorem dX6_ladder_54 : decode cX6_ladder 54 = .ok (.aload_n 0, 1) := by decide +kernel
theorem dX6_ladder_55 : decode cX6_ladder 55 = .ok (.getfield 23, 3) := by decide +kernel
theorem dX6_ladder_58 : decode cX6_ladder 58 = .ok (.getfield 101, 3) := by decide +kernel
theorem dX6_ladder_61 : decode cX6_ladder 61 = .ok (.iload_n 1, 1) := by decide +kernel
theorem dX6_ladder_62 : decode cX6_ladder 62 = .ok (.iaload, 1) := by decide +kernel
theorem dX6_ladder_63 : decode cX6_ladder 63 = .ok (.ireturn, 1) := by decide +kernel
theorem dX6_ladder_64 : decode cX6_ladder 64 = .ok (.aload_n 0, 1) := by decide +kernel
theorem dX6_ladder_65 : decode cX6_ladder 65 = .ok (.getfield 23, 3) := by decide +kernel
theorem dX6_ladder_68 : decode cX6_ladder 68 = .ok (.getfield 104, 3) := by decide +kernel
theorem dX6_ladder_71 : decode cX6_ladder 71 = .ok (.iload_n 1, 1) := by decide +kernel
theorem dX6_ladder_72 : decode cX6_ladder 72 = .ok (.iaload, 1) := by decide +kernel
theorem dX6_ladder_73 : decode cX6_ladder 73 = .ok (.ireturn, 1) := by decide +kernel
theorem dX6_ladder_74 : decode cX6_ladder 74 = .ok (.aload_n 0, 1) := by decide +kernel
theorem dX6_ladder_75 : decode cX6_ladder 75 = .ok (.getfield 31, 3) := by decide +kernel
theorem dX6_ladder_78 : decode cX6_ladder 78 = .ok (.getfield 107, 3) := by decide +kernel
theorem dX6_ladder_81 : decode cX6_ladder 81 = .ok (.iload_n 1, 1) := by decide +kernel
theorem dX6_ladder_82 : decode cX6_ladder 82 = .ok (.iaload, 1) := by decide +kernel
theorem dX6_ladder_83 : decode cX6_ladder 83 = .ok (.ireturn, 1) := by decide +kernel
theorem dX6_ladder_84 : decode cX6_ladder 84 = .ok (.aload_n 0, 1) := by decide +kernel
theorem dX6_ladder_85 : decode cX6_ladder 85 = .ok (.getfield 31, 3) := by decide +kernel
theorem dX6_ladder_88 : decode cX6_ladder 88 = .ok (.getfield 110, 3) := by decide +kernel
theorem dX6_ladder_91 : decode cX6_ladder 91 = .ok (.iload_n 1, 1) := by decide +kernel
theorem dX6_ladder_92 : decode cX6_ladder 92 = .ok (.iaload, 1) := by decide +kernel
theorem dX6_ladder_93 : decode cX6_ladder 93 = .ok (.ireturn, 1) := by decide +kernel
theorem dX6_ladder_94 : decode cX6_ladder 94 = .ok (.bipush (-2), 2) := by decide +kernel
theorem dX6_ladder_96 : decode cX6_ladder 96 = .ok (.ireturn, 1) := by decide +kernel
set_option maxRecDepth 20000 in
theorem ggX6_person_X6_isPerson : GoodIn wsX6_person wsX6_isPerson := goodIn_r _ [7, 1, 34, 35, 36, 37, 38, 39, 40, 41, 42, 43, 44, 45, 46, 47, 48, 49, 50, 51, 52, 53] (by decide +kernel) (by decide +kernel)
set_option maxRecDepth 20000 in
theorem gX6_person_X6_isPerson : GoodIn wsX6_person (wsV RX6 113 RX6 yX6_isPerson wsX6_isPerson) := goodIn_app (goodIn_of _ (by decide +kernel)) ggX6_person_X6_isPerson
set_option maxRecDepth 20000 in
theorem ggX6_person_X4_laddersAhead : GoodIn wsX6_person wsX4_laddersAhead := goodIn_r _ [12, 13, 14, 15, 11, 16, 17, 18, 19, 20, 21, 22, 23, 24, 25, 26, 27, 28, 29, 30, 31, 32, 6, 33, 54, 55, 56, 57, 58, 59, 60, 61, 45, 46, 47, 48, 49, 50, 51, 52, 53] (by decide +kernel) (by decide +kernel)
set_option maxRecDepth 20000 in
theorem gX6_person_X4_laddersAhead : GoodIn wsX6_person (wsV RX6 131 RX4 yX4_laddersAhead wsX4_laddersAhead) := goodIn_app (goodIn_of _ (by decide +kernel)) ggX6_person_X4_laddersAhead
theorem dX6_person_0 : decode cX6_person 0 = .ok (.aload_n 0, 1) := by decide +kernel
theorem dX6_person_1 : decode cX6_person 1 = .ok (.iload_n 1, 1) := by decide +kernel
theorem dX6_person_2 : decode cX6_person 2 = .ok (.invokevirtual 113, 3) := by decide +kernel
theorem dX6_person_5 : decode cX6_person 5 = .ok (.ifCond .ne 5, 3) := by decide +kernel
theorem dX6_person_8 : decode cX6_person 8 = .ok (.iconst (-1), 1) := by decide +kernel
theorem dX6_person_9 : decode cX6_person 9 = .ok (.ireturn, 1) := by decide +kernel
theorem dX6_person_10 : decode cX6_person 10 = .ok (.iload_n 2, 1) := by decide +kernel
theorem dX6_person_11 : decode cX6_person 11 = .ok (.tableswitch 96 0 5 #[37, 47, 57, 67, 77, 87], 37) := by decide +kernel
theorem dX6_person_48 : decode cX6_person 48 = .ok (.aload_n 0, 1) := by decide +kernel
theorem dX6_person_49 : decode cX6_person 49 = .ok (.getfield 23, 3) := by decide +kernel
theorem dX6_person_52 : decode cX6_person 52 = .ok (.getfield 116, 3) := by decide +kernel
theorem dX6_person_55 : decode cX6_person 55 = .ok (.iload_n 1, 1) := by decide +kernel
theorem dX6_person_56 : decode cX6_person 56 = .ok (.iaload, 1) := by decide +kernel
theorem dX6_person_57 : decode cX6_person 57 = .ok (.ireturn, 1) := by decide +kernel
theorem dX6_person_58 : decode cX6_person 58 = .ok (.aload_n 0, 1) := by decide +kernel
theorem dX6_person_59 : decode cX6_person 59 = .ok (.getfield 23, 3) := by decide +kernel
theorem dX6_person_62 : decode cX6_person 62 = .ok (.getfield 119, 3) := by decide +kernel
theorem dX6_person_65 : decode cX6_person 65 = .ok (.iload_n 1, 1) := by decide +kernel
theorem dX6_person_66 : decode cX6_person 66 = .ok (.iaload, 1) := by decide +kernel
theorem dX6_person_67 : decode cX6_person 67 = .ok (.ireturn, 1) := by decide +kernel
theorem dX6_person_68 : decode cX6_person 68 = .ok (.aload_n 0, 1) := by decide +kernel
theorem dX6_person_69 : decode cX6_person 69 = .ok (.getfield 23, 3) := by decide +kernel
theorem dX6_person_72 : decode cX6_person 72 = .ok (.getfield 122, 3) := by decide +kernel
theorem dX6_person_75 : decode cX6_person 75 = .ok (.iload_n 1, 1) := by decide +kernel
theorem dX6_person_76 : decode cX6_person 76 = .ok (.iaload, 1) := by decide +kernel
theorem dX6_person_77 : decode cX6_person 77 = .ok (.ireturn, 1) := by decide +kernel
theorem dX6_person_78 : decode cX6_person 78 = .ok (.aload_n 0, 1) := by decide +kernel
theorem dX6_person_79 : decode cX6_person 79 = .ok (.getfield 31, 3) := by decide +kernel
theorem dX6_person_82 : decode cX6_person 82 = .ok (.getfield 125, 3) := by decide +kernel
theorem dX6_person_85 : decode cX6_person 85 = .ok (.iload_n 1, 1) := by decide +kernel
theorem dX6_person_86 : decode cX6_person 86 = .ok (.iaload, 1) := by decide +kernel
theorem dX6_person_87 : decode cX6_person 87 = .ok (.ireturn, 1) := by decide +kernel
theorem dX6_person_88 : decode cX6_person 88 = .ok (.aload_n 0, 1) := by decide +kernel
theorem dX6_person_89 : decode cX6_person 89 = .ok (.getfield 31, 3) := by decide +kernel
theorem dX6_person_92 : decode cX6_person 92 = .ok (.getfield 128, 3) := by decide +kernel
theorem dX6_person_95 : decode cX6_person 95 = .ok (.iload_n 1, 1) := by decide +kernel
theorem dX6_person_96 : decode cX6_person 96 = .ok (.iaload, 1) := by decide +kernel
theorem dX6_person_97 : decode cX6_person 97 = .ok (.ireturn, 1) := by decide +kernel
theorem dX6_person_98 : decode cX6_person 98 = .ok (.aload_n 0, 1) := by decide +kernel
theorem dX6_person_99 : decode cX6_person 99 = .ok (.getfield 31, 3) := by decide +kernel
theorem dX6_person_102 : decode cX6_person 102 = .ok (.iload_n 1, 1) := by decide +kernel
theorem dX6_person_103 : decode cX6_person 103 = .ok (.invokevirtual 131, 3) := by decide +kernel
theorem dX6_person_106 : decode cX6_person 106 = .ok (.ireturn, 1) := by decide +kernel
theorem dX6_person_107 : decode cX6_person 107 = .ok (.bipush (-2), 2) := by decide +kernel
theorem dX6_person_109 : decode cX6_person 109 = .ok (.ireturn, 1) := by decide +kernel
set_option maxRecDepth 20000 in
theorem ggX6_at_X6_isPlace : GoodIn wsX6_at wsX6_isPlace := goodIn_r _ [5] (by decide +kernel) (by decide +kernel)
set_option maxRecDepth 20000 in
theorem gX6_at_X6_isPlace : GoodIn wsX6_at (va_wsS RX6 134 yX6_isPlace wsX6_isPlace) := goodIn_app (goodIn_of _ (by decide +kernel)) ggX6_at_X6_isPlace
theorem dX6_at_0 : decode cX6_at 0 = .ok (.iload_n 1, 1) := by decide +kernel
theorem dX6_at_1 : decode cX6_at 1 = .ok (.invokestatic 134, 3) := by decide +kernel
theorem dX6_at_4 : decode cX6_at 4 = .ok (.ifCond .eq 15, 3) := by decide +kernel
theorem dX6_at_7 : decode cX6_at 7 = .ok (.aload_n 0, 1) := by decide +kernel
theorem dX6_at_8 : decode cX6_at 8 = .ok (.getfield 31, 3) := by decide +kernel
theorem dX6_at_11 : decode cX6_at 11 = .ok (.getfield 137, 3) := by decide +kernel
theorem dX6_at_14 : decode cX6_at 14 = .ok (.iload_n 1, 1) := by decide +kernel
theorem dX6_at_15 : decode cX6_at 15 = .ok (.iaload, 1) := by decide +kernel
theorem dX6_at_16 : decode cX6_at 16 = .ok (.goto 4, 3) := by decide +kernel
theorem dX6_at_19 : decode cX6_at 19 = .ok (.iconst (-1), 1) := by decide +kernel
theorem dX6_at_20 : decode cX6_at 20 = .ok (.ireturn, 1) := by decide +kernel
set_option maxRecDepth 20000 in
theorem ggX6_day_X0_remember : GoodIn wsX6_day wsX0_remember := goodIn_r _ [7, 8, 9, 10, 11, 12, 13, 14, 15, 16, 17, 18, 19, 20, 21, 22, 23, 24, 25, 26, 78, 79, 80, 81, 82, 83, 84, 85, 86, 87, 88] (by decide +kernel) (by decide +kernel)
set_option maxRecDepth 20000 in
theorem gX6_day_X0_remember : GoodIn wsX6_day (wsV RX6 140 RX0 yX0_remember wsX0_remember) := goodIn_app (goodIn_of _ (by decide +kernel)) ggX6_day_X0_remember
set_option maxRecDepth 20000 in
theorem ggX6_day_X4_passDay : GoodIn wsX6_day wsX4_passDay := goodIn_r _ [30, 31, 22, 23, 26, 32, 33, 34, 14, 35, 24, 36, 37, 38, 39, 40, 41, 42, 43, 44, 45, 46, 47, 48, 49, 50, 51, 21, 52, 53, 54, 55, 56, 57, 58, 25, 59, 60, 61, 62, 63, 64, 65, 66, 81, 82, 83, 84, 85, 86, 87, 88, 89, 90, 91, 92, 93, 94, 95, 96, 97] (by decide +kernel) (by decide +kernel)
set_option maxRecDepth 20000 in
theorem gX6_day_X4_passDay : GoodIn wsX6_day (wsV RX6 144 RX4 yX4_passDay wsX4_passDay) := goodIn_app (goodIn_of _ (by decide +kernel)) ggX6_day_X4_passDay
theorem dX6_day_0 : decode cX6_day 0 = .ok (.aload_n 0, 1) := by decide +kernel
theorem dX6_day_1 : decode cX6_day 1 = .ok (.getfield 41, 3) := by decide +kernel
theorem dX6_day_4 : decode cX6_day 4 = .ok (.aload_n 0, 1) := by decide +kernel
theorem dX6_day_5 : decode cX6_day 5 = .ok (.getfield 31, 3) := by decide +kernel
theorem dX6_day_8 : decode cX6_day 8 = .ok (.invokevirtual 140, 3) := by decide +kernel
theorem dX6_day_11 : decode cX6_day 11 = .ok (.aload_n 0, 1) := by decide +kernel
theorem dX6_day_12 : decode cX6_day 12 = .ok (.getfield 31, 3) := by decide +kernel
theorem dX6_day_15 : decode cX6_day 15 = .ok (.bipush 31, 2) := by decide +kernel
theorem dX6_day_17 : decode cX6_day 17 = .ok (.invokevirtual 144, 3) := by decide +kernel
theorem dX6_day_20 : decode cX6_day 20 = .ok (.ireturn, 1) := by decide +kernel
set_option maxRecDepth 20000 in
theorem ggX6_move_X6_isLadder : GoodIn wsX6_move wsX6_isLadder := goodIn_r _ [7, 8, 48, 49, 50, 51, 52, 53, 54, 55, 56, 57, 58, 67, 68, 69, 70, 71, 72, 73, 74, 75] (by decide +kernel) (by decide +kernel)
set_option maxRecDepth 20000 in
theorem gX6_move_X6_isLadder : GoodIn wsX6_move (wsV RX6 93 RX6 yX6_isLadder wsX6_isLadder) := goodIn_app (goodIn_of _ (by decide +kernel)) ggX6_move_X6_isLadder
set_option maxRecDepth 20000 in
theorem ggX6_move_X6_isPlace : GoodIn wsX6_move wsX6_isPlace := goodIn_r _ [11] (by decide +kernel) (by decide +kernel)
set_option maxRecDepth 20000 in
theorem gX6_move_X6_isPlace : GoodIn wsX6_move (va_wsS RX6 134 yX6_isPlace wsX6_isPlace) := goodIn_app (goodIn_of _ (by decide +kernel)) ggX6_move_X6_isPlace
set_option maxRecDepth 20000 in
theorem ggX6_move_X4_isFree : GoodIn wsX6_move wsX4_isFree := goodIn_r _ [16, 17, 10, 6, 11, 59, 60, 61, 62, 63, 64, 65, 66] (by decide +kernel) (by decide +kernel)
set_option maxRecDepth 20000 in
theorem gX6_move_X4_isFree : GoodIn wsX6_move (wsV RX6 147 RX4 yX4_isFree wsX4_isFree) := goodIn_app (goodIn_of _ (by decide +kernel)) ggX6_move_X4_isFree
set_option maxRecDepth 20000 in
theorem ggX6_move_X0_remember : GoodIn wsX6_move wsX0_remember := goodIn_r _ [22, 23, 24, 25, 26, 27, 28, 15, 29, 30, 31, 32, 33, 34, 17, 35, 36, 37, 38, 39, 76, 77, 78, 59, 60, 61, 62, 63, 64, 65, 66] (by decide +kernel) (by decide +kernel)
set_option maxRecDepth 20000 in
theorem gX6_move_X0_remember : GoodIn wsX6_move (wsV RX6 140 RX0 yX0_remember wsX0_remember) := goodIn_app (goodIn_of _ (by decide +kernel)) ggX6_move_X0_remember
set_option maxRecDepth 20000 in
theorem ggX6_move_X4_put : GoodIn wsX6_move wsX4_put := goodIn_r _ [43, 30, 44, 45, 46, 15, 47, 17, 10, 6, 11, 59, 60, 61, 62, 63, 64, 65, 66] (by decide +kernel) (by decide +kernel)
set_option maxRecDepth 20000 in
theorem gX6_move_X4_put : GoodIn wsX6_move (wsV RX6 150 RX4 yX4_put wsX4_put) := goodIn_app (goodIn_of _ (by decide +kernel)) ggX6_move_X4_put
theorem dX6_move_0 : decode cX6_move 0 = .ok (.aload_n 0, 1) := by decide +kernel
theorem dX6_move_1 : decode cX6_move 1 = .ok (.iload_n 1, 1) := by decide +kernel
theorem dX6_move_2 : decode cX6_move 2 = .ok (.invokevirtual 93, 3) := by decide +kernel
theorem dX6_move_5 : decode cX6_move 5 = .ok (.ifCond .eq 10, 3) := by decide +kernel
theorem dX6_move_8 : decode cX6_move 8 = .ok (.iload_n 2, 1) := by decide +kernel
theorem dX6_move_9 : decode cX6_move 9 = .ok (.invokestatic 134, 3) := by decide +kernel
theorem dX6_move_12 : decode cX6_move 12 = .ok (.ifCond .ne 5, 3) := by decide +kernel
theorem dX6_move_15 : decode cX6_move 15 = .ok (.iconst (-1), 1) := by decide +kernel
theorem dX6_move_16 : decode cX6_move 16 = .ok (.ireturn, 1) := by decide +kernel
theorem dX6_move_17 : decode cX6_move 17 = .ok (.aload_n 0, 1) := by decide +kernel
theorem dX6_move_18 : decode cX6_move 18 = .ok (.getfield 31, 3) := by decide +kernel
theorem dX6_move_21 : decode cX6_move 21 = .ok (.iload_n 2, 1) := by decide +kernel
theorem dX6_move_22 : decode cX6_move 22 = .ok (.invokevirtual 147, 3) := by decide +kernel
theorem dX6_move_25 : decode cX6_move 25 = .ok (.ifCond .ne 6, 3) := by decide +kernel
theorem dX6_move_28 : decode cX6_move 28 = .ok (.bipush (-3), 2) := by decide +kernel
theorem dX6_move_30 : decode cX6_move 30 = .ok (.ireturn, 1) := by decide +kernel
theorem dX6_move_31 : decode cX6_move 31 = .ok (.aload_n 0, 1) := by decide +kernel
theorem dX6_move_32 : decode cX6_move 32 = .ok (.getfield 41, 3) := by decide +kernel
theorem dX6_move_35 : decode cX6_move 35 = .ok (.aload_n 0, 1) := by decide +kernel
theorem dX6_move_36 : decode cX6_move 36 = .ok (.getfield 31, 3) := by decide +kernel
theorem dX6_move_39 : decode cX6_move 39 = .ok (.invokevirtual 140, 3) := by decide +kernel
theorem dX6_move_42 : decode cX6_move 42 = .ok (.aload_n 0, 1) := by decide +kernel
theorem dX6_move_43 : decode cX6_move 43 = .ok (.getfield 31, 3) := by decide +kernel
theorem dX6_move_46 : decode cX6_move 46 = .ok (.getfield 97, 3) := by decide +kernel
theorem dX6_move_49 : decode cX6_move 49 = .ok (.iload_n 1, 1) := by decide +kernel
theorem dX6_move_50 : decode cX6_move 50 = .ok (.iaload, 1) := by decide +kernel
theorem dX6_move_51 : decode cX6_move 51 = .ok (.istore_n 3, 1) := by decide +kernel
theorem dX6_move_52 : decode cX6_move 52 = .ok (.aload_n 0, 1) := by decide +kernel
theorem dX6_move_53 : decode cX6_move 53 = .ok (.getfield 31, 3) := by decide +kernel
theorem dX6_move_56 : decode cX6_move 56 = .ok (.iload_n 1, 1) := by decide +kernel
theorem dX6_move_57 : decode cX6_move 57 = .ok (.iload_n 2, 1) := by decide +kernel
theorem dX6_move_58 : decode cX6_move 58 = .ok (.invokevirtual 150, 3) := by decide +kernel
theorem dX6_move_61 : decode cX6_move 61 = .ok (.iload_n 3, 1) := by decide +kernel
theorem dX6_move_62 : decode cX6_move 62 = .ok (.ireturn, 1) := by decide +kernel
set_option maxRecDepth 20000 in
theorem ggX6_down_X6_isLadder : GoodIn wsX6_down wsX6_isLadder := goodIn_r _ [7, 8, 37, 38, 39, 40, 41, 42, 43, 44, 45, 46, 47, 56, 57, 58, 59, 60, 61, 62, 63, 64] (by decide +kernel) (by decide +kernel)
set_option maxRecDepth 20000 in
theorem gX6_down_X6_isLadder : GoodIn wsX6_down (wsV RX6 93 RX6 yX6_isLadder wsX6_isLadder) := goodIn_app (goodIn_of _ (by decide +kernel)) ggX6_down_X6_isLadder
set_option maxRecDepth 20000 in
theorem ggX6_down_X0_remember : GoodIn wsX6_down wsX0_remember := goodIn_r _ [13, 14, 15, 16, 17, 18, 19, 20, 21, 22, 23, 24, 25, 26, 27, 28, 29, 30, 31, 32, 65, 66, 67, 48, 49, 50, 51, 52, 53, 54, 55] (by decide +kernel) (by decide +kernel)
set_option maxRecDepth 20000 in
theorem gX6_down_X0_remember : GoodIn wsX6_down (wsV RX6 140 RX0 yX0_remember wsX0_remember) := goodIn_app (goodIn_of _ (by decide +kernel)) ggX6_down_X0_remember
set_option maxRecDepth 20000 in
theorem ggX6_down_X4_changeMan : GoodIn wsX6_down wsX4_changeMan := goodIn_r _ [36, 28, 29, 48, 49, 50, 51, 52, 53, 54, 55] (by decide +kernel) (by decide +kernel)
set_option maxRecDepth 20000 in
theorem gX6_down_X4_changeMan : GoodIn wsX6_down (wsV RX6 154 RX4 yX4_changeMan wsX4_changeMan) := goodIn_app (goodIn_of _ (by decide +kernel)) ggX6_down_X4_changeMan
theorem dX6_down_0 : decode cX6_down 0 = .ok (.aload_n 0, 1) := by decide +kernel
theorem dX6_down_1 : decode cX6_down 1 = .ok (.iload_n 1, 1) := by decide +kernel
theorem dX6_down_2 : decode cX6_down 2 = .ok (.invokevirtual 93, 3) := by decide +kernel
theorem dX6_down_5 : decode cX6_down 5 = .ok (.ifCond .ne 5, 3) := by decide +kernel
theorem dX6_down_8 : decode cX6_down 8 = .ok (.iconst (-1), 1) := by decide +kernel
theorem dX6_down_9 : decode cX6_down 9 = .ok (.ireturn, 1) := by decide +kernel
theorem dX6_down_10 : decode cX6_down 10 = .ok (.aload_n 0, 1) := by decide +kernel
theorem dX6_down_11 : decode cX6_down 11 = .ok (.getfield 41, 3) := by decide +kernel
theorem dX6_down_14 : decode cX6_down 14 = .ok (.aload_n 0, 1) := by decide +kernel
theorem dX6_down_15 : decode cX6_down 15 = .ok (.getfield 31, 3) := by decide +kernel
theorem dX6_down_18 : decode cX6_down 18 = .ok (.invokevirtual 140, 3) := by decide +kernel
theorem dX6_down_21 : decode cX6_down 21 = .ok (.aload_n 0, 1) := by decide +kernel
theorem dX6_down_22 : decode cX6_down 22 = .ok (.getfield 31, 3) := by decide +kernel
theorem dX6_down_25 : decode cX6_down 25 = .ok (.getfield 110, 3) := by decide +kernel
theorem dX6_down_28 : decode cX6_down 28 = .ok (.iload_n 1, 1) := by decide +kernel
theorem dX6_down_29 : decode cX6_down 29 = .ok (.iaload, 1) := by decide +kernel
theorem dX6_down_30 : decode cX6_down 30 = .ok (.istore_n 2, 1) := by decide +kernel
theorem dX6_down_31 : decode cX6_down 31 = .ok (.aload_n 0, 1) := by decide +kernel
theorem dX6_down_32 : decode cX6_down 32 = .ok (.getfield 31, 3) := by decide +kernel
theorem dX6_down_35 : decode cX6_down 35 = .ok (.iload_n 1, 1) := by decide +kernel
theorem dX6_down_36 : decode cX6_down 36 = .ok (.invokevirtual 154, 3) := by decide +kernel
theorem dX6_down_39 : decode cX6_down 39 = .ok (.iload_n 2, 1) := by decide +kernel
theorem dX6_down_40 : decode cX6_down 40 = .ok (.ireturn, 1) := by decide +kernel
set_option maxRecDepth 20000 in
theorem ggX6_give_X6_isPerson : GoodIn wsX6_give wsX6_isPerson := goodIn_r _ [7, 8, 37, 38, 39, 40, 41, 42, 43, 44, 45, 46, 47, 56, 57, 58, 59, 60, 61, 62, 63, 64] (by decide +kernel) (by decide +kernel)
set_option maxRecDepth 20000 in
theorem gX6_give_X6_isPerson : GoodIn wsX6_give (wsV RX6 113 RX6 yX6_isPerson wsX6_isPerson) := goodIn_app (goodIn_of _ (by decide +kernel)) ggX6_give_X6_isPerson
set_option maxRecDepth 20000 in
theorem ggX6_give_X0_remember : GoodIn wsX6_give wsX0_remember := goodIn_r _ [13, 14, 15, 16, 17, 18, 19, 20, 21, 22, 23, 24, 25, 26, 27, 28, 29, 30, 31, 32, 65, 66, 67, 48, 49, 50, 51, 52, 53, 54, 55] (by decide +kernel) (by decide +kernel)
set_option maxRecDepth 20000 in
theorem gX6_give_X0_remember : GoodIn wsX6_give (wsV RX6 140 RX0 yX0_remember wsX0_remember) := goodIn_app (goodIn_of _ (by decide +kernel)) ggX6_give_X0_remember
set_option maxRecDepth 20000 in
theorem ggX6_give_X4_endow : GoodIn wsX6_give wsX4_endow := goodIn_r _ [36, 31, 48, 49, 50, 51, 52, 53, 54, 55] (by decide +kernel) (by decide +kernel)
set_option maxRecDepth 20000 in
theorem gX6_give_X4_endow : GoodIn wsX6_give (wsV RX6 158 RX4 yX4_endow wsX4_endow) := goodIn_app (goodIn_of _ (by decide +kernel)) ggX6_give_X4_endow
theorem dX6_give_0 : decode cX6_give 0 = .ok (.aload_n 0, 1) := by decide +kernel
theorem dX6_give_1 : decode cX6_give 1 = .ok (.iload_n 1, 1) := by decide +kernel
theorem dX6_give_2 : decode cX6_give 2 = .ok (.invokevirtual 113, 3) := by decide +kernel
theorem dX6_give_5 : decode cX6_give 5 = .ok (.ifCond .ne 5, 3) := by decide +kernel
theorem dX6_give_8 : decode cX6_give 8 = .ok (.iconst (-1), 1) := by decide +kernel
theorem dX6_give_9 : decode cX6_give 9 = .ok (.ireturn, 1) := by decide +kernel
theorem dX6_give_10 : decode cX6_give 10 = .ok (.iload_n 2, 1) := by decide +kernel
theorem dX6_give_11 : decode cX6_give 11 = .ok (.iconst 1, 1) := by decide +kernel
theorem dX6_give_12 : decode cX6_give 12 = .ok (.if_icmp .lt 9, 3) := by decide +kernel
theorem dX6_give_15 : decode cX6_give 15 = .ok (.iload_n 2, 1) := by decide +kernel
theorem dX6_give_16 : decode cX6_give 16 = .ok (.bipush 9, 2) := by decide +kernel
theorem dX6_give_18 : decode cX6_give 18 = .ok (.if_icmp .le 6, 3) := by decide +kernel
theorem dX6_give_21 : decode cX6_give 21 = .ok (.bipush (-2), 2) := by decide +kernel
theorem dX6_give_23 : decode cX6_give 23 = .ok (.ireturn, 1) := by decide +kernel
theorem dX6_give_24 : decode cX6_give 24 = .ok (.aload_n 0, 1) := by decide +kernel
theorem dX6_give_25 : decode cX6_give 25 = .ok (.getfield 41, 3) := by decide +kernel
theorem dX6_give_28 : decode cX6_give 28 = .ok (.aload_n 0, 1) := by decide +kernel
theorem dX6_give_29 : decode cX6_give 29 = .ok (.getfield 31, 3) := by decide +kernel
theorem dX6_give_32 : decode cX6_give 32 = .ok (.invokevirtual 140, 3) := by decide +kernel
theorem dX6_give_35 : decode cX6_give 35 = .ok (.aload_n 0, 1) := by decide +kernel
theorem dX6_give_36 : decode cX6_give 36 = .ok (.getfield 31, 3) := by decide +kernel
theorem dX6_give_39 : decode cX6_give 39 = .ok (.iload_n 1, 1) := by decide +kernel
theorem dX6_give_40 : decode cX6_give 40 = .ok (.iload_n 2, 1) := by decide +kernel
theorem dX6_give_41 : decode cX6_give 41 = .ok (.invokevirtual 158, 3) := by decide +kernel
theorem dX6_give_44 : decode cX6_give 44 = .ok (.aload_n 0, 1) := by decide +kernel
theorem dX6_give_45 : decode cX6_give 45 = .ok (.getfield 31, 3) := by decide +kernel
theorem dX6_give_48 : decode cX6_give 48 = .ok (.getfield 128, 3) := by decide +kernel
theorem dX6_give_51 : decode cX6_give 51 = .ok (.iload_n 1, 1) := by decide +kernel
theorem dX6_give_52 : decode cX6_give 52 = .ok (.iaload, 1) := by decide +kernel
theorem dX6_give_53 : decode cX6_give 53 = .ok (.ireturn, 1) := by decide +kernel
set_option maxRecDepth 20000 in
theorem ggX6_undo_X0_takeBack : GoodIn wsX6_undo wsX0_takeBack := goodIn_r _ [7, 8, 9, 10, 11, 12, 13, 14, 15, 16, 17, 18, 19, 20, 21, 22, 23, 24, 25, 26, 38, 39, 40, 41, 42, 43, 44, 45, 46, 47, 48] (by decide +kernel) (by decide +kernel)
set_option maxRecDepth 20000 in
theorem gX6_undo_X0_takeBack : GoodIn wsX6_undo (wsV RX6 161 RX0 yX0_takeBack wsX0_takeBack) := goodIn_app (goodIn_of _ (by decide +kernel)) ggX6_undo_X0_takeBack
theorem dX6_undo_0 : decode cX6_undo 0 = .ok (.aload_n 0, 1) := by decide +kernel
theorem dX6_undo_1 : decode cX6_undo 1 = .ok (.getfield 41, 3) := by decide +kernel
theorem dX6_undo_4 : decode cX6_undo 4 = .ok (.aload_n 0, 1) := by decide +kernel
theorem dX6_undo_5 : decode cX6_undo 5 = .ok (.getfield 31, 3) := by decide +kernel
theorem dX6_undo_8 : decode cX6_undo 8 = .ok (.invokevirtual 161, 3) := by decide +kernel
theorem dX6_undo_11 : decode cX6_undo 11 = .ok (.ifCond .eq 13, 3) := by decide +kernel
theorem dX6_undo_14 : decode cX6_undo 14 = .ok (.aload_n 0, 1) := by decide +kernel
theorem dX6_undo_15 : decode cX6_undo 15 = .ok (.getfield 41, 3) := by decide +kernel
theorem dX6_undo_18 : decode cX6_undo 18 = .ok (.getfield 165, 3) := by decide +kernel
theorem dX6_undo_21 : decode cX6_undo 21 = .ok (.goto 5, 3) := by decide +kernel
theorem dX6_undo_24 : decode cX6_undo 24 = .ok (.bipush (-3), 2) := by decide +kernel
theorem dX6_undo_26 : decode cX6_undo 26 = .ok (.ireturn, 1) := by decide +kernel
set_option maxRecDepth 20000 in
theorem ggX6_luck_X6_isPerson : GoodIn wsX6_luck wsX6_isPerson := goodIn_r _ [7, 8, 75, 76, 77, 78, 79, 80, 81, 82, 83, 84, 85, 94, 95, 96, 97, 98, 99, 100, 101, 102] (by decide +kernel) (by decide +kernel)
set_option maxRecDepth 20000 in
theorem gX6_luck_X6_isPerson : GoodIn wsX6_luck (wsV RX6 113 RX6 yX6_isPerson wsX6_isPerson) := goodIn_app (goodIn_of _ (by decide +kernel)) ggX6_luck_X6_isPerson
set_option maxRecDepth 20000 in
theorem ggX6_luck_X1_goAhead : GoodIn wsX6_luck wsX1_goAhead := goodIn_r _ [13, 14, 15, 16, 17, 18, 19, 20, 21, 22, 23, 24, 25, 26, 27, 28, 29, 30, 31, 32, 33, 34, 35, 36, 37, 38, 39, 40, 41, 42, 43, 44, 45, 46, 47, 48, 49, 50, 51, 52, 53, 54, 55, 56, 57, 58, 59, 60, 61, 6, 62, 63, 64, 65, 66, 67, 68, 69, 70, 71, 72, 73, 74, 103, 104, 105, 106, 107, 108, 109, 110, 111, 86, 87, 88, 89, 90, 91, 92, 93, 94, 95, 96, 97, 98, 99, 100, 101, 102] (by decide +kernel) (by decide +kernel)
set_option maxRecDepth 20000 in
theorem gX6_luck_X1_goAhead : GoodIn wsX6_luck (wsV RX6 168 RX1 yX1_goAhead wsX1_goAhead) := goodIn_app (goodIn_of _ (by decide +kernel)) ggX6_luck_X1_goAhead
theorem dX6_luck_0 : decode cX6_luck 0 = .ok (.aload_n 0, 1) := by decide +kernel
theorem dX6_luck_1 : decode cX6_luck 1 = .ok (.iload_n 1, 1) := by decide +kernel
theorem dX6_luck_2 : decode cX6_luck 2 = .ok (.invokevirtual 113, 3) := by decide +kernel
theorem dX6_luck_5 : decode cX6_luck 5 = .ok (.ifCond .ne 5, 3) := by decide +kernel
theorem dX6_luck_8 : decode cX6_luck 8 = .ok (.iconst (-1), 1) := by decide +kernel
theorem dX6_luck_9 : decode cX6_luck 9 = .ok (.ireturn, 1) := by decide +kernel
theorem dX6_luck_10 : decode cX6_luck 10 = .ok (.iload_n 2, 1) := by decide +kernel
theorem dX6_luck_11 : decode cX6_luck 11 = .ok (.ifCond .lt 9, 3) := by decide +kernel
theorem dX6_luck_14 : decode cX6_luck 14 = .ok (.iload_n 2, 1) := by decide +kernel
theorem dX6_luck_15 : decode cX6_luck 15 = .ok (.bipush 20, 2) := by decide +kernel
theorem dX6_luck_17 : decode cX6_luck 17 = .ok (.if_icmp .le 6, 3) := by decide +kernel
theorem dX6_luck_20 : decode cX6_luck 20 = .ok (.bipush (-2), 2) := by decide +kernel
theorem dX6_luck_22 : decode cX6_luck 22 = .ok (.ireturn, 1) := by decide +kernel
theorem dX6_luck_23 : decode cX6_luck 23 = .ok (.aload_n 0, 1) := by decide +kernel
theorem dX6_luck_24 : decode cX6_luck 24 = .ok (.getfield 57, 3) := by decide +kernel
theorem dX6_luck_27 : decode cX6_luck 27 = .ok (.iload_n 2, 1) := by decide +kernel
theorem dX6_luck_28 : decode cX6_luck 28 = .ok (.invokevirtual 168, 3) := by decide +kernel
theorem dX6_luck_31 : decode cX6_luck 31 = .ok (.aload_n 0, 1) := by decide +kernel
theorem dX6_luck_32 : decode cX6_luck 32 = .ok (.getfield 35, 3) := by decide +kernel
theorem dX6_luck_35 : decode cX6_luck 35 = .ok (.getfield 128, 3) := by decide +kernel
theorem dX6_luck_38 : decode cX6_luck 38 = .ok (.iload_n 1, 1) := by decide +kernel
theorem dX6_luck_39 : decode cX6_luck 39 = .ok (.iaload, 1) := by decide +kernel
theorem dX6_luck_40 : decode cX6_luck 40 = .ok (.ireturn, 1) := by decide +kernel
set_option maxRecDepth 20000 in
theorem ggX6_gold_X6_isLadder : GoodIn wsX6_gold wsX6_isLadder := goodIn_r _ [7, 8, 75, 76, 77, 78, 79, 80, 81, 82, 83, 84, 85, 94, 95, 96, 97, 98, 99, 100, 101, 102] (by decide +kernel) (by decide +kernel)
set_option maxRecDepth 20000 in
theorem gX6_gold_X6_isLadder : GoodIn wsX6_gold (wsV RX6 93 RX6 yX6_isLadder wsX6_isLadder) := goodIn_app (goodIn_of _ (by decide +kernel)) ggX6_gold_X6_isLadder
set_option maxRecDepth 20000 in
theorem ggX6_gold_X1_goAhead : GoodIn wsX6_gold wsX1_goAhead := goodIn_r _ [13, 14, 15, 16, 17, 18, 19, 20, 21, 22, 23, 24, 25, 26, 27, 28, 29, 30, 31, 32, 33, 34, 35, 36, 37, 38, 39, 40, 41, 42, 43, 44, 45, 46, 47, 48, 49, 50, 51, 52, 53, 54, 55, 56, 57, 58, 59, 60, 61, 6, 62, 63, 64, 65, 66, 67, 68, 69, 70, 71, 72, 73, 74, 103, 104, 105, 106, 107, 108, 109, 110, 111, 86, 87, 88, 89, 90, 91, 92, 93, 94, 95, 96, 97, 98, 99, 100, 101, 102] (by decide +kernel) (by decide +kernel)
set_option maxRecDepth 20000 in
theorem gX6_gold_X1_goAhead : GoodIn wsX6_gold (wsV RX6 168 RX1 yX1_goAhead wsX1_goAhead) := goodIn_app (goodIn_of _ (by decide +kernel)) ggX6_gold_X1_goAhead
theorem dX6_gold_0 : decode cX6_gold 0 = .ok (.aload_n 0, 1) := by decide +kernel
theorem dX6_gold_1 : decode cX6_gold 1 = .ok (.iload_n 1, 1) := by decide +kernel
theorem dX6_gold_2 : decode cX6_gold 2 = .ok (.invokevirtual 93, 3) := by decide +kernel
theorem dX6_gold_5 : decode cX6_gold 5 = .ok (.ifCond .ne 5, 3) := by decide +kernel
theorem dX6_gold_8 : decode cX6_gold 8 = .ok (.iconst (-1), 1) := by decide +kernel
theorem dX6_gold_9 : decode cX6_gold 9 = .ok (.ireturn, 1) := by decide +kernel
theorem dX6_gold_10 : decode cX6_gold 10 = .ok (.iload_n 2, 1) := by decide +kernel
theorem dX6_gold_11 : decode cX6_gold 11 = .ok (.ifCond .lt 9, 3) := by decide +kernel
theorem dX6_gold_14 : decode cX6_gold 14 = .ok (.iload_n 2, 1) := by decide +kernel
theorem dX6_gold_15 : decode cX6_gold 15 = .ok (.bipush 20, 2) := by decide +kernel
theorem dX6_gold_17 : decode cX6_gold 17 = .ok (.if_icmp .le 6, 3) := by decide +kernel
theorem dX6_gold_20 : decode cX6_gold 20 = .ok (.bipush (-2), 2) := by decide +kernel
theorem dX6_gold_22 : decode cX6_gold 22 = .ok (.ireturn, 1) := by decide +kernel
theorem dX6_gold_23 : decode cX6_gold 23 = .ok (.aload_n 0, 1) := by decide +kernel
theorem dX6_gold_24 : decode cX6_gold 24 = .ok (.getfield 57, 3) := by decide +kernel
theorem dX6_gold_27 : decode cX6_gold 27 = .ok (.iload_n 2, 1) := by decide +kernel
theorem dX6_gold_28 : decode cX6_gold 28 = .ok (.invokevirtual 168, 3) := by decide +kernel
theorem dX6_gold_31 : decode cX6_gold 31 = .ok (.aload_n 0, 1) := by decide +kernel
theorem dX6_gold_32 : decode cX6_gold 32 = .ok (.getfield 35, 3) := by decide +kernel
theorem dX6_gold_35 : decode cX6_gold 35 = .ok (.getfield 110, 3) := by decide +kernel
theorem dX6_gold_38 : decode cX6_gold 38 = .ok (.iload_n 1, 1) := by decide +kernel
theorem dX6_gold_39 : decode cX6_gold 39 = .ok (.iaload, 1) := by decide +kernel
theorem dX6_gold_40 : decode cX6_gold 40 = .ok (.ireturn, 1) := by decide +kernel
set_option maxRecDepth 20000 in
theorem ggX6_lost_X6_isPerson : GoodIn wsX6_lost wsX6_isPerson := goodIn_r _ [6, 7, 70, 71, 72, 73, 74, 75, 76, 77, 78, 79, 80, 81, 82, 83, 84, 85, 86, 87, 88, 89] (by decide +kernel) (by decide +kernel)
set_option maxRecDepth 20000 in
theorem gX6_lost_X6_isPerson : GoodIn wsX6_lost (wsV RX6 113 RX6 yX6_isPerson wsX6_isPerson) := goodIn_app (goodIn_of _ (by decide +kernel)) ggX6_lost_X6_isPerson
set_option maxRecDepth 20000 in
theorem ggX6_lost_X1_daysToNothing : GoodIn wsX6_lost wsX1_daysToNothing := goodIn_r _ [12, 13, 14, 15, 16, 17, 18, 19, 20, 21, 22, 23, 24, 25, 26, 27, 28, 29, 30, 31, 32, 33, 34, 35, 36, 37, 38, 39, 40, 41, 42, 43, 44, 45, 46, 47, 48, 49, 50, 51, 52, 53, 54, 55, 56, 5, 57, 58, 59, 60, 61, 62, 63, 64, 65, 66, 67, 68, 69, 90, 91, 92, 93, 94, 95, 96, 97, 98, 99, 100, 101, 102, 103, 104, 105, 106, 81, 82, 83, 84, 85, 86, 87, 88, 89] (by decide +kernel) (by decide +kernel)
set_option maxRecDepth 20000 in
theorem gX6_lost_X1_daysToNothing : GoodIn wsX6_lost (wsV RX6 171 RX1 yX1_daysToNothing wsX1_daysToNothing) := goodIn_app (goodIn_of _ (by decide +kernel)) ggX6_lost_X1_daysToNothing
theorem dX6_lost_0 : decode cX6_lost 0 = .ok (.aload_n 0, 1) := by decide +kernel
theorem dX6_lost_1 : decode cX6_lost 1 = .ok (.iload_n 1, 1) := by decide +kernel
theorem dX6_lost_2 : decode cX6_lost 2 = .ok (.invokevirtual 113, 3) := by decide +kernel
theorem dX6_lost_5 : decode cX6_lost 5 = .ok (.ifCond .eq 14, 3) := by decide +kernel
theorem dX6_lost_8 : decode cX6_lost 8 = .ok (.aload_n 0, 1) := by decide +kernel
theorem dX6_lost_9 : decode cX6_lost 9 = .ok (.getfield 57, 3) := by decide +kernel
theorem dX6_lost_12 : decode cX6_lost 12 = .ok (.iload_n 1, 1) := by decide +kernel
theorem dX6_lost_13 : decode cX6_lost 13 = .ok (.invokevirtual 171, 3) := by decide +kernel
theorem dX6_lost_16 : decode cX6_lost 16 = .ok (.goto 4, 3) := by decide +kernel
theorem dX6_lost_19 : decode cX6_lost 19 = .ok (.iconst (-1), 1) := by decide +kernel
theorem dX6_lost_20 : decode cX6_lost 20 = .ok (.ireturn, 1) := by decide +kernel
set_option maxRecDepth 20000 in
theorem ggX6_spot_X6_isLadder : GoodIn wsX6_spot wsX6_isLadder := goodIn_r _ [6, 7, 88, 89, 90, 91, 92, 93, 94, 95, 96, 97, 98, 108, 109, 110, 111, 112, 113, 114, 115, 116] (by decide +kernel) (by decide +kernel)
set_option maxRecDepth 20000 in
theorem gX6_spot_X6_isLadder : GoodIn wsX6_spot (wsV RX6 93 RX6 yX6_isLadder wsX6_isLadder) := goodIn_app (goodIn_of _ (by decide +kernel)) ggX6_spot_X6_isLadder
set_option maxRecDepth 20000 in
theorem ggX6_spot_X1_findSpot : GoodIn wsX6_spot wsX1_findSpot := goodIn_r _ [12, 13, 14, 15, 16, 17, 18, 19, 20, 21, 22, 23, 5, 24, 25, 26, 27, 28, 29, 30, 31, 32, 33, 34, 35, 36, 37, 38, 39, 40, 41, 42, 43, 44, 45, 46, 47, 48, 49, 50, 51, 52, 53, 54, 55, 56, 57, 58, 59, 60, 61, 62, 63, 64, 65, 66, 67, 68, 69, 70, 71, 72, 73, 74, 75, 76, 77, 78, 79, 80, 81, 82, 83, 84, 85, 86, 87, 99, 100, 101, 102, 103, 104, 105, 106, 107, 117, 118, 119, 120, 121, 122, 123, 124, 108, 109, 110, 111, 112, 113, 114, 115, 116] (by decide +kernel) (by decide +kernel)
set_option maxRecDepth 20000 in
theorem gX6_spot_X1_findSpot : GoodIn wsX6_spot (wsV RX6 174 RX1 yX1_findSpot wsX1_findSpot) := goodIn_app (goodIn_of _ (by decide +kernel)) ggX6_spot_X1_findSpot
theorem dX6_spot_0 : decode cX6_spot 0 = .ok (.aload_n 0, 1) := by decide +kernel
theorem dX6_spot_1 : decode cX6_spot 1 = .ok (.iload_n 1, 1) := by decide +kernel
theorem dX6_spot_2 : decode cX6_spot 2 = .ok (.invokevirtual 93, 3) := by decide +kernel
theorem dX6_spot_5 : decode cX6_spot 5 = .ok (.ifCond .ne 5, 3) := by decide +kernel
theorem dX6_spot_8 : decode cX6_spot 8 = .ok (.iconst (-1), 1) := by decide +kernel
theorem dX6_spot_9 : decode cX6_spot 9 = .ok (.ireturn, 1) := by decide +kernel
theorem dX6_spot_10 : decode cX6_spot 10 = .ok (.iload_n 2, 1) := by decide +kernel
theorem dX6_spot_11 : decode cX6_spot 11 = .ok (.ifCond .lt 8, 3) := by decide +kernel
theorem dX6_spot_14 : decode cX6_spot 14 = .ok (.iload_n 2, 1) := by decide +kernel
theorem dX6_spot_15 : decode cX6_spot 15 = .ok (.iconst 1, 1) := by decide +kernel
theorem dX6_spot_16 : decode cX6_spot 16 = .ok (.if_icmp .le 6, 3) := by decide +kernel
theorem dX6_spot_19 : decode cX6_spot 19 = .ok (.bipush (-2), 2) := by decide +kernel
theorem dX6_spot_21 : decode cX6_spot 21 = .ok (.ireturn, 1) := by decide +kernel
theorem dX6_spot_22 : decode cX6_spot 22 = .ok (.aload_n 0, 1) := by decide +kernel
theorem dX6_spot_23 : decode cX6_spot 23 = .ok (.getfield 57, 3) := by decide +kernel
theorem dX6_spot_26 : decode cX6_spot 26 = .ok (.iload_n 1, 1) := by decide +kernel
theorem dX6_spot_27 : decode cX6_spot 27 = .ok (.invokevirtual 174, 3) := by decide +kernel
theorem dX6_spot_30 : decode cX6_spot 30 = .ok (.iload_n 2, 1) := by decide +kernel
theorem dX6_spot_31 : decode cX6_spot 31 = .ok (.ifCond .ne 13, 3) := by decide +kernel
theorem dX6_spot_34 : decode cX6_spot 34 = .ok (.aload_n 0, 1) := by decide +kernel
theorem dX6_spot_35 : decode cX6_spot 35 = .ok (.getfield 57, 3) := by decide +kernel
theorem dX6_spot_38 : decode cX6_spot 38 = .ok (.getfield 177, 3) := by decide +kernel
theorem dX6_spot_41 : decode cX6_spot 41 = .ok (.goto 10, 3) := by decide +kernel
theorem dX6_spot_44 : decode cX6_spot 44 = .ok (.aload_n 0, 1) := by decide +kernel
theorem dX6_spot_45 : decode cX6_spot 45 = .ok (.getfield 57, 3) := by decide +kernel
theorem dX6_spot_48 : decode cX6_spot 48 = .ok (.getfield 180, 3) := by decide +kernel
theorem dX6_spot_51 : decode cX6_spot 51 = .ok (.ireturn, 1) := by decide +kernel
set_option maxRecDepth 20000 in
theorem ggX6_round_X6_isPerson : GoodIn wsX6_round wsX6_isPerson := goodIn_r _ [6, 7, 58, 59, 60, 61, 62, 63, 64, 65, 66, 67, 68, 78, 79, 80, 81, 82, 83, 84, 85, 86] (by decide +kernel) (by decide +kernel)
set_option maxRecDepth 20000 in
theorem gX6_round_X6_isPerson : GoodIn wsX6_round (wsV RX6 113 RX6 yX6_isPerson wsX6_isPerson) := goodIn_app (goodIn_of _ (by decide +kernel)) ggX6_round_X6_isPerson
set_option maxRecDepth 20000 in
theorem ggX6_round_X1_findRound : GoodIn wsX6_round wsX1_findRound := goodIn_r _ [12, 13, 14, 15, 16, 17, 18, 19, 20, 21, 22, 23, 24, 25, 26, 27, 28, 29, 30, 31, 32, 33, 34, 35, 36, 37, 38, 39, 40, 5, 41, 42, 43, 44, 45, 46, 47, 48, 49, 50, 51, 52, 53, 54, 55, 56, 57, 69, 70, 71, 72, 73, 74, 75, 76, 77, 87, 88, 89, 90, 91, 92, 93, 94, 78, 79, 80, 81, 82, 83, 84, 85, 86] (by decide +kernel) (by decide +kernel)
set_option maxRecDepth 20000 in
theorem gX6_round_X1_findRound : GoodIn wsX6_round (wsV RX6 183 RX1 yX1_findRound wsX1_findRound) := goodIn_app (goodIn_of _ (by decide +kernel)) ggX6_round_X1_findRound
theorem dX6_round_0 : decode cX6_round 0 = .ok (.aload_n 0, 1) := by decide +kernel
theorem dX6_round_1 : decode cX6_round 1 = .ok (.iload_n 1, 1) := by decide +kernel
theorem dX6_round_2 : decode cX6_round 2 = .ok (.invokevirtual 113, 3) := by decide +kernel
theorem dX6_round_5 : decode cX6_round 5 = .ok (.ifCond .ne 5, 3) := by decide +kernel
theorem dX6_round_8 : decode cX6_round 8 = .ok (.iconst (-1), 1) := by decide +kernel
theorem dX6_round_9 : decode cX6_round 9 = .ok (.ireturn, 1) := by decide +kernel
theorem dX6_round_10 : decode cX6_round 10 = .ok (.iload_n 2, 1) := by decide +kernel
theorem dX6_round_11 : decode cX6_round 11 = .ok (.ifCond .lt 8, 3) := by decide +kernel
theorem dX6_round_14 : decode cX6_round 14 = .ok (.iload_n 2, 1) := by decide +kernel
theorem dX6_round_15 : decode cX6_round 15 = .ok (.iconst 1, 1) := by decide +kernel
theorem dX6_round_16 : decode cX6_round 16 = .ok (.if_icmp .le 6, 3) := by decide +kernel
theorem dX6_round_19 : decode cX6_round 19 = .ok (.bipush (-2), 2) := by decide +kernel
theorem dX6_round_21 : decode cX6_round 21 = .ok (.ireturn, 1) := by decide +kernel
theorem dX6_round_22 : decode cX6_round 22 = .ok (.aload_n 0, 1) := by decide +kernel
theorem dX6_round_23 : decode cX6_round 23 = .ok (.getfield 57, 3) := by decide +kernel
theorem dX6_round_26 : decode cX6_round 26 = .ok (.iload_n 1, 1) := by decide +kernel
theorem dX6_round_27 : decode cX6_round 27 = .ok (.invokevirtual 183, 3) := by decide +kernel
theorem dX6_round_30 : decode cX6_round 30 = .ok (.iload_n 2, 1) := by decide +kernel
theorem dX6_round_31 : decode cX6_round 31 = .ok (.ifCond .ne 13, 3) := by decide +kernel
theorem dX6_round_34 : decode cX6_round 34 = .ok (.aload_n 0, 1) := by decide +kernel
theorem dX6_round_35 : decode cX6_round 35 = .ok (.getfield 57, 3) := by decide +kernel
theorem dX6_round_38 : decode cX6_round 38 = .ok (.getfield 177, 3) := by decide +kernel
theorem dX6_round_41 : decode cX6_round 41 = .ok (.goto 10, 3) := by decide +kernel
theorem dX6_round_44 : decode cX6_round 44 = .ok (.aload_n 0, 1) := by decide +kernel
theorem dX6_round_45 : decode cX6_round 45 = .ok (.getfield 57, 3) := by decide +kernel
theorem dX6_round_48 : decode cX6_round 48 = .ok (.getfield 180, 3) := by decide +kernel
theorem dX6_round_51 : decode cX6_round 51 = .ok (.ireturn, 1) := by decide +kernel
set_option maxRecDepth 20000 in
theorem ggX6_judge_X1_takeDoings : GoodIn wsX6_judge wsX1_takeDoings := goodIn_r _ [6, 7, 8, 108, 109, 110, 111, 112, 113, 114, 115, 116] (by decide +kernel) (by decide +kernel)
set_option maxRecDepth 20000 in
theorem gX6_judge_X1_takeDoings : GoodIn wsX6_judge (wsV RX6 186 RX1 yX1_takeDoings wsX1_takeDoings) := goodIn_app (goodIn_of _ (by decide +kernel)) ggX6_judge_X1_takeDoings
set_option maxRecDepth 20000 in
theorem ggX6_judge_X1_firstWrong : GoodIn wsX6_judge wsX1_firstWrong := goodIn_r _ [12, 13, 14, 7, 15, 16, 17, 18, 19, 20, 21, 22, 23, 24, 25, 26, 27, 28, 29, 30, 31, 32, 33, 5, 34, 35, 36, 37, 38, 39, 40, 41, 42, 43, 44, 45, 46, 47, 48, 49, 50, 51, 52, 53, 54, 55, 56, 57, 58, 59, 60, 61, 62, 63, 64, 65, 66, 67, 68, 69, 70, 71, 72, 73, 74, 75, 76, 77, 78, 79, 80, 81, 82, 83, 84, 85, 86, 87, 88, 89, 90, 91, 92, 93, 94, 95, 96, 108, 109, 110, 111, 112, 113, 114, 115, 116, 117, 118, 119, 120, 121, 122, 123, 124, 125, 126, 127, 128, 129, 130, 131, 132, 133] (by decide +kernel) (by decide +kernel)
set_option maxRecDepth 20000 in
theorem gX6_judge_X1_firstWrong : GoodIn wsX6_judge (wsV RX6 190 RX1 yX1_firstWrong wsX1_firstWrong) := goodIn_app (goodIn_of _ (by decide +kernel)) ggX6_judge_X1_firstWrong
theorem dX6_judge_0 : decode cX6_judge 0 = .ok (.iload_n 1, 1) := by decide +kernel
theorem dX6_judge_1 : decode cX6_judge 1 = .ok (.iconst 1, 1) := by decide +kernel
theorem dX6_judge_2 : decode cX6_judge 2 = .ok (.if_icmp .lt 14, 3) := by decide +kernel
theorem dX6_judge_5 : decode cX6_judge 5 = .ok (.iload_n 1, 1) := by decide +kernel
theorem dX6_judge_6 : decode cX6_judge 6 = .ok (.iconst 4, 1) := by decide +kernel
theorem dX6_judge_7 : decode cX6_judge 7 = .ok (.if_icmp .gt 9, 3) := by decide +kernel
theorem dX6_judge_10 : decode cX6_judge 10 = .ok (.lload_n 2, 1) := by decide +kernel
theorem dX6_judge_11 : decode cX6_judge 11 = .ok (.lconst 0, 1) := by decide +kernel
theorem dX6_judge_12 : decode cX6_judge 12 = .ok (.lcmp, 1) := by decide +kernel
theorem dX6_judge_13 : decode cX6_judge 13 = .ok (.ifCond .ge 6, 3) := by decide +kernel
theorem dX6_judge_16 : decode cX6_judge 16 = .ok (.bipush (-2), 2) := by decide +kernel
theorem dX6_judge_18 : decode cX6_judge 18 = .ok (.ireturn, 1) := by decide +kernel
theorem dX6_judge_19 : decode cX6_judge 19 = .ok (.aload_n 0, 1) := by decide +kernel
theorem dX6_judge_20 : decode cX6_judge 20 = .ok (.getfield 57, 3) := by decide +kernel
theorem dX6_judge_23 : decode cX6_judge 23 = .ok (.iload_n 1, 1) := by decide +kernel
theorem dX6_judge_24 : decode cX6_judge 24 = .ok (.lload_n 2, 1) := by decide +kernel
theorem dX6_judge_25 : decode cX6_judge 25 = .ok (.invokevirtual 186, 3) := by decide +kernel
theorem dX6_judge_28 : decode cX6_judge 28 = .ok (.ifCond .eq 14, 3) := by decide +kernel
theorem dX6_judge_31 : decode cX6_judge 31 = .ok (.aload_n 0, 1) := by decide +kernel
theorem dX6_judge_32 : decode cX6_judge 32 = .ok (.getfield 57, 3) := by decide +kernel
theorem dX6_judge_35 : decode cX6_judge 35 = .ok (.iload_n 1, 1) := by decide +kernel
theorem dX6_judge_36 : decode cX6_judge 36 = .ok (.invokevirtual 190, 3) := by decide +kernel
theorem dX6_judge_39 : decode cX6_judge 39 = .ok (.goto 5, 3) := by decide +kernel
theorem dX6_judge_42 : decode cX6_judge 42 = .ok (.bipush (-2), 2) := by decide +kernel
theorem dX6_judge_44 : decode cX6_judge 44 = .ok (.ireturn, 1) := by decide +kernel
set_option maxRecDepth 20000 in
theorem ggX6_see_X3_add : GoodIn wsX6_see wsX3_add := goodIn_r _ [6, 7, 8, 9, 21, 22, 23] (by decide +kernel) (by decide +kernel)
set_option maxRecDepth 20000 in
theorem gX6_see_X3_add : GoodIn wsX6_see (wsV RX6 193 RX3 yX3_add wsX3_add) := goodIn_app (goodIn_of _ (by decide +kernel)) ggX6_see_X3_add
theorem dX6_see_0 : decode cX6_see 0 = .ok (.iload_n 1, 1) := by decide +kernel
theorem dX6_see_1 : decode cX6_see 1 = .ok (.ifCond .lt 18, 3) := by decide +kernel
theorem dX6_see_4 : decode cX6_see 4 = .ok (.iload_n 1, 1) := by decide +kernel
theorem dX6_see_5 : decode cX6_see 5 = .ok (.bipush 20, 2) := by decide +kernel
theorem dX6_see_7 : decode cX6_see 7 = .ok (.if_icmp .gt 12, 3) := by decide +kernel
theorem dX6_see_10 : decode cX6_see 10 = .ok (.iload_n 2, 1) := by decide +kernel
theorem dX6_see_11 : decode cX6_see 11 = .ok (.ifCond .lt 8, 3) := by decide +kernel
theorem dX6_see_14 : decode cX6_see 14 = .ok (.iload_n 2, 1) := by decide +kernel
theorem dX6_see_15 : decode cX6_see 15 = .ok (.iload_n 1, 1) := by decide +kernel
theorem dX6_see_16 : decode cX6_see 16 = .ok (.if_icmp .le 6, 3) := by decide +kernel
theorem dX6_see_19 : decode cX6_see 19 = .ok (.bipush (-2), 2) := by decide +kernel
theorem dX6_see_21 : decode cX6_see 21 = .ok (.ireturn, 1) := by decide +kernel
theorem dX6_see_22 : decode cX6_see 22 = .ok (.aload_n 0, 1) := by decide +kernel
theorem dX6_see_23 : decode cX6_see 23 = .ok (.getfield 48, 3) := by decide +kernel
theorem dX6_see_26 : decode cX6_see 26 = .ok (.iload_n 1, 1) := by decide +kernel
theorem dX6_see_27 : decode cX6_see 27 = .ok (.iload_n 2, 1) := by decide +kernel
theorem dX6_see_28 : decode cX6_see 28 = .ok (.invokevirtual 193, 3) := by decide +kernel
theorem dX6_see_31 : decode cX6_see 31 = .ok (.ireturn, 1) := by decide +kernel
set_option maxRecDepth 20000 in
theorem ggX6_unsee_X3_clear : GoodIn wsX6_unsee wsX3_clear := goodIn_r _ [6, 7, 19, 20, 21] (by decide +kernel) (by decide +kernel)
set_option maxRecDepth 20000 in
theorem gX6_unsee_X3_clear : GoodIn wsX6_unsee (wsV RX6 196 RX3 yX3_clear wsX3_clear) := goodIn_app (goodIn_of _ (by decide +kernel)) ggX6_unsee_X3_clear
theorem dX6_unsee_0 : decode cX6_unsee 0 = .ok (.aload_n 0, 1) := by decide +kernel
theorem dX6_unsee_1 : decode cX6_unsee 1 = .ok (.getfield 48, 3) := by decide +kernel
theorem dX6_unsee_4 : decode cX6_unsee 4 = .ok (.invokevirtual 196, 3) := by decide +kernel
theorem dX6_unsee_7 : decode cX6_unsee 7 = .ok (.ireturn, 1) := by decide +kernel
set_option maxRecDepth 20000 in
theorem ggX6_may_X3_countFitting : GoodIn wsX6_may wsX3_countFitting := goodIn_r _ [6, 7, 8, 9, 5, 10, 11, 12, 13, 14, 15, 16, 32, 33, 34] (by decide +kernel) (by decide +kernel)
set_option maxRecDepth 20000 in
theorem gX6_may_X3_countFitting : GoodIn wsX6_may (wsV RX6 197 RX3 yX3_countFitting wsX3_countFitting) := goodIn_app (goodIn_of _ (by decide +kernel)) ggX6_may_X3_countFitting
set_option maxRecDepth 20000 in
theorem ggX6_may_X3_firstFitting : GoodIn wsX6_may wsX3_firstFitting := goodIn_r _ [20, 7, 8, 9, 5, 10, 11, 12, 13, 14, 15, 16, 32, 33, 34] (by decide +kernel) (by decide +kernel)
set_option maxRecDepth 20000 in
theorem gX6_may_X3_firstFitting : GoodIn wsX6_may (wsV RX6 200 RX3 yX3_firstFitting wsX3_firstFitting) := goodIn_app (goodIn_of _ (by decide +kernel)) ggX6_may_X3_firstFitting
theorem dX6_may_0 : decode cX6_may 0 = .ok (.iload_n 1, 1) := by decide +kernel
theorem dX6_may_1 : decode cX6_may 1 = .ok (.ifCond .lt 8, 3) := by decide +kernel
theorem dX6_may_4 : decode cX6_may 4 = .ok (.iload_n 1, 1) := by decide +kernel
theorem dX6_may_5 : decode cX6_may 5 = .ok (.iconst 1, 1) := by decide +kernel
theorem dX6_may_6 : decode cX6_may 6 = .ok (.if_icmp .le 6, 3) := by decide +kernel
theorem dX6_may_9 : decode cX6_may 9 = .ok (.bipush (-2), 2) := by decide +kernel
theorem dX6_may_11 : decode cX6_may 11 = .ok (.ireturn, 1) := by decide +kernel
theorem dX6_may_12 : decode cX6_may 12 = .ok (.iload_n 1, 1) := by decide +kernel
theorem dX6_may_13 : decode cX6_may 13 = .ok (.ifCond .ne 13, 3) := by decide +kernel
theorem dX6_may_16 : decode cX6_may 16 = .ok (.aload_n 0, 1) := by decide +kernel
theorem dX6_may_17 : decode cX6_may 17 = .ok (.getfield 48, 3) := by decide +kernel
theorem dX6_may_20 : decode cX6_may 20 = .ok (.invokevirtual 197, 3) := by decide +kernel
theorem dX6_may_23 : decode cX6_may 23 = .ok (.goto 10, 3) := by decide +kernel
theorem dX6_may_26 : decode cX6_may 26 = .ok (.aload_n 0, 1) := by decide +kernel
theorem dX6_may_27 : decode cX6_may 27 = .ok (.getfield 48, 3) := by decide +kernel
theorem dX6_may_30 : decode cX6_may 30 = .ok (.invokevirtual 200, 3) := by decide +kernel
theorem dX6_may_33 : decode cX6_may 33 = .ok (.ireturn, 1) := by decide +kernel
set_option maxRecDepth 20000 in
theorem ggX6_share_X6_isPerson : GoodIn wsX6_share wsX6_isPerson := goodIn_r _ [7, 2, 100, 101, 102, 103, 104, 105, 106, 107, 108, 109, 110, 111, 112, 113, 114, 115, 116, 117, 118, 119] (by decide +kernel) (by decide +kernel)
set_option maxRecDepth 20000 in
theorem gX6_share_X6_isPerson : GoodIn wsX6_share (wsV RX6 113 RX6 yX6_isPerson wsX6_isPerson) := goodIn_app (goodIn_of _ (by decide +kernel)) ggX6_share_X6_isPerson
set_option maxRecDepth 20000 in
theorem ggX6_share_X6_isLadder : GoodIn wsX6_share wsX6_isLadder := goodIn_r _ [11, 2, 100, 101, 102, 103, 104, 105, 106, 107, 108, 109, 110, 111, 112, 113, 114, 115, 116, 117, 118, 119] (by decide +kernel) (by decide +kernel)
set_option maxRecDepth 20000 in
theorem gX6_share_X6_isLadder : GoodIn wsX6_share (wsV RX6 93 RX6 yX6_isLadder wsX6_isLadder) := goodIn_app (goodIn_of _ (by decide +kernel)) ggX6_share_X6_isLadder
set_option maxRecDepth 20000 in
theorem ggX6_share_X1_weighCompanies : GoodIn wsX6_share wsX1_weighCompanies := goodIn_r _ [16, 17, 18, 19, 20, 21, 22, 23, 24, 25, 26, 27, 28, 29, 30, 31, 32, 33, 34, 35, 36, 37, 38, 39, 40, 41, 42, 43, 44, 45, 46, 47, 48, 49, 50, 51, 52, 53, 54, 55, 56, 57, 58, 59, 60, 61, 62, 63, 64, 65, 66, 6, 67, 68, 69, 70, 71, 72, 73, 74, 75, 76, 77, 78, 79, 120, 121, 122, 123, 124, 125, 126, 127, 128, 111, 112, 113, 114, 115, 116, 117, 118, 119, 129, 130, 131, 132, 133, 134, 135, 136] (by decide +kernel) (by decide +kernel)
set_option maxRecDepth 20000 in
theorem gX6_share_X1_weighCompanies : GoodIn wsX6_share (wsV RX6 203 RX1 yX1_weighCompanies wsX1_weighCompanies) := goodIn_app (goodIn_of _ (by decide +kernel)) ggX6_share_X1_weighCompanies
set_option maxRecDepth 20000 in
theorem ggX6_share_X1_sumOfGains : GoodIn wsX6_share wsX1_sumOfGains := goodIn_r _ [83, 17, 20, 84, 85, 86, 87, 88, 89, 90, 91, 6, 92, 120, 121, 122, 123, 124, 125, 126, 127, 128, 111, 112, 113, 114, 115, 116, 117, 118, 119] (by decide +kernel) (by decide +kernel)
set_option maxRecDepth 20000 in
theorem gX6_share_X1_sumOfGains : GoodIn wsX6_share (wsV RX6 206 RX1 yX1_sumOfGains wsX1_sumOfGains) := goodIn_app (goodIn_of _ (by decide +kernel)) ggX6_share_X1_sumOfGains
set_option maxRecDepth 20000 in
theorem ggX6_share_X6_ordersOf : GoodIn wsX6_share wsX6_ordersOf := goodIn_r _ [92] (by decide +kernel) (by decide +kernel)
set_option maxRecDepth 20000 in
theorem gX6_share_X6_ordersOf : GoodIn wsX6_share (va_wsS RX6 209 yX6_ordersOf wsX6_ordersOf) := goodIn_app (goodIn_of _ (by decide +kernel)) ggX6_share_X6_ordersOf
set_option maxRecDepth 20000 in
theorem ggX6_share_X6_inLeastTerms : GoodIn wsX6_share wsX6_inLeastTerms := goodIn_r _ [96, 97, 98, 6, 99] (by decide +kernel) (by decide +kernel)
set_option maxRecDepth 20000 in
theorem gX6_share_X6_inLeastTerms : GoodIn wsX6_share (va_wsS RX6 212 yX6_inLeastTerms wsX6_inLeastTerms) := goodIn_app (goodIn_of _ (by decide +kernel)) ggX6_share_X6_inLeastTerms
theorem dX6_share_0 : decode cX6_share 0 = .ok (.aload_n 0, 1) := by decide +kernel
theorem dX6_share_1 : decode cX6_share 1 = .ok (.iload_n 1, 1) := by decide +kernel
theorem dX6_share_2 : decode cX6_share 2 = .ok (.invokevirtual 113, 3) := by decide +kernel
theorem dX6_share_5 : decode cX6_share 5 = .ok (.ifCond .eq 11, 3) := by decide +kernel
theorem dX6_share_8 : decode cX6_share 8 = .ok (.aload_n 0, 1) := by decide +kernel
theorem dX6_share_9 : decode cX6_share 9 = .ok (.iload_n 2, 1) := by decide +kernel
theorem dX6_share_10 : decode cX6_share 10 = .ok (.invokevirtual 93, 3) := by decide +kernel
theorem dX6_share_13 : decode cX6_share 13 = .ok (.ifCond .ne 5, 3) := by decide +kernel
theorem dX6_share_16 : decode cX6_share 16 = .ok (.iconst (-1), 1) := by decide +kernel
theorem dX6_share_17 : decode cX6_share 17 = .ok (.ireturn, 1) := by decide +kernel
theorem dX6_share_18 : decode cX6_share 18 = .ok (.aload_n 0, 1) := by decide +kernel
theorem dX6_share_19 : decode cX6_share 19 = .ok (.getfield 57, 3) := by decide +kernel
theorem dX6_share_22 : decode cX6_share 22 = .ok (.iload_n 2, 1) := by decide +kernel
theorem dX6_share_23 : decode cX6_share 23 = .ok (.invokevirtual 203, 3) := by decide +kernel
theorem dX6_share_26 : decode cX6_share 26 = .ok (.aload_n 0, 1) := by decide +kernel
theorem dX6_share_27 : decode cX6_share 27 = .ok (.getfield 57, 3) := by decide +kernel
theorem dX6_share_30 : decode cX6_share 30 = .ok (.iload_n 1, 1) := by decide +kernel
theorem dX6_share_31 : decode cX6_share 31 = .ok (.invokevirtual 206, 3) := by decide +kernel
theorem dX6_share_34 : decode cX6_share 34 = .ok (.aload_n 0, 1) := by decide +kernel
theorem dX6_share_35 : decode cX6_share 35 = .ok (.getfield 23, 3) := by decide +kernel
theorem dX6_share_38 : decode cX6_share 38 = .ok (.getfield 90, 3) := by decide +kernel
theorem dX6_share_41 : decode cX6_share 41 = .ok (.invokestatic 209, 3) := by decide +kernel
theorem dX6_share_44 : decode cX6_share 44 = .ok (.iload_n 3, 1) := by decide +kernel
theorem dX6_share_45 : decode cX6_share 45 = .ok (.invokestatic 212, 3) := by decide +kernel
theorem dX6_share_48 : decode cX6_share 48 = .ok (.ireturn, 1) := by decide +kernel
set_option maxRecDepth 20000 in
theorem ggX6_rests_X6_isLadder : GoodIn wsX6_rests wsX6_isLadder := goodIn_r _ [6, 7, 100, 101, 102, 103, 104, 105, 106, 107, 108, 109, 110, 111, 112, 113, 114, 115, 116, 117, 118, 119] (by decide +kernel) (by decide +kernel)
set_option maxRecDepth 20000 in
theorem gX6_rests_X6_isLadder : GoodIn wsX6_rests (wsV RX6 93 RX6 yX6_isLadder wsX6_isLadder) := goodIn_app (goodIn_of _ (by decide +kernel)) ggX6_rests_X6_isLadder
set_option maxRecDepth 20000 in
theorem ggX6_rests_X1_weighPairs : GoodIn wsX6_rests wsX1_weighPairs := goodIn_r _ [12, 13, 14, 15, 16, 17, 18, 19, 20, 21, 22, 23, 5, 24, 25, 26, 27, 28, 29, 30, 31, 32, 33, 34, 35, 36, 37, 38, 39, 40, 41, 42, 43, 44, 45, 46, 47, 48, 49, 50, 51, 52, 53, 54, 55, 56, 57, 58, 59, 60, 61, 62, 63, 64, 65, 66, 67, 68, 69, 70, 71, 72, 73, 74, 75, 76, 77, 78, 79, 80, 81, 82, 83, 84, 85, 86, 87, 120, 121, 122, 123, 124, 125, 126, 127, 128, 129, 130, 131, 132, 133, 134, 135, 136, 111, 112, 113, 114, 115, 116, 117, 118, 119] (by decide +kernel) (by decide +kernel)
set_option maxRecDepth 20000 in
theorem gX6_rests_X1_weighPairs : GoodIn wsX6_rests (wsV RX6 216 RX1 yX1_weighPairs wsX1_weighPairs) := goodIn_app (goodIn_of _ (by decide +kernel)) ggX6_rests_X1_weighPairs
set_option maxRecDepth 20000 in
theorem ggX6_rests_X1_countRests : GoodIn wsX6_rests wsX1_countRests := goodIn_r _ [91, 92, 93, 94, 11, 95, 13, 14, 120, 121, 122, 123, 124, 125, 126, 127, 128] (by decide +kernel) (by decide +kernel)
set_option maxRecDepth 20000 in
theorem gX6_rests_X1_countRests : GoodIn wsX6_rests (wsV RX6 219 RX1 yX1_countRests wsX1_countRests) := goodIn_app (goodIn_of _ (by decide +kernel)) ggX6_rests_X1_countRests
set_option maxRecDepth 20000 in
theorem ggX6_rests_X1_firstRest : GoodIn wsX6_rests wsX1_firstRest := goodIn_r _ [99, 92, 93, 94, 11, 95, 13, 14, 120, 121, 122, 123, 124, 125, 126, 127, 128] (by decide +kernel) (by decide +kernel)
set_option maxRecDepth 20000 in
theorem gX6_rests_X1_firstRest : GoodIn wsX6_rests (wsV RX6 222 RX1 yX1_firstRest wsX1_firstRest) := goodIn_app (goodIn_of _ (by decide +kernel)) ggX6_rests_X1_firstRest
theorem dX6_rests_0 : decode cX6_rests 0 = .ok (.aload_n 0, 1) := by decide +kernel
theorem dX6_rests_1 : decode cX6_rests 1 = .ok (.iload_n 1, 1) := by decide +kernel
theorem dX6_rests_2 : decode cX6_rests 2 = .ok (.invokevirtual 93, 3) := by decide +kernel
theorem dX6_rests_5 : decode cX6_rests 5 = .ok (.ifCond .eq 11, 3) := by decide +kernel
theorem dX6_rests_8 : decode cX6_rests 8 = .ok (.aload_n 0, 1) := by decide +kernel
theorem dX6_rests_9 : decode cX6_rests 9 = .ok (.iload_n 2, 1) := by decide +kernel
theorem dX6_rests_10 : decode cX6_rests 10 = .ok (.invokevirtual 93, 3) := by decide +kernel
theorem dX6_rests_13 : decode cX6_rests 13 = .ok (.ifCond .ne 5, 3) := by decide +kernel
theorem dX6_rests_16 : decode cX6_rests 16 = .ok (.iconst (-1), 1) := by decide +kernel
theorem dX6_rests_17 : decode cX6_rests 17 = .ok (.ireturn, 1) := by decide +kernel
theorem dX6_rests_18 : decode cX6_rests 18 = .ok (.iload_n 1, 1) := by decide +kernel
theorem dX6_rests_19 : decode cX6_rests 19 = .ok (.iload_n 2, 1) := by decide +kernel
theorem dX6_rests_20 : decode cX6_rests 20 = .ok (.if_icmp .eq 12, 3) := by decide +kernel
theorem dX6_rests_23 : decode cX6_rests 23 = .ok (.iload_n 3, 1) := by decide +kernel
theorem dX6_rests_24 : decode cX6_rests 24 = .ok (.ifCond .lt 8, 3) := by decide +kernel
theorem dX6_rests_27 : decode cX6_rests 27 = .ok (.iload_n 3, 1) := by decide +kernel
theorem dX6_rests_28 : decode cX6_rests 28 = .ok (.iconst 1, 1) := by decide +kernel
theorem dX6_rests_29 : decode cX6_rests 29 = .ok (.if_icmp .le 6, 3) := by decide +kernel
theorem dX6_rests_32 : decode cX6_rests 32 = .ok (.bipush (-2), 2) := by decide +kernel
theorem dX6_rests_34 : decode cX6_rests 34 = .ok (.ireturn, 1) := by decide +kernel
theorem dX6_rests_35 : decode cX6_rests 35 = .ok (.aload_n 0, 1) := by decide +kernel
theorem dX6_rests_36 : decode cX6_rests 36 = .ok (.getfield 57, 3) := by decide +kernel
theorem dX6_rests_39 : decode cX6_rests 39 = .ok (.iload_n 1, 1) := by decide +kernel
theorem dX6_rests_40 : decode cX6_rests 40 = .ok (.iload_n 2, 1) := by decide +kernel
theorem dX6_rests_41 : decode cX6_rests 41 = .ok (.invokevirtual 216, 3) := by decide +kernel
theorem dX6_rests_44 : decode cX6_rests 44 = .ok (.iload_n 3, 1) := by decide +kernel
theorem dX6_rests_45 : decode cX6_rests 45 = .ok (.ifCond .ne 13, 3) := by decide +kernel
theorem dX6_rests_48 : decode cX6_rests 48 = .ok (.aload_n 0, 1) := by decide +kernel
theorem dX6_rests_49 : decode cX6_rests 49 = .ok (.getfield 57, 3) := by decide +kernel
theorem dX6_rests_52 : decode cX6_rests 52 = .ok (.invokevirtual 219, 3) := by decide +kernel
theorem dX6_rests_55 : decode cX6_rests 55 = .ok (.goto 10, 3) := by decide +kernel
theorem dX6_rests_58 : decode cX6_rests 58 = .ok (.aload_n 0, 1) := by decide +kernel
theorem dX6_rests_59 : decode cX6_rests 59 = .ok (.getfield 57, 3) := by decide +kernel
theorem dX6_rests_62 : decode cX6_rests 62 = .ok (.invokevirtual 222, 3) := by decide +kernel
theorem dX6_rests_65 : decode cX6_rests 65 = .ok (.ireturn, 1) := by decide +kernel
set_option maxRecDepth 20000 in
theorem ggX6_stays_X6_isLadder : GoodIn wsX6_stays wsX6_isLadder := goodIn_r _ [7, 1, 81, 82, 83, 84, 85, 86, 87, 88, 89, 90, 91, 92, 93, 94, 95, 96, 97, 98, 99, 100] (by decide +kernel) (by decide +kernel)
set_option maxRecDepth 20000 in
theorem gX6_stays_X6_isLadder : GoodIn wsX6_stays (wsV RX6 93 RX6 yX6_isLadder wsX6_isLadder) := goodIn_app (goodIn_of _ (by decide +kernel)) ggX6_stays_X6_isLadder
set_option maxRecDepth 20000 in
theorem ggX6_stays_X1_chancesOfGold : GoodIn wsX6_stays wsX1_chancesOfGold := goodIn_r _ [12, 13, 14, 15, 16, 17, 18, 19, 20, 21, 22, 23, 24, 25, 26, 27, 28, 29, 30, 31, 32, 33, 34, 35, 36, 37, 38, 39, 40, 41, 42, 43, 44, 45, 46, 47, 48, 49, 50, 51, 52, 53, 54, 55, 56, 57, 6, 58, 59, 60, 61, 62, 63, 64, 65, 66, 67, 68, 69, 70, 71, 72, 73, 11, 74, 101, 102, 103, 104, 105, 106, 107, 108, 109, 92, 93, 94, 95, 96, 97, 98, 99, 100, 110, 111, 112, 113, 114, 115, 116, 117] (by decide +kernel) (by decide +kernel)
set_option maxRecDepth 20000 in
theorem gX6_stays_X1_chancesOfGold : GoodIn wsX6_stays (wsV RX6 225 RX1 yX1_chancesOfGold wsX1_chancesOfGold) := goodIn_app (goodIn_of _ (by decide +kernel)) ggX6_stays_X1_chancesOfGold
set_option maxRecDepth 20000 in
theorem ggX6_stays_X6_inLeastTerms : GoodIn wsX6_stays wsX6_inLeastTerms := goodIn_r _ [77, 78, 79, 6, 80] (by decide +kernel) (by decide +kernel)
set_option maxRecDepth 20000 in
theorem gX6_stays_X6_inLeastTerms : GoodIn wsX6_stays (va_wsS RX6 212 yX6_inLeastTerms wsX6_inLeastTerms) := goodIn_app (goodIn_of _ (by decide +kernel)) ggX6_stays_X6_inLeastTerms
theorem dX6_stays_0 : decode cX6_stays 0 = .ok (.aload_n 0, 1) := by decide +kernel
theorem dX6_stays_1 : decode cX6_stays 1 = .ok (.iload_n 1, 1) := by decide +kernel
theorem dX6_stays_2 : decode cX6_stays 2 = .ok (.invokevirtual 93, 3) := by decide +kernel
theorem dX6_stays_5 : decode cX6_stays 5 = .ok (.ifCond .ne 5, 3) := by decide +kernel
theorem dX6_stays_8 : decode cX6_stays 8 = .ok (.iconst (-1), 1) := by decide +kernel
theorem dX6_stays_9 : decode cX6_stays 9 = .ok (.ireturn, 1) := by decide +kernel
theorem dX6_stays_10 : decode cX6_stays 10 = .ok (.iload_n 2, 1) := by decide +kernel
theorem dX6_stays_11 : decode cX6_stays 11 = .ok (.ifCond .lt 19, 3) := by decide +kernel
theorem dX6_stays_14 : decode cX6_stays 14 = .ok (.iload_n 2, 1) := by decide +kernel
theorem dX6_stays_15 : decode cX6_stays 15 = .ok (.bipush 60, 2) := by decide +kernel
theorem dX6_stays_17 : decode cX6_stays 17 = .ok (.if_icmp .gt 13, 3) := by decide +kernel
theorem dX6_stays_20 : decode cX6_stays 20 = .ok (.iload_n 3, 1) := by decide +kernel
theorem dX6_stays_21 : decode cX6_stays 21 = .ok (.ifCond .lt 9, 3) := by decide +kernel
theorem dX6_stays_24 : decode cX6_stays 24 = .ok (.iload_n 3, 1) := by decide +kernel
theorem dX6_stays_25 : decode cX6_stays 25 = .ok (.bipush 10, 2) := by decide +kernel
theorem dX6_stays_27 : decode cX6_stays 27 = .ok (.if_icmp .le 6, 3) := by decide +kernel
theorem dX6_stays_30 : decode cX6_stays 30 = .ok (.bipush (-2), 2) := by decide +kernel
theorem dX6_stays_32 : decode cX6_stays 32 = .ok (.ireturn, 1) := by decide +kernel
theorem dX6_stays_33 : decode cX6_stays 33 = .ok (.iconst 1, 1) := by decide +kernel
theorem dX6_stays_34 : decode cX6_stays 34 = .ok (.istore 5, 2) := by decide +kernel
theorem dX6_stays_36 : decode cX6_stays 36 = .ok (.iconst 0, 1) := by decide +kernel
theorem dX6_stays_37 : decode cX6_stays 37 = .ok (.istore 6, 2) := by decide +kernel
theorem dX6_stays_39 : decode cX6_stays 39 = .ok (.iload 6, 2) := by decide +kernel
theorem dX6_stays_41 : decode cX6_stays 41 = .ok (.aload_n 0, 1) := by decide +kernel
theorem dX6_stays_42 : decode cX6_stays 42 = .ok (.getfield 23, 3) := by decide +kernel
theorem dX6_stays_45 : decode cX6_stays 45 = .ok (.getfield 90, 3) := by decide +kernel
theorem dX6_stays_48 : decode cX6_stays 48 = .ok (.if_icmp .ge 16, 3) := by decide +kernel
theorem dX6_stays_51 : decode cX6_stays 51 = .ok (.iload 5, 2) := by decide +kernel
theorem dX6_stays_53 : decode cX6_stays 53 = .ok (.bipush 10, 2) := by decide +kernel
theorem dX6_stays_55 : decode cX6_stays 55 = .ok (.imul, 1) := by decide +kernel
theorem dX6_stays_56 : decode cX6_stays 56 = .ok (.istore 5, 2) := by decide +kernel
theorem dX6_stays_58 : decode cX6_stays 58 = .ok (.iinc 6 1, 3) := by decide +kernel
theorem dX6_stays_61 : decode cX6_stays 61 = .ok (.goto (-22), 3) := by decide +kernel
theorem dX6_stays_64 : decode cX6_stays 64 = .ok (.aload_n 0, 1) := by decide +kernel
theorem dX6_stays_65 : decode cX6_stays 65 = .ok (.getfield 57, 3) := by decide +kernel
theorem dX6_stays_68 : decode cX6_stays 68 = .ok (.iload_n 1, 1) := by decide +kernel
theorem dX6_stays_69 : decode cX6_stays 69 = .ok (.iload_n 2, 1) := by decide +kernel
theorem dX6_stays_70 : decode cX6_stays 70 = .ok (.iload_n 3, 1) := by decide +kernel
theorem dX6_stays_71 : decode cX6_stays 71 = .ok (.invokevirtual 225, 3) := by decide +kernel
theorem dX6_stays_74 : decode cX6_stays 74 = .ok (.iload 5, 2) := by decide +kernel
theorem dX6_stays_76 : decode cX6_stays 76 = .ok (.iload 4, 2) := by decide +kernel
theorem dX6_stays_78 : decode cX6_stays 78 = .ok (.invokestatic 212, 3) := by decide +kernel
theorem dX6_stays_81 : decode cX6_stays 81 = .ok (.ireturn, 1) := by decide +kernel
theorem dX6_seed_0 : decode cX6_seed 0 = .ok (.aload_n 0, 1) := by decide +kernel
theorem dX6_seed_1 : decode cX6_seed 1 = .ok (.getfield 229, 3) := by decide +kernel
theorem dX6_seed_4 : decode cX6_seed 4 = .ok (.lstore_n 3, 1) := by decide +kernel
theorem dX6_seed_5 : decode cX6_seed 5 = .ok (.aload_n 0, 1) := by decide +kernel
theorem dX6_seed_6 : decode cX6_seed 6 = .ok (.lload_n 1, 1) := by decide +kernel
theorem dX6_seed_7 : decode cX6_seed 7 = .ok (.putfield 229, 3) := by decide +kernel
theorem dX6_seed_10 : decode cX6_seed 10 = .ok (.lload_n 3, 1) := by decide +kernel
theorem dX6_seed_11 : decode cX6_seed 11 = .ok (.lreturn, 1) := by decide +kernel
set_option maxRecDepth 20000 in
theorem ggX6_years_X4_setTo : GoodIn wsX6_years wsX4_setTo := goodIn_r _ [11, 12, 13, 14, 15, 16, 17, 18, 19, 20, 21, 22, 94, 95, 96, 97, 98, 99, 100, 101] (by decide +kernel) (by decide +kernel)
set_option maxRecDepth 20000 in
theorem gX6_years_X4_setTo : GoodIn wsX6_years (wsV RX6 233 RX4 yX4_setTo wsX4_setTo) := goodIn_app (goodIn_of _ (by decide +kernel)) ggX6_years_X4_setTo
set_option maxRecDepth 20000 in
theorem ggX6_years_X4_doDrawn : GoodIn wsX6_years wsX4_doDrawn := goodIn_r _ [26, 27, 28, 29, 30, 10, 31, 18, 19, 22, 32, 33, 34, 35, 20, 36, 37, 38, 39, 40, 41, 42, 43, 44, 45, 46, 47, 48, 49, 50, 51, 17, 52, 53, 54, 55, 56, 57, 58, 21, 59, 60, 61, 62, 63, 64, 65, 66, 67, 68, 69, 70, 71, 72, 73, 74, 12, 75, 76, 77, 78, 94, 95, 96, 97, 98, 99, 100, 101, 102, 103, 104, 105, 106, 107, 108, 109, 110] (by decide +kernel) (by decide +kernel)
set_option maxRecDepth 20000 in
theorem gX6_years_X4_doDrawn : GoodIn wsX6_years (wsV RX6 242 RX4 yX4_doDrawn wsX4_doDrawn) := goodIn_app (goodIn_of _ (by decide +kernel)) ggX6_years_X4_doDrawn
set_option maxRecDepth 20000 in
theorem ggX6_years_X4_goldOfMen : GoodIn wsX6_years wsX4_goldOfMen := goodIn_r _ [82, 27, 19, 94, 95, 96, 97, 98, 99, 100, 101, 102, 103, 104, 105, 106, 107, 108, 109, 110] (by decide +kernel) (by decide +kernel)
set_option maxRecDepth 20000 in
theorem gX6_years_X4_goldOfMen : GoodIn wsX6_years (wsV RX6 245 RX4 yX4_goldOfMen wsX4_goldOfMen) := goodIn_app (goodIn_of _ (by decide +kernel)) ggX6_years_X4_goldOfMen
theorem dX6_years_0 : decode cX6_years 0 = .ok (.iload_n 1, 1) := by decide +kernel
theorem dX6_years_1 : decode cX6_years 1 = .ok (.iconst 1, 1) := by decide +kernel
theorem dX6_years_2 : decode cX6_years 2 = .ok (.if_icmp .lt 9, 3) := by decide +kernel
theorem dX6_years_5 : decode cX6_years 5 = .ok (.iload_n 1, 1) := by decide +kernel
theorem dX6_years_6 : decode cX6_years 6 = .ok (.bipush 30, 2) := by decide +kernel
theorem dX6_years_8 : decode cX6_years 8 = .ok (.if_icmp .le 6, 3) := by decide +kernel
theorem dX6_years_11 : decode cX6_years 11 = .ok (.bipush (-2), 2) := by decide +kernel
theorem dX6_years_13 : decode cX6_years 13 = .ok (.ireturn, 1) := by decide +kernel
theorem dX6_years_14 : decode cX6_years 14 = .ok (.aload_n 0, 1) := by decide +kernel
theorem dX6_years_15 : decode cX6_years 15 = .ok (.getfield 35, 3) := by decide +kernel
theorem dX6_years_18 : decode cX6_years 18 = .ok (.aload_n 0, 1) := by decide +kernel
theorem dX6_years_19 : decode cX6_years 19 = .ok (.getfield 31, 3) := by decide +kernel
theorem dX6_years_22 : decode cX6_years 22 = .ok (.invokevirtual 233, 3) := by decide +kernel
theorem dX6_years_25 : decode cX6_years 25 = .ok (.iconst 0, 1) := by decide +kernel
theorem dX6_years_26 : decode cX6_years 26 = .ok (.istore_n 2, 1) := by decide +kernel
theorem dX6_years_27 : decode cX6_years 27 = .ok (.iconst 0, 1) := by decide +kernel
theorem dX6_years_28 : decode cX6_years 28 = .ok (.istore_n 3, 1) := by decide +kernel
theorem dX6_years_29 : decode cX6_years 29 = .ok (.iload_n 3, 1) := by decide +kernel
theorem dX6_years_30 : decode cX6_years 30 = .ok (.iload_n 1, 1) := by decide +kernel
theorem dX6_years_31 : decode cX6_years 31 = .ok (.if_icmp .ge 54, 3) := by decide +kernel
theorem dX6_years_34 : decode cX6_years 34 = .ok (.aload_n 0, 1) := by decide +kernel
theorem dX6_years_35 : decode cX6_years 35 = .ok (.aload_n 0, 1) := by decide +kernel
theorem dX6_years_36 : decode cX6_years 36 = .ok (.getfield 229, 3) := by decide +kernel
theorem dX6_years_39 : decode cX6_years 39 = .ok (.ldc2_w 236, 3) := by decide +kernel
theorem dX6_years_42 : decode cX6_years 42 = .ok (.lmul, 1) := by decide +kernel
theorem dX6_years_43 : decode cX6_years 43 = .ok (.ldc2_w 238, 3) := by decide +kernel
theorem dX6_years_46 : decode cX6_years 46 = .ok (.ladd, 1) := by decide +kernel
theorem dX6_years_47 : decode cX6_years 47 = .ok (.putfield 229, 3) := by decide +kernel
theorem dX6_years_50 : decode cX6_years 50 = .ok (.aload_n 0, 1) := by decide +kernel
theorem dX6_years_51 : decode cX6_years 51 = .ok (.getfield 35, 3) := by decide +kernel
theorem dX6_years_54 : decode cX6_years 54 = .ok (.aload_n 0, 1) := by decide +kernel
theorem dX6_years_55 : decode cX6_years 55 = .ok (.getfield 229, 3) := by decide +kernel
theorem dX6_years_58 : decode cX6_years 58 = .ok (.bipush 33, 2) := by decide +kernel
theorem dX6_years_60 : decode cX6_years 60 = .ok (.lushr, 1) := by decide +kernel
theorem dX6_years_61 : decode cX6_years 61 = .ok (.ldc2_w 240, 3) := by decide +kernel
theorem dX6_years_64 : decode cX6_years 64 = .ok (.lrem, 1) := by decide +kernel
theorem dX6_years_65 : decode cX6_years 65 = .ok (.l2i, 1) := by decide +kernel
theorem dX6_years_66 : decode cX6_years 66 = .ok (.invokevirtual 242, 3) := by decide +kernel
theorem dX6_years_69 : decode cX6_years 69 = .ok (.iload_n 2, 1) := by decide +kernel
theorem dX6_years_70 : decode cX6_years 70 = .ok (.aload_n 0, 1) := by decide +kernel
theorem dX6_years_71 : decode cX6_years 71 = .ok (.getfield 35, 3) := by decide +kernel
theorem dX6_years_74 : decode cX6_years 74 = .ok (.invokevirtual 245, 3) := by decide +kernel
theorem dX6_years_77 : decode cX6_years 77 = .ok (.iadd, 1) := by decide +kernel
theorem dX6_years_78 : decode cX6_years 78 = .ok (.istore_n 2, 1) := by decide +kernel
theorem dX6_years_79 : decode cX6_years 79 = .ok (.iinc 3 1, 3) := by decide +kernel
theorem dX6_years_82 : decode cX6_years 82 = .ok (.goto (-53), 3) := by decide +kernel
theorem dX6_years_85 : decode cX6_years 85 = .ok (.iload_n 2, 1) := by decide +kernel
theorem dX6_years_86 : decode cX6_years 86 = .ok (.ireturn, 1) := by decide +kernel
set_option maxRecDepth 20000 in
theorem ggX6_keep_X6_isSlot : GoodIn wsX6_keep wsX6_isSlot := goodIn_r _ [7] (by decide +kernel) (by decide +kernel)
set_option maxRecDepth 20000 in
theorem gX6_keep_X6_isSlot : GoodIn wsX6_keep (va_wsS RX6 248 yX6_isSlot wsX6_isSlot) := goodIn_app (goodIn_of _ (by decide +kernel)) ggX6_keep_X6_isSlot
set_option maxRecDepth 20000 in
theorem ggX6_keep_X4_setTo : GoodIn wsX6_keep wsX4_setTo := goodIn_r _ [12, 13, 14, 15, 16, 17, 18, 19, 20, 21, 22, 23, 35, 36, 37, 38, 39, 40, 41, 42] (by decide +kernel) (by decide +kernel)
set_option maxRecDepth 20000 in
theorem gX6_keep_X4_setTo : GoodIn wsX6_keep (wsV RX6 233 RX4 yX4_setTo wsX4_setTo) := goodIn_app (goodIn_of _ (by decide +kernel)) ggX6_keep_X4_setTo
theorem dX6_keep_0 : decode cX6_keep 0 = .ok (.iload_n 1, 1) := by decide +kernel
theorem dX6_keep_1 : decode cX6_keep 1 = .ok (.invokestatic 248, 3) := by decide +kernel
theorem dX6_keep_4 : decode cX6_keep 4 = .ok (.ifCond .ne 5, 3) := by decide +kernel
theorem dX6_keep_7 : decode cX6_keep 7 = .ok (.iconst (-1), 1) := by decide +kernel
theorem dX6_keep_8 : decode cX6_keep 8 = .ok (.ireturn, 1) := by decide +kernel
theorem dX6_keep_9 : decode cX6_keep 9 = .ok (.aload_n 0, 1) := by decide +kernel
theorem dX6_keep_10 : decode cX6_keep 10 = .ok (.getfield 61, 3) := by decide +kernel
theorem dX6_keep_13 : decode cX6_keep 13 = .ok (.iload_n 1, 1) := by decide +kernel
theorem dX6_keep_14 : decode cX6_keep 14 = .ok (.aaload, 1) := by decide +kernel
theorem dX6_keep_15 : decode cX6_keep 15 = .ok (.aload_n 0, 1) := by decide +kernel
theorem dX6_keep_16 : decode cX6_keep 16 = .ok (.getfield 31, 3) := by decide +kernel
theorem dX6_keep_19 : decode cX6_keep 19 = .ok (.invokevirtual 233, 3) := by decide +kernel
theorem dX6_keep_22 : decode cX6_keep 22 = .ok (.aload_n 0, 1) := by decide +kernel
theorem dX6_keep_23 : decode cX6_keep 23 = .ok (.getfield 65, 3) := by decide +kernel
theorem dX6_keep_26 : decode cX6_keep 26 = .ok (.iload_n 1, 1) := by decide +kernel
theorem dX6_keep_27 : decode cX6_keep 27 = .ok (.iconst 1, 1) := by decide +kernel
theorem dX6_keep_28 : decode cX6_keep 28 = .ok (.bastore, 1) := by decide +kernel
theorem dX6_keep_29 : decode cX6_keep 29 = .ok (.aload_n 0, 1) := by decide +kernel
theorem dX6_keep_30 : decode cX6_keep 30 = .ok (.getfield 31, 3) := by decide +kernel
theorem dX6_keep_33 : decode cX6_keep 33 = .ok (.getfield 251, 3) := by decide +kernel
theorem dX6_keep_36 : decode cX6_keep 36 = .ok (.ireturn, 1) := by decide +kernel
set_option maxRecDepth 20000 in
theorem ggX6_again_X6_isSlot : GoodIn wsX6_again wsX6_isSlot := goodIn_r _ [8] (by decide +kernel) (by decide +kernel)
set_option maxRecDepth 20000 in
theorem gX6_again_X6_isSlot : GoodIn wsX6_again (va_wsS RX6 248 yX6_isSlot wsX6_isSlot) := goodIn_app (goodIn_of _ (by decide +kernel)) ggX6_again_X6_isSlot
set_option maxRecDepth 20000 in
theorem ggX6_again_X4_setTo : GoodIn wsX6_again wsX4_setTo := goodIn_r _ [13, 14, 15, 16, 17, 18, 19, 20, 21, 22, 23, 24, 42, 43, 44, 45, 46, 47, 48, 49] (by decide +kernel) (by decide +kernel)
set_option maxRecDepth 20000 in
theorem gX6_again_X4_setTo : GoodIn wsX6_again (wsV RX6 233 RX4 yX4_setTo wsX4_setTo) := goodIn_app (goodIn_of _ (by decide +kernel)) ggX6_again_X4_setTo
set_option maxRecDepth 20000 in
theorem ggX6_again_X0_clear : GoodIn wsX6_again wsX0_clear := goodIn_r _ [29, 30, 50, 51, 52] (by decide +kernel) (by decide +kernel)
set_option maxRecDepth 20000 in
theorem gX6_again_X0_clear : GoodIn wsX6_again (wsV RX6 84 RX0 yX0_clear wsX0_clear) := goodIn_app (goodIn_of _ (by decide +kernel)) ggX6_again_X0_clear
theorem dX6_again_0 : decode cX6_again 0 = .ok (.iload_n 1, 1) := by decide +kernel
theorem dX6_again_1 : decode cX6_again 1 = .ok (.invokestatic 248, 3) := by decide +kernel
theorem dX6_again_4 : decode cX6_again 4 = .ok (.ifCond .ne 5, 3) := by decide +kernel
theorem dX6_again_7 : decode cX6_again 7 = .ok (.iconst (-1), 1) := by decide +kernel
theorem dX6_again_8 : decode cX6_again 8 = .ok (.ireturn, 1) := by decide +kernel
theorem dX6_again_9 : decode cX6_again 9 = .ok (.aload_n 0, 1) := by decide +kernel
theorem dX6_again_10 : decode cX6_again 10 = .ok (.getfield 65, 3) := by decide +kernel
theorem dX6_again_13 : decode cX6_again 13 = .ok (.iload_n 1, 1) := by decide +kernel
theorem dX6_again_14 : decode cX6_again 14 = .ok (.baload, 1) := by decide +kernel
theorem dX6_again_15 : decode cX6_again 15 = .ok (.ifCond .ne 6, 3) := by decide +kernel
theorem dX6_again_18 : decode cX6_again 18 = .ok (.bipush (-3), 2) := by decide +kernel
theorem dX6_again_20 : decode cX6_again 20 = .ok (.ireturn, 1) := by decide +kernel
theorem dX6_again_21 : decode cX6_again 21 = .ok (.aload_n 0, 1) := by decide +kernel
theorem dX6_again_22 : decode cX6_again 22 = .ok (.getfield 31, 3) := by decide +kernel
theorem dX6_again_25 : decode cX6_again 25 = .ok (.aload_n 0, 1) := by decide +kernel
theorem dX6_again_26 : decode cX6_again 26 = .ok (.getfield 61, 3) := by decide +kernel
theorem dX6_again_29 : decode cX6_again 29 = .ok (.iload_n 1, 1) := by decide +kernel
theorem dX6_again_30 : decode cX6_again 30 = .ok (.aaload, 1) := by decide +kernel
theorem dX6_again_31 : decode cX6_again 31 = .ok (.invokevirtual 233, 3) := by decide +kernel
theorem dX6_again_34 : decode cX6_again 34 = .ok (.aload_n 0, 1) := by decide +kernel
theorem dX6_again_35 : decode cX6_again 35 = .ok (.getfield 41, 3) := by decide +kernel
theorem dX6_again_38 : decode cX6_again 38 = .ok (.invokevirtual 84, 3) := by decide +kernel
theorem dX6_again_41 : decode cX6_again 41 = .ok (.aload_n 0, 1) := by decide +kernel
theorem dX6_again_42 : decode cX6_again 42 = .ok (.getfield 31, 3) := by decide +kernel
theorem dX6_again_45 : decode cX6_again 45 = .ok (.getfield 251, 3) := by decide +kernel
theorem dX6_again_48 : decode cX6_again 48 = .ok (.ireturn, 1) := by decide +kernel
set_option maxRecDepth 20000 in
theorem ggX6_count_X4_luckOfPeople : GoodIn wsX6_count wsX4_luckOfPeople := goodIn_r _ [10, 11, 12, 50, 51, 52, 53, 54, 55, 56, 57, 41, 42, 43, 44, 45, 46, 47, 48, 49] (by decide +kernel) (by decide +kernel)
set_option maxRecDepth 20000 in
theorem gX6_count_X4_luckOfPeople : GoodIn wsX6_count (wsV RX6 257 RX4 yX4_luckOfPeople wsX4_luckOfPeople) := goodIn_app (goodIn_of _ (by decide +kernel)) ggX6_count_X4_luckOfPeople
set_option maxRecDepth 20000 in
theorem ggX6_count_X4_luckOfMen : GoodIn wsX6_count wsX4_luckOfMen := goodIn_r _ [16, 11, 17, 50, 51, 52, 53, 54, 55, 56, 57, 41, 42, 43, 44, 45, 46, 47, 48, 49] (by decide +kernel) (by decide +kernel)
set_option maxRecDepth 20000 in
theorem gX6_count_X4_luckOfMen : GoodIn wsX6_count (wsV RX6 260 RX4 yX4_luckOfMen wsX4_luckOfMen) := goodIn_app (goodIn_of _ (by decide +kernel)) ggX6_count_X4_luckOfMen
set_option maxRecDepth 20000 in
theorem ggX6_count_X4_goldOfMen : GoodIn wsX6_count wsX4_goldOfMen := goodIn_r _ [21, 11, 22, 50, 51, 52, 53, 54, 55, 56, 57, 41, 42, 43, 44, 45, 46, 47, 48, 49] (by decide +kernel) (by decide +kernel)
set_option maxRecDepth 20000 in
theorem gX6_count_X4_goldOfMen : GoodIn wsX6_count (wsV RX6 245 RX4 yX4_goldOfMen wsX4_goldOfMen) := goodIn_app (goodIn_of _ (by decide +kernel)) ggX6_count_X4_goldOfMen
set_option maxRecDepth 20000 in
theorem ggX6_count_X4_peopleAtHome : GoodIn wsX6_count wsX4_peopleAtHome := goodIn_r _ [26, 11, 27, 50, 51, 52, 53, 54, 55, 56, 57, 41, 42, 43, 44, 45, 46, 47, 48, 49] (by decide +kernel) (by decide +kernel)
set_option maxRecDepth 20000 in
theorem gX6_count_X4_peopleAtHome : GoodIn wsX6_count (wsV RX6 263 RX4 yX4_peopleAtHome wsX4_peopleAtHome) := goodIn_app (goodIn_of _ (by decide +kernel)) ggX6_count_X4_peopleAtHome
theorem dX6_count_0 : decode cX6_count 0 = .ok (.iload_n 1, 1) := by decide +kernel
theorem dX6_count_1 : decode cX6_count 1 = .ok (.tableswitch 135 0 9 #[55, 63, 71, 79, 87, 95, 103, 111, 119, 127], 55) := by decide +kernel
theorem dX6_count_56 : decode cX6_count 56 = .ok (.aload_n 0, 1) := by decide +kernel
theorem dX6_count_57 : decode cX6_count 57 = .ok (.getfield 12, 3) := by decide +kernel
theorem dX6_count_60 : decode cX6_count 60 = .ok (.getfield 254, 3) := by decide +kernel
theorem dX6_count_63 : decode cX6_count 63 = .ok (.ireturn, 1) := by decide +kernel
theorem dX6_count_64 : decode cX6_count 64 = .ok (.aload_n 0, 1) := by decide +kernel
theorem dX6_count_65 : decode cX6_count 65 = .ok (.getfield 23, 3) := by decide +kernel
theorem dX6_count_68 : decode cX6_count 68 = .ok (.getfield 86, 3) := by decide +kernel
theorem dX6_count_71 : decode cX6_count 71 = .ok (.ireturn, 1) := by decide +kernel
theorem dX6_count_72 : decode cX6_count 72 = .ok (.aload_n 0, 1) := by decide +kernel
theorem dX6_count_73 : decode cX6_count 73 = .ok (.getfield 23, 3) := by decide +kernel
theorem dX6_count_76 : decode cX6_count 76 = .ok (.getfield 90, 3) := by decide +kernel
theorem dX6_count_79 : decode cX6_count 79 = .ok (.ireturn, 1) := by decide +kernel
theorem dX6_count_80 : decode cX6_count 80 = .ok (.aload_n 0, 1) := by decide +kernel
theorem dX6_count_81 : decode cX6_count 81 = .ok (.getfield 31, 3) := by decide +kernel
theorem dX6_count_84 : decode cX6_count 84 = .ok (.getfield 251, 3) := by decide +kernel
theorem dX6_count_87 : decode cX6_count 87 = .ok (.ireturn, 1) := by decide +kernel
theorem dX6_count_88 : decode cX6_count 88 = .ok (.aload_n 0, 1) := by decide +kernel
theorem dX6_count_89 : decode cX6_count 89 = .ok (.getfield 31, 3) := by decide +kernel
theorem dX6_count_92 : decode cX6_count 92 = .ok (.invokevirtual 257, 3) := by decide +kernel
theorem dX6_count_95 : decode cX6_count 95 = .ok (.ireturn, 1) := by decide +kernel
theorem dX6_count_96 : decode cX6_count 96 = .ok (.aload_n 0, 1) := by decide +kernel
theorem dX6_count_97 : decode cX6_count 97 = .ok (.getfield 31, 3) := by decide +kernel
theorem dX6_count_100 : decode cX6_count 100 = .ok (.invokevirtual 260, 3) := by decide +kernel
theorem dX6_count_103 : decode cX6_count 103 = .ok (.ireturn, 1) := by decide +kernel
theorem dX6_count_104 : decode cX6_count 104 = .ok (.aload_n 0, 1) := by decide +kernel
theorem dX6_count_105 : decode cX6_count 105 = .ok (.getfield 31, 3) := by decide +kernel
theorem dX6_count_108 : decode cX6_count 108 = .ok (.invokevirtual 245, 3) := by decide +kernel
theorem dX6_count_111 : decode cX6_count 111 = .ok (.ireturn, 1) := by decide +kernel
theorem dX6_count_112 : decode cX6_count 112 = .ok (.aload_n 0, 1) := by decide +kernel
theorem dX6_count_113 : decode cX6_count 113 = .ok (.getfield 31, 3) := by decide +kernel
theorem dX6_count_116 : decode cX6_count 116 = .ok (.invokevirtual 263, 3) := by decide +kernel
theorem dX6_count_119 : decode cX6_count 119 = .ok (.ireturn, 1) := by decide +kernel
theorem dX6_count_120 : decode cX6_count 120 = .ok (.aload_n 0, 1) := by decide +kernel
theorem dX6_count_121 : decode cX6_count 121 = .ok (.getfield 41, 3) := by decide +kernel
theorem dX6_count_124 : decode cX6_count 124 = .ok (.getfield 165, 3) := by decide +kernel
theorem dX6_count_127 : decode cX6_count 127 = .ok (.ireturn, 1) := by decide +kernel
theorem dX6_count_128 : decode cX6_count 128 = .ok (.aload_n 0, 1) := by decide +kernel
theorem dX6_count_129 : decode cX6_count 129 = .ok (.getfield 48, 3) := by decide +kernel
theorem dX6_count_132 : decode cX6_count 132 = .ok (.getfield 266, 3) := by decide +kernel
theorem dX6_count_135 : decode cX6_count 135 = .ok (.ireturn, 1) := by decide +kernel
theorem dX6_count_136 : decode cX6_count 136 = .ok (.bipush (-2), 2) := by decide +kernel
theorem dX6_count_138 : decode cX6_count 138 = .ok (.ireturn, 1) := by decide +kernel
theorem dX6_isLadder_0 : decode cX6_isLadder 0 = .ok (.iload_n 1, 1) := by decide +kernel
theorem dX6_isLadder_1 : decode cX6_isLadder 1 = .ok (.ifCond .lt 18, 3) := by decide +kernel
theorem dX6_isLadder_4 : decode cX6_isLadder 4 = .ok (.iload_n 1, 1) := by decide +kernel
theorem dX6_isLadder_5 : decode cX6_isLadder 5 = .ok (.aload_n 0, 1) := by decide +kernel
theorem dX6_isLadder_6 : decode cX6_isLadder 6 = .ok (.getfield 23, 3) := by decide +kernel
theorem dX6_isLadder_9 : decode cX6_isLadder 9 = .ok (.getfield 86, 3) := by decide +kernel
theorem dX6_isLadder_12 : decode cX6_isLadder 12 = .ok (.if_icmp .ge 7, 3) := by decide +kernel
theorem dX6_isLadder_15 : decode cX6_isLadder 15 = .ok (.iconst 1, 1) := by decide +kernel
theorem dX6_isLadder_16 : decode cX6_isLadder 16 = .ok (.goto 4, 3) := by decide +kernel
theorem dX6_isLadder_19 : decode cX6_isLadder 19 = .ok (.iconst 0, 1) := by decide +kernel
theorem dX6_isLadder_20 : decode cX6_isLadder 20 = .ok (.ireturn, 1) := by decide +kernel
theorem dX6_isPerson_0 : decode cX6_isPerson 0 = .ok (.iload_n 1, 1) := by decide +kernel
theorem dX6_isPerson_1 : decode cX6_isPerson 1 = .ok (.ifCond .lt 18, 3) := by decide +kernel
theorem dX6_isPerson_4 : decode cX6_isPerson 4 = .ok (.iload_n 1, 1) := by decide +kernel
theorem dX6_isPerson_5 : decode cX6_isPerson 5 = .ok (.aload_n 0, 1) := by decide +kernel
theorem dX6_isPerson_6 : decode cX6_isPerson 6 = .ok (.getfield 23, 3) := by decide +kernel
theorem dX6_isPerson_9 : decode cX6_isPerson 9 = .ok (.getfield 90, 3) := by decide +kernel
theorem dX6_isPerson_12 : decode cX6_isPerson 12 = .ok (.if_icmp .ge 7, 3) := by decide +kernel
theorem dX6_isPerson_15 : decode cX6_isPerson 15 = .ok (.iconst 1, 1) := by decide +kernel
theorem dX6_isPerson_16 : decode cX6_isPerson 16 = .ok (.goto 4, 3) := by decide +kernel
theorem dX6_isPerson_19 : decode cX6_isPerson 19 = .ok (.iconst 0, 1) := by decide +kernel
theorem dX6_isPerson_20 : decode cX6_isPerson 20 = .ok (.ireturn, 1) := by decide +kernel
theorem dX6_isPlace_0 : decode cX6_isPlace 0 = .ok (.iload_n 0, 1) := by decide +kernel
theorem dX6_isPlace_1 : decode cX6_isPlace 1 = .ok (.ifCond .lt 13, 3) := by decide +kernel
theorem dX6_isPlace_4 : decode cX6_isPlace 4 = .ok (.iload_n 0, 1) := by decide +kernel
theorem dX6_isPlace_5 : decode cX6_isPlace 5 = .ok (.bipush 10, 2) := by decide +kernel
theorem dX6_isPlace_7 : decode cX6_isPlace 7 = .ok (.if_icmp .ge 7, 3) := by decide +kernel
theorem dX6_isPlace_10 : decode cX6_isPlace 10 = .ok (.iconst 1, 1) := by decide +kernel
theorem dX6_isPlace_11 : decode cX6_isPlace 11 = .ok (.goto 4, 3) := by decide +kernel
theorem dX6_isPlace_14 : decode cX6_isPlace 14 = .ok (.iconst 0, 1) := by decide +kernel
theorem dX6_isPlace_15 : decode cX6_isPlace 15 = .ok (.ireturn, 1) := by decide +kernel
theorem dX6_isSlot_0 : decode cX6_isSlot 0 = .ok (.iload_n 0, 1) := by decide +kernel
theorem dX6_isSlot_1 : decode cX6_isSlot 1 = .ok (.ifCond .lt 12, 3) := by decide +kernel
theorem dX6_isSlot_4 : decode cX6_isSlot 4 = .ok (.iload_n 0, 1) := by decide +kernel
theorem dX6_isSlot_5 : decode cX6_isSlot 5 = .ok (.iconst 2, 1) := by decide +kernel
theorem dX6_isSlot_6 : decode cX6_isSlot 6 = .ok (.if_icmp .ge 7, 3) := by decide +kernel
theorem dX6_isSlot_9 : decode cX6_isSlot 9 = .ok (.iconst 1, 1) := by decide +kernel
theorem dX6_isSlot_10 : decode cX6_isSlot 10 = .ok (.goto 4, 3) := by decide +kernel
theorem dX6_isSlot_13 : decode cX6_isSlot 13 = .ok (.iconst 0, 1) := by decide +kernel
theorem dX6_isSlot_14 : decode cX6_isSlot 14 = .ok (.ireturn, 1) := by decide +kernel
theorem dX6_taken_0 : decode cX6_taken 0 = .ok (.iload_n 0, 1) := by decide +kernel
theorem dX6_taken_1 : decode cX6_taken 1 = .ok (.iconst 3, 1) := by decide +kernel
theorem dX6_taken_2 : decode cX6_taken 2 = .ok (.if_icmp .ne 5, 3) := by decide +kernel
theorem dX6_taken_5 : decode cX6_taken 5 = .ok (.iload_n 2, 1) := by decide +kernel
theorem dX6_taken_6 : decode cX6_taken 6 = .ok (.ireturn, 1) := by decide +kernel
theorem dX6_taken_7 : decode cX6_taken 7 = .ok (.iload_n 0, 1) := by decide +kernel
theorem dX6_taken_8 : decode cX6_taken 8 = .ok (.iconst 1, 1) := by decide +kernel
theorem dX6_taken_9 : decode cX6_taken 9 = .ok (.if_icmp .ne 9, 3) := by decide +kernel
theorem dX6_taken_12 : decode cX6_taken 12 = .ok (.iload_n 2, 1) := by decide +kernel
theorem dX6_taken_13 : decode cX6_taken 13 = .ok (.iconst 2, 1) := by decide +kernel
theorem dX6_taken_14 : decode cX6_taken 14 = .ok (.idiv, 1) := by decide +kernel
theorem dX6_taken_15 : decode cX6_taken 15 = .ok (.goto 4, 3) := by decide +kernel
theorem dX6_taken_18 : decode cX6_taken 18 = .ok (.iload_n 2, 1) := by decide +kernel
theorem dX6_taken_19 : decode cX6_taken 19 = .ok (.istore_n 3, 1) := by decide +kernel
theorem dX6_taken_20 : decode cX6_taken 20 = .ok (.iload_n 3, 1) := by decide +kernel
theorem dX6_taken_21 : decode cX6_taken 21 = .ok (.iload_n 1, 1) := by decide +kernel
theorem dX6_taken_22 : decode cX6_taken 22 = .ok (.if_icmp .ge 7, 3) := by decide +kernel
theorem dX6_taken_25 : decode cX6_taken 25 = .ok (.iload_n 3, 1) := by decide +kernel
theorem dX6_taken_26 : decode cX6_taken 26 = .ok (.goto 4, 3) := by decide +kernel
theorem dX6_taken_29 : decode cX6_taken 29 = .ok (.iload_n 1, 1) := by decide +kernel
theorem dX6_taken_30 : decode cX6_taken 30 = .ok (.ireturn, 1) := by decide +kernel
theorem dX6_lessByMud_0 : decode cX6_lessByMud 0 = .ok (.iload_n 0, 1) := by decide +kernel
theorem dX6_lessByMud_1 : decode cX6_lessByMud 1 = .ok (.ifCond .le 9, 3) := by decide +kernel
theorem dX6_lessByMud_4 : decode cX6_lessByMud 4 = .ok (.iload_n 0, 1) := by decide +kernel
theorem dX6_lessByMud_5 : decode cX6_lessByMud 5 = .ok (.iconst 1, 1) := by decide +kernel
theorem dX6_lessByMud_6 : decode cX6_lessByMud 6 = .ok (.isub, 1) := by decide +kernel
theorem dX6_lessByMud_7 : decode cX6_lessByMud 7 = .ok (.goto 4, 3) := by decide +kernel
theorem dX6_lessByMud_10 : decode cX6_lessByMud 10 = .ok (.iconst 0, 1) := by decide +kernel
theorem dX6_lessByMud_11 : decode cX6_lessByMud 11 = .ok (.ireturn, 1) := by decide +kernel
theorem dX6_ordersOf_0 : decode cX6_ordersOf 0 = .ok (.iconst 1, 1) := by decide +kernel
theorem dX6_ordersOf_1 : decode cX6_ordersOf 1 = .ok (.istore_n 1, 1) := by decide +kernel
theorem dX6_ordersOf_2 : decode cX6_ordersOf 2 = .ok (.iconst 2, 1) := by decide +kernel
theorem dX6_ordersOf_3 : decode cX6_ordersOf 3 = .ok (.istore_n 2, 1) := by decide +kernel
theorem dX6_ordersOf_4 : decode cX6_ordersOf 4 = .ok (.iload_n 2, 1) := by decide +kernel
theorem dX6_ordersOf_5 : decode cX6_ordersOf 5 = .ok (.iload_n 0, 1) := by decide +kernel
theorem dX6_ordersOf_6 : decode cX6_ordersOf 6 = .ok (.if_icmp .gt 13, 3) := by decide +kernel
theorem dX6_ordersOf_9 : decode cX6_ordersOf 9 = .ok (.iload_n 1, 1) := by decide +kernel
theorem dX6_ordersOf_10 : decode cX6_ordersOf 10 = .ok (.iload_n 2, 1) := by decide +kernel
theorem dX6_ordersOf_11 : decode cX6_ordersOf 11 = .ok (.imul, 1) := by decide +kernel
theorem dX6_ordersOf_12 : decode cX6_ordersOf 12 = .ok (.istore_n 1, 1) := by decide +kernel
theorem dX6_ordersOf_13 : decode cX6_ordersOf 13 = .ok (.iinc 2 1, 3) := by decide +kernel
theorem dX6_ordersOf_16 : decode cX6_ordersOf 16 = .ok (.goto (-12), 3) := by decide +kernel
theorem dX6_ordersOf_19 : decode cX6_ordersOf 19 = .ok (.iload_n 1, 1) := by decide +kernel
theorem dX6_ordersOf_20 : decode cX6_ordersOf 20 = .ok (.ireturn, 1) := by decide +kernel
set_option maxRecDepth 20000 in
theorem ggX6_inLeastTerms_X6_commonDivisor : GoodIn wsX6_inLeastTerms wsX6_commonDivisor := goodIn_r _ [4] (by decide +kernel) (by decide +kernel)
set_option maxRecDepth 20000 in
theorem gX6_inLeastTerms_X6_commonDivisor : GoodIn wsX6_inLeastTerms (va_wsS RX6 267 yX6_commonDivisor wsX6_commonDivisor) := goodIn_app (goodIn_of _ (by decide +kernel)) ggX6_inLeastTerms_X6_commonDivisor
theorem dX6_inLeastTerms_0 : decode cX6_inLeastTerms 0 = .ok (.iload_n 0, 1) := by decide +kernel
theorem dX6_inLeastTerms_1 : decode cX6_inLeastTerms 1 = .ok (.ifCond .ge 8, 3) := by decide +kernel
theorem dX6_inLeastTerms_4 : decode cX6_inLeastTerms 4 = .ok (.iload_n 0, 1) := by decide +kernel
theorem dX6_inLeastTerms_5 : decode cX6_inLeastTerms 5 = .ok (.ineg, 1) := by decide +kernel
theorem dX6_inLeastTerms_6 : decode cX6_inLeastTerms 6 = .ok (.goto 4, 3) := by decide +kernel
theorem dX6_inLeastTerms_9 : decode cX6_inLeastTerms 9 = .ok (.iload_n 0, 1) := by decide +kernel
theorem dX6_inLeastTerms_10 : decode cX6_inLeastTerms 10 = .ok (.iload_n 1, 1) := by decide +kernel
theorem dX6_inLeastTerms_11 : decode cX6_inLeastTerms 11 = .ok (.invokestatic 267, 3) := by decide +kernel
theorem dX6_inLeastTerms_14 : decode cX6_inLeastTerms 14 = .ok (.istore_n 3, 1) := by decide +kernel
theorem dX6_inLeastTerms_15 : decode cX6_inLeastTerms 15 = .ok (.iload_n 3, 1) := by decide +kernel
theorem dX6_inLeastTerms_16 : decode cX6_inLeastTerms 16 = .ok (.iconst 1, 1) := by decide +kernel
theorem dX6_inLeastTerms_17 : decode cX6_inLeastTerms 17 = .ok (.if_icmp .ge 13, 3) := by decide +kernel
theorem dX6_inLeastTerms_20 : decode cX6_inLeastTerms 20 = .ok (.iload_n 2, 1) := by decide +kernel
theorem dX6_inLeastTerms_21 : decode cX6_inLeastTerms 21 = .ok (.ifCond .eq 7, 3) := by decide +kernel
theorem dX6_inLeastTerms_24 : decode cX6_inLeastTerms 24 = .ok (.iload_n 0, 1) := by decide +kernel
theorem dX6_inLeastTerms_25 : decode cX6_inLeastTerms 25 = .ok (.goto 4, 3) := by decide +kernel
theorem dX6_inLeastTerms_28 : decode cX6_inLeastTerms 28 = .ok (.iload_n 1, 1) := by decide +kernel
theorem dX6_inLeastTerms_29 : decode cX6_inLeastTerms 29 = .ok (.ireturn, 1) := by decide +kernel
theorem dX6_inLeastTerms_30 : decode cX6_inLeastTerms 30 = .ok (.iload_n 2, 1) := by decide +kernel
theorem dX6_inLeastTerms_31 : decode cX6_inLeastTerms 31 = .ok (.ifCond .eq 9, 3) := by decide +kernel
theorem dX6_inLeastTerms_34 : decode cX6_inLeastTerms 34 = .ok (.iload_n 0, 1) := by decide +kernel
theorem dX6_inLeastTerms_35 : decode cX6_inLeastTerms 35 = .ok (.iload_n 3, 1) := by decide +kernel
theorem dX6_inLeastTerms_36 : decode cX6_inLeastTerms 36 = .ok (.idiv, 1) := by decide +kernel
theorem dX6_inLeastTerms_37 : decode cX6_inLeastTerms 37 = .ok (.goto 6, 3) := by decide +kernel
theorem dX6_inLeastTerms_40 : decode cX6_inLeastTerms 40 = .ok (.iload_n 1, 1) := by decide +kernel
theorem dX6_inLeastTerms_41 : decode cX6_inLeastTerms 41 = .ok (.iload_n 3, 1) := by decide +kernel
theorem dX6_inLeastTerms_42 : decode cX6_inLeastTerms 42 = .ok (.idiv, 1) := by decide +kernel
theorem dX6_inLeastTerms_43 : decode cX6_inLeastTerms 43 = .ok (.ireturn, 1) := by decide +kernel
theorem dX6_commonDivisor_0 : decode cX6_commonDivisor 0 = .ok (.iload_n 0, 1) := by decide +kernel
theorem dX6_commonDivisor_1 : decode cX6_commonDivisor 1 = .ok (.istore_n 2, 1) := by decide +kernel
theorem dX6_commonDivisor_2 : decode cX6_commonDivisor 2 = .ok (.iload_n 1, 1) := by decide +kernel
theorem dX6_commonDivisor_3 : decode cX6_commonDivisor 3 = .ok (.istore_n 3, 1) := by decide +kernel
theorem dX6_commonDivisor_4 : decode cX6_commonDivisor 4 = .ok (.iconst 0, 1) := by decide +kernel
theorem dX6_commonDivisor_5 : decode cX6_commonDivisor 5 = .ok (.istore 4, 2) := by decide +kernel
theorem dX6_commonDivisor_7 : decode cX6_commonDivisor 7 = .ok (.iload 4, 2) := by decide +kernel
theorem dX6_commonDivisor_9 : decode cX6_commonDivisor 9 = .ok (.bipush 64, 2) := by decide +kernel
theorem dX6_commonDivisor_11 : decode cX6_commonDivisor 11 = .ok (.if_icmp .ge 23, 3) := by decide +kernel
theorem dX6_commonDivisor_14 : decode cX6_commonDivisor 14 = .ok (.iload_n 3, 1) := by decide +kernel
theorem dX6_commonDivisor_15 : decode cX6_commonDivisor 15 = .ok (.ifCond .eq 19, 3) := by decide +kernel
theorem dX6_commonDivisor_18 : decode cX6_commonDivisor 18 = .ok (.iload_n 2, 1) := by decide +kernel
theorem dX6_commonDivisor_19 : decode cX6_commonDivisor 19 = .ok (.iload_n 3, 1) := by decide +kernel
theorem dX6_commonDivisor_20 : decode cX6_commonDivisor 20 = .ok (.irem, 1) := by decide +kernel
theorem dX6_commonDivisor_21 : decode cX6_commonDivisor 21 = .ok (.istore 5, 2) := by decide +kernel
theorem dX6_commonDivisor_23 : decode cX6_commonDivisor 23 = .ok (.iload_n 3, 1) := by decide +kernel
theorem dX6_commonDivisor_24 : decode cX6_commonDivisor 24 = .ok (.istore_n 2, 1) := by decide +kernel
theorem dX6_commonDivisor_25 : decode cX6_commonDivisor 25 = .ok (.iload 5, 2) := by decide +kernel
theorem dX6_commonDivisor_27 : decode cX6_commonDivisor 27 = .ok (.istore_n 3, 1) := by decide +kernel
theorem dX6_commonDivisor_28 : decode cX6_commonDivisor 28 = .ok (.iinc 4 1, 3) := by decide +kernel
theorem dX6_commonDivisor_31 : decode cX6_commonDivisor 31 = .ok (.goto (-24), 3) := by decide +kernel
theorem dX6_commonDivisor_34 : decode cX6_commonDivisor 34 = .ok (.iload_n 2, 1) := by decide +kernel
theorem dX6_commonDivisor_35 : decode cX6_commonDivisor 35 = .ok (.ireturn, 1) := by decide +kernel
