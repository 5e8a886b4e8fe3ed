theorem dX1_init_0 : decode cX1_init 0 = .ok (.aload_n 0, 1) := by decide +kernel
theorem dX1_init_1 : decode cX1_init 1 = .ok (.invokespecial 3, 3) := by decide +kernel
theorem dX1_init_4 : decode cX1_init 4 = .ok (.aload_n 0, 1) := by decide +kernel
theorem dX1_init_5 : decode cX1_init 5 = .ok (.aload_n 1, 1) := by decide +kernel
theorem dX1_init_6 : decode cX1_init 6 = .ok (.putfield 9, 3) := by decide +kernel
theorem dX1_init_9 : decode cX1_init 9 = .ok (.aload_n 0, 1) := by decide +kernel
theorem dX1_init_10 : decode cX1_init 10 = .ok (.aload_n 2, 1) := by decide +kernel
theorem dX1_init_11 : decode cX1_init 11 = .ok (.putfield 15, 3) := by decide +kernel
theorem dX1_init_14 : decode cX1_init 14 = .ok (.aload_n 0, 1) := by decide +kernel
theorem dX1_init_15 : decode cX1_init 15 = .ok (.aload_n 3, 1) := by decide +kernel
theorem dX1_init_16 : decode cX1_init 16 = .ok (.putfield 19, 3) := by decide +kernel
theorem dX1_init_19 : decode cX1_init 19 = .ok (.aload_n 0, 1) := by decide +kernel
theorem dX1_init_20 : decode cX1_init 20 = .ok (.iconst 4, 1) := by decide +kernel
theorem dX1_init_21 : decode cX1_init 21 = .ok (.newarray .int, 2) := by decide +kernel
theorem dX1_init_23 : decode cX1_init 23 = .ok (.putfield 22, 3) := by decide +kernel
theorem dX1_init_26 : decode cX1_init 26 = .ok (.aload_n 0, 1) := by decide +kernel
theorem dX1_init_27 : decode cX1_init 27 = .ok (.bipush 32, 2) := by decide +kernel
theorem dX1_init_29 : decode cX1_init 29 = .ok (.newarray .int, 2) := by decide +kernel
theorem dX1_init_31 : decode cX1_init 31 = .ok (.putfield 26, 3) := by decide +kernel
theorem dX1_init_34 : decode cX1_init 34 = .ok (.aload_n 0, 1) := by decide +kernel
theorem dX1_init_35 : decode cX1_init 35 = .ok (.bipush 100, 2) := by decide +kernel
theorem dX1_init_37 : decode cX1_init 37 = .ok (.newarray .int, 2) := by decide +kernel
theorem dX1_init_39 : decode cX1_init 39 = .ok (.putfield 29, 3) := by decide +kernel
theorem dX1_init_42 : decode cX1_init 42 = .ok (.aload_n 0, 1) := by decide +kernel
theorem dX1_init_43 : decode cX1_init 43 = .ok (.bipush 100, 2) := by decide +kernel
theorem dX1_init_45 : decode cX1_init 45 = .ok (.newarray .int, 2) := by decide +kernel
theorem dX1_init_47 : decode cX1_init 47 = .ok (.putfield 32, 3) := by decide +kernel
theorem dX1_init_50 : decode cX1_init 50 = .ok (.return_, 1) := by decide +kernel
set_option maxRecDepth 20000 in
theorem ggX1_goAhead_X4_setTo : GoodIn wsX1_goAhead wsX4_setTo := goodIn_r _ [7, 8, 9, 10, 11, 12, 13, 14, 15, 16, 17, 18, 72, 73, 74, 75, 76, 77, 78, 79] (by decide +kernel) (by decide +kernel)
set_option maxRecDepth 20000 in
theorem gX1_goAhead_X4_setTo : GoodIn wsX1_goAhead (wsV RX1 35 RX4 yX4_setTo wsX4_setTo) := goodIn_app (goodIn_of _ (by decide +kernel)) ggX1_goAhead_X4_setTo
set_option maxRecDepth 20000 in
theorem ggX1_goAhead_X4_passDays : GoodIn wsX1_goAhead wsX4_passDays := goodIn_r _ [22, 23, 24, 25, 6, 26, 27, 14, 15, 18, 28, 29, 30, 31, 16, 32, 33, 34, 35, 36, 37, 38, 39, 40, 41, 42, 43, 44, 45, 46, 47, 13, 48, 49, 50, 51, 52, 53, 54, 17, 55, 56, 57, 58, 59, 60, 61, 62, 72, 73, 74, 75, 76, 77, 78, 79, 80, 81, 82, 83, 84, 85, 86, 87, 88] (by decide +kernel) (by decide +kernel)
set_option maxRecDepth 20000 in
theorem gX1_goAhead_X4_passDays : GoodIn wsX1_goAhead (wsV RX1 41 RX4 yX4_passDays wsX4_passDays) := goodIn_app (goodIn_of _ (by decide +kernel)) ggX1_goAhead_X4_passDays
theorem dX1_goAhead_0 : decode cX1_goAhead 0 = .ok (.aload_n 0, 1) := by decide +kernel
theorem dX1_goAhead_1 : decode cX1_goAhead 1 = .ok (.getfield 19, 3) := by decide +kernel
theorem dX1_goAhead_4 : decode cX1_goAhead 4 = .ok (.aload_n 0, 1) := by decide +kernel
theorem dX1_goAhead_5 : decode cX1_goAhead 5 = .ok (.getfield 15, 3) := by decide +kernel
theorem dX1_goAhead_8 : decode cX1_goAhead 8 = .ok (.invokevirtual 35, 3) := by decide +kernel
theorem dX1_goAhead_11 : decode cX1_goAhead 11 = .ok (.aload_n 0, 1) := by decide +kernel
theorem dX1_goAhead_12 : decode cX1_goAhead 12 = .ok (.getfield 19, 3) := by decide +kernel
theorem dX1_goAhead_15 : decode cX1_goAhead 15 = .ok (.iload_n 1, 1) := by decide +kernel
theorem dX1_goAhead_16 : decode cX1_goAhead 16 = .ok (.bipush 31, 2) := by decide +kernel
theorem dX1_goAhead_18 : decode cX1_goAhead 18 = .ok (.invokevirtual 41, 3) := by decide +kernel
theorem dX1_goAhead_21 : decode cX1_goAhead 21 = .ok (.return_, 1) := by decide +kernel
set_option maxRecDepth 20000 in
theorem ggX1_daysToNothing_X4_setTo : GoodIn wsX1_daysToNothing wsX4_setTo := goodIn_r _ [7, 8, 9, 10, 11, 12, 13, 14, 15, 16, 17, 18, 68, 69, 70, 71, 72, 73, 74, 75] (by decide +kernel) (by decide +kernel)
set_option maxRecDepth 20000 in
theorem gX1_daysToNothing_X4_setTo : GoodIn wsX1_daysToNothing (wsV RX1 35 RX4 yX4_setTo wsX4_setTo) := goodIn_app (goodIn_of _ (by decide +kernel)) ggX1_daysToNothing_X4_setTo
set_option maxRecDepth 20000 in
theorem ggX1_daysToNothing_X4_passDay : GoodIn wsX1_daysToNothing wsX4_passDay := goodIn_r _ [22, 23, 14, 15, 18, 24, 25, 26, 6, 27, 16, 28, 29, 30, 31, 32, 33, 34, 35, 36, 37, 38, 39, 40, 41, 42, 43, 13, 44, 45, 46, 47, 48, 49, 50, 17, 51, 52, 53, 54, 55, 56, 57, 58, 68, 69, 70, 71, 72, 73, 74, 75, 76, 77, 78, 79, 80, 81, 82, 83, 84] (by decide +kernel) (by decide +kernel)
set_option maxRecDepth 20000 in
theorem gX1_daysToNothing_X4_passDay : GoodIn wsX1_daysToNothing (wsV RX1 48 RX4 yX4_passDay wsX4_passDay) := goodIn_app (goodIn_of _ (by decide +kernel)) ggX1_daysToNothing_X4_passDay
theorem dX1_daysToNothing_0 : decode cX1_daysToNothing 0 = .ok (.aload_n 0, 1) := by decide +kernel
theorem dX1_daysToNothing_1 : decode cX1_daysToNothing 1 = .ok (.getfield 19, 3) := by decide +kernel
theorem dX1_daysToNothing_4 : decode cX1_daysToNothing 4 = .ok (.aload_n 0, 1) := by decide +kernel
theorem dX1_daysToNothing_5 : decode cX1_daysToNothing 5 = .ok (.getfield 15, 3) := by decide +kernel
theorem dX1_daysToNothing_8 : decode cX1_daysToNothing 8 = .ok (.invokevirtual 35, 3) := by decide +kernel
theorem dX1_daysToNothing_11 : decode cX1_daysToNothing 11 = .ok (.iconst 0, 1) := by decide +kernel
theorem dX1_daysToNothing_12 : decode cX1_daysToNothing 12 = .ok (.istore_n 2, 1) := by decide +kernel
theorem dX1_daysToNothing_13 : decode cX1_daysToNothing 13 = .ok (.iload_n 2, 1) := by decide +kernel
theorem dX1_daysToNothing_14 : decode cX1_daysToNothing 14 = .ok (.bipush 20, 2) := by decide +kernel
theorem dX1_daysToNothing_16 : decode cX1_daysToNothing 16 = .ok (.if_icmp .ge 33, 3) := by decide +kernel
theorem dX1_daysToNothing_19 : decode cX1_daysToNothing 19 = .ok (.aload_n 0, 1) := by decide +kernel
theorem dX1_daysToNothing_20 : decode cX1_daysToNothing 20 = .ok (.getfield 19, 3) := by decide +kernel
theorem dX1_daysToNothing_23 : decode cX1_daysToNothing 23 = .ok (.getfield 45, 3) := by decide +kernel
theorem dX1_daysToNothing_26 : decode cX1_daysToNothing 26 = .ok (.iload_n 1, 1) := by decide +kernel
theorem dX1_daysToNothing_27 : decode cX1_daysToNothing 27 = .ok (.iaload, 1) := by decide +kernel
theorem dX1_daysToNothing_28 : decode cX1_daysToNothing 28 = .ok (.ifCond .ne 5, 3) := by decide +kernel
theorem dX1_daysToNothing_31 : decode cX1_daysToNothing 31 = .ok (.iload_n 2, 1) := by decide +kernel
theorem dX1_daysToNothing_32 : decode cX1_daysToNothing 32 = .ok (.ireturn, 1) := by decide +kernel
theorem dX1_daysToNothing_33 : decode cX1_daysToNothing 33 = .ok (.aload_n 0, 1) := by decide +kernel
theorem dX1_daysToNothing_34 : decode cX1_daysToNothing 34 = .ok (.getfield 19, 3) := by decide +kernel
theorem dX1_daysToNothing_37 : decode cX1_daysToNothing 37 = .ok (.bipush 31, 2) := by decide +kernel
theorem dX1_daysToNothing_39 : decode cX1_daysToNothing 39 = .ok (.invokevirtual 48, 3) := by decide +kernel
theorem dX1_daysToNothing_42 : decode cX1_daysToNothing 42 = .ok (.pop, 1) := by decide +kernel
theorem dX1_daysToNothing_43 : decode cX1_daysToNothing 43 = .ok (.iinc 2 1, 3) := by decide +kernel
theorem dX1_daysToNothing_46 : decode cX1_daysToNothing 46 = .ok (.goto (-33), 3) := by decide +kernel
theorem dX1_daysToNothing_49 : decode cX1_daysToNothing 49 = .ok (.aload_n 0, 1) := by decide +kernel
theorem dX1_daysToNothing_50 : decode cX1_daysToNothing 50 = .ok (.getfield 19, 3) := by decide +kernel
theorem dX1_daysToNothing_53 : decode cX1_daysToNothing 53 = .ok (.getfield 45, 3) := by decide +kernel
theorem dX1_daysToNothing_56 : decode cX1_daysToNothing 56 = .ok (.iload_n 1, 1) := by decide +kernel
theorem dX1_daysToNothing_57 : decode cX1_daysToNothing 57 = .ok (.iaload, 1) := by decide +kernel
theorem dX1_daysToNothing_58 : decode cX1_daysToNothing 58 = .ok (.ifCond .ne 8, 3) := by decide +kernel
theorem dX1_daysToNothing_61 : decode cX1_daysToNothing 61 = .ok (.bipush 20, 2) := by decide +kernel
theorem dX1_daysToNothing_63 : decode cX1_daysToNothing 63 = .ok (.goto 5, 3) := by decide +kernel
theorem dX1_daysToNothing_66 : decode cX1_daysToNothing 66 = .ok (.bipush (-9), 2) := by decide +kernel
theorem dX1_daysToNothing_68 : decode cX1_daysToNothing 68 = .ok (.ireturn, 1) := by decide +kernel
set_option maxRecDepth 20000 in
theorem ggX1_findSpot_X4_isOwnOrFree : GoodIn wsX1_findSpot wsX4_isOwnOrFree := goodIn_r _ [9, 10, 11, 12, 13, 86, 87, 88, 89, 90, 91, 92, 93] (by decide +kernel) (by decide +kernel)
set_option maxRecDepth 20000 in
theorem gX1_findSpot_X4_isOwnOrFree : GoodIn wsX1_findSpot (wsV RX1 59 RX4 yX4_isOwnOrFree wsX4_isOwnOrFree) := goodIn_app (goodIn_of _ (by decide +kernel)) ggX1_findSpot_X4_isOwnOrFree
set_option maxRecDepth 20000 in
theorem ggX1_findSpot_X4_setTo : GoodIn wsX1_findSpot wsX4_setTo := goodIn_r _ [17, 18, 19, 20, 21, 22, 10, 23, 24, 25, 26, 27, 86, 87, 88, 89, 90, 91, 92, 93] (by decide +kernel) (by decide +kernel)
set_option maxRecDepth 20000 in
theorem gX1_findSpot_X4_setTo : GoodIn wsX1_findSpot (wsV RX1 35 RX4 yX4_setTo wsX4_setTo) := goodIn_app (goodIn_of _ (by decide +kernel)) ggX1_findSpot_X4_setTo
set_option maxRecDepth 20000 in
theorem ggX1_findSpot_X4_put : GoodIn wsX1_findSpot wsX4_put := goodIn_r _ [31, 18, 32, 33, 34, 8, 35, 10, 11, 12, 13, 86, 87, 88, 89, 90, 91, 92, 93] (by decide +kernel) (by decide +kernel)
set_option maxRecDepth 20000 in
theorem gX1_findSpot_X4_put : GoodIn wsX1_findSpot (wsV RX1 63 RX4 yX4_put wsX4_put) := goodIn_app (goodIn_of _ (by decide +kernel)) ggX1_findSpot_X4_put
set_option maxRecDepth 20000 in
theorem ggX1_findSpot_X4_passDays : GoodIn wsX1_findSpot wsX4_passDays := goodIn_r _ [39, 40, 41, 42, 8, 43, 44, 23, 24, 27, 45, 46, 47, 48, 25, 49, 50, 51, 52, 53, 54, 55, 56, 57, 58, 59, 60, 61, 62, 63, 64, 10, 11, 12, 13, 65, 66, 67, 68, 26, 69, 70, 71, 72, 73, 74, 75, 76, 86, 87, 88, 89, 90, 91, 92, 93, 94, 95, 96, 97, 98, 99, 100, 101, 102] (by decide +kernel) (by decide +kernel)
set_option maxRecDepth 20000 in
theorem gX1_findSpot_X4_passDays : GoodIn wsX1_findSpot (wsV RX1 41 RX4 yX4_passDays wsX4_passDays) := goodIn_app (goodIn_of _ (by decide +kernel)) ggX1_findSpot_X4_passDays
theorem dX1_findSpot_0 : decode cX1_findSpot 0 = .ok (.aload_n 0, 1) := by decide +kernel
theorem dX1_findSpot_1 : decode cX1_findSpot 1 = .ok (.bipush (-9), 2) := by decide +kernel
theorem dX1_findSpot_3 : decode cX1_findSpot 3 = .ok (.putfield 52, 3) := by decide +kernel
theorem dX1_findSpot_6 : decode cX1_findSpot 6 = .ok (.aload_n 0, 1) := by decide +kernel
theorem dX1_findSpot_7 : decode cX1_findSpot 7 = .ok (.bipush (-9), 2) := by decide +kernel
theorem dX1_findSpot_9 : decode cX1_findSpot 9 = .ok (.putfield 56, 3) := by decide +kernel
theorem dX1_findSpot_12 : decode cX1_findSpot 12 = .ok (.bipush (-9), 2) := by decide +kernel
theorem dX1_findSpot_14 : decode cX1_findSpot 14 = .ok (.istore_n 2, 1) := by decide +kernel
theorem dX1_findSpot_15 : decode cX1_findSpot 15 = .ok (.iconst 0, 1) := by decide +kernel
theorem dX1_findSpot_16 : decode cX1_findSpot 16 = .ok (.istore_n 3, 1) := by decide +kernel
theorem dX1_findSpot_17 : decode cX1_findSpot 17 = .ok (.iload_n 3, 1) := by decide +kernel
theorem dX1_findSpot_18 : decode cX1_findSpot 18 = .ok (.bipush 10, 2) := by decide +kernel
theorem dX1_findSpot_20 : decode cX1_findSpot 20 = .ok (.if_icmp .ge 115, 3) := by decide +kernel
theorem dX1_findSpot_23 : decode cX1_findSpot 23 = .ok (.aload_n 0, 1) := by decide +kernel
theorem dX1_findSpot_24 : decode cX1_findSpot 24 = .ok (.getfield 15, 3) := by decide +kernel
theorem dX1_findSpot_27 : decode cX1_findSpot 27 = .ok (.iload_n 1, 1) := by decide +kernel
theorem dX1_findSpot_28 : decode cX1_findSpot 28 = .ok (.iload_n 3, 1) := by decide +kernel
theorem dX1_findSpot_29 : decode cX1_findSpot 29 = .ok (.invokevirtual 59, 3) := by decide +kernel
theorem dX1_findSpot_32 : decode cX1_findSpot 32 = .ok (.ifCond .ne 6, 3) := by decide +kernel
theorem dX1_findSpot_35 : decode cX1_findSpot 35 = .ok (.goto 94, 3) := by decide +kernel
theorem dX1_findSpot_38 : decode cX1_findSpot 38 = .ok (.aload_n 0, 1) := by decide +kernel
theorem dX1_findSpot_39 : decode cX1_findSpot 39 = .ok (.getfield 19, 3) := by decide +kernel
theorem dX1_findSpot_42 : decode cX1_findSpot 42 = .ok (.aload_n 0, 1) := by decide +kernel
theorem dX1_findSpot_43 : decode cX1_findSpot 43 = .ok (.getfield 15, 3) := by decide +kernel
theorem dX1_findSpot_46 : decode cX1_findSpot 46 = .ok (.invokevirtual 35, 3) := by decide +kernel
theorem dX1_findSpot_49 : decode cX1_findSpot 49 = .ok (.aload_n 0, 1) := by decide +kernel
theorem dX1_findSpot_50 : decode cX1_findSpot 50 = .ok (.getfield 19, 3) := by decide +kernel
theorem dX1_findSpot_53 : decode cX1_findSpot 53 = .ok (.iload_n 1, 1) := by decide +kernel
theorem dX1_findSpot_54 : decode cX1_findSpot 54 = .ok (.iload_n 3, 1) := by decide +kernel
theorem dX1_findSpot_55 : decode cX1_findSpot 55 = .ok (.invokevirtual 63, 3) := by decide +kernel
theorem dX1_findSpot_58 : decode cX1_findSpot 58 = .ok (.aload_n 0, 1) := by decide +kernel
theorem dX1_findSpot_59 : decode cX1_findSpot 59 = .ok (.getfield 19, 3) := by decide +kernel
theorem dX1_findSpot_62 : decode cX1_findSpot 62 = .ok (.bipush 6, 2) := by decide +kernel
theorem dX1_findSpot_64 : decode cX1_findSpot 64 = .ok (.bipush 31, 2) := by decide +kernel
theorem dX1_findSpot_66 : decode cX1_findSpot 66 = .ok (.invokevirtual 41, 3) := by decide +kernel
theorem dX1_findSpot_69 : decode cX1_findSpot 69 = .ok (.aload_n 0, 1) := by decide +kernel
theorem dX1_findSpot_70 : decode cX1_findSpot 70 = .ok (.getfield 19, 3) := by decide +kernel
theorem dX1_findSpot_73 : decode cX1_findSpot 73 = .ok (.getfield 66, 3) := by decide +kernel
theorem dX1_findSpot_76 : decode cX1_findSpot 76 = .ok (.iload_n 1, 1) := by decide +kernel
theorem dX1_findSpot_77 : decode cX1_findSpot 77 = .ok (.iaload, 1) := by decide +kernel
theorem dX1_findSpot_78 : decode cX1_findSpot 78 = .ok (.istore 4, 2) := by decide +kernel
theorem dX1_findSpot_80 : decode cX1_findSpot 80 = .ok (.aload_n 0, 1) := by decide +kernel
theorem dX1_findSpot_81 : decode cX1_findSpot 81 = .ok (.getfield 19, 3) := by decide +kernel
theorem dX1_findSpot_84 : decode cX1_findSpot 84 = .ok (.getfield 69, 3) := by decide +kernel
theorem dX1_findSpot_87 : decode cX1_findSpot 87 = .ok (.iload_n 1, 1) := by decide +kernel
theorem dX1_findSpot_88 : decode cX1_findSpot 88 = .ok (.iaload, 1) := by decide +kernel
theorem dX1_findSpot_89 : decode cX1_findSpot 89 = .ok (.istore 5, 2) := by decide +kernel
theorem dX1_findSpot_91 : decode cX1_findSpot 91 = .ok (.iload 4, 2) := by decide +kernel
theorem dX1_findSpot_93 : decode cX1_findSpot 93 = .ok (.aload_n 0, 1) := by decide +kernel
theorem dX1_findSpot_94 : decode cX1_findSpot 94 = .ok (.getfield 56, 3) := by decide +kernel
theorem dX1_findSpot_97 : decode cX1_findSpot 97 = .ok (.if_icmp .gt 18, 3) := by decide +kernel
theorem dX1_findSpot_100 : decode cX1_findSpot 100 = .ok (.iload 4, 2) := by decide +kernel
theorem dX1_findSpot_102 : decode cX1_findSpot 102 = .ok (.aload_n 0, 1) := by decide +kernel
theorem dX1_findSpot_103 : decode cX1_findSpot 103 = .ok (.getfield 56, 3) := by decide +kernel
theorem dX1_findSpot_106 : decode cX1_findSpot 106 = .ok (.if_icmp .ne 23, 3) := by decide +kernel
theorem dX1_findSpot_109 : decode cX1_findSpot 109 = .ok (.iload 5, 2) := by decide +kernel
theorem dX1_findSpot_111 : decode cX1_findSpot 111 = .ok (.iload_n 2, 1) := by decide +kernel
theorem dX1_findSpot_112 : decode cX1_findSpot 112 = .ok (.if_icmp .le 17, 3) := by decide +kernel
theorem dX1_findSpot_115 : decode cX1_findSpot 115 = .ok (.aload_n 0, 1) := by decide +kernel
theorem dX1_findSpot_116 : decode cX1_findSpot 116 = .ok (.iload_n 3, 1) := by decide +kernel
theorem dX1_findSpot_117 : decode cX1_findSpot 117 = .ok (.putfield 52, 3) := by decide +kernel
theorem dX1_findSpot_120 : decode cX1_findSpot 120 = .ok (.aload_n 0, 1) := by decide +kernel
theorem dX1_findSpot_121 : decode cX1_findSpot 121 = .ok (.iload 4, 2) := by decide +kernel
theorem dX1_findSpot_123 : decode cX1_findSpot 123 = .ok (.putfield 56, 3) := by decide +kernel
theorem dX1_findSpot_126 : decode cX1_findSpot 126 = .ok (.iload 5, 2) := by decide +kernel
theorem dX1_findSpot_128 : decode cX1_findSpot 128 = .ok (.istore_n 2, 1) := by decide +kernel
theorem dX1_findSpot_129 : decode cX1_findSpot 129 = .ok (.iinc 3 1, 3) := by decide +kernel
theorem dX1_findSpot_132 : decode cX1_findSpot 132 = .ok (.goto (-115), 3) := by decide +kernel
theorem dX1_findSpot_135 : decode cX1_findSpot 135 = .ok (.return_, 1) := by decide +kernel
set_option maxRecDepth 20000 in
theorem ggX1_findRound_X4_laddersAhead : GoodIn wsX1_findRound wsX4_laddersAhead := goodIn_r _ [8, 9, 10, 11, 7, 12, 13, 14, 15, 16, 17, 18, 19, 20, 21, 22, 23, 24, 25, 26, 27, 28, 29, 30, 56, 57, 58, 59, 60, 61, 62, 63, 64, 65, 66, 67, 68, 69, 70, 71, 72] (by decide +kernel) (by decide +kernel)
set_option maxRecDepth 20000 in
theorem gX1_findRound_X4_laddersAhead : GoodIn wsX1_findRound (wsV RX1 72 RX4 yX4_laddersAhead wsX4_laddersAhead) := goodIn_app (goodIn_of _ (by decide +kernel)) ggX1_findRound_X4_laddersAhead
set_option maxRecDepth 20000 in
theorem ggX1_findRound_X4_luckByStepping : GoodIn wsX1_findRound wsX4_luckByStepping := goodIn_r _ [34, 35, 22, 9, 10, 11, 7, 12, 13, 14, 15, 16, 17, 18, 19, 20, 21, 23, 24, 25, 26, 27, 28, 29, 30, 36, 37, 38, 39, 56, 57, 58, 59, 60, 61, 62, 63, 64, 65, 66, 67, 68, 69, 70, 71, 72] (by decide +kernel) (by decide +kernel)
set_option maxRecDepth 20000 in
theorem gX1_findRound_X4_luckByStepping : GoodIn wsX1_findRound (wsV RX1 75 RX4 yX4_luckByStepping wsX4_luckByStepping) := goodIn_app (goodIn_of _ (by decide +kernel)) ggX1_findRound_X4_luckByStepping
set_option maxRecDepth 20000 in
theorem ggX1_findRound_J6_bitCount_0f7a4 : GoodIn wsX1_findRound wsJ6_bitCount_0f7a4 := goodIn_r _ [43, 44, 45, 46] (by decide +kernel) (by decide +kernel)
set_option maxRecDepth 20000 in
theorem gX1_findRound_J6_bitCount_0f7a4 : GoodIn wsX1_findRound (va_wsS RX1 79 yJ6_bitCount_0f7a4 wsJ6_bitCount_0f7a4) := goodIn_app (goodIn_of _ (by decide +kernel)) ggX1_findRound_J6_bitCount_0f7a4
theorem dX1_findRound_0 : decode cX1_findRound 0 = .ok (.aload_n 0, 1) := by decide +kernel
theorem dX1_findRound_1 : decode cX1_findRound 1 = .ok (.getfield 15, 3) := by decide +kernel
theorem dX1_findRound_4 : decode cX1_findRound 4 = .ok (.iload_n 1, 1) := by decide +kernel
theorem dX1_findRound_5 : decode cX1_findRound 5 = .ok (.invokevirtual 72, 3) := by decide +kernel
theorem dX1_findRound_8 : decode cX1_findRound 8 = .ok (.istore_n 2, 1) := by decide +kernel
theorem dX1_findRound_9 : decode cX1_findRound 9 = .ok (.aload_n 0, 1) := by decide +kernel
theorem dX1_findRound_10 : decode cX1_findRound 10 = .ok (.iconst 0, 1) := by decide +kernel
theorem dX1_findRound_11 : decode cX1_findRound 11 = .ok (.putfield 52, 3) := by decide +kernel
theorem dX1_findRound_14 : decode cX1_findRound 14 = .ok (.aload_n 0, 1) := by decide +kernel
theorem dX1_findRound_15 : decode cX1_findRound 15 = .ok (.aload_n 0, 1) := by decide +kernel
theorem dX1_findRound_16 : decode cX1_findRound 16 = .ok (.getfield 15, 3) := by decide +kernel
theorem dX1_findRound_19 : decode cX1_findRound 19 = .ok (.iload_n 1, 1) := by decide +kernel
theorem dX1_findRound_20 : decode cX1_findRound 20 = .ok (.iconst 0, 1) := by decide +kernel
theorem dX1_findRound_21 : decode cX1_findRound 21 = .ok (.invokevirtual 75, 3) := by decide +kernel
theorem dX1_findRound_24 : decode cX1_findRound 24 = .ok (.putfield 56, 3) := by decide +kernel
theorem dX1_findRound_27 : decode cX1_findRound 27 = .ok (.iconst 1, 1) := by decide +kernel
theorem dX1_findRound_28 : decode cX1_findRound 28 = .ok (.istore_n 3, 1) := by decide +kernel
theorem dX1_findRound_29 : decode cX1_findRound 29 = .ok (.iload_n 3, 1) := by decide +kernel
theorem dX1_findRound_30 : decode cX1_findRound 30 = .ok (.bipush 16, 2) := by decide +kernel
theorem dX1_findRound_32 : decode cX1_findRound 32 = .ok (.if_icmp .ge 73, 3) := by decide +kernel
theorem dX1_findRound_35 : decode cX1_findRound 35 = .ok (.iload_n 3, 1) := by decide +kernel
theorem dX1_findRound_36 : decode cX1_findRound 36 = .ok (.iload_n 2, 1) := by decide +kernel
theorem dX1_findRound_37 : decode cX1_findRound 37 = .ok (.iand, 1) := by decide +kernel
theorem dX1_findRound_38 : decode cX1_findRound 38 = .ok (.iload_n 3, 1) := by decide +kernel
theorem dX1_findRound_39 : decode cX1_findRound 39 = .ok (.if_icmp .eq 6, 3) := by decide +kernel
theorem dX1_findRound_42 : decode cX1_findRound 42 = .ok (.goto 57, 3) := by decide +kernel
theorem dX1_findRound_45 : decode cX1_findRound 45 = .ok (.aload_n 0, 1) := by decide +kernel
theorem dX1_findRound_46 : decode cX1_findRound 46 = .ok (.getfield 15, 3) := by decide +kernel
theorem dX1_findRound_49 : decode cX1_findRound 49 = .ok (.iload_n 1, 1) := by decide +kernel
theorem dX1_findRound_50 : decode cX1_findRound 50 = .ok (.iload_n 3, 1) := by decide +kernel
theorem dX1_findRound_51 : decode cX1_findRound 51 = .ok (.invokevirtual 75, 3) := by decide +kernel
theorem dX1_findRound_54 : decode cX1_findRound 54 = .ok (.istore 4, 2) := by decide +kernel
theorem dX1_findRound_56 : decode cX1_findRound 56 = .ok (.iload 4, 2) := by decide +kernel
theorem dX1_findRound_58 : decode cX1_findRound 58 = .ok (.aload_n 0, 1) := by decide +kernel
theorem dX1_findRound_59 : decode cX1_findRound 59 = .ok (.getfield 56, 3) := by decide +kernel
theorem dX1_findRound_62 : decode cX1_findRound 62 = .ok (.if_icmp .gt 26, 3) := by decide +kernel
theorem dX1_findRound_65 : decode cX1_findRound 65 = .ok (.iload 4, 2) := by decide +kernel
theorem dX1_findRound_67 : decode cX1_findRound 67 = .ok (.aload_n 0, 1) := by decide +kernel
theorem dX1_findRound_68 : decode cX1_findRound 68 = .ok (.getfield 56, 3) := by decide +kernel
theorem dX1_findRound_71 : decode cX1_findRound 71 = .ok (.if_icmp .ne 28, 3) := by decide +kernel
theorem dX1_findRound_74 : decode cX1_findRound 74 = .ok (.iload_n 3, 1) := by decide +kernel
theorem dX1_findRound_75 : decode cX1_findRound 75 = .ok (.invokestatic 79, 3) := by decide +kernel
theorem dX1_findRound_78 : decode cX1_findRound 78 = .ok (.aload_n 0, 1) := by decide +kernel
theorem dX1_findRound_79 : decode cX1_findRound 79 = .ok (.getfield 52, 3) := by decide +kernel
theorem dX1_findRound_82 : decode cX1_findRound 82 = .ok (.invokestatic 79, 3) := by decide +kernel
theorem dX1_findRound_85 : decode cX1_findRound 85 = .ok (.if_icmp .ge 14, 3) := by decide +kernel
theorem dX1_findRound_88 : decode cX1_findRound 88 = .ok (.aload_n 0, 1) := by decide +kernel
theorem dX1_findRound_89 : decode cX1_findRound 89 = .ok (.iload_n 3, 1) := by decide +kernel
theorem dX1_findRound_90 : decode cX1_findRound 90 = .ok (.putfield 52, 3) := by decide +kernel
theorem dX1_findRound_93 : decode cX1_findRound 93 = .ok (.aload_n 0, 1) := by decide +kernel
theorem dX1_findRound_94 : decode cX1_findRound 94 = .ok (.iload 4, 2) := by decide +kernel
theorem dX1_findRound_96 : decode cX1_findRound 96 = .ok (.putfield 56, 3) := by decide +kernel
theorem dX1_findRound_99 : decode cX1_findRound 99 = .ok (.iinc 3 1, 3) := by decide +kernel
theorem dX1_findRound_102 : decode cX1_findRound 102 = .ok (.goto (-73), 3) := by decide +kernel
theorem dX1_findRound_105 : decode cX1_findRound 105 = .ok (.return_, 1) := by decide +kernel
theorem dX1_takeDoings_0 : decode cX1_takeDoings 0 = .ok (.lload_n 2, 1) := by decide +kernel
theorem dX1_takeDoings_1 : decode cX1_takeDoings 1 = .ok (.lstore 4, 2) := by decide +kernel
theorem dX1_takeDoings_3 : decode cX1_takeDoings 3 = .ok (.iload_n 1, 1) := by decide +kernel
theorem dX1_takeDoings_4 : decode cX1_takeDoings 4 = .ok (.iconst 1, 1) := by decide +kernel
theorem dX1_takeDoings_5 : decode cX1_takeDoings 5 = .ok (.isub, 1) := by decide +kernel
theorem dX1_takeDoings_6 : decode cX1_takeDoings 6 = .ok (.istore 6, 2) := by decide +kernel
theorem dX1_takeDoings_8 : decode cX1_takeDoings 8 = .ok (.iload 6, 2) := by decide +kernel
theorem dX1_takeDoings_10 : decode cX1_takeDoings 10 = .ok (.ifCond .lt 31, 3) := by decide +kernel
theorem dX1_takeDoings_13 : decode cX1_takeDoings 13 = .ok (.aload_n 0, 1) := by decide +kernel
theorem dX1_takeDoings_14 : decode cX1_takeDoings 14 = .ok (.getfield 22, 3) := by decide +kernel
theorem dX1_takeDoings_17 : decode cX1_takeDoings 17 = .ok (.iload 6, 2) := by decide +kernel
theorem dX1_takeDoings_19 : decode cX1_takeDoings 19 = .ok (.lload 4, 2) := by decide +kernel
theorem dX1_takeDoings_21 : decode cX1_takeDoings 21 = .ok (.ldc2_w 84, 3) := by decide +kernel
theorem dX1_takeDoings_24 : decode cX1_takeDoings 24 = .ok (.lrem, 1) := by decide +kernel
theorem dX1_takeDoings_25 : decode cX1_takeDoings 25 = .ok (.l2i, 1) := by decide +kernel
theorem dX1_takeDoings_26 : decode cX1_takeDoings 26 = .ok (.iastore, 1) := by decide +kernel
theorem dX1_takeDoings_27 : decode cX1_takeDoings 27 = .ok (.lload 4, 2) := by decide +kernel
theorem dX1_takeDoings_29 : decode cX1_takeDoings 29 = .ok (.ldc2_w 84, 3) := by decide +kernel
theorem dX1_takeDoings_32 : decode cX1_takeDoings 32 = .ok (.ldiv, 1) := by decide +kernel
theorem dX1_takeDoings_33 : decode cX1_takeDoings 33 = .ok (.lstore 4, 2) := by decide +kernel
theorem dX1_takeDoings_35 : decode cX1_takeDoings 35 = .ok (.iinc 6 (-1), 3) := by decide +kernel
theorem dX1_takeDoings_38 : decode cX1_takeDoings 38 = .ok (.goto (-30), 3) := by decide +kernel
theorem dX1_takeDoings_41 : decode cX1_takeDoings 41 = .ok (.lload 4, 2) := by decide +kernel
theorem dX1_takeDoings_43 : decode cX1_takeDoings 43 = .ok (.lconst 0, 1) := by decide +kernel
theorem dX1_takeDoings_44 : decode cX1_takeDoings 44 = .ok (.lcmp, 1) := by decide +kernel
theorem dX1_takeDoings_45 : decode cX1_takeDoings 45 = .ok (.ifCond .ne 7, 3) := by decide +kernel
theorem dX1_takeDoings_48 : decode cX1_takeDoings 48 = .ok (.iconst 1, 1) := by decide +kernel
theorem dX1_takeDoings_49 : decode cX1_takeDoings 49 = .ok (.goto 4, 3) := by decide +kernel
theorem dX1_takeDoings_52 : decode cX1_takeDoings 52 = .ok (.iconst 0, 1) := by decide +kernel
theorem dX1_takeDoings_53 : decode cX1_takeDoings 53 = .ok (.ireturn, 1) := by decide +kernel
set_option maxRecDepth 20000 in
theorem ggX1_firstWrong_X4_setTo : GoodIn wsX1_firstWrong wsX4_setTo := goodIn_r _ [8, 9, 10, 11, 12, 13, 14, 15, 16, 17, 18, 19, 96, 97, 98, 99, 100, 101, 102, 103] (by decide +kernel) (by decide +kernel)
set_option maxRecDepth 20000 in
theorem gX1_firstWrong_X4_setTo : GoodIn wsX1_firstWrong (wsV RX1 35 RX4 yX4_setTo wsX4_setTo) := goodIn_app (goodIn_of _ (by decide +kernel)) ggX1_firstWrong_X4_setTo
set_option maxRecDepth 20000 in
theorem ggX1_firstWrong_X1_doTold : GoodIn wsX1_firstWrong wsX1_doTold := goodIn_r _ [24, 1, 25, 26, 27, 23, 28, 29, 30, 31, 32, 7, 33, 14, 34, 35, 36, 37, 38, 39, 40, 41, 15, 16, 19, 42, 43, 44, 45, 17, 46, 47, 48, 49, 50, 51, 52, 53, 54, 55, 56, 57, 58, 59, 60, 61, 62, 63, 64, 65, 18, 66, 67, 68, 69, 70, 71, 72, 73, 74, 75, 76, 77, 9, 78, 79, 80, 81, 82, 83, 84, 85, 86, 87, 88, 89, 90, 91, 92, 93, 94, 95, 104, 105, 106, 107, 108, 109, 110, 111, 112, 96, 97, 98, 99, 100, 101, 102, 103] (by decide +kernel) (by decide +kernel)
set_option maxRecDepth 20000 in
theorem gX1_firstWrong_X1_doTold : GoodIn wsX1_firstWrong (wsV RX1 86 RX1 yX1_doTold wsX1_doTold) := goodIn_app (goodIn_of _ (by decide +kernel)) ggX1_firstWrong_X1_doTold
theorem dX1_firstWrong_0 : decode cX1_firstWrong 0 = .ok (.aload_n 0, 1) := by decide +kernel
theorem dX1_firstWrong_1 : decode cX1_firstWrong 1 = .ok (.getfield 19, 3) := by decide +kernel
theorem dX1_firstWrong_4 : decode cX1_firstWrong 4 = .ok (.aload_n 0, 1) := by decide +kernel
theorem dX1_firstWrong_5 : decode cX1_firstWrong 5 = .ok (.getfield 15, 3) := by decide +kernel
theorem dX1_firstWrong_8 : decode cX1_firstWrong 8 = .ok (.invokevirtual 35, 3) := by decide +kernel
theorem dX1_firstWrong_11 : decode cX1_firstWrong 11 = .ok (.iconst 0, 1) := by decide +kernel
theorem dX1_firstWrong_12 : decode cX1_firstWrong 12 = .ok (.istore_n 2, 1) := by decide +kernel
theorem dX1_firstWrong_13 : decode cX1_firstWrong 13 = .ok (.iload_n 2, 1) := by decide +kernel
theorem dX1_firstWrong_14 : decode cX1_firstWrong 14 = .ok (.iload_n 1, 1) := by decide +kernel
theorem dX1_firstWrong_15 : decode cX1_firstWrong 15 = .ok (.if_icmp .ge 48, 3) := by decide +kernel
theorem dX1_firstWrong_18 : decode cX1_firstWrong 18 = .ok (.aload_n 0, 1) := by decide +kernel
theorem dX1_firstWrong_19 : decode cX1_firstWrong 19 = .ok (.aload_n 0, 1) := by decide +kernel
theorem dX1_firstWrong_20 : decode cX1_firstWrong 20 = .ok (.getfield 22, 3) := by decide +kernel
theorem dX1_firstWrong_23 : decode cX1_firstWrong 23 = .ok (.iload_n 2, 1) := by decide +kernel
theorem dX1_firstWrong_24 : decode cX1_firstWrong 24 = .ok (.iaload, 1) := by decide +kernel
theorem dX1_firstWrong_25 : decode cX1_firstWrong 25 = .ok (.bipush 100, 2) := by decide +kernel
theorem dX1_firstWrong_27 : decode cX1_firstWrong 27 = .ok (.idiv, 1) := by decide +kernel
theorem dX1_firstWrong_28 : decode cX1_firstWrong 28 = .ok (.aload_n 0, 1) := by decide +kernel
theorem dX1_firstWrong_29 : decode cX1_firstWrong 29 = .ok (.getfield 22, 3) := by decide +kernel
theorem dX1_firstWrong_32 : decode cX1_firstWrong 32 = .ok (.iload_n 2, 1) := by decide +kernel
theorem dX1_firstWrong_33 : decode cX1_firstWrong 33 = .ok (.iaload, 1) := by decide +kernel
theorem dX1_firstWrong_34 : decode cX1_firstWrong 34 = .ok (.bipush 10, 2) := by decide +kernel
theorem dX1_firstWrong_36 : decode cX1_firstWrong 36 = .ok (.idiv, 1) := by decide +kernel
theorem dX1_firstWrong_37 : decode cX1_firstWrong 37 = .ok (.bipush 10, 2) := by decide +kernel
theorem dX1_firstWrong_39 : decode cX1_firstWrong 39 = .ok (.irem, 1) := by decide +kernel
theorem dX1_firstWrong_40 : decode cX1_firstWrong 40 = .ok (.aload_n 0, 1) := by decide +kernel
theorem dX1_firstWrong_41 : decode cX1_firstWrong 41 = .ok (.getfield 22, 3) := by decide +kernel
theorem dX1_firstWrong_44 : decode cX1_firstWrong 44 = .ok (.iload_n 2, 1) := by decide +kernel
theorem dX1_firstWrong_45 : decode cX1_firstWrong 45 = .ok (.iaload, 1) := by decide +kernel
theorem dX1_firstWrong_46 : decode cX1_firstWrong 46 = .ok (.bipush 10, 2) := by decide +kernel
theorem dX1_firstWrong_48 : decode cX1_firstWrong 48 = .ok (.irem, 1) := by decide +kernel
theorem dX1_firstWrong_49 : decode cX1_firstWrong 49 = .ok (.invokevirtual 86, 3) := by decide +kernel
theorem dX1_firstWrong_52 : decode cX1_firstWrong 52 = .ok (.ifCond .ne 5, 3) := by decide +kernel
theorem dX1_firstWrong_55 : decode cX1_firstWrong 55 = .ok (.iload_n 2, 1) := by decide +kernel
theorem dX1_firstWrong_56 : decode cX1_firstWrong 56 = .ok (.ireturn, 1) := by decide +kernel
theorem dX1_firstWrong_57 : decode cX1_firstWrong 57 = .ok (.iinc 2 1, 3) := by decide +kernel
theorem dX1_firstWrong_60 : decode cX1_firstWrong 60 = .ok (.goto (-47), 3) := by decide +kernel
theorem dX1_firstWrong_63 : decode cX1_firstWrong 63 = .ok (.bipush (-9), 2) := by decide +kernel
theorem dX1_firstWrong_65 : decode cX1_firstWrong 65 = .ok (.ireturn, 1) := by decide +kernel
set_option maxRecDepth 20000 in
theorem ggX1_doTold_X1_canBe : GoodIn wsX1_doTold wsX1_canBe := goodIn_r _ [6, 7, 1, 8, 9, 10, 11, 12, 13, 14, 15, 16, 73, 74, 75, 76, 77, 78, 79, 80, 81, 82, 83, 84, 85, 86, 87, 88, 89, 90, 91, 92, 93, 94, 95, 96, 97, 98] (by decide +kernel) (by decide +kernel)
set_option maxRecDepth 20000 in
theorem gX1_doTold_X1_canBe : GoodIn wsX1_doTold (wsV RX1 90 RX1 yX1_canBe wsX1_canBe) := goodIn_app (goodIn_of _ (by decide +kernel)) ggX1_doTold_X1_canBe
set_option maxRecDepth 20000 in
theorem ggX1_doTold_X4_passDay : GoodIn wsX1_doTold wsX4_passDay := goodIn_r _ [20, 21, 22, 23, 24, 25, 26, 27, 11, 28, 29, 30, 31, 32, 33, 34, 35, 36, 37, 38, 39, 40, 41, 42, 43, 44, 45, 13, 14, 15, 16, 46, 47, 48, 49, 50, 51, 52, 53, 54, 55, 56, 57, 58, 91, 92, 93, 94, 95, 96, 97, 98, 82, 83, 84, 85, 86, 87, 88, 89, 90] (by decide +kernel) (by decide +kernel)
set_option maxRecDepth 20000 in
theorem gX1_doTold_X4_passDay : GoodIn wsX1_doTold (wsV RX1 48 RX4 yX4_passDay wsX4_passDay) := goodIn_app (goodIn_of _ (by decide +kernel)) ggX1_doTold_X4_passDay
set_option maxRecDepth 20000 in
theorem ggX1_doTold_X4_put : GoodIn wsX1_doTold wsX4_put := goodIn_r _ [62, 63, 64, 65, 66, 11, 67, 13, 14, 15, 16, 91, 92, 93, 94, 95, 96, 97, 98] (by decide +kernel) (by decide +kernel)
set_option maxRecDepth 20000 in
theorem gX1_doTold_X4_put : GoodIn wsX1_doTold (wsV RX1 63 RX4 yX4_put wsX4_put) := goodIn_app (goodIn_of _ (by decide +kernel)) ggX1_doTold_X4_put
set_option maxRecDepth 20000 in
theorem ggX1_doTold_X4_changeMan : GoodIn wsX1_doTold wsX4_changeMan := goodIn_r _ [71, 22, 23, 91, 92, 93, 94, 95, 96, 97, 98] (by decide +kernel) (by decide +kernel)
set_option maxRecDepth 20000 in
theorem gX1_doTold_X4_changeMan : GoodIn wsX1_doTold (wsV RX1 93 RX4 yX4_changeMan wsX4_changeMan) := goodIn_app (goodIn_of _ (by decide +kernel)) ggX1_doTold_X4_changeMan
set_option maxRecDepth 20000 in
theorem ggX1_doTold_X4_endow : GoodIn wsX1_doTold wsX4_endow := goodIn_r _ [58, 50, 91, 92, 93, 94, 95, 96, 97, 98] (by decide +kernel) (by decide +kernel)
set_option maxRecDepth 20000 in
theorem gX1_doTold_X4_endow : GoodIn wsX1_doTold (wsV RX1 97 RX4 yX4_endow wsX4_endow) := goodIn_app (goodIn_of _ (by decide +kernel)) ggX1_doTold_X4_endow
theorem dX1_doTold_0 : decode cX1_doTold 0 = .ok (.aload_n 0, 1) := by decide +kernel
theorem dX1_doTold_1 : decode cX1_doTold 1 = .ok (.iload_n 1, 1) := by decide +kernel
theorem dX1_doTold_2 : decode cX1_doTold 2 = .ok (.iload_n 2, 1) := by decide +kernel
theorem dX1_doTold_3 : decode cX1_doTold 3 = .ok (.iload_n 3, 1) := by decide +kernel
theorem dX1_doTold_4 : decode cX1_doTold 4 = .ok (.invokevirtual 90, 3) := by decide +kernel
theorem dX1_doTold_7 : decode cX1_doTold 7 = .ok (.ifCond .ne 5, 3) := by decide +kernel
theorem dX1_doTold_10 : decode cX1_doTold 10 = .ok (.iconst 0, 1) := by decide +kernel
theorem dX1_doTold_11 : decode cX1_doTold 11 = .ok (.ireturn, 1) := by decide +kernel
theorem dX1_doTold_12 : decode cX1_doTold 12 = .ok (.iload_n 1, 1) := by decide +kernel
theorem dX1_doTold_13 : decode cX1_doTold 13 = .ok (.tableswitch 79 0 3 #[31, 44, 56, 67], 31) := by decide +kernel
theorem dX1_doTold_44 : decode cX1_doTold 44 = .ok (.aload_n 0, 1) := by decide +kernel
theorem dX1_doTold_45 : decode cX1_doTold 45 = .ok (.getfield 19, 3) := by decide +kernel
theorem dX1_doTold_48 : decode cX1_doTold 48 = .ok (.bipush 31, 2) := by decide +kernel
theorem dX1_doTold_50 : decode cX1_doTold 50 = .ok (.invokevirtual 48, 3) := by decide +kernel
theorem dX1_doTold_53 : decode cX1_doTold 53 = .ok (.pop, 1) := by decide +kernel
theorem dX1_doTold_54 : decode cX1_doTold 54 = .ok (.goto 38, 3) := by decide +kernel
theorem dX1_doTold_57 : decode cX1_doTold 57 = .ok (.aload_n 0, 1) := by decide +kernel
theorem dX1_doTold_58 : decode cX1_doTold 58 = .ok (.getfield 19, 3) := by decide +kernel
theorem dX1_doTold_61 : decode cX1_doTold 61 = .ok (.iload_n 2, 1) := by decide +kernel
theorem dX1_doTold_62 : decode cX1_doTold 62 = .ok (.iload_n 3, 1) := by decide +kernel
theorem dX1_doTold_63 : decode cX1_doTold 63 = .ok (.invokevirtual 63, 3) := by decide +kernel
theorem dX1_doTold_66 : decode cX1_doTold 66 = .ok (.goto 26, 3) := by decide +kernel
theorem dX1_doTold_69 : decode cX1_doTold 69 = .ok (.aload_n 0, 1) := by decide +kernel
theorem dX1_doTold_70 : decode cX1_doTold 70 = .ok (.getfield 19, 3) := by decide +kernel
theorem dX1_doTold_73 : decode cX1_doTold 73 = .ok (.iload_n 3, 1) := by decide +kernel
theorem dX1_doTold_74 : decode cX1_doTold 74 = .ok (.invokevirtual 93, 3) := by decide +kernel
theorem dX1_doTold_77 : decode cX1_doTold 77 = .ok (.goto 15, 3) := by decide +kernel
theorem dX1_doTold_80 : decode cX1_doTold 80 = .ok (.aload_n 0, 1) := by decide +kernel
theorem dX1_doTold_81 : decode cX1_doTold 81 = .ok (.getfield 19, 3) := by decide +kernel
theorem dX1_doTold_84 : decode cX1_doTold 84 = .ok (.iload_n 2, 1) := by decide +kernel
theorem dX1_doTold_85 : decode cX1_doTold 85 = .ok (.iload_n 3, 1) := by decide +kernel
theorem dX1_doTold_86 : decode cX1_doTold 86 = .ok (.invokevirtual 97, 3) := by decide +kernel
theorem dX1_doTold_89 : decode cX1_doTold 89 = .ok (.goto 3, 3) := by decide +kernel
theorem dX1_doTold_92 : decode cX1_doTold 92 = .ok (.iconst 1, 1) := by decide +kernel
theorem dX1_doTold_93 : decode cX1_doTold 93 = .ok (.ireturn, 1) := by decide +kernel
set_option maxRecDepth 20000 in
theorem ggX1_canBe_X4_isFree : GoodIn wsX1_canBe wsX4_isFree := goodIn_r _ [7, 8, 9, 10, 11, 30, 31, 32, 33, 34, 35, 36, 37] (by decide +kernel) (by decide +kernel)
set_option maxRecDepth 20000 in
theorem gX1_canBe_X4_isFree : GoodIn wsX1_canBe (wsV RX1 105 RX4 yX4_isFree wsX4_isFree) := goodIn_app (goodIn_of _ (by decide +kernel)) ggX1_canBe_X4_isFree
theorem dX1_canBe_0 : decode cX1_canBe 0 = .ok (.iload_n 1, 1) := by decide +kernel
theorem dX1_canBe_1 : decode cX1_canBe 1 = .ok (.tableswitch 149 0 4 #[35, 49, 77, 98, 119], 35) := by decide +kernel
theorem dX1_canBe_36 : decode cX1_canBe 36 = .ok (.iload_n 2, 1) := by decide +kernel
theorem dX1_canBe_37 : decode cX1_canBe 37 = .ok (.ifCond .ne 11, 3) := by decide +kernel
theorem dX1_canBe_40 : decode cX1_canBe 40 = .ok (.iload_n 3, 1) := by decide +kernel
theorem dX1_canBe_41 : decode cX1_canBe 41 = .ok (.ifCond .ne 7, 3) := by decide +kernel
theorem dX1_canBe_44 : decode cX1_canBe 44 = .ok (.iconst 1, 1) := by decide +kernel
theorem dX1_canBe_45 : decode cX1_canBe 45 = .ok (.goto 4, 3) := by decide +kernel
theorem dX1_canBe_48 : decode cX1_canBe 48 = .ok (.iconst 0, 1) := by decide +kernel
theorem dX1_canBe_49 : decode cX1_canBe 49 = .ok (.ireturn, 1) := by decide +kernel
theorem dX1_canBe_50 : decode cX1_canBe 50 = .ok (.iload_n 2, 1) := by decide +kernel
theorem dX1_canBe_51 : decode cX1_canBe 51 = .ok (.aload_n 0, 1) := by decide +kernel
theorem dX1_canBe_52 : decode cX1_canBe 52 = .ok (.getfield 9, 3) := by decide +kernel
theorem dX1_canBe_55 : decode cX1_canBe 55 = .ok (.getfield 100, 3) := by decide +kernel
theorem dX1_canBe_58 : decode cX1_canBe 58 = .ok (.if_icmp .ge 18, 3) := by decide +kernel
theorem dX1_canBe_61 : decode cX1_canBe 61 = .ok (.aload_n 0, 1) := by decide +kernel
theorem dX1_canBe_62 : decode cX1_canBe 62 = .ok (.getfield 19, 3) := by decide +kernel
theorem dX1_canBe_65 : decode cX1_canBe 65 = .ok (.iload_n 3, 1) := by decide +kernel
theorem dX1_canBe_66 : decode cX1_canBe 66 = .ok (.invokevirtual 105, 3) := by decide +kernel
theorem dX1_canBe_69 : decode cX1_canBe 69 = .ok (.ifCond .eq 7, 3) := by decide +kernel
theorem dX1_canBe_72 : decode cX1_canBe 72 = .ok (.iconst 1, 1) := by decide +kernel
theorem dX1_canBe_73 : decode cX1_canBe 73 = .ok (.goto 4, 3) := by decide +kernel
theorem dX1_canBe_76 : decode cX1_canBe 76 = .ok (.iconst 0, 1) := by decide +kernel
theorem dX1_canBe_77 : decode cX1_canBe 77 = .ok (.ireturn, 1) := by decide +kernel
theorem dX1_canBe_78 : decode cX1_canBe 78 = .ok (.iload_n 2, 1) := by decide +kernel
theorem dX1_canBe_79 : decode cX1_canBe 79 = .ok (.ifCond .ne 18, 3) := by decide +kernel
theorem dX1_canBe_82 : decode cX1_canBe 82 = .ok (.iload_n 3, 1) := by decide +kernel
theorem dX1_canBe_83 : decode cX1_canBe 83 = .ok (.aload_n 0, 1) := by decide +kernel
theorem dX1_canBe_84 : decode cX1_canBe 84 = .ok (.getfield 9, 3) := by decide +kernel
theorem dX1_canBe_87 : decode cX1_canBe 87 = .ok (.getfield 100, 3) := by decide +kernel
theorem dX1_canBe_90 : decode cX1_canBe 90 = .ok (.if_icmp .ge 7, 3) := by decide +kernel
theorem dX1_canBe_93 : decode cX1_canBe 93 = .ok (.iconst 1, 1) := by decide +kernel
theorem dX1_canBe_94 : decode cX1_canBe 94 = .ok (.goto 4, 3) := by decide +kernel
theorem dX1_canBe_97 : decode cX1_canBe 97 = .ok (.iconst 0, 1) := by decide +kernel
theorem dX1_canBe_98 : decode cX1_canBe 98 = .ok (.ireturn, 1) := by decide +kernel
theorem dX1_canBe_99 : decode cX1_canBe 99 = .ok (.iload_n 2, 1) := by decide +kernel
theorem dX1_canBe_100 : decode cX1_canBe 100 = .ok (.aload_n 0, 1) := by decide +kernel
theorem dX1_canBe_101 : decode cX1_canBe 101 = .ok (.getfield 9, 3) := by decide +kernel
theorem dX1_canBe_104 : decode cX1_canBe 104 = .ok (.getfield 109, 3) := by decide +kernel
theorem dX1_canBe_107 : decode cX1_canBe 107 = .ok (.if_icmp .ge 11, 3) := by decide +kernel
theorem dX1_canBe_110 : decode cX1_canBe 110 = .ok (.iload_n 3, 1) := by decide +kernel
theorem dX1_canBe_111 : decode cX1_canBe 111 = .ok (.ifCond .le 7, 3) := by decide +kernel
theorem dX1_canBe_114 : decode cX1_canBe 114 = .ok (.iconst 1, 1) := by decide +kernel
theorem dX1_canBe_115 : decode cX1_canBe 115 = .ok (.goto 4, 3) := by decide +kernel
theorem dX1_canBe_118 : decode cX1_canBe 118 = .ok (.iconst 0, 1) := by decide +kernel
theorem dX1_canBe_119 : decode cX1_canBe 119 = .ok (.ireturn, 1) := by decide +kernel
theorem dX1_canBe_120 : decode cX1_canBe 120 = .ok (.iload_n 2, 1) := by decide +kernel
theorem dX1_canBe_121 : decode cX1_canBe 121 = .ok (.aload_n 0, 1) := by decide +kernel
theorem dX1_canBe_122 : decode cX1_canBe 122 = .ok (.getfield 9, 3) := by decide +kernel
theorem dX1_canBe_125 : decode cX1_canBe 125 = .ok (.getfield 109, 3) := by decide +kernel
theorem dX1_canBe_128 : decode cX1_canBe 128 = .ok (.if_icmp .ge 20, 3) := by decide +kernel
theorem dX1_canBe_131 : decode cX1_canBe 131 = .ok (.aload_n 0, 1) := by decide +kernel
theorem dX1_canBe_132 : decode cX1_canBe 132 = .ok (.getfield 19, 3) := by decide +kernel
theorem dX1_canBe_135 : decode cX1_canBe 135 = .ok (.getfield 45, 3) := by decide +kernel
theorem dX1_canBe_138 : decode cX1_canBe 138 = .ok (.iload_n 2, 1) := by decide +kernel
theorem dX1_canBe_139 : decode cX1_canBe 139 = .ok (.iaload, 1) := by decide +kernel
theorem dX1_canBe_140 : decode cX1_canBe 140 = .ok (.iload_n 3, 1) := by decide +kernel
theorem dX1_canBe_141 : decode cX1_canBe 141 = .ok (.if_icmp .lt 7, 3) := by decide +kernel
theorem dX1_canBe_144 : decode cX1_canBe 144 = .ok (.iconst 1, 1) := by decide +kernel
theorem dX1_canBe_145 : decode cX1_canBe 145 = .ok (.goto 4, 3) := by decide +kernel
theorem dX1_canBe_148 : decode cX1_canBe 148 = .ok (.iconst 0, 1) := by decide +kernel
theorem dX1_canBe_149 : decode cX1_canBe 149 = .ok (.ireturn, 1) := by decide +kernel
theorem dX1_canBe_150 : decode cX1_canBe 150 = .ok (.iconst 0, 1) := by decide +kernel
theorem dX1_canBe_151 : decode cX1_canBe 151 = .ok (.ireturn, 1) := by decide +kernel
set_option maxRecDepth 20000 in
theorem ggX1_weighCompanies_X4_setTo : GoodIn wsX1_weighCompanies wsX4_setTo := goodIn_r _ [9, 10, 11, 12, 13, 14, 15, 16, 17, 18, 19, 20, 83, 84, 85, 86, 87, 88, 89, 90] (by decide +kernel) (by decide +kernel)
set_option maxRecDepth 20000 in
theorem gX1_weighCompanies_X4_setTo : GoodIn wsX1_weighCompanies (wsV RX1 35 RX4 yX4_setTo wsX4_setTo) := goodIn_app (goodIn_of _ (by decide +kernel)) ggX1_weighCompanies_X4_setTo
set_option maxRecDepth 20000 in
theorem ggX1_weighCompanies_X4_passDays : GoodIn wsX1_weighCompanies wsX4_passDays := goodIn_r _ [24, 25, 26, 27, 8, 28, 29, 16, 17, 20, 30, 31, 32, 33, 18, 34, 35, 36, 37, 38, 39, 40, 41, 42, 43, 44, 45, 46, 47, 48, 49, 15, 50, 51, 52, 53, 54, 55, 56, 19, 57, 58, 59, 60, 61, 62, 63, 64, 83, 84, 85, 86, 87, 88, 89, 90, 74, 75, 76, 77, 78, 79, 80, 81, 82] (by decide +kernel) (by decide +kernel)
set_option maxRecDepth 20000 in
theorem gX1_weighCompanies_X4_passDays : GoodIn wsX1_weighCompanies (wsV RX1 41 RX4 yX4_passDays wsX4_passDays) := goodIn_app (goodIn_of _ (by decide +kernel)) ggX1_weighCompanies_X4_passDays
theorem dX1_weighCompanies_0 : decode cX1_weighCompanies 0 = .ok (.iconst 0, 1) := by decide +kernel
theorem dX1_weighCompanies_1 : decode cX1_weighCompanies 1 = .ok (.istore_n 2, 1) := by decide +kernel
theorem dX1_weighCompanies_2 : decode cX1_weighCompanies 2 = .ok (.iload_n 2, 1) := by decide +kernel
theorem dX1_weighCompanies_3 : decode cX1_weighCompanies 3 = .ok (.iconst 1, 1) := by decide +kernel
theorem dX1_weighCompanies_4 : decode cX1_weighCompanies 4 = .ok (.aload_n 0, 1) := by decide +kernel
theorem dX1_weighCompanies_5 : decode cX1_weighCompanies 5 = .ok (.getfield 9, 3) := by decide +kernel
theorem dX1_weighCompanies_8 : decode cX1_weighCompanies 8 = .ok (.getfield 109, 3) := by decide +kernel
theorem dX1_weighCompanies_11 : decode cX1_weighCompanies 11 = .ok (.ishl, 1) := by decide +kernel
theorem dX1_weighCompanies_12 : decode cX1_weighCompanies 12 = .ok (.if_icmp .ge 45, 3) := by decide +kernel
theorem dX1_weighCompanies_15 : decode cX1_weighCompanies 15 = .ok (.aload_n 0, 1) := by decide +kernel
theorem dX1_weighCompanies_16 : decode cX1_weighCompanies 16 = .ok (.getfield 19, 3) := by decide +kernel
theorem dX1_weighCompanies_19 : decode cX1_weighCompanies 19 = .ok (.aload_n 0, 1) := by decide +kernel
theorem dX1_weighCompanies_20 : decode cX1_weighCompanies 20 = .ok (.getfield 15, 3) := by decide +kernel
theorem dX1_weighCompanies_23 : decode cX1_weighCompanies 23 = .ok (.invokevirtual 35, 3) := by decide +kernel
theorem dX1_weighCompanies_26 : decode cX1_weighCompanies 26 = .ok (.aload_n 0, 1) := by decide +kernel
theorem dX1_weighCompanies_27 : decode cX1_weighCompanies 27 = .ok (.getfield 19, 3) := by decide +kernel
theorem dX1_weighCompanies_30 : decode cX1_weighCompanies 30 = .ok (.bipush 6, 2) := by decide +kernel
theorem dX1_weighCompanies_32 : decode cX1_weighCompanies 32 = .ok (.iload_n 2, 1) := by decide +kernel
theorem dX1_weighCompanies_33 : decode cX1_weighCompanies 33 = .ok (.invokevirtual 41, 3) := by decide +kernel
theorem dX1_weighCompanies_36 : decode cX1_weighCompanies 36 = .ok (.aload_n 0, 1) := by decide +kernel
theorem dX1_weighCompanies_37 : decode cX1_weighCompanies 37 = .ok (.getfield 26, 3) := by decide +kernel
theorem dX1_weighCompanies_40 : decode cX1_weighCompanies 40 = .ok (.iload_n 2, 1) := by decide +kernel
theorem dX1_weighCompanies_41 : decode cX1_weighCompanies 41 = .ok (.aload_n 0, 1) := by decide +kernel
theorem dX1_weighCompanies_42 : decode cX1_weighCompanies 42 = .ok (.getfield 19, 3) := by decide +kernel
theorem dX1_weighCompanies_45 : decode cX1_weighCompanies 45 = .ok (.getfield 66, 3) := by decide +kernel
theorem dX1_weighCompanies_48 : decode cX1_weighCompanies 48 = .ok (.iload_n 1, 1) := by decide +kernel
theorem dX1_weighCompanies_49 : decode cX1_weighCompanies 49 = .ok (.iaload, 1) := by decide +kernel
theorem dX1_weighCompanies_50 : decode cX1_weighCompanies 50 = .ok (.iastore, 1) := by decide +kernel
theorem dX1_weighCompanies_51 : decode cX1_weighCompanies 51 = .ok (.iinc 2 1, 3) := by decide +kernel
theorem dX1_weighCompanies_54 : decode cX1_weighCompanies 54 = .ok (.goto (-52), 3) := by decide +kernel
theorem dX1_weighCompanies_57 : decode cX1_weighCompanies 57 = .ok (.return_, 1) := by decide +kernel
set_option maxRecDepth 20000 in
theorem ggX1_sumOfGains_J6_bitCount_0f7a4 : GoodIn wsX1_sumOfGains wsJ6_bitCount_0f7a4 := goodIn_r _ [6, 7, 8, 9] (by decide +kernel) (by decide +kernel)
set_option maxRecDepth 20000 in
theorem gX1_sumOfGains_J6_bitCount_0f7a4 : GoodIn wsX1_sumOfGains (va_wsS RX1 79 yJ6_bitCount_0f7a4 wsJ6_bitCount_0f7a4) := goodIn_app (goodIn_of _ (by decide +kernel)) ggX1_sumOfGains_J6_bitCount_0f7a4
set_option maxRecDepth 20000 in
theorem ggX1_sumOfGains_X6_ordersOf : GoodIn wsX1_sumOfGains wsX6_ordersOf := goodIn_r _ [12] (by decide +kernel) (by decide +kernel)
set_option maxRecDepth 20000 in
theorem gX1_sumOfGains_X6_ordersOf_n112 : GoodIn wsX1_sumOfGains (wsX6_ordersOf) := ggX1_sumOfGains_X6_ordersOf
theorem dX1_sumOfGains_0 : decode cX1_sumOfGains 0 = .ok (.iconst 0, 1) := by decide +kernel
theorem dX1_sumOfGains_1 : decode cX1_sumOfGains 1 = .ok (.istore_n 2, 1) := by decide +kernel
theorem dX1_sumOfGains_2 : decode cX1_sumOfGains 2 = .ok (.iconst 0, 1) := by decide +kernel
theorem dX1_sumOfGains_3 : decode cX1_sumOfGains 3 = .ok (.istore_n 3, 1) := by decide +kernel
theorem dX1_sumOfGains_4 : decode cX1_sumOfGains 4 = .ok (.iload_n 3, 1) := by decide +kernel
theorem dX1_sumOfGains_5 : decode cX1_sumOfGains 5 = .ok (.iconst 1, 1) := by decide +kernel
theorem dX1_sumOfGains_6 : decode cX1_sumOfGains 6 = .ok (.aload_n 0, 1) := by decide +kernel
theorem dX1_sumOfGains_7 : decode cX1_sumOfGains 7 = .ok (.getfield 9, 3) := by decide +kernel
theorem dX1_sumOfGains_10 : decode cX1_sumOfGains 10 = .ok (.getfield 109, 3) := by decide +kernel
theorem dX1_sumOfGains_13 : decode cX1_sumOfGains 13 = .ok (.ishl, 1) := by decide +kernel
theorem dX1_sumOfGains_14 : decode cX1_sumOfGains 14 = .ok (.if_icmp .ge 84, 3) := by decide +kernel
theorem dX1_sumOfGains_17 : decode cX1_sumOfGains 17 = .ok (.iload_n 3, 1) := by decide +kernel
theorem dX1_sumOfGains_18 : decode cX1_sumOfGains 18 = .ok (.iconst 1, 1) := by decide +kernel
theorem dX1_sumOfGains_19 : decode cX1_sumOfGains 19 = .ok (.iload_n 1, 1) := by decide +kernel
theorem dX1_sumOfGains_20 : decode cX1_sumOfGains 20 = .ok (.ishl, 1) := by decide +kernel
theorem dX1_sumOfGains_21 : decode cX1_sumOfGains 21 = .ok (.ior, 1) := by decide +kernel
theorem dX1_sumOfGains_22 : decode cX1_sumOfGains 22 = .ok (.istore 4, 2) := by decide +kernel
theorem dX1_sumOfGains_24 : decode cX1_sumOfGains 24 = .ok (.iload 4, 2) := by decide +kernel
theorem dX1_sumOfGains_26 : decode cX1_sumOfGains 26 = .ok (.iload_n 3, 1) := by decide +kernel
theorem dX1_sumOfGains_27 : decode cX1_sumOfGains 27 = .ok (.if_icmp .eq 65, 3) := by decide +kernel
theorem dX1_sumOfGains_30 : decode cX1_sumOfGains 30 = .ok (.iload 4, 2) := by decide +kernel
theorem dX1_sumOfGains_32 : decode cX1_sumOfGains 32 = .ok (.aload_n 0, 1) := by decide +kernel
theorem dX1_sumOfGains_33 : decode cX1_sumOfGains 33 = .ok (.getfield 26, 3) := by decide +kernel
theorem dX1_sumOfGains_36 : decode cX1_sumOfGains 36 = .ok (.arraylength, 1) := by decide +kernel
theorem dX1_sumOfGains_37 : decode cX1_sumOfGains 37 = .ok (.if_icmp .lt 6, 3) := by decide +kernel
theorem dX1_sumOfGains_40 : decode cX1_sumOfGains 40 = .ok (.goto 52, 3) := by decide +kernel
theorem dX1_sumOfGains_43 : decode cX1_sumOfGains 43 = .ok (.iload_n 3, 1) := by decide +kernel
theorem dX1_sumOfGains_44 : decode cX1_sumOfGains 44 = .ok (.invokestatic 79, 3) := by decide +kernel
theorem dX1_sumOfGains_47 : decode cX1_sumOfGains 47 = .ok (.istore 5, 2) := by decide +kernel
theorem dX1_sumOfGains_49 : decode cX1_sumOfGains 49 = .ok (.aload_n 0, 1) := by decide +kernel
theorem dX1_sumOfGains_50 : decode cX1_sumOfGains 50 = .ok (.getfield 9, 3) := by decide +kernel
theorem dX1_sumOfGains_53 : decode cX1_sumOfGains 53 = .ok (.getfield 109, 3) := by decide +kernel
theorem dX1_sumOfGains_56 : decode cX1_sumOfGains 56 = .ok (.iconst 1, 1) := by decide +kernel
theorem dX1_sumOfGains_57 : decode cX1_sumOfGains 57 = .ok (.isub, 1) := by decide +kernel
theorem dX1_sumOfGains_58 : decode cX1_sumOfGains 58 = .ok (.iload 5, 2) := by decide +kernel
theorem dX1_sumOfGains_60 : decode cX1_sumOfGains 60 = .ok (.isub, 1) := by decide +kernel
theorem dX1_sumOfGains_61 : decode cX1_sumOfGains 61 = .ok (.istore 6, 2) := by decide +kernel
theorem dX1_sumOfGains_63 : decode cX1_sumOfGains 63 = .ok (.iload_n 2, 1) := by decide +kernel
theorem dX1_sumOfGains_64 : decode cX1_sumOfGains 64 = .ok (.iload 5, 2) := by decide +kernel
theorem dX1_sumOfGains_66 : decode cX1_sumOfGains 66 = .ok (.invokestatic 112, 3) := by decide +kernel
theorem dX1_sumOfGains_69 : decode cX1_sumOfGains 69 = .ok (.iload 6, 2) := by decide +kernel
theorem dX1_sumOfGains_71 : decode cX1_sumOfGains 71 = .ok (.invokestatic 112, 3) := by decide +kernel
theorem dX1_sumOfGains_74 : decode cX1_sumOfGains 74 = .ok (.imul, 1) := by decide +kernel
theorem dX1_sumOfGains_75 : decode cX1_sumOfGains 75 = .ok (.aload_n 0, 1) := by decide +kernel
theorem dX1_sumOfGains_76 : decode cX1_sumOfGains 76 = .ok (.getfield 26, 3) := by decide +kernel
theorem dX1_sumOfGains_79 : decode cX1_sumOfGains 79 = .ok (.iload 4, 2) := by decide +kernel
theorem dX1_sumOfGains_81 : decode cX1_sumOfGains 81 = .ok (.iaload, 1) := by decide +kernel
theorem dX1_sumOfGains_82 : decode cX1_sumOfGains 82 = .ok (.aload_n 0, 1) := by decide +kernel
theorem dX1_sumOfGains_83 : decode cX1_sumOfGains 83 = .ok (.getfield 26, 3) := by decide +kernel
theorem dX1_sumOfGains_86 : decode cX1_sumOfGains 86 = .ok (.iload_n 3, 1) := by decide +kernel
theorem dX1_sumOfGains_87 : decode cX1_sumOfGains 87 = .ok (.iaload, 1) := by decide +kernel
theorem dX1_sumOfGains_88 : decode cX1_sumOfGains 88 = .ok (.isub, 1) := by decide +kernel
theorem dX1_sumOfGains_89 : decode cX1_sumOfGains 89 = .ok (.imul, 1) := by decide +kernel
theorem dX1_sumOfGains_90 : decode cX1_sumOfGains 90 = .ok (.iadd, 1) := by decide +kernel
theorem dX1_sumOfGains_91 : decode cX1_sumOfGains 91 = .ok (.istore_n 2, 1) := by decide +kernel
theorem dX1_sumOfGains_92 : decode cX1_sumOfGains 92 = .ok (.iinc 3 1, 3) := by decide +kernel
theorem dX1_sumOfGains_95 : decode cX1_sumOfGains 95 = .ok (.goto (-91), 3) := by decide +kernel
theorem dX1_sumOfGains_98 : decode cX1_sumOfGains 98 = .ok (.iload_n 2, 1) := by decide +kernel
theorem dX1_sumOfGains_99 : decode cX1_sumOfGains 99 = .ok (.ireturn, 1) := by decide +kernel
set_option maxRecDepth 20000 in
theorem ggX1_weighPairs_X4_isOwnOrFree : GoodIn wsX1_weighPairs wsX4_isOwnOrFree := goodIn_r _ [9, 10, 11, 12, 13, 86, 87, 88, 89, 90, 91, 92, 93] (by decide +kernel) (by decide +kernel)
set_option maxRecDepth 20000 in
theorem gX1_weighPairs_X4_isOwnOrFree : GoodIn wsX1_weighPairs (wsV RX1 59 RX4 yX4_isOwnOrFree wsX4_isOwnOrFree) := goodIn_app (goodIn_of _ (by decide +kernel)) ggX1_weighPairs_X4_isOwnOrFree
set_option maxRecDepth 20000 in
theorem ggX1_weighPairs_X4_setTo : GoodIn wsX1_weighPairs wsX4_setTo := goodIn_r _ [17, 18, 19, 20, 21, 22, 10, 23, 24, 25, 26, 27, 86, 87, 88, 89, 90, 91, 92, 93] (by decide +kernel) (by decide +kernel)
set_option maxRecDepth 20000 in
theorem gX1_weighPairs_X4_setTo : GoodIn wsX1_weighPairs (wsV RX1 35 RX4 yX4_setTo wsX4_setTo) := goodIn_app (goodIn_of _ (by decide +kernel)) ggX1_weighPairs_X4_setTo
set_option maxRecDepth 20000 in
theorem ggX1_weighPairs_X4_put : GoodIn wsX1_weighPairs wsX4_put := goodIn_r _ [31, 18, 32, 33, 34, 8, 35, 10, 11, 12, 13, 86, 87, 88, 89, 90, 91, 92, 93] (by decide +kernel) (by decide +kernel)
set_option maxRecDepth 20000 in
theorem gX1_weighPairs_X4_put : GoodIn wsX1_weighPairs (wsV RX1 63 RX4 yX4_put wsX4_put) := goodIn_app (goodIn_of _ (by decide +kernel)) ggX1_weighPairs_X4_put
set_option maxRecDepth 20000 in
theorem ggX1_weighPairs_X4_passDays : GoodIn wsX1_weighPairs wsX4_passDays := goodIn_r _ [39, 40, 41, 42, 8, 43, 44, 23, 24, 27, 45, 46, 47, 48, 25, 49, 50, 51, 52, 53, 54, 55, 56, 57, 58, 59, 60, 61, 62, 63, 64, 10, 11, 12, 13, 65, 66, 67, 68, 26, 69, 70, 71, 72, 73, 74, 75, 76, 86, 87, 88, 89, 90, 91, 92, 93, 94, 95, 96, 97, 98, 99, 100, 101, 102] (by decide +kernel) (by decide +kernel)
set_option maxRecDepth 20000 in
theorem gX1_weighPairs_X4_passDays : GoodIn wsX1_weighPairs (wsV RX1 41 RX4 yX4_passDays wsX4_passDays) := goodIn_app (goodIn_of _ (by decide +kernel)) ggX1_weighPairs_X4_passDays
theorem dX1_weighPairs_0 : decode cX1_weighPairs 0 = .ok (.iconst 0, 1) := by decide +kernel
theorem dX1_weighPairs_1 : decode cX1_weighPairs 1 = .ok (.istore_n 3, 1) := by decide +kernel
theorem dX1_weighPairs_2 : decode cX1_weighPairs 2 = .ok (.iload_n 3, 1) := by decide +kernel
theorem dX1_weighPairs_3 : decode cX1_weighPairs 3 = .ok (.bipush 100, 2) := by decide +kernel
theorem dX1_weighPairs_5 : decode cX1_weighPairs 5 = .ok (.if_icmp .ge 142, 3) := by decide +kernel
theorem dX1_weighPairs_8 : decode cX1_weighPairs 8 = .ok (.iload_n 3, 1) := by decide +kernel
theorem dX1_weighPairs_9 : decode cX1_weighPairs 9 = .ok (.bipush 10, 2) := by decide +kernel
theorem dX1_weighPairs_11 : decode cX1_weighPairs 11 = .ok (.idiv, 1) := by decide +kernel
theorem dX1_weighPairs_12 : decode cX1_weighPairs 12 = .ok (.istore 4, 2) := by decide +kernel
theorem dX1_weighPairs_14 : decode cX1_weighPairs 14 = .ok (.iload_n 3, 1) := by decide +kernel
theorem dX1_weighPairs_15 : decode cX1_weighPairs 15 = .ok (.bipush 10, 2) := by decide +kernel
theorem dX1_weighPairs_17 : decode cX1_weighPairs 17 = .ok (.irem, 1) := by decide +kernel
theorem dX1_weighPairs_18 : decode cX1_weighPairs 18 = .ok (.istore 5, 2) := by decide +kernel
theorem dX1_weighPairs_20 : decode cX1_weighPairs 20 = .ok (.aload_n 0, 1) := by decide +kernel
theorem dX1_weighPairs_21 : decode cX1_weighPairs 21 = .ok (.getfield 29, 3) := by decide +kernel
theorem dX1_weighPairs_24 : decode cX1_weighPairs 24 = .ok (.iload_n 3, 1) := by decide +kernel
theorem dX1_weighPairs_25 : decode cX1_weighPairs 25 = .ok (.bipush (-9), 2) := by decide +kernel
theorem dX1_weighPairs_27 : decode cX1_weighPairs 27 = .ok (.iastore, 1) := by decide +kernel
theorem dX1_weighPairs_28 : decode cX1_weighPairs 28 = .ok (.aload_n 0, 1) := by decide +kernel
theorem dX1_weighPairs_29 : decode cX1_weighPairs 29 = .ok (.getfield 32, 3) := by decide +kernel
theorem dX1_weighPairs_32 : decode cX1_weighPairs 32 = .ok (.iload_n 3, 1) := by decide +kernel
theorem dX1_weighPairs_33 : decode cX1_weighPairs 33 = .ok (.bipush (-9), 2) := by decide +kernel
theorem dX1_weighPairs_35 : decode cX1_weighPairs 35 = .ok (.iastore, 1) := by decide +kernel
theorem dX1_weighPairs_36 : decode cX1_weighPairs 36 = .ok (.iload 4, 2) := by decide +kernel
theorem dX1_weighPairs_38 : decode cX1_weighPairs 38 = .ok (.iload 5, 2) := by decide +kernel
theorem dX1_weighPairs_40 : decode cX1_weighPairs 40 = .ok (.if_icmp .eq 101, 3) := by decide +kernel
theorem dX1_weighPairs_43 : decode cX1_weighPairs 43 = .ok (.aload_n 0, 1) := by decide +kernel
theorem dX1_weighPairs_44 : decode cX1_weighPairs 44 = .ok (.getfield 15, 3) := by decide +kernel
theorem dX1_weighPairs_47 : decode cX1_weighPairs 47 = .ok (.iload_n 1, 1) := by decide +kernel
theorem dX1_weighPairs_48 : decode cX1_weighPairs 48 = .ok (.iload 4, 2) := by decide +kernel
theorem dX1_weighPairs_50 : decode cX1_weighPairs 50 = .ok (.invokevirtual 59, 3) := by decide +kernel
theorem dX1_weighPairs_53 : decode cX1_weighPairs 53 = .ok (.ifCond .eq 88, 3) := by decide +kernel
theorem dX1_weighPairs_56 : decode cX1_weighPairs 56 = .ok (.aload_n 0, 1) := by decide +kernel
theorem dX1_weighPairs_57 : decode cX1_weighPairs 57 = .ok (.getfield 15, 3) := by decide +kernel
theorem dX1_weighPairs_60 : decode cX1_weighPairs 60 = .ok (.iload_n 2, 1) := by decide +kernel
theorem dX1_weighPairs_61 : decode cX1_weighPairs 61 = .ok (.iload 5, 2) := by decide +kernel
theorem dX1_weighPairs_63 : decode cX1_weighPairs 63 = .ok (.invokevirtual 59, 3) := by decide +kernel
theorem dX1_weighPairs_66 : decode cX1_weighPairs 66 = .ok (.ifCond .eq 75, 3) := by decide +kernel
theorem dX1_weighPairs_69 : decode cX1_weighPairs 69 = .ok (.aload_n 0, 1) := by decide +kernel
theorem dX1_weighPairs_70 : decode cX1_weighPairs 70 = .ok (.getfield 19, 3) := by decide +kernel
theorem dX1_weighPairs_73 : decode cX1_weighPairs 73 = .ok (.aload_n 0, 1) := by decide +kernel
theorem dX1_weighPairs_74 : decode cX1_weighPairs 74 = .ok (.getfield 15, 3) := by decide +kernel
theorem dX1_weighPairs_77 : decode cX1_weighPairs 77 = .ok (.invokevirtual 35, 3) := by decide +kernel
theorem dX1_weighPairs_80 : decode cX1_weighPairs 80 = .ok (.aload_n 0, 1) := by decide +kernel
theorem dX1_weighPairs_81 : decode cX1_weighPairs 81 = .ok (.getfield 19, 3) := by decide +kernel
theorem dX1_weighPairs_84 : decode cX1_weighPairs 84 = .ok (.iload_n 1, 1) := by decide +kernel
theorem dX1_weighPairs_85 : decode cX1_weighPairs 85 = .ok (.iload 4, 2) := by decide +kernel
theorem dX1_weighPairs_87 : decode cX1_weighPairs 87 = .ok (.invokevirtual 63, 3) := by decide +kernel
theorem dX1_weighPairs_90 : decode cX1_weighPairs 90 = .ok (.aload_n 0, 1) := by decide +kernel
theorem dX1_weighPairs_91 : decode cX1_weighPairs 91 = .ok (.getfield 19, 3) := by decide +kernel
theorem dX1_weighPairs_94 : decode cX1_weighPairs 94 = .ok (.iload_n 2, 1) := by decide +kernel
theorem dX1_weighPairs_95 : decode cX1_weighPairs 95 = .ok (.iload 5, 2) := by decide +kernel
theorem dX1_weighPairs_97 : decode cX1_weighPairs 97 = .ok (.invokevirtual 63, 3) := by decide +kernel
theorem dX1_weighPairs_100 : decode cX1_weighPairs 100 = .ok (.aload_n 0, 1) := by decide +kernel
theorem dX1_weighPairs_101 : decode cX1_weighPairs 101 = .ok (.getfield 19, 3) := by decide +kernel
theorem dX1_weighPairs_104 : decode cX1_weighPairs 104 = .ok (.bipush 6, 2) := by decide +kernel
theorem dX1_weighPairs_106 : decode cX1_weighPairs 106 = .ok (.bipush 31, 2) := by decide +kernel
theorem dX1_weighPairs_108 : decode cX1_weighPairs 108 = .ok (.invokevirtual 41, 3) := by decide +kernel
theorem dX1_weighPairs_111 : decode cX1_weighPairs 111 = .ok (.aload_n 0, 1) := by decide +kernel
theorem dX1_weighPairs_112 : decode cX1_weighPairs 112 = .ok (.getfield 29, 3) := by decide +kernel
theorem dX1_weighPairs_115 : decode cX1_weighPairs 115 = .ok (.iload_n 3, 1) := by decide +kernel
theorem dX1_weighPairs_116 : decode cX1_weighPairs 116 = .ok (.aload_n 0, 1) := by decide +kernel
theorem dX1_weighPairs_117 : decode cX1_weighPairs 117 = .ok (.getfield 19, 3) := by decide +kernel
theorem dX1_weighPairs_120 : decode cX1_weighPairs 120 = .ok (.getfield 66, 3) := by decide +kernel
theorem dX1_weighPairs_123 : decode cX1_weighPairs 123 = .ok (.iload_n 1, 1) := by decide +kernel
theorem dX1_weighPairs_124 : decode cX1_weighPairs 124 = .ok (.iaload, 1) := by decide +kernel
theorem dX1_weighPairs_125 : decode cX1_weighPairs 125 = .ok (.iastore, 1) := by decide +kernel
theorem dX1_weighPairs_126 : decode cX1_weighPairs 126 = .ok (.aload_n 0, 1) := by decide +kernel
theorem dX1_weighPairs_127 : decode cX1_weighPairs 127 = .ok (.getfield 32, 3) := by decide +kernel
theorem dX1_weighPairs_130 : decode cX1_weighPairs 130 = .ok (.iload_n 3, 1) := by decide +kernel
theorem dX1_weighPairs_131 : decode cX1_weighPairs 131 = .ok (.aload_n 0, 1) := by decide +kernel
theorem dX1_weighPairs_132 : decode cX1_weighPairs 132 = .ok (.getfield 19, 3) := by decide +kernel
theorem dX1_weighPairs_135 : decode cX1_weighPairs 135 = .ok (.getfield 66, 3) := by decide +kernel
theorem dX1_weighPairs_138 : decode cX1_weighPairs 138 = .ok (.iload_n 2, 1) := by decide +kernel
theorem dX1_weighPairs_139 : decode cX1_weighPairs 139 = .ok (.iaload, 1) := by decide +kernel
theorem dX1_weighPairs_140 : decode cX1_weighPairs 140 = .ok (.iastore, 1) := by decide +kernel
theorem dX1_weighPairs_141 : decode cX1_weighPairs 141 = .ok (.iinc 3 1, 3) := by decide +kernel
theorem dX1_weighPairs_144 : decode cX1_weighPairs 144 = .ok (.goto (-142), 3) := by decide +kernel
theorem dX1_weighPairs_147 : decode cX1_weighPairs 147 = .ok (.return_, 1) := by decide +kernel
set_option maxRecDepth 20000 in
theorem ggX1_countRests_X1_isRest : GoodIn wsX1_countRests wsX1_isRest := goodIn_r _ [5, 6, 7, 8, 9, 10, 11, 12, 13, 14, 15, 16] (by decide +kernel) (by decide +kernel)
set_option maxRecDepth 20000 in
theorem gX1_countRests_X1_isRest : GoodIn wsX1_countRests (wsV RX1 115 RX1 yX1_isRest wsX1_isRest) := goodIn_app (goodIn_of _ (by decide +kernel)) ggX1_countRests_X1_isRest
theorem dX1_countRests_0 : decode cX1_countRests 0 = .ok (.iconst 0, 1) := by decide +kernel
theorem dX1_countRests_1 : decode cX1_countRests 1 = .ok (.istore_n 1, 1) := by decide +kernel
theorem dX1_countRests_2 : decode cX1_countRests 2 = .ok (.iconst 0, 1) := by decide +kernel
theorem dX1_countRests_3 : decode cX1_countRests 3 = .ok (.istore_n 2, 1) := by decide +kernel
theorem dX1_countRests_4 : decode cX1_countRests 4 = .ok (.iload_n 2, 1) := by decide +kernel
theorem dX1_countRests_5 : decode cX1_countRests 5 = .ok (.bipush 100, 2) := by decide +kernel
theorem dX1_countRests_7 : decode cX1_countRests 7 = .ok (.if_icmp .ge 20, 3) := by decide +kernel
theorem dX1_countRests_10 : decode cX1_countRests 10 = .ok (.aload_n 0, 1) := by decide +kernel
theorem dX1_countRests_11 : decode cX1_countRests 11 = .ok (.iload_n 2, 1) := by decide +kernel
theorem dX1_countRests_12 : decode cX1_countRests 12 = .ok (.invokevirtual 115, 3) := by decide +kernel
theorem dX1_countRests_15 : decode cX1_countRests 15 = .ok (.ifCond .eq 6, 3) := by decide +kernel
theorem dX1_countRests_18 : decode cX1_countRests 18 = .ok (.iinc 1 1, 3) := by decide +kernel
theorem dX1_countRests_21 : decode cX1_countRests 21 = .ok (.iinc 2 1, 3) := by decide +kernel
theorem dX1_countRests_24 : decode cX1_countRests 24 = .ok (.goto (-20), 3) := by decide +kernel
theorem dX1_countRests_27 : decode cX1_countRests 27 = .ok (.iload_n 1, 1) := by decide +kernel
theorem dX1_countRests_28 : decode cX1_countRests 28 = .ok (.ireturn, 1) := by decide +kernel
set_option maxRecDepth 20000 in
theorem ggX1_firstRest_X1_isRest : GoodIn wsX1_firstRest wsX1_isRest := goodIn_r _ [5, 6, 7, 8, 9, 10, 11, 12, 13, 14, 15, 16] (by decide +kernel) (by decide +kernel)
set_option maxRecDepth 20000 in
theorem gX1_firstRest_X1_isRest : GoodIn wsX1_firstRest (wsV RX1 115 RX1 yX1_isRest wsX1_isRest) := goodIn_app (goodIn_of _ (by decide +kernel)) ggX1_firstRest_X1_isRest
theorem dX1_firstRest_0 : decode cX1_firstRest 0 = .ok (.iconst 0, 1) := by decide +kernel
theorem dX1_firstRest_1 : decode cX1_firstRest 1 = .ok (.istore_n 1, 1) := by decide +kernel
theorem dX1_firstRest_2 : decode cX1_firstRest 2 = .ok (.iload_n 1, 1) := by decide +kernel
theorem dX1_firstRest_3 : decode cX1_firstRest 3 = .ok (.bipush 100, 2) := by decide +kernel
theorem dX1_firstRest_5 : decode cX1_firstRest 5 = .ok (.if_icmp .ge 19, 3) := by decide +kernel
theorem dX1_firstRest_8 : decode cX1_firstRest 8 = .ok (.aload_n 0, 1) := by decide +kernel
theorem dX1_firstRest_9 : decode cX1_firstRest 9 = .ok (.iload_n 1, 1) := by decide +kernel
theorem dX1_firstRest_10 : decode cX1_firstRest 10 = .ok (.invokevirtual 115, 3) := by decide +kernel
theorem dX1_firstRest_13 : decode cX1_firstRest 13 = .ok (.ifCond .eq 5, 3) := by decide +kernel
theorem dX1_firstRest_16 : decode cX1_firstRest 16 = .ok (.iload_n 1, 1) := by decide +kernel
theorem dX1_firstRest_17 : decode cX1_firstRest 17 = .ok (.ireturn, 1) := by decide +kernel
theorem dX1_firstRest_18 : decode cX1_firstRest 18 = .ok (.iinc 1 1, 3) := by decide +kernel
theorem dX1_firstRest_21 : decode cX1_firstRest 21 = .ok (.goto (-19), 3) := by decide +kernel
theorem dX1_firstRest_24 : decode cX1_firstRest 24 = .ok (.bipush (-9), 2) := by decide +kernel
theorem dX1_firstRest_26 : decode cX1_firstRest 26 = .ok (.ireturn, 1) := by decide +kernel
theorem dX1_isRest_0 : decode cX1_isRest 0 = .ok (.aload_n 0, 1) := by decide +kernel
theorem dX1_isRest_1 : decode cX1_isRest 1 = .ok (.getfield 29, 3) := by decide +kernel
theorem dX1_isRest_4 : decode cX1_isRest 4 = .ok (.iload_n 1, 1) := by decide +kernel
theorem dX1_isRest_5 : decode cX1_isRest 5 = .ok (.iaload, 1) := by decide +kernel
theorem dX1_isRest_6 : decode cX1_isRest 6 = .ok (.bipush (-9), 2) := by decide +kernel
theorem dX1_isRest_8 : decode cX1_isRest 8 = .ok (.if_icmp .ne 5, 3) := by decide +kernel
theorem dX1_isRest_11 : decode cX1_isRest 11 = .ok (.iconst 0, 1) := by decide +kernel
theorem dX1_isRest_12 : decode cX1_isRest 12 = .ok (.ireturn, 1) := by decide +kernel
theorem dX1_isRest_13 : decode cX1_isRest 13 = .ok (.iload_n 1, 1) := by decide +kernel
theorem dX1_isRest_14 : decode cX1_isRest 14 = .ok (.bipush 10, 2) := by decide +kernel
theorem dX1_isRest_16 : decode cX1_isRest 16 = .ok (.idiv, 1) := by decide +kernel
theorem dX1_isRest_17 : decode cX1_isRest 17 = .ok (.istore_n 2, 1) := by decide +kernel
theorem dX1_isRest_18 : decode cX1_isRest 18 = .ok (.iload_n 1, 1) := by decide +kernel
theorem dX1_isRest_19 : decode cX1_isRest 19 = .ok (.bipush 10, 2) := by decide +kernel
theorem dX1_isRest_21 : decode cX1_isRest 21 = .ok (.irem, 1) := by decide +kernel
theorem dX1_isRest_22 : decode cX1_isRest 22 = .ok (.istore_n 3, 1) := by decide +kernel
theorem dX1_isRest_23 : decode cX1_isRest 23 = .ok (.iconst 0, 1) := by decide +kernel
theorem dX1_isRest_24 : decode cX1_isRest 24 = .ok (.istore 4, 2) := by decide +kernel
theorem dX1_isRest_26 : decode cX1_isRest 26 = .ok (.iload 4, 2) := by decide +kernel
theorem dX1_isRest_28 : decode cX1_isRest 28 = .ok (.bipush 10, 2) := by decide +kernel
theorem dX1_isRest_30 : decode cX1_isRest 30 = .ok (.if_icmp .ge 61, 3) := by decide +kernel
theorem dX1_isRest_33 : decode cX1_isRest 33 = .ok (.iload 4, 2) := by decide +kernel
theorem dX1_isRest_35 : decode cX1_isRest 35 = .ok (.bipush 10, 2) := by decide +kernel
theorem dX1_isRest_37 : decode cX1_isRest 37 = .ok (.imul, 1) := by decide +kernel
theorem dX1_isRest_38 : decode cX1_isRest 38 = .ok (.iload_n 3, 1) := by decide +kernel
theorem dX1_isRest_39 : decode cX1_isRest 39 = .ok (.iadd, 1) := by decide +kernel
theorem dX1_isRest_40 : decode cX1_isRest 40 = .ok (.istore 5, 2) := by decide +kernel
theorem dX1_isRest_42 : decode cX1_isRest 42 = .ok (.iload_n 2, 1) := by decide +kernel
theorem dX1_isRest_43 : decode cX1_isRest 43 = .ok (.bipush 10, 2) := by decide +kernel
theorem dX1_isRest_45 : decode cX1_isRest 45 = .ok (.imul, 1) := by decide +kernel
theorem dX1_isRest_46 : decode cX1_isRest 46 = .ok (.iload 4, 2) := by decide +kernel
theorem dX1_isRest_48 : decode cX1_isRest 48 = .ok (.iadd, 1) := by decide +kernel
theorem dX1_isRest_49 : decode cX1_isRest 49 = .ok (.istore 6, 2) := by decide +kernel
theorem dX1_isRest_51 : decode cX1_isRest 51 = .ok (.aload_n 0, 1) := by decide +kernel
theorem dX1_isRest_52 : decode cX1_isRest 52 = .ok (.getfield 29, 3) := by decide +kernel
theorem dX1_isRest_55 : decode cX1_isRest 55 = .ok (.iload 5, 2) := by decide +kernel
theorem dX1_isRest_57 : decode cX1_isRest 57 = .ok (.iaload, 1) := by decide +kernel
theorem dX1_isRest_58 : decode cX1_isRest 58 = .ok (.aload_n 0, 1) := by decide +kernel
theorem dX1_isRest_59 : decode cX1_isRest 59 = .ok (.getfield 29, 3) := by decide +kernel
theorem dX1_isRest_62 : decode cX1_isRest 62 = .ok (.iload_n 1, 1) := by decide +kernel
theorem dX1_isRest_63 : decode cX1_isRest 63 = .ok (.iaload, 1) := by decide +kernel
theorem dX1_isRest_64 : decode cX1_isRest 64 = .ok (.if_icmp .gt 19, 3) := by decide +kernel
theorem dX1_isRest_67 : decode cX1_isRest 67 = .ok (.aload_n 0, 1) := by decide +kernel
theorem dX1_isRest_68 : decode cX1_isRest 68 = .ok (.getfield 32, 3) := by decide +kernel
theorem dX1_isRest_71 : decode cX1_isRest 71 = .ok (.iload 6, 2) := by decide +kernel
theorem dX1_isRest_73 : decode cX1_isRest 73 = .ok (.iaload, 1) := by decide +kernel
theorem dX1_isRest_74 : decode cX1_isRest 74 = .ok (.aload_n 0, 1) := by decide +kernel
theorem dX1_isRest_75 : decode cX1_isRest 75 = .ok (.getfield 32, 3) := by decide +kernel
theorem dX1_isRest_78 : decode cX1_isRest 78 = .ok (.iload_n 1, 1) := by decide +kernel
theorem dX1_isRest_79 : decode cX1_isRest 79 = .ok (.iaload, 1) := by decide +kernel
theorem dX1_isRest_80 : decode cX1_isRest 80 = .ok (.if_icmp .le 5, 3) := by decide +kernel
theorem dX1_isRest_83 : decode cX1_isRest 83 = .ok (.iconst 0, 1) := by decide +kernel
theorem dX1_isRest_84 : decode cX1_isRest 84 = .ok (.ireturn, 1) := by decide +kernel
theorem dX1_isRest_85 : decode cX1_isRest 85 = .ok (.iinc 4 1, 3) := by decide +kernel
theorem dX1_isRest_88 : decode cX1_isRest 88 = .ok (.goto (-62), 3) := by decide +kernel
theorem dX1_isRest_91 : decode cX1_isRest 91 = .ok (.iconst 1, 1) := by decide +kernel
theorem dX1_isRest_92 : decode cX1_isRest 92 = .ok (.ireturn, 1) := by decide +kernel
set_option maxRecDepth 20000 in
theorem ggX1_chancesOfGold_X4_setTo : GoodIn wsX1_chancesOfGold wsX4_setTo := goodIn_r _ [8, 9, 10, 11, 12, 13, 14, 15, 16, 17, 18, 19, 83, 84, 85, 86, 87, 88, 89, 90] (by decide +kernel) (by decide +kernel)
set_option maxRecDepth 20000 in
theorem gX1_chancesOfGold_X4_setTo : GoodIn wsX1_chancesOfGold (wsV RX1 35 RX4 yX4_setTo wsX4_setTo) := goodIn_app (goodIn_of _ (by decide +kernel)) ggX1_chancesOfGold_X4_setTo
set_option maxRecDepth 20000 in
theorem ggX1_chancesOfGold_X4_passDay : GoodIn wsX1_chancesOfGold wsX4_passDay := goodIn_r _ [23, 24, 15, 16, 19, 25, 26, 27, 7, 28, 17, 29, 30, 31, 32, 33, 34, 35, 36, 37, 38, 39, 40, 41, 42, 43, 44, 14, 45, 46, 47, 48, 49, 50, 51, 18, 52, 53, 54, 55, 56, 57, 58, 59, 83, 84, 85, 86, 87, 88, 89, 90, 74, 75, 76, 77, 78, 79, 80, 81, 82] (by decide +kernel) (by decide +kernel)
set_option maxRecDepth 20000 in
theorem gX1_chancesOfGold_X4_passDay : GoodIn wsX1_chancesOfGold (wsV RX1 48 RX4 yX4_passDay wsX4_passDay) := goodIn_app (goodIn_of _ (by decide +kernel)) ggX1_chancesOfGold_X4_passDay
set_option maxRecDepth 20000 in
theorem ggX1_chancesOfGold_X1_weightOf : GoodIn wsX1_chancesOfGold wsX1_weightOf := goodIn_r _ [64, 1, 65, 66, 67, 68, 69, 70, 71, 72, 73, 74, 75, 76, 77, 78, 79, 80, 81, 82] (by decide +kernel) (by decide +kernel)
set_option maxRecDepth 20000 in
theorem gX1_chancesOfGold_X1_weightOf : GoodIn wsX1_chancesOfGold (wsV RX1 118 RX1 yX1_weightOf wsX1_weightOf) := goodIn_app (goodIn_of _ (by decide +kernel)) ggX1_chancesOfGold_X1_weightOf
theorem dX1_chancesOfGold_0 : decode cX1_chancesOfGold 0 = .ok (.iconst 0, 1) := by decide +kernel
theorem dX1_chancesOfGold_1 : decode cX1_chancesOfGold 1 = .ok (.istore 4, 2) := by decide +kernel
theorem dX1_chancesOfGold_3 : decode cX1_chancesOfGold 3 = .ok (.iconst 0, 1) := by decide +kernel
theorem dX1_chancesOfGold_4 : decode cX1_chancesOfGold 4 = .ok (.istore 5, 2) := by decide +kernel
theorem dX1_chancesOfGold_6 : decode cX1_chancesOfGold 6 = .ok (.iload 5, 2) := by decide +kernel
theorem dX1_chancesOfGold_8 : decode cX1_chancesOfGold 8 = .ok (.iconst 1, 1) := by decide +kernel
theorem dX1_chancesOfGold_9 : decode cX1_chancesOfGold 9 = .ok (.aload_n 0, 1) := by decide +kernel
theorem dX1_chancesOfGold_10 : decode cX1_chancesOfGold 10 = .ok (.getfield 9, 3) := by decide +kernel
theorem dX1_chancesOfGold_13 : decode cX1_chancesOfGold 13 = .ok (.getfield 109, 3) := by decide +kernel
theorem dX1_chancesOfGold_16 : decode cX1_chancesOfGold 16 = .ok (.ishl, 1) := by decide +kernel
theorem dX1_chancesOfGold_17 : decode cX1_chancesOfGold 17 = .ok (.if_icmp .ge 55, 3) := by decide +kernel
theorem dX1_chancesOfGold_20 : decode cX1_chancesOfGold 20 = .ok (.aload_n 0, 1) := by decide +kernel
theorem dX1_chancesOfGold_21 : decode cX1_chancesOfGold 21 = .ok (.getfield 19, 3) := by decide +kernel
theorem dX1_chancesOfGold_24 : decode cX1_chancesOfGold 24 = .ok (.aload_n 0, 1) := by decide +kernel
theorem dX1_chancesOfGold_25 : decode cX1_chancesOfGold 25 = .ok (.getfield 15, 3) := by decide +kernel
theorem dX1_chancesOfGold_28 : decode cX1_chancesOfGold 28 = .ok (.invokevirtual 35, 3) := by decide +kernel
theorem dX1_chancesOfGold_31 : decode cX1_chancesOfGold 31 = .ok (.aload_n 0, 1) := by decide +kernel
theorem dX1_chancesOfGold_32 : decode cX1_chancesOfGold 32 = .ok (.getfield 19, 3) := by decide +kernel
theorem dX1_chancesOfGold_35 : decode cX1_chancesOfGold 35 = .ok (.iload 5, 2) := by decide +kernel
theorem dX1_chancesOfGold_37 : decode cX1_chancesOfGold 37 = .ok (.invokevirtual 48, 3) := by decide +kernel
theorem dX1_chancesOfGold_40 : decode cX1_chancesOfGold 40 = .ok (.pop, 1) := by decide +kernel
theorem dX1_chancesOfGold_41 : decode cX1_chancesOfGold 41 = .ok (.aload_n 0, 1) := by decide +kernel
theorem dX1_chancesOfGold_42 : decode cX1_chancesOfGold 42 = .ok (.getfield 19, 3) := by decide +kernel
theorem dX1_chancesOfGold_45 : decode cX1_chancesOfGold 45 = .ok (.getfield 66, 3) := by decide +kernel
theorem dX1_chancesOfGold_48 : decode cX1_chancesOfGold 48 = .ok (.iload_n 1, 1) := by decide +kernel
theorem dX1_chancesOfGold_49 : decode cX1_chancesOfGold 49 = .ok (.iaload, 1) := by decide +kernel
theorem dX1_chancesOfGold_50 : decode cX1_chancesOfGold 50 = .ok (.iload_n 2, 1) := by decide +kernel
theorem dX1_chancesOfGold_51 : decode cX1_chancesOfGold 51 = .ok (.if_icmp .lt 15, 3) := by decide +kernel
theorem dX1_chancesOfGold_54 : decode cX1_chancesOfGold 54 = .ok (.iload 4, 2) := by decide +kernel
theorem dX1_chancesOfGold_56 : decode cX1_chancesOfGold 56 = .ok (.aload_n 0, 1) := by decide +kernel
theorem dX1_chancesOfGold_57 : decode cX1_chancesOfGold 57 = .ok (.iload 5, 2) := by decide +kernel
theorem dX1_chancesOfGold_59 : decode cX1_chancesOfGold 59 = .ok (.iload_n 3, 1) := by decide +kernel
theorem dX1_chancesOfGold_60 : decode cX1_chancesOfGold 60 = .ok (.invokevirtual 118, 3) := by decide +kernel
theorem dX1_chancesOfGold_63 : decode cX1_chancesOfGold 63 = .ok (.iadd, 1) := by decide +kernel
theorem dX1_chancesOfGold_64 : decode cX1_chancesOfGold 64 = .ok (.istore 4, 2) := by decide +kernel
theorem dX1_chancesOfGold_66 : decode cX1_chancesOfGold 66 = .ok (.iinc 5 1, 3) := by decide +kernel
theorem dX1_chancesOfGold_69 : decode cX1_chancesOfGold 69 = .ok (.goto (-63), 3) := by decide +kernel
theorem dX1_chancesOfGold_72 : decode cX1_chancesOfGold 72 = .ok (.iload 4, 2) := by decide +kernel
theorem dX1_chancesOfGold_74 : decode cX1_chancesOfGold 74 = .ok (.ireturn, 1) := by decide +kernel
theorem dX1_weightOf_0 : decode cX1_weightOf 0 = .ok (.iconst 1, 1) := by decide +kernel
theorem dX1_weightOf_1 : decode cX1_weightOf 1 = .ok (.istore_n 3, 1) := by decide +kernel
theorem dX1_weightOf_2 : decode cX1_weightOf 2 = .ok (.iconst 0, 1) := by decide +kernel
theorem dX1_weightOf_3 : decode cX1_weightOf 3 = .ok (.istore 4, 2) := by decide +kernel
theorem dX1_weightOf_5 : decode cX1_weightOf 5 = .ok (.iload 4, 2) := by decide +kernel
theorem dX1_weightOf_7 : decode cX1_weightOf 7 = .ok (.aload_n 0, 1) := by decide +kernel
theorem dX1_weightOf_8 : decode cX1_weightOf 8 = .ok (.getfield 9, 3) := by decide +kernel
theorem dX1_weightOf_11 : decode cX1_weightOf 11 = .ok (.getfield 109, 3) := by decide +kernel
theorem dX1_weightOf_14 : decode cX1_weightOf 14 = .ok (.if_icmp .ge 30, 3) := by decide +kernel
theorem dX1_weightOf_17 : decode cX1_weightOf 17 = .ok (.iload_n 3, 1) := by decide +kernel
theorem dX1_weightOf_18 : decode cX1_weightOf 18 = .ok (.iload_n 1, 1) := by decide +kernel
theorem dX1_weightOf_19 : decode cX1_weightOf 19 = .ok (.iload 4, 2) := by decide +kernel
theorem dX1_weightOf_21 : decode cX1_weightOf 21 = .ok (.ishr, 1) := by decide +kernel
theorem dX1_weightOf_22 : decode cX1_weightOf 22 = .ok (.iconst 1, 1) := by decide +kernel
theorem dX1_weightOf_23 : decode cX1_weightOf 23 = .ok (.iand, 1) := by decide +kernel
theorem dX1_weightOf_24 : decode cX1_weightOf 24 = .ok (.iconst 1, 1) := by decide +kernel
theorem dX1_weightOf_25 : decode cX1_weightOf 25 = .ok (.if_icmp .ne 10, 3) := by decide +kernel
theorem dX1_weightOf_28 : decode cX1_weightOf 28 = .ok (.bipush 10, 2) := by decide +kernel
theorem dX1_weightOf_30 : decode cX1_weightOf 30 = .ok (.iload_n 2, 1) := by decide +kernel
theorem dX1_weightOf_31 : decode cX1_weightOf 31 = .ok (.isub, 1) := by decide +kernel
theorem dX1_weightOf_32 : decode cX1_weightOf 32 = .ok (.goto 4, 3) := by decide +kernel
theorem dX1_weightOf_35 : decode cX1_weightOf 35 = .ok (.iload_n 2, 1) := by decide +kernel
theorem dX1_weightOf_36 : decode cX1_weightOf 36 = .ok (.imul, 1) := by decide +kernel
theorem dX1_weightOf_37 : decode cX1_weightOf 37 = .ok (.istore_n 3, 1) := by decide +kernel
theorem dX1_weightOf_38 : decode cX1_weightOf 38 = .ok (.iinc 4 1, 3) := by decide +kernel
theorem dX1_weightOf_41 : decode cX1_weightOf 41 = .ok (.goto (-36), 3) := by decide +kernel
theorem dX1_weightOf_44 : decode cX1_weightOf 44 = .ok (.iload_n 3, 1) := by decide +kernel
theorem dX1_weightOf_45 : decode cX1_weightOf 45 = .ok (.ireturn, 1) := by decide +kernel
