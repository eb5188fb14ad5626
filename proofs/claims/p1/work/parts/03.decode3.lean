theorem dX10_drawn_25 : decode cX10_drawn 25 = .ok (.iload_n 1, 1) := by decide +kernel
theorem dX10_drawn_26 : decode cX10_drawn 26 = .ok (.invokevirtual 237, 3) := by decide +kernel
theorem dX10_drawn_29 : decode cX10_drawn 29 = .ok (.ireturn, 1) := by decide +kernel
set_option maxRecDepth 20000 in
theorem ggX10_peak_X3_countWays : GoodIn wsX10_peak wsX3_countWays := goodIn_r _ [12, 13, 14, 15, 16, 11, 17, 18, 151, 152, 153, 154, 155, 156] (by decide +kernel) (by decide +kernel)
set_option maxRecDepth 20000 in
theorem gX10_peak_X3_countWays : GoodIn wsX10_peak (wsV RX10 230 RX3 yX3_countWays wsX3_countWays) := goodIn_app (goodIn_of _ (by decide +kernel)) ggX10_peak_X3_countWays
set_option maxRecDepth 20000 in
theorem ggX10_peak_X10_alive : GoodIn wsX10_peak wsX10_alive := goodIn_r _ [23, 1, 24, 25, 26, 27, 28, 11, 29, 13, 126, 127, 128, 129, 130, 131, 132, 133, 134, 135, 157, 158, 159, 160, 161, 162, 163, 164, 165, 166, 167, 168, 169, 170, 151, 152, 153, 154, 155, 156] (by decide +kernel) (by decide +kernel)
set_option maxRecDepth 20000 in
theorem gX10_peak_X10_alive : GoodIn wsX10_peak (wsV RX10 218 RX10 yX10_alive wsX10_alive) := goodIn_app (goodIn_of _ (by decide +kernel)) ggX10_peak_X10_alive
set_option maxRecDepth 20000 in
theorem ggX10_peak_X3_upAmong : GoodIn wsX10_peak wsX3_upAmong := goodIn_r _ [33, 13, 34, 35, 36, 11, 37, 38, 151, 152, 153, 154, 155, 156] (by decide +kernel) (by decide +kernel)
set_option maxRecDepth 20000 in
theorem gX10_peak_X3_upAmong : GoodIn wsX10_peak (wsV RX10 205 RX3 yX3_upAmong wsX3_upAmong) := goodIn_app (goodIn_of _ (by decide +kernel)) ggX10_peak_X3_upAmong
set_option maxRecDepth 20000 in
theorem ggX10_peak_X9_findPeaks : GoodIn wsX10_peak wsX9_findPeaks := goodIn_r _ [43, 44, 45, 46, 47, 48, 49, 50, 51, 52, 53, 54, 55, 56, 31, 32, 11, 33, 13, 34, 35, 36, 37, 38, 57, 58, 59, 42, 60, 61, 62, 63, 64, 65, 66, 67, 68, 15, 16, 17, 18, 69, 70, 71, 72, 73, 74, 75, 76, 77, 78, 79, 80, 81, 82, 83, 84, 85, 86, 87, 88, 89, 90, 91, 92, 93, 94, 95, 96, 97, 98, 99, 100, 101, 102, 103, 104, 105, 106, 107, 108, 109, 136, 137, 138, 139, 140, 141, 142, 143, 144, 145, 146, 147, 148, 149, 150, 151, 152, 153, 154, 155, 156] (by decide +kernel) (by decide +kernel)
set_option maxRecDepth 20000 in
theorem gX10_peak_X9_findPeaks : GoodIn wsX10_peak (wsV RX10 241 RX9 yX9_findPeaks wsX9_findPeaks) := goodIn_app (goodIn_of _ (by decide +kernel)) ggX10_peak_X9_findPeaks
set_option maxRecDepth 20000 in
theorem ggX10_peak_X10_followTimes : GoodIn wsX10_peak wsX10_followTimes := goodIn_r _ [113, 5, 1, 24, 114, 115, 62, 63, 64, 65, 66, 67, 68, 15, 16, 11, 17, 18, 116, 117, 118, 119, 73, 120, 121, 122, 123, 19, 20, 21, 22, 23, 25, 26, 27, 28, 29, 13, 124, 75, 76, 77, 78, 79, 80, 81, 82, 83, 84, 85, 86, 35, 36, 37, 38, 87, 88, 89, 90, 91, 54, 51, 55, 126, 127, 128, 129, 130, 131, 132, 133, 134, 135, 157, 158, 159, 160, 161, 162, 163, 164, 165, 166, 167, 168, 169, 170, 151, 152, 153, 154, 155, 156, 142, 143, 144, 145, 146, 147, 148, 149, 150] (by decide +kernel) (by decide +kernel)
set_option maxRecDepth 20000 in
theorem gX10_peak_X10_followTimes : GoodIn wsX10_peak (wsV RX10 208 RX10 yX10_followTimes wsX10_followTimes) := goodIn_app (goodIn_of _ (by decide +kernel)) ggX10_peak_X10_followTimes
set_option maxRecDepth 20000 in
theorem ggX10_peak_X0_findPeak : GoodIn wsX10_peak wsX0_findPeak := goodIn_r _ [95, 66, 80, 96, 85, 97, 98, 79, 99, 100, 101, 64, 102, 78, 68, 15, 16, 11, 17, 18, 151, 152, 153, 154, 155, 156, 142, 143, 144, 145, 146, 147, 148, 149, 150] (by decide +kernel) (by decide +kernel)
set_option maxRecDepth 20000 in
theorem gX10_peak_X0_findPeak : GoodIn wsX10_peak (wsV RX10 250 RX0 yX0_findPeak wsX0_findPeak) := goodIn_app (goodIn_of _ (by decide +kernel)) ggX10_peak_X0_findPeak
theorem dX10_peak_0 : decode cX10_peak 0 = .ok (.iload_n 1, 1) := by decide +kernel
theorem dX10_peak_1 : decode cX10_peak 1 = .ok (.ifCond .lt 8, 3) := by decide +kernel
theorem dX10_peak_4 : decode cX10_peak 4 = .ok (.iload_n 1, 1) := by decide +kernel
theorem dX10_peak_5 : decode cX10_peak 5 = .ok (.iconst 3, 1) := by decide +kernel
theorem dX10_peak_6 : decode cX10_peak 6 = .ok (.if_icmp .le 5, 3) := by decide +kernel
theorem dX10_peak_9 : decode cX10_peak 9 = .ok (.iconst (-1), 1) := by decide +kernel
theorem dX10_peak_10 : decode cX10_peak 10 = .ok (.ireturn, 1) := by decide +kernel
theorem dX10_peak_11 : decode cX10_peak 11 = .ok (.iload_n 1, 1) := by decide +kernel
theorem dX10_peak_12 : decode cX10_peak 12 = .ok (.iconst 2, 1) := by decide +kernel
theorem dX10_peak_13 : decode cX10_peak 13 = .ok (.if_icmp .lt 19, 3) := by decide +kernel
theorem dX10_peak_16 : decode cX10_peak 16 = .ok (.aload_n 0, 1) := by decide +kernel
theorem dX10_peak_17 : decode cX10_peak 17 = .ok (.getfield 56, 3) := by decide +kernel
theorem dX10_peak_20 : decode cX10_peak 20 = .ok (.invokevirtual 230, 3) := by decide +kernel
theorem dX10_peak_23 : decode cX10_peak 23 = .ok (.sipush 20000, 3) := by decide +kernel
theorem dX10_peak_26 : decode cX10_peak 26 = .ok (.if_icmp .le 6, 3) := by decide +kernel
theorem dX10_peak_29 : decode cX10_peak 29 = .ok (.bipush (-2), 2) := by decide +kernel
theorem dX10_peak_31 : decode cX10_peak 31 = .ok (.ireturn, 1) := by decide +kernel
theorem dX10_peak_32 : decode cX10_peak 32 = .ok (.aload_n 0, 1) := by decide +kernel
theorem dX10_peak_33 : decode cX10_peak 33 = .ok (.getfield 56, 3) := by decide +kernel
theorem dX10_peak_36 : decode cX10_peak 36 = .ok (.aload_n 0, 1) := by decide +kernel
theorem dX10_peak_37 : decode cX10_peak 37 = .ok (.invokevirtual 218, 3) := by decide +kernel
theorem dX10_peak_40 : decode cX10_peak 40 = .ok (.invokevirtual 205, 3) := by decide +kernel
theorem dX10_peak_43 : decode cX10_peak 43 = .ok (.ifCond .ne 6, 3) := by decide +kernel
theorem dX10_peak_46 : decode cX10_peak 46 = .ok (.bipush (-4), 2) := by decide +kernel
theorem dX10_peak_48 : decode cX10_peak 48 = .ok (.ireturn, 1) := by decide +kernel
theorem dX10_peak_49 : decode cX10_peak 49 = .ok (.iload_n 1, 1) := by decide +kernel
theorem dX10_peak_50 : decode cX10_peak 50 = .ok (.iconst 2, 1) := by decide +kernel
theorem dX10_peak_51 : decode cX10_peak 51 = .ok (.if_icmp .lt 41, 3) := by decide +kernel
theorem dX10_peak_54 : decode cX10_peak 54 = .ok (.aload_n 0, 1) := by decide +kernel
theorem dX10_peak_55 : decode cX10_peak 55 = .ok (.getfield 35, 3) := by decide +kernel
theorem dX10_peak_58 : decode cX10_peak 58 = .ok (.aload_n 0, 1) := by decide +kernel
theorem dX10_peak_59 : decode cX10_peak 59 = .ok (.getfield 56, 3) := by decide +kernel
theorem dX10_peak_62 : decode cX10_peak 62 = .ok (.aload_n 0, 1) := by decide +kernel
theorem dX10_peak_63 : decode cX10_peak 63 = .ok (.invokevirtual 218, 3) := by decide +kernel
theorem dX10_peak_66 : decode cX10_peak 66 = .ok (.invokevirtual 241, 3) := by decide +kernel
theorem dX10_peak_69 : decode cX10_peak 69 = .ok (.iload_n 1, 1) := by decide +kernel
theorem dX10_peak_70 : decode cX10_peak 70 = .ok (.iconst 2, 1) := by decide +kernel
theorem dX10_peak_71 : decode cX10_peak 71 = .ok (.if_icmp .ne 13, 3) := by decide +kernel
theorem dX10_peak_74 : decode cX10_peak 74 = .ok (.aload_n 0, 1) := by decide +kernel
theorem dX10_peak_75 : decode cX10_peak 75 = .ok (.getfield 35, 3) := by decide +kernel
theorem dX10_peak_78 : decode cX10_peak 78 = .ok (.getfield 244, 3) := by decide +kernel
theorem dX10_peak_81 : decode cX10_peak 81 = .ok (.goto 10, 3) := by decide +kernel
theorem dX10_peak_84 : decode cX10_peak 84 = .ok (.aload_n 0, 1) := by decide +kernel
theorem dX10_peak_85 : decode cX10_peak 85 = .ok (.getfield 35, 3) := by decide +kernel
theorem dX10_peak_88 : decode cX10_peak 88 = .ok (.getfield 247, 3) := by decide +kernel
theorem dX10_peak_91 : decode cX10_peak 91 = .ok (.ireturn, 1) := by decide +kernel
theorem dX10_peak_92 : decode cX10_peak 92 = .ok (.aload_n 0, 1) := by decide +kernel
theorem dX10_peak_93 : decode cX10_peak 93 = .ok (.invokevirtual 208, 3) := by decide +kernel
theorem dX10_peak_96 : decode cX10_peak 96 = .ok (.aload_n 0, 1) := by decide +kernel
theorem dX10_peak_97 : decode cX10_peak 97 = .ok (.getfield 26, 3) := by decide +kernel
theorem dX10_peak_100 : decode cX10_peak 100 = .ok (.aload_n 0, 1) := by decide +kernel
theorem dX10_peak_101 : decode cX10_peak 101 = .ok (.getfield 56, 3) := by decide +kernel
theorem dX10_peak_104 : decode cX10_peak 104 = .ok (.invokevirtual 250, 3) := by decide +kernel
theorem dX10_peak_107 : decode cX10_peak 107 = .ok (.iload_n 1, 1) := by decide +kernel
theorem dX10_peak_108 : decode cX10_peak 108 = .ok (.ifCond .ne 13, 3) := by decide +kernel
theorem dX10_peak_111 : decode cX10_peak 111 = .ok (.aload_n 0, 1) := by decide +kernel
theorem dX10_peak_112 : decode cX10_peak 112 = .ok (.getfield 26, 3) := by decide +kernel
theorem dX10_peak_115 : decode cX10_peak 115 = .ok (.getfield 253, 3) := by decide +kernel
theorem dX10_peak_118 : decode cX10_peak 118 = .ok (.goto 10, 3) := by decide +kernel
theorem dX10_peak_121 : decode cX10_peak 121 = .ok (.aload_n 0, 1) := by decide +kernel
theorem dX10_peak_122 : decode cX10_peak 122 = .ok (.getfield 26, 3) := by decide +kernel
theorem dX10_peak_125 : decode cX10_peak 125 = .ok (.getfield 256, 3) := by decide +kernel
theorem dX10_peak_128 : decode cX10_peak 128 = .ok (.ireturn, 1) := by decide +kernel
set_option maxRecDepth 20000 in
theorem ggX10_stagger_X10_alive : GoodIn wsX10_stagger wsX10_alive := goodIn_r _ [12, 1, 4, 13, 14, 15, 16, 17, 18, 19, 100, 101, 102, 103, 104, 105, 106, 107, 108, 109, 116, 117, 118, 119, 120, 121, 122, 123, 124, 125, 126, 127, 128, 129, 110, 111, 112, 113, 114, 115] (by decide +kernel) (by decide +kernel)
set_option maxRecDepth 20000 in
theorem gX10_stagger_X10_alive : GoodIn wsX10_stagger (wsV RX10 218 RX10 yX10_alive wsX10_alive) := goodIn_app (goodIn_of _ (by decide +kernel)) ggX10_stagger_X10_alive
set_option maxRecDepth 20000 in
theorem ggX10_stagger_X7_findRow : GoodIn wsX10_stagger wsX7_findRow := goodIn_r _ [24, 25, 26, 27, 28, 29, 30, 31, 32, 33, 34, 35, 36, 37, 38, 39, 40, 41, 42, 43, 44, 45, 46, 47, 48, 49, 50, 51, 52, 53, 54, 55, 56, 57, 58, 59, 60, 61, 62, 17, 63, 64, 65, 66, 67, 68, 69, 70, 71, 72, 73, 74, 75, 23, 76, 77, 78, 79, 80, 81, 82, 83, 84, 85, 86, 87, 88, 89, 90, 91, 92, 93, 94, 95, 96, 97, 98, 99, 130, 131, 132, 133, 134, 135, 136, 137, 138, 139, 140, 141, 142, 110, 111, 112, 113, 114, 115] (by decide +kernel) (by decide +kernel)
set_option maxRecDepth 20000 in
theorem gX10_stagger_X7_findRow : GoodIn wsX10_stagger (wsV RX10 259 RX7 yX7_findRow wsX7_findRow) := goodIn_app (goodIn_of _ (by decide +kernel)) ggX10_stagger_X7_findRow
theorem dX10_stagger_0 : decode cX10_stagger 0 = .ok (.iload_n 1, 1) := by decide +kernel
theorem dX10_stagger_1 : decode cX10_stagger 1 = .ok (.ifCond .eq 25, 3) := by decide +kernel
theorem dX10_stagger_4 : decode cX10_stagger 4 = .ok (.iload_n 1, 1) := by decide +kernel
theorem dX10_stagger_5 : decode cX10_stagger 5 = .ok (.bipush 10, 2) := by decide +kernel
theorem dX10_stagger_7 : decode cX10_stagger 7 = .ok (.if_icmp .lt 17, 3) := by decide +kernel
theorem dX10_stagger_10 : decode cX10_stagger 10 = .ok (.iload_n 1, 1) := by decide +kernel
theorem dX10_stagger_11 : decode cX10_stagger 11 = .ok (.bipush 10, 2) := by decide +kernel
theorem dX10_stagger_13 : decode cX10_stagger 13 = .ok (.aload_n 0, 1) := by decide +kernel
theorem dX10_stagger_14 : decode cX10_stagger 14 = .ok (.getfield 56, 3) := by decide +kernel
theorem dX10_stagger_17 : decode cX10_stagger 17 = .ok (.getfield 117, 3) := by decide +kernel
theorem dX10_stagger_20 : decode cX10_stagger 20 = .ok (.iadd, 1) := by decide +kernel
theorem dX10_stagger_21 : decode cX10_stagger 21 = .ok (.if_icmp .lt 5, 3) := by decide +kernel
theorem dX10_stagger_24 : decode cX10_stagger 24 = .ok (.iconst (-1), 1) := by decide +kernel
theorem dX10_stagger_25 : decode cX10_stagger 25 = .ok (.ireturn, 1) := by decide +kernel
theorem dX10_stagger_26 : decode cX10_stagger 26 = .ok (.aload_n 0, 1) := by decide +kernel
theorem dX10_stagger_27 : decode cX10_stagger 27 = .ok (.getfield 56, 3) := by decide +kernel
theorem dX10_stagger_30 : decode cX10_stagger 30 = .ok (.getfield 117, 3) := by decide +kernel
theorem dX10_stagger_33 : decode cX10_stagger 33 = .ok (.bipush 6, 2) := by decide +kernel
theorem dX10_stagger_35 : decode cX10_stagger 35 = .ok (.if_icmp .le 6, 3) := by decide +kernel
theorem dX10_stagger_38 : decode cX10_stagger 38 = .ok (.bipush (-2), 2) := by decide +kernel
theorem dX10_stagger_40 : decode cX10_stagger 40 = .ok (.ireturn, 1) := by decide +kernel
theorem dX10_stagger_41 : decode cX10_stagger 41 = .ok (.aload_n 0, 1) := by decide +kernel
theorem dX10_stagger_42 : decode cX10_stagger 42 = .ok (.getfield 42, 3) := by decide +kernel
theorem dX10_stagger_45 : decode cX10_stagger 45 = .ok (.aload_n 0, 1) := by decide +kernel
theorem dX10_stagger_46 : decode cX10_stagger 46 = .ok (.getfield 56, 3) := by decide +kernel
theorem dX10_stagger_49 : decode cX10_stagger 49 = .ok (.aload_n 0, 1) := by decide +kernel
theorem dX10_stagger_50 : decode cX10_stagger 50 = .ok (.invokevirtual 218, 3) := by decide +kernel
theorem dX10_stagger_53 : decode cX10_stagger 53 = .ok (.aload_n 0, 1) := by decide +kernel
theorem dX10_stagger_54 : decode cX10_stagger 54 = .ok (.getfield 19, 3) := by decide +kernel
theorem dX10_stagger_57 : decode cX10_stagger 57 = .ok (.getfield 150, 3) := by decide +kernel
theorem dX10_stagger_60 : decode cX10_stagger 60 = .ok (.invokevirtual 259, 3) := by decide +kernel
theorem dX10_stagger_63 : decode cX10_stagger 63 = .ok (.iload_n 1, 1) := by decide +kernel
theorem dX10_stagger_64 : decode cX10_stagger 64 = .ok (.ifCond .eq 15, 3) := by decide +kernel
theorem dX10_stagger_67 : decode cX10_stagger 67 = .ok (.aload_n 0, 1) := by decide +kernel
theorem dX10_stagger_68 : decode cX10_stagger 68 = .ok (.getfield 42, 3) := by decide +kernel
theorem dX10_stagger_71 : decode cX10_stagger 71 = .ok (.getfield 263, 3) := by decide +kernel
theorem dX10_stagger_74 : decode cX10_stagger 74 = .ok (.bipush (-4), 2) := by decide +kernel
theorem dX10_stagger_76 : decode cX10_stagger 76 = .ok (.if_icmp .ne 11, 3) := by decide +kernel
theorem dX10_stagger_79 : decode cX10_stagger 79 = .ok (.aload_n 0, 1) := by decide +kernel
theorem dX10_stagger_80 : decode cX10_stagger 80 = .ok (.getfield 42, 3) := by decide +kernel
theorem dX10_stagger_83 : decode cX10_stagger 83 = .ok (.getfield 263, 3) := by decide +kernel
theorem dX10_stagger_86 : decode cX10_stagger 86 = .ok (.ireturn, 1) := by decide +kernel
theorem dX10_stagger_87 : decode cX10_stagger 87 = .ok (.aload_n 0, 1) := by decide +kernel
theorem dX10_stagger_88 : decode cX10_stagger 88 = .ok (.getfield 42, 3) := by decide +kernel
theorem dX10_stagger_91 : decode cX10_stagger 91 = .ok (.getfield 266, 3) := by decide +kernel
theorem dX10_stagger_94 : decode cX10_stagger 94 = .ok (.iload_n 1, 1) := by decide +kernel
theorem dX10_stagger_95 : decode cX10_stagger 95 = .ok (.bipush 10, 2) := by decide +kernel
theorem dX10_stagger_97 : decode cX10_stagger 97 = .ok (.isub, 1) := by decide +kernel
theorem dX10_stagger_98 : decode cX10_stagger 98 = .ok (.iaload, 1) := by decide +kernel
theorem dX10_stagger_99 : decode cX10_stagger 99 = .ok (.ireturn, 1) := by decide +kernel
set_option maxRecDepth 20000 in
theorem ggX10_adopt_X10_alive : GoodIn wsX10_adopt wsX10_alive := goodIn_r _ [12, 1, 4, 13, 14, 15, 16, 17, 18, 19, 121, 122, 123, 124, 125, 126, 127, 128, 129, 130, 137, 138, 139, 140, 141, 142, 143, 144, 145, 146, 147, 148, 149, 150, 131, 132, 133, 134, 135, 136] (by decide +kernel) (by decide +kernel)
set_option maxRecDepth 20000 in
theorem gX10_adopt_X10_alive : GoodIn wsX10_adopt (wsV RX10 218 RX10 yX10_alive wsX10_alive) := goodIn_app (goodIn_of _ (by decide +kernel)) ggX10_adopt_X10_alive
set_option maxRecDepth 20000 in
theorem ggX10_adopt_X7_findRow : GoodIn wsX10_adopt wsX7_findRow := goodIn_r _ [24, 25, 26, 27, 28, 29, 30, 31, 32, 33, 34, 35, 36, 37, 38, 39, 40, 41, 42, 43, 44, 45, 46, 47, 48, 49, 50, 51, 52, 53, 54, 55, 56, 57, 58, 59, 60, 61, 62, 17, 63, 64, 65, 66, 67, 68, 69, 70, 71, 72, 73, 74, 75, 23, 76, 77, 78, 79, 80, 81, 82, 83, 84, 85, 86, 87, 88, 89, 90, 91, 92, 93, 94, 95, 96, 97, 98, 99, 151, 152, 153, 154, 155, 156, 157, 158, 159, 160, 161, 162, 163, 131, 132, 133, 134, 135, 136] (by decide +kernel) (by decide +kernel)
set_option maxRecDepth 20000 in
theorem gX10_adopt_X7_findRow : GoodIn wsX10_adopt (wsV RX10 259 RX7 yX7_findRow wsX7_findRow) := goodIn_app (goodIn_of _ (by decide +kernel)) ggX10_adopt_X7_findRow
set_option maxRecDepth 20000 in
theorem ggX10_adopt_X3_setWaits : GoodIn wsX10_adopt wsX3_setWaits := goodIn_r _ [103, 19, 104, 105, 106, 17, 107, 95, 131, 132, 133, 134, 135, 136] (by decide +kernel) (by decide +kernel)
set_option maxRecDepth 20000 in
theorem gX10_adopt_X3_setWaits : GoodIn wsX10_adopt (wsV RX10 269 RX3 yX3_setWaits wsX3_setWaits) := goodIn_app (goodIn_of _ (by decide +kernel)) ggX10_adopt_X3_setWaits
set_option maxRecDepth 20000 in
theorem ggX10_adopt_X10_forgetReckoned : GoodIn wsX10_adopt wsX10_forgetReckoned := goodIn_r _ [111, 112, 3, 113, 114, 115, 116, 117, 118, 119, 120, 121, 122, 123, 124, 125, 126, 127, 128, 129, 130, 151, 152, 153, 154, 164, 165, 166, 167, 168, 169] (by decide +kernel) (by decide +kernel)
set_option maxRecDepth 20000 in
theorem gX10_adopt_X10_forgetReckoned : GoodIn wsX10_adopt (wsV RX10 97 RX10 yX10_forgetReckoned wsX10_forgetReckoned) := goodIn_app (goodIn_of _ (by decide +kernel)) ggX10_adopt_X10_forgetReckoned
theorem dX10_adopt_0 : decode cX10_adopt 0 = .ok (.aload_n 0, 1) := by decide +kernel
theorem dX10_adopt_1 : decode cX10_adopt 1 = .ok (.getfield 56, 3) := by decide +kernel
theorem dX10_adopt_4 : decode cX10_adopt 4 = .ok (.getfield 117, 3) := by decide +kernel
theorem dX10_adopt_7 : decode cX10_adopt 7 = .ok (.bipush 6, 2) := by decide +kernel
theorem dX10_adopt_9 : decode cX10_adopt 9 = .ok (.if_icmp .le 6, 3) := by decide +kernel
theorem dX10_adopt_12 : decode cX10_adopt 12 = .ok (.bipush (-2), 2) := by decide +kernel
theorem dX10_adopt_14 : decode cX10_adopt 14 = .ok (.ireturn, 1) := by decide +kernel
theorem dX10_adopt_15 : decode cX10_adopt 15 = .ok (.aload_n 0, 1) := by decide +kernel
theorem dX10_adopt_16 : decode cX10_adopt 16 = .ok (.getfield 42, 3) := by decide +kernel
theorem dX10_adopt_19 : decode cX10_adopt 19 = .ok (.aload_n 0, 1) := by decide +kernel
theorem dX10_adopt_20 : decode cX10_adopt 20 = .ok (.getfield 56, 3) := by decide +kernel
theorem dX10_adopt_23 : decode cX10_adopt 23 = .ok (.aload_n 0, 1) := by decide +kernel
theorem dX10_adopt_24 : decode cX10_adopt 24 = .ok (.invokevirtual 218, 3) := by decide +kernel
theorem dX10_adopt_27 : decode cX10_adopt 27 = .ok (.aload_n 0, 1) := by decide +kernel
theorem dX10_adopt_28 : decode cX10_adopt 28 = .ok (.getfield 19, 3) := by decide +kernel
theorem dX10_adopt_31 : decode cX10_adopt 31 = .ok (.getfield 150, 3) := by decide +kernel
theorem dX10_adopt_34 : decode cX10_adopt 34 = .ok (.invokevirtual 259, 3) := by decide +kernel
theorem dX10_adopt_37 : decode cX10_adopt 37 = .ok (.aload_n 0, 1) := by decide +kernel
theorem dX10_adopt_38 : decode cX10_adopt 38 = .ok (.getfield 42, 3) := by decide +kernel
theorem dX10_adopt_41 : decode cX10_adopt 41 = .ok (.getfield 263, 3) := by decide +kernel
theorem dX10_adopt_44 : decode cX10_adopt 44 = .ok (.istore_n 1, 1) := by decide +kernel
theorem dX10_adopt_45 : decode cX10_adopt 45 = .ok (.iload_n 1, 1) := by decide +kernel
theorem dX10_adopt_46 : decode cX10_adopt 46 = .ok (.bipush (-4), 2) := by decide +kernel
theorem dX10_adopt_48 : decode cX10_adopt 48 = .ok (.if_icmp .eq 21, 3) := by decide +kernel
theorem dX10_adopt_51 : decode cX10_adopt 51 = .ok (.aload_n 0, 1) := by decide +kernel
theorem dX10_adopt_52 : decode cX10_adopt 52 = .ok (.getfield 56, 3) := by decide +kernel
theorem dX10_adopt_55 : decode cX10_adopt 55 = .ok (.aload_n 0, 1) := by decide +kernel
theorem dX10_adopt_56 : decode cX10_adopt 56 = .ok (.getfield 42, 3) := by decide +kernel
theorem dX10_adopt_59 : decode cX10_adopt 59 = .ok (.getfield 266, 3) := by decide +kernel
theorem dX10_adopt_62 : decode cX10_adopt 62 = .ok (.invokevirtual 269, 3) := by decide +kernel
theorem dX10_adopt_65 : decode cX10_adopt 65 = .ok (.aload_n 0, 1) := by decide +kernel
theorem dX10_adopt_66 : decode cX10_adopt 66 = .ok (.invokevirtual 97, 3) := by decide +kernel
theorem dX10_adopt_69 : decode cX10_adopt 69 = .ok (.iload_n 1, 1) := by decide +kernel
theorem dX10_adopt_70 : decode cX10_adopt 70 = .ok (.ireturn, 1) := by decide +kernel
set_option maxRecDepth 20000 in
theorem ggX10_down_X3_allRails : GoodIn wsX10_down wsX3_allRails := goodIn_r _ [6, 7, 34, 35, 36, 37, 38, 39] (by decide +kernel) (by decide +kernel)
set_option maxRecDepth 20000 in
theorem gX10_down_X3_allRails : GoodIn wsX10_down (wsV RX10 120 RX3 yX3_allRails wsX3_allRails) := goodIn_app (goodIn_of _ (by decide +kernel)) ggX10_down_X3_allRails
set_option maxRecDepth 20000 in
theorem ggX10_down_X10_alive : GoodIn wsX10_down wsX10_alive := goodIn_r _ [12, 1, 13, 14, 2, 3, 4, 5, 6, 7, 24, 25, 26, 27, 28, 29, 30, 31, 32, 33, 40, 41, 42, 43, 44, 45, 46, 47, 48, 49, 50, 51, 52, 53, 34, 35, 36, 37, 38, 39] (by decide +kernel) (by decide +kernel)
set_option maxRecDepth 20000 in
theorem gX10_down_X10_alive : GoodIn wsX10_down (wsV RX10 218 RX10 yX10_alive wsX10_alive) := goodIn_app (goodIn_of _ (by decide +kernel)) ggX10_down_X10_alive
set_option maxRecDepth 20000 in
theorem ggX10_down_X3_upAmong : GoodIn wsX10_down wsX3_upAmong := goodIn_r _ [18, 7, 19, 20, 21, 5, 22, 23, 34, 35, 36, 37, 38, 39] (by decide +kernel) (by decide +kernel)
set_option maxRecDepth 20000 in
theorem gX10_down_X3_upAmong : GoodIn wsX10_down (wsV RX10 205 RX3 yX3_upAmong wsX3_upAmong) := goodIn_app (goodIn_of _ (by decide +kernel)) ggX10_down_X3_upAmong
theorem dX10_down_0 : decode cX10_down 0 = .ok (.iload_n 1, 1) := by decide +kernel
theorem dX10_down_1 : decode cX10_down 1 = .ok (.aload_n 0, 1) := by decide +kernel
theorem dX10_down_2 : decode cX10_down 2 = .ok (.getfield 56, 3) := by decide +kernel
theorem dX10_down_5 : decode cX10_down 5 = .ok (.invokevirtual 120, 3) := by decide +kernel
theorem dX10_down_8 : decode cX10_down 8 = .ok (.iconst (-1), 1) := by decide +kernel
theorem dX10_down_9 : decode cX10_down 9 = .ok (.ixor, 1) := by decide +kernel
theorem dX10_down_10 : decode cX10_down 10 = .ok (.iand, 1) := by decide +kernel
theorem dX10_down_11 : decode cX10_down 11 = .ok (.ifCond .eq 5, 3) := by decide +kernel
theorem dX10_down_14 : decode cX10_down 14 = .ok (.iconst (-1), 1) := by decide +kernel
theorem dX10_down_15 : decode cX10_down 15 = .ok (.ireturn, 1) := by decide +kernel
theorem dX10_down_16 : decode cX10_down 16 = .ok (.aload_n 0, 1) := by decide +kernel
theorem dX10_down_17 : decode cX10_down 17 = .ok (.getfield 56, 3) := by decide +kernel
theorem dX10_down_20 : decode cX10_down 20 = .ok (.aload_n 0, 1) := by decide +kernel
theorem dX10_down_21 : decode cX10_down 21 = .ok (.invokevirtual 218, 3) := by decide +kernel
theorem dX10_down_24 : decode cX10_down 24 = .ok (.invokevirtual 205, 3) := by decide +kernel
theorem dX10_down_27 : decode cX10_down 27 = .ok (.aload_n 0, 1) := by decide +kernel
theorem dX10_down_28 : decode cX10_down 28 = .ok (.getfield 56, 3) := by decide +kernel
theorem dX10_down_31 : decode cX10_down 31 = .ok (.aload_n 0, 1) := by decide +kernel
theorem dX10_down_32 : decode cX10_down 32 = .ok (.invokevirtual 218, 3) := by decide +kernel
theorem dX10_down_35 : decode cX10_down 35 = .ok (.iload_n 1, 1) := by decide +kernel
theorem dX10_down_36 : decode cX10_down 36 = .ok (.iconst (-1), 1) := by decide +kernel
theorem dX10_down_37 : decode cX10_down 37 = .ok (.ixor, 1) := by decide +kernel
theorem dX10_down_38 : decode cX10_down 38 = .ok (.iand, 1) := by decide +kernel
theorem dX10_down_39 : decode cX10_down 39 = .ok (.invokevirtual 205, 3) := by decide +kernel
theorem dX10_down_42 : decode cX10_down 42 = .ok (.iconst (-1), 1) := by decide +kernel
theorem dX10_down_43 : decode cX10_down 43 = .ok (.ixor, 1) := by decide +kernel
theorem dX10_down_44 : decode cX10_down 44 = .ok (.iand, 1) := by decide +kernel
theorem dX10_down_45 : decode cX10_down 45 = .ok (.ireturn, 1) := by decide +kernel
set_option maxRecDepth 20000 in
theorem ggX10_cut_X3_hasRail : GoodIn wsX10_cut wsX3_hasRail := goodIn_r _ [6, 7, 59, 60, 61, 62, 63, 64] (by decide +kernel) (by decide +kernel)
set_option maxRecDepth 20000 in
theorem gX10_cut_X3_hasRail : GoodIn wsX10_cut (wsV RX10 100 RX3 yX3_hasRail wsX3_hasRail) := goodIn_app (goodIn_of _ (by decide +kernel)) ggX10_cut_X3_hasRail
set_option maxRecDepth 20000 in
theorem ggX10_cut_X10_canBeUp : GoodIn wsX10_cut wsX10_canBeUp := goodIn_r _ [12, 1, 13, 14, 15, 11, 16, 17, 18, 19, 20, 21, 5, 22, 7, 23, 24, 25, 26, 27, 28, 29, 30, 31, 49, 50, 51, 52, 53, 54, 55, 56, 57, 58, 65, 66, 67, 68, 69, 70, 71, 72, 73, 74, 75, 76, 77, 78, 59, 60, 61, 62, 63, 64] (by decide +kernel) (by decide +kernel)
set_option maxRecDepth 20000 in
theorem gX10_cut_X10_canBeUp : GoodIn wsX10_cut (wsV RX10 272 RX10 yX10_canBeUp wsX10_canBeUp) := goodIn_app (goodIn_of _ (by decide +kernel)) ggX10_cut_X10_canBeUp
set_option maxRecDepth 20000 in
theorem ggX10_cut_X10_alive : GoodIn wsX10_cut wsX10_alive := goodIn_r _ [16, 1, 17, 18, 19, 20, 21, 5, 22, 7, 49, 50, 51, 52, 53, 54, 55, 56, 57, 58, 65, 66, 67, 68, 69, 70, 71, 72, 73, 74, 75, 76, 77, 78, 59, 60, 61, 62, 63, 64] (by decide +kernel) (by decide +kernel)
set_option maxRecDepth 20000 in
theorem gX10_cut_X10_alive : GoodIn wsX10_cut (wsV RX10 218 RX10 yX10_alive wsX10_alive) := goodIn_app (goodIn_of _ (by decide +kernel)) ggX10_cut_X10_alive
set_option maxRecDepth 20000 in
theorem ggX10_cut_X1_fewestThatCut : GoodIn wsX10_cut wsX1_fewestThatCut := goodIn_r _ [35, 36, 20, 21, 5, 22, 7, 37, 38, 39, 40, 41, 42, 43, 44, 45, 34, 46, 47, 24, 25, 26, 27, 28, 29, 30, 31, 59, 60, 61, 62, 63, 64] (by decide +kernel) (by decide +kernel)
set_option maxRecDepth 20000 in
theorem gX10_cut_X1_fewestThatCut : GoodIn wsX10_cut (va_wsS RX10 275 yX1_fewestThatCut wsX1_fewestThatCut) := goodIn_app (goodIn_of _ (by decide +kernel)) ggX10_cut_X1_fewestThatCut
set_option maxRecDepth 20000 in
theorem ggX10_cut_J6_bitCount_0f7a4 : GoodIn wsX10_cut wsJ6_bitCount_0f7a4 := goodIn_r _ [40, 41, 42, 43] (by decide +kernel) (by decide +kernel)
set_option maxRecDepth 20000 in
theorem gX10_cut_J6_bitCount_0f7a4 : GoodIn wsX10_cut (va_wsS RX10 281 yJ6_bitCount_0f7a4 wsJ6_bitCount_0f7a4) := goodIn_app (goodIn_of _ (by decide +kernel)) ggX10_cut_J6_bitCount_0f7a4
theorem dX10_cut_0 : decode cX10_cut 0 = .ok (.aload_n 0, 1) := by decide +kernel
theorem dX10_cut_1 : decode cX10_cut 1 = .ok (.getfield 56, 3) := by decide +kernel
theorem dX10_cut_4 : decode cX10_cut 4 = .ok (.iload_n 1, 1) := by decide +kernel
theorem dX10_cut_5 : decode cX10_cut 5 = .ok (.invokevirtual 100, 3) := by decide +kernel
theorem dX10_cut_8 : decode cX10_cut 8 = .ok (.ifCond .eq 12, 3) := by decide +kernel
theorem dX10_cut_11 : decode cX10_cut 11 = .ok (.iload_n 2, 1) := by decide +kernel
theorem dX10_cut_12 : decode cX10_cut 12 = .ok (.ifCond .lt 8, 3) := by decide +kernel
theorem dX10_cut_15 : decode cX10_cut 15 = .ok (.iload_n 2, 1) := by decide +kernel
theorem dX10_cut_16 : decode cX10_cut 16 = .ok (.iconst 1, 1) := by decide +kernel
theorem dX10_cut_17 : decode cX10_cut 17 = .ok (.if_icmp .le 5, 3) := by decide +kernel
theorem dX10_cut_20 : decode cX10_cut 20 = .ok (.iconst (-1), 1) := by decide +kernel
theorem dX10_cut_21 : decode cX10_cut 21 = .ok (.ireturn, 1) := by decide +kernel
theorem dX10_cut_22 : decode cX10_cut 22 = .ok (.aload_n 0, 1) := by decide +kernel
theorem dX10_cut_23 : decode cX10_cut 23 = .ok (.iload_n 1, 1) := by decide +kernel
theorem dX10_cut_24 : decode cX10_cut 24 = .ok (.invokevirtual 272, 3) := by decide +kernel
theorem dX10_cut_27 : decode cX10_cut 27 = .ok (.ifCond .ne 6, 3) := by decide +kernel
theorem dX10_cut_30 : decode cX10_cut 30 = .ok (.bipush (-2), 2) := by decide +kernel
theorem dX10_cut_32 : decode cX10_cut 32 = .ok (.ireturn, 1) := by decide +kernel
theorem dX10_cut_33 : decode cX10_cut 33 = .ok (.aload_n 0, 1) := by decide +kernel
theorem dX10_cut_34 : decode cX10_cut 34 = .ok (.getfield 56, 3) := by decide +kernel
theorem dX10_cut_37 : decode cX10_cut 37 = .ok (.aload_n 0, 1) := by decide +kernel
theorem dX10_cut_38 : decode cX10_cut 38 = .ok (.invokevirtual 218, 3) := by decide +kernel
theorem dX10_cut_41 : decode cX10_cut 41 = .ok (.iload_n 1, 1) := by decide +kernel
theorem dX10_cut_42 : decode cX10_cut 42 = .ok (.invokestatic 275, 3) := by decide +kernel
theorem dX10_cut_45 : decode cX10_cut 45 = .ok (.istore_n 3, 1) := by decide +kernel
theorem dX10_cut_46 : decode cX10_cut 46 = .ok (.iload_n 3, 1) := by decide +kernel
theorem dX10_cut_47 : decode cX10_cut 47 = .ok (.ifCond .ne 6, 3) := by decide +kernel
theorem dX10_cut_50 : decode cX10_cut 50 = .ok (.bipush (-4), 2) := by decide +kernel
theorem dX10_cut_52 : decode cX10_cut 52 = .ok (.ireturn, 1) := by decide +kernel
theorem dX10_cut_53 : decode cX10_cut 53 = .ok (.iload_n 2, 1) := by decide +kernel
theorem dX10_cut_54 : decode cX10_cut 54 = .ok (.ifCond .ne 10, 3) := by decide +kernel
theorem dX10_cut_57 : decode cX10_cut 57 = .ok (.iload_n 3, 1) := by decide +kernel
theorem dX10_cut_58 : decode cX10_cut 58 = .ok (.invokestatic 281, 3) := by decide +kernel
theorem dX10_cut_61 : decode cX10_cut 61 = .ok (.goto 4, 3) := by decide +kernel
theorem dX10_cut_64 : decode cX10_cut 64 = .ok (.iload_n 3, 1) := by decide +kernel
theorem dX10_cut_65 : decode cX10_cut 65 = .ok (.ireturn, 1) := by decide +kernel
set_option maxRecDepth 20000 in
theorem ggX10_need_X3_hasRail : GoodIn wsX10_need wsX3_hasRail := goodIn_r _ [6, 7, 59, 60, 61, 62, 63, 64] (by decide +kernel) (by decide +kernel)
set_option maxRecDepth 20000 in
theorem gX10_need_X3_hasRail : GoodIn wsX10_need (wsV RX10 100 RX3 yX3_hasRail wsX3_hasRail) := goodIn_app (goodIn_of _ (by decide +kernel)) ggX10_need_X3_hasRail
set_option maxRecDepth 20000 in
theorem ggX10_need_X10_canBeUp : GoodIn wsX10_need wsX10_canBeUp := goodIn_r _ [12, 1, 13, 14, 15, 11, 16, 17, 18, 19, 20, 21, 5, 22, 7, 23, 24, 25, 26, 27, 28, 29, 30, 31, 49, 50, 51, 52, 53, 54, 55, 56, 57, 58, 65, 66, 67, 68, 69, 70, 71, 72, 73, 74, 75, 76, 77, 78, 59, 60, 61, 62, 63, 64] (by decide +kernel) (by decide +kernel)
set_option maxRecDepth 20000 in
theorem gX10_need_X10_canBeUp : GoodIn wsX10_need (wsV RX10 272 RX10 yX10_canBeUp wsX10_canBeUp) := goodIn_app (goodIn_of _ (by decide +kernel)) ggX10_need_X10_canBeUp
set_option maxRecDepth 20000 in
theorem ggX10_need_X10_alive : GoodIn wsX10_need wsX10_alive := goodIn_r _ [16, 1, 17, 18, 19, 20, 21, 5, 22, 7, 49, 50, 51, 52, 53, 54, 55, 56, 57, 58, 65, 66, 67, 68, 69, 70, 71, 72, 73, 74, 75, 76, 77, 78, 59, 60, 61, 62, 63, 64] (by decide +kernel) (by decide +kernel)
set_option maxRecDepth 20000 in
theorem gX10_need_X10_alive : GoodIn wsX10_need (wsV RX10 218 RX10 yX10_alive wsX10_alive) := goodIn_app (goodIn_of _ (by decide +kernel)) ggX10_need_X10_alive
set_option maxRecDepth 20000 in
theorem ggX10_need_X1_fewestThatDo : GoodIn wsX10_need wsX1_fewestThatDo := goodIn_r _ [35, 36, 20, 21, 5, 22, 7, 37, 38, 39, 40, 41, 42, 43, 44, 45, 34, 46, 47, 24, 25, 26, 27, 28, 29, 30, 31, 59, 60, 61, 62, 63, 64] (by decide +kernel) (by decide +kernel)
set_option maxRecDepth 20000 in
theorem gX10_need_X1_fewestThatDo : GoodIn wsX10_need (va_wsS RX10 286 yX1_fewestThatDo wsX1_fewestThatDo) := goodIn_app (goodIn_of _ (by decide +kernel)) ggX10_need_X1_fewestThatDo
set_option maxRecDepth 20000 in
theorem ggX10_need_J6_bitCount_0f7a4 : GoodIn wsX10_need wsJ6_bitCount_0f7a4 := goodIn_r _ [40, 41, 42, 43] (by decide +kernel) (by decide +kernel)
set_option maxRecDepth 20000 in
theorem gX10_need_J6_bitCount_0f7a4 : GoodIn wsX10_need (va_wsS RX10 281 yJ6_bitCount_0f7a4 wsJ6_bitCount_0f7a4) := goodIn_app (goodIn_of _ (by decide +kernel)) ggX10_need_J6_bitCount_0f7a4
theorem dX10_need_0 : decode cX10_need 0 = .ok (.aload_n 0, 1) := by decide +kernel
theorem dX10_need_1 : decode cX10_need 1 = .ok (.getfield 56, 3) := by decide +kernel
theorem dX10_need_4 : decode cX10_need 4 = .ok (.iload_n 1, 1) := by decide +kernel
theorem dX10_need_5 : decode cX10_need 5 = .ok (.invokevirtual 100, 3) := by decide +kernel
theorem dX10_need_8 : decode cX10_need 8 = .ok (.ifCond .eq 12, 3) := by decide +kernel
theorem dX10_need_11 : decode cX10_need 11 = .ok (.iload_n 2, 1) := by decide +kernel
theorem dX10_need_12 : decode cX10_need 12 = .ok (.ifCond .lt 8, 3) := by decide +kernel
theorem dX10_need_15 : decode cX10_need 15 = .ok (.iload_n 2, 1) := by decide +kernel
theorem dX10_need_16 : decode cX10_need 16 = .ok (.iconst 1, 1) := by decide +kernel
theorem dX10_need_17 : decode cX10_need 17 = .ok (.if_icmp .le 5, 3) := by decide +kernel
theorem dX10_need_20 : decode cX10_need 20 = .ok (.iconst (-1), 1) := by decide +kernel
theorem dX10_need_21 : decode cX10_need 21 = .ok (.ireturn, 1) := by decide +kernel
theorem dX10_need_22 : decode cX10_need 22 = .ok (.aload_n 0, 1) := by decide +kernel
theorem dX10_need_23 : decode cX10_need 23 = .ok (.iload_n 1, 1) := by decide +kernel
theorem dX10_need_24 : decode cX10_need 24 = .ok (.invokevirtual 272, 3) := by decide +kernel
theorem dX10_need_27 : decode cX10_need 27 = .ok (.ifCond .ne 6, 3) := by decide +kernel
theorem dX10_need_30 : decode cX10_need 30 = .ok (.bipush (-2), 2) := by decide +kernel
theorem dX10_need_32 : decode cX10_need 32 = .ok (.ireturn, 1) := by decide +kernel
theorem dX10_need_33 : decode cX10_need 33 = .ok (.aload_n 0, 1) := by decide +kernel
theorem dX10_need_34 : decode cX10_need 34 = .ok (.getfield 56, 3) := by decide +kernel
theorem dX10_need_37 : decode cX10_need 37 = .ok (.aload_n 0, 1) := by decide +kernel
theorem dX10_need_38 : decode cX10_need 38 = .ok (.invokevirtual 218, 3) := by decide +kernel
theorem dX10_need_41 : decode cX10_need 41 = .ok (.iload_n 1, 1) := by decide +kernel
theorem dX10_need_42 : decode cX10_need 42 = .ok (.invokestatic 286, 3) := by decide +kernel
theorem dX10_need_45 : decode cX10_need 45 = .ok (.istore_n 3, 1) := by decide +kernel
theorem dX10_need_46 : decode cX10_need 46 = .ok (.iload_n 2, 1) := by decide +kernel
theorem dX10_need_47 : decode cX10_need 47 = .ok (.ifCond .ne 10, 3) := by decide +kernel
theorem dX10_need_50 : decode cX10_need 50 = .ok (.iload_n 3, 1) := by decide +kernel
theorem dX10_need_51 : decode cX10_need 51 = .ok (.invokestatic 281, 3) := by decide +kernel
theorem dX10_need_54 : decode cX10_need 54 = .ok (.goto 4, 3) := by decide +kernel
theorem dX10_need_57 : decode cX10_need 57 = .ok (.iload_n 3, 1) := by decide +kernel
theorem dX10_need_58 : decode cX10_need 58 = .ok (.ireturn, 1) := by decide +kernel
set_option maxRecDepth 20000 in
theorem ggX10_must_X3_hasRail : GoodIn wsX10_must wsX3_hasRail := goodIn_r _ [6, 7, 51, 52, 53, 54, 55, 56] (by decide +kernel) (by decide +kernel)
set_option maxRecDepth 20000 in
theorem gX10_must_X3_hasRail : GoodIn wsX10_must (wsV RX10 100 RX3 yX3_hasRail wsX3_hasRail) := goodIn_app (goodIn_of _ (by decide +kernel)) ggX10_must_X3_hasRail
set_option maxRecDepth 20000 in
theorem ggX10_must_X10_canBeUp : GoodIn wsX10_must wsX10_canBeUp := goodIn_r _ [12, 1, 13, 14, 15, 11, 16, 17, 18, 19, 20, 21, 5, 22, 7, 23, 24, 25, 26, 27, 28, 29, 30, 31, 41, 42, 43, 44, 45, 46, 47, 48, 49, 50, 57, 58, 59, 60, 61, 62, 63, 64, 65, 66, 67, 68, 69, 70, 51, 52, 53, 54, 55, 56] (by decide +kernel) (by decide +kernel)
set_option maxRecDepth 20000 in
theorem gX10_must_X10_canBeUp : GoodIn wsX10_must (wsV RX10 272 RX10 yX10_canBeUp wsX10_canBeUp) := goodIn_app (goodIn_of _ (by decide +kernel)) ggX10_must_X10_canBeUp
set_option maxRecDepth 20000 in
theorem ggX10_must_X10_alive : GoodIn wsX10_must wsX10_alive := goodIn_r _ [16, 1, 17, 18, 19, 20, 21, 5, 22, 7, 41, 42, 43, 44, 45, 46, 47, 48, 49, 50, 57, 58, 59, 60, 61, 62, 63, 64, 65, 66, 67, 68, 69, 70, 51, 52, 53, 54, 55, 56] (by decide +kernel) (by decide +kernel)
set_option maxRecDepth 20000 in
theorem gX10_must_X10_alive : GoodIn wsX10_must (wsV RX10 218 RX10 yX10_alive wsX10_alive) := goodIn_app (goodIn_of _ (by decide +kernel)) ggX10_must_X10_alive
set_option maxRecDepth 20000 in
theorem ggX10_must_X1_neverWithout : GoodIn wsX10_must wsX1_neverWithout := goodIn_r _ [35, 36, 37, 38, 34, 39, 40, 24, 25, 5, 26, 7, 27, 28, 29, 30, 31, 51, 52, 53, 54, 55, 56] (by decide +kernel) (by decide +kernel)
set_option maxRecDepth 20000 in
theorem gX10_must_X1_neverWithout : GoodIn wsX10_must (va_wsS RX10 289 yX1_neverWithout wsX1_neverWithout) := goodIn_app (goodIn_of _ (by decide +kernel)) ggX10_must_X1_neverWithout
theorem dX10_must_0 : decode cX10_must 0 = .ok (.aload_n 0, 1) := by decide +kernel
theorem dX10_must_1 : decode cX10_must 1 = .ok (.getfield 56, 3) := by decide +kernel
theorem dX10_must_4 : decode cX10_must 4 = .ok (.iload_n 1, 1) := by decide +kernel
theorem dX10_must_5 : decode cX10_must 5 = .ok (.invokevirtual 100, 3) := by decide +kernel
theorem dX10_must_8 : decode cX10_must 8 = .ok (.ifCond .ne 5, 3) := by decide +kernel
theorem dX10_must_11 : decode cX10_must 11 = .ok (.iconst (-1), 1) := by decide +kernel
theorem dX10_must_12 : decode cX10_must 12 = .ok (.ireturn, 1) := by decide +kernel
theorem dX10_must_13 : decode cX10_must 13 = .ok (.aload_n 0, 1) := by decide +kernel
theorem dX10_must_14 : decode cX10_must 14 = .ok (.iload_n 1, 1) := by decide +kernel
theorem dX10_must_15 : decode cX10_must 15 = .ok (.invokevirtual 272, 3) := by decide +kernel
theorem dX10_must_18 : decode cX10_must 18 = .ok (.ifCond .ne 6, 3) := by decide +kernel
theorem dX10_must_21 : decode cX10_must 21 = .ok (.bipush (-2), 2) := by decide +kernel
theorem dX10_must_23 : decode cX10_must 23 = .ok (.ireturn, 1) := by decide +kernel
theorem dX10_must_24 : decode cX10_must 24 = .ok (.aload_n 0, 1) := by decide +kernel
theorem dX10_must_25 : decode cX10_must 25 = .ok (.getfield 56, 3) := by decide +kernel
theorem dX10_must_28 : decode cX10_must 28 = .ok (.aload_n 0, 1) := by decide +kernel
theorem dX10_must_29 : decode cX10_must 29 = .ok (.invokevirtual 218, 3) := by decide +kernel
theorem dX10_must_32 : decode cX10_must 32 = .ok (.iload_n 1, 1) := by decide +kernel
theorem dX10_must_33 : decode cX10_must 33 = .ok (.invokestatic 289, 3) := by decide +kernel
theorem dX10_must_36 : decode cX10_must 36 = .ok (.ireturn, 1) := by decide +kernel
set_option maxRecDepth 20000 in
theorem ggX10_seen_X3_allRails : GoodIn wsX10_seen wsX3_allRails := goodIn_r _ [6, 7, 33, 34, 35, 36, 37, 38] (by decide +kernel) (by decide +kernel)
set_option maxRecDepth 20000 in
theorem gX10_seen_X3_allRails : GoodIn wsX10_seen (wsV RX10 120 RX3 yX3_allRails wsX3_allRails) := goodIn_app (goodIn_of _ (by decide +kernel)) ggX10_seen_X3_allRails
set_option maxRecDepth 20000 in
theorem ggX10_seen_X1_thatExplain : GoodIn wsX10_seen wsX1_thatExplain := goodIn_r _ [11, 12, 13, 3, 4, 5, 6, 7, 14, 15, 16, 17, 18, 19, 20, 21, 22, 33, 34, 35, 36, 37, 38] (by decide +kernel) (by decide +kernel)
set_option maxRecDepth 20000 in
theorem gX10_seen_X1_thatExplain : GoodIn wsX10_seen (va_wsS RX10 292 yX1_thatExplain wsX1_thatExplain) := goodIn_app (goodIn_of _ (by decide +kernel)) ggX10_seen_X1_thatExplain
theorem dX10_seen_0 : decode cX10_seen 0 = .ok (.iload_n 1, 1) := by decide +kernel
theorem dX10_seen_1 : decode cX10_seen 1 = .ok (.aload_n 0, 1) := by decide +kernel
theorem dX10_seen_2 : decode cX10_seen 2 = .ok (.getfield 56, 3) := by decide +kernel
theorem dX10_seen_5 : decode cX10_seen 5 = .ok (.invokevirtual 120, 3) := by decide +kernel
theorem dX10_seen_8 : decode cX10_seen 8 = .ok (.iconst (-1), 1) := by decide +kernel
theorem dX10_seen_9 : decode cX10_seen 9 = .ok (.ixor, 1) := by decide +kernel
theorem dX10_seen_10 : decode cX10_seen 10 = .ok (.iand, 1) := by decide +kernel
theorem dX10_seen_11 : decode cX10_seen 11 = .ok (.ifCond .eq 5, 3) := by decide +kernel
theorem dX10_seen_14 : decode cX10_seen 14 = .ok (.iconst (-1), 1) := by decide +kernel
theorem dX10_seen_15 : decode cX10_seen 15 = .ok (.ireturn, 1) := by decide +kernel
theorem dX10_seen_16 : decode cX10_seen 16 = .ok (.aload_n 0, 1) := by decide +kernel
theorem dX10_seen_17 : decode cX10_seen 17 = .ok (.getfield 56, 3) := by decide +kernel
theorem dX10_seen_20 : decode cX10_seen 20 = .ok (.iload_n 1, 1) := by decide +kernel
theorem dX10_seen_21 : decode cX10_seen 21 = .ok (.invokestatic 292, 3) := by decide +kernel
theorem dX10_seen_24 : decode cX10_seen 24 = .ok (.ireturn, 1) := by decide +kernel
set_option maxRecDepth 20000 in
theorem ggX10_sheet_X6_hasPlace : GoodIn wsX10_sheet wsX6_hasPlace := goodIn_r _ [5] (by decide +kernel) (by decide +kernel)
set_option maxRecDepth 20000 in
theorem gX10_sheet_X6_hasPlace : GoodIn wsX10_sheet (va_wsS RX10 295 yX6_hasPlace wsX6_hasPlace) := goodIn_app (goodIn_of _ (by decide +kernel)) ggX10_sheet_X6_hasPlace
set_option maxRecDepth 20000 in
theorem ggX10_sheet_X6_isLane : GoodIn wsX10_sheet wsX6_isLane := goodIn_r _ [8] (by decide +kernel) (by decide +kernel)
set_option maxRecDepth 20000 in
theorem gX10_sheet_X6_isLane : GoodIn wsX10_sheet (va_wsS RX10 298 yX6_isLane wsX6_isLane) := goodIn_app (goodIn_of _ (by decide +kernel)) ggX10_sheet_X6_isLane
set_option maxRecDepth 20000 in
theorem ggX10_sheet_X6_renew : GoodIn wsX10_sheet wsX6_renew := goodIn_r _ [12, 13, 14, 15, 16, 17, 18, 19, 30, 31, 32] (by decide +kernel) (by decide +kernel)
set_option maxRecDepth 20000 in
theorem gX10_sheet_X6_renew : GoodIn wsX10_sheet (wsV RX10 301 RX6 yX6_renew wsX6_renew) := goodIn_app (goodIn_of _ (by decide +kernel)) ggX10_sheet_X6_renew
theorem dX10_sheet_0 : decode cX10_sheet 0 = .ok (.iload_n 1, 1) := by decide +kernel
theorem dX10_sheet_1 : decode cX10_sheet 1 = .ok (.invokestatic 295, 3) := by decide +kernel
theorem dX10_sheet_4 : decode cX10_sheet 4 = .ok (.ifCond .eq 16, 3) := by decide +kernel
theorem dX10_sheet_7 : decode cX10_sheet 7 = .ok (.iload_n 2, 1) := by decide +kernel
theorem dX10_sheet_8 : decode cX10_sheet 8 = .ok (.invokestatic 298, 3) := by decide +kernel
theorem dX10_sheet_11 : decode cX10_sheet 11 = .ok (.ifCond .eq 9, 3) := by decide +kernel
theorem dX10_sheet_14 : decode cX10_sheet 14 = .ok (.iload_n 3, 1) := by decide +kernel
theorem dX10_sheet_15 : decode cX10_sheet 15 = .ok (.bipush 40, 2) := by decide +kernel
theorem dX10_sheet_17 : decode cX10_sheet 17 = .ok (.if_icmp .le 5, 3) := by decide +kernel
theorem dX10_sheet_20 : decode cX10_sheet 20 = .ok (.iconst (-1), 1) := by decide +kernel
theorem dX10_sheet_21 : decode cX10_sheet 21 = .ok (.ireturn, 1) := by decide +kernel
theorem dX10_sheet_22 : decode cX10_sheet 22 = .ok (.iload_n 3, 1) := by decide +kernel
theorem dX10_sheet_23 : decode cX10_sheet 23 = .ok (.ifCond .ge 6, 3) := by decide +kernel
theorem dX10_sheet_26 : decode cX10_sheet 26 = .ok (.bipush (-14), 2) := by decide +kernel
theorem dX10_sheet_28 : decode cX10_sheet 28 = .ok (.ireturn, 1) := by decide +kernel
theorem dX10_sheet_29 : decode cX10_sheet 29 = .ok (.aload_n 0, 1) := by decide +kernel
theorem dX10_sheet_30 : decode cX10_sheet 30 = .ok (.getfield 49, 3) := by decide +kernel
theorem dX10_sheet_33 : decode cX10_sheet 33 = .ok (.iload_n 1, 1) := by decide +kernel
theorem dX10_sheet_34 : decode cX10_sheet 34 = .ok (.iload_n 2, 1) := by decide +kernel
theorem dX10_sheet_35 : decode cX10_sheet 35 = .ok (.iload_n 3, 1) := by decide +kernel
theorem dX10_sheet_36 : decode cX10_sheet 36 = .ok (.invokevirtual 301, 3) := by decide +kernel
theorem dX10_sheet_39 : decode cX10_sheet 39 = .ok (.iconst 1, 1) := by decide +kernel
theorem dX10_sheet_40 : decode cX10_sheet 40 = .ok (.ireturn, 1) := by decide +kernel
set_option maxRecDepth 20000 in
theorem ggX10_lay_X6_hasPlace : GoodIn wsX10_lay wsX6_hasPlace := goodIn_r _ [6] (by decide +kernel) (by decide +kernel)
set_option maxRecDepth 20000 in
theorem gX10_lay_X6_hasPlace : GoodIn wsX10_lay (va_wsS RX10 295 yX6_hasPlace wsX6_hasPlace) := goodIn_app (goodIn_of _ (by decide +kernel)) ggX10_lay_X6_hasPlace
set_option maxRecDepth 20000 in
theorem ggX10_lay_X6_put : GoodIn wsX10_lay wsX6_put := goodIn_r _ [10, 11, 12, 23, 24, 25] (by decide +kernel) (by decide +kernel)
set_option maxRecDepth 20000 in
theorem gX10_lay_X6_put : GoodIn wsX10_lay (wsV RX10 308 RX6 yX6_put wsX6_put) := goodIn_app (goodIn_of _ (by decide +kernel)) ggX10_lay_X6_put
theorem dX10_lay_0 : decode cX10_lay 0 = .ok (.iload_n 1, 1) := by decide +kernel
theorem dX10_lay_1 : decode cX10_lay 1 = .ok (.invokestatic 295, 3) := by decide +kernel
theorem dX10_lay_4 : decode cX10_lay 4 = .ok (.ifCond .ne 5, 3) := by decide +kernel
theorem dX10_lay_7 : decode cX10_lay 7 = .ok (.iconst (-1), 1) := by decide +kernel
theorem dX10_lay_8 : decode cX10_lay 8 = .ok (.ireturn, 1) := by decide +kernel
theorem dX10_lay_9 : decode cX10_lay 9 = .ok (.aload_n 0, 1) := by decide +kernel
theorem dX10_lay_10 : decode cX10_lay 10 = .ok (.getfield 49, 3) := by decide +kernel
theorem dX10_lay_13 : decode cX10_lay 13 = .ok (.getfield 305, 3) := by decide +kernel
theorem dX10_lay_16 : decode cX10_lay 16 = .ok (.iload_n 1, 1) := by decide +kernel
theorem dX10_lay_17 : decode cX10_lay 17 = .ok (.iaload, 1) := by decide +kernel
theorem dX10_lay_18 : decode cX10_lay 18 = .ok (.bipush (-4), 2) := by decide +kernel
theorem dX10_lay_20 : decode cX10_lay 20 = .ok (.if_icmp .ne 6, 3) := by decide +kernel
theorem dX10_lay_23 : decode cX10_lay 23 = .ok (.bipush (-11), 2) := by decide +kernel
theorem dX10_lay_25 : decode cX10_lay 25 = .ok (.ireturn, 1) := by decide +kernel
theorem dX10_lay_26 : decode cX10_lay 26 = .ok (.iload_n 2, 1) := by decide +kernel
theorem dX10_lay_27 : decode cX10_lay 27 = .ok (.ifCond .lt 16, 3) := by decide +kernel
theorem dX10_lay_30 : decode cX10_lay 30 = .ok (.iload_n 2, 1) := by decide +kernel
theorem dX10_lay_31 : decode cX10_lay 31 = .ok (.aload_n 0, 1) := by decide +kernel
theorem dX10_lay_32 : decode cX10_lay 32 = .ok (.getfield 49, 3) := by decide +kernel
theorem dX10_lay_35 : decode cX10_lay 35 = .ok (.getfield 305, 3) := by decide +kernel
theorem dX10_lay_38 : decode cX10_lay 38 = .ok (.iload_n 1, 1) := by decide +kernel
theorem dX10_lay_39 : decode cX10_lay 39 = .ok (.iaload, 1) := by decide +kernel
theorem dX10_lay_40 : decode cX10_lay 40 = .ok (.if_icmp .lt 6, 3) := by decide +kernel
theorem dX10_lay_43 : decode cX10_lay 43 = .ok (.bipush (-12), 2) := by decide +kernel
theorem dX10_lay_45 : decode cX10_lay 45 = .ok (.ireturn, 1) := by decide +kernel
theorem dX10_lay_46 : decode cX10_lay 46 = .ok (.aload_n 0, 1) := by decide +kernel
theorem dX10_lay_47 : decode cX10_lay 47 = .ok (.getfield 49, 3) := by decide +kernel
theorem dX10_lay_50 : decode cX10_lay 50 = .ok (.iload_n 1, 1) := by decide +kernel
theorem dX10_lay_51 : decode cX10_lay 51 = .ok (.iload_n 2, 1) := by decide +kernel
theorem dX10_lay_52 : decode cX10_lay 52 = .ok (.iload_n 3, 1) := by decide +kernel
theorem dX10_lay_53 : decode cX10_lay 53 = .ok (.invokevirtual 308, 3) := by decide +kernel
theorem dX10_lay_56 : decode cX10_lay 56 = .ok (.iconst 1, 1) := by decide +kernel
theorem dX10_lay_57 : decode cX10_lay 57 = .ok (.ireturn, 1) := by decide +kernel
set_option maxRecDepth 20000 in
theorem ggX10_measured_X6_hasPlace : GoodIn wsX10_measured wsX6_hasPlace := goodIn_r _ [7] (by decide +kernel) (by decide +kernel)
set_option maxRecDepth 20000 in
theorem gX10_measured_X6_hasPlace : GoodIn wsX10_measured (va_wsS RX10 295 yX6_hasPlace wsX6_hasPlace) := goodIn_app (goodIn_of _ (by decide +kernel)) ggX10_measured_X6_hasPlace
set_option maxRecDepth 20000 in
theorem ggX10_measured_X6_isLane : GoodIn wsX10_measured wsX6_isLane := goodIn_r _ [10] (by decide +kernel) (by decide +kernel)
set_option maxRecDepth 20000 in
theorem gX10_measured_X6_isLane : GoodIn wsX10_measured (va_wsS RX10 298 yX6_isLane wsX6_isLane) := goodIn_app (goodIn_of _ (by decide +kernel)) ggX10_measured_X6_isLane
set_option maxRecDepth 20000 in
theorem ggX10_measured_X10_followTimes : GoodIn wsX10_measured wsX10_followTimes := goodIn_r _ [15, 16, 17, 18, 19, 20, 21, 22, 23, 24, 25, 26, 27, 28, 29, 30, 31, 32, 33, 34, 35, 36, 37, 38, 39, 40, 41, 42, 43, 44, 14, 45, 46, 47, 48, 49, 50, 51, 52, 53, 54, 55, 56, 57, 58, 59, 60, 61, 62, 63, 64, 65, 66, 67, 68, 69, 70, 71, 72, 73, 74, 75, 76, 93, 94, 95, 96, 97, 98, 99, 100, 101, 102, 106, 107, 108, 109, 110, 111, 112, 113, 114, 115, 116, 117, 118, 119, 120, 121, 122, 123, 124, 125, 126, 127, 128, 129, 130, 131, 132, 133, 134] (by decide +kernel) (by decide +kernel)
set_option maxRecDepth 20000 in
theorem gX10_measured_X10_followTimes : GoodIn wsX10_measured (wsV RX10 208 RX10 yX10_followTimes wsX10_followTimes) := goodIn_app (goodIn_of _ (by decide +kernel)) ggX10_measured_X10_followTimes
set_option maxRecDepth 20000 in
theorem ggX10_measured_X10_compareSheet : GoodIn wsX10_measured wsX10_compareSheet := goodIn_r _ [80, 1, 2, 81, 16, 17, 82, 83, 75, 84, 85, 86, 87, 23, 88, 25, 58, 63, 89, 90, 91, 92, 56, 27, 28, 29, 30, 31, 32, 93, 94, 95, 96, 97, 98, 99, 100, 101, 102, 103, 104, 105, 120, 121, 122, 123, 124, 125, 126, 127, 128, 129, 130, 131, 132, 133, 134] (by decide +kernel) (by decide +kernel)
set_option maxRecDepth 20000 in
theorem gX10_measured_X10_compareSheet : GoodIn wsX10_measured (wsV RX10 314 RX10 yX10_compareSheet wsX10_compareSheet) := goodIn_app (goodIn_of _ (by decide +kernel)) ggX10_measured_X10_compareSheet
theorem dX10_measured_0 : decode cX10_measured 0 = .ok (.iload_n 1, 1) := by decide +kernel
theorem dX10_measured_1 : decode cX10_measured 1 = .ok (.invokestatic 295, 3) := by decide +kernel
theorem dX10_measured_4 : decode cX10_measured 4 = .ok (.ifCond .eq 10, 3) := by decide +kernel
theorem dX10_measured_7 : decode cX10_measured 7 = .ok (.iload_n 2, 1) := by decide +kernel
theorem dX10_measured_8 : decode cX10_measured 8 = .ok (.invokestatic 298, 3) := by decide +kernel
theorem dX10_measured_11 : decode cX10_measured 11 = .ok (.ifCond .ne 5, 3) := by decide +kernel
theorem dX10_measured_14 : decode cX10_measured 14 = .ok (.iconst (-1), 1) := by decide +kernel
theorem dX10_measured_15 : decode cX10_measured 15 = .ok (.ireturn, 1) := by decide +kernel
theorem dX10_measured_16 : decode cX10_measured 16 = .ok (.iload 4, 2) := by decide +kernel
theorem dX10_measured_18 : decode cX10_measured 18 = .ok (.ifCond .lt 21, 3) := by decide +kernel
theorem dX10_measured_21 : decode cX10_measured 21 = .ok (.iload 4, 2) := by decide +kernel
theorem dX10_measured_23 : decode cX10_measured 23 = .ok (.bipush 40, 2) := by decide +kernel
theorem dX10_measured_25 : decode cX10_measured 25 = .ok (.if_icmp .gt 14, 3) := by decide +kernel
theorem dX10_measured_28 : decode cX10_measured 28 = .ok (.iload 5, 2) := by decide +kernel
theorem dX10_measured_30 : decode cX10_measured 30 = .ok (.ifCond .lt 9, 3) := by decide +kernel
theorem dX10_measured_33 : decode cX10_measured 33 = .ok (.iload 5, 2) := by decide +kernel
theorem dX10_measured_35 : decode cX10_measured 35 = .ok (.iconst 2, 1) := by decide +kernel
theorem dX10_measured_36 : decode cX10_measured 36 = .ok (.if_icmp .le 5, 3) := by decide +kernel
theorem dX10_measured_39 : decode cX10_measured 39 = .ok (.iconst (-1), 1) := by decide +kernel
theorem dX10_measured_40 : decode cX10_measured 40 = .ok (.ireturn, 1) := by decide +kernel
theorem dX10_measured_41 : decode cX10_measured 41 = .ok (.aload_n 0, 1) := by decide +kernel
theorem dX10_measured_42 : decode cX10_measured 42 = .ok (.getfield 49, 3) := by decide +kernel
theorem dX10_measured_45 : decode cX10_measured 45 = .ok (.getfield 305, 3) := by decide +kernel
theorem dX10_measured_48 : decode cX10_measured 48 = .ok (.iload_n 1, 1) := by decide +kernel
theorem dX10_measured_49 : decode cX10_measured 49 = .ok (.iaload, 1) := by decide +kernel
theorem dX10_measured_50 : decode cX10_measured 50 = .ok (.bipush (-4), 2) := by decide +kernel
theorem dX10_measured_52 : decode cX10_measured 52 = .ok (.if_icmp .ne 6, 3) := by decide +kernel
theorem dX10_measured_55 : decode cX10_measured 55 = .ok (.bipush (-11), 2) := by decide +kernel
theorem dX10_measured_57 : decode cX10_measured 57 = .ok (.ireturn, 1) := by decide +kernel
theorem dX10_measured_58 : decode cX10_measured 58 = .ok (.aload_n 0, 1) := by decide +kernel
theorem dX10_measured_59 : decode cX10_measured 59 = .ok (.getfield 49, 3) := by decide +kernel
theorem dX10_measured_62 : decode cX10_measured 62 = .ok (.getfield 311, 3) := by decide +kernel
theorem dX10_measured_65 : decode cX10_measured 65 = .ok (.iload_n 1, 1) := by decide +kernel
theorem dX10_measured_66 : decode cX10_measured 66 = .ok (.iaload, 1) := by decide +kernel
theorem dX10_measured_67 : decode cX10_measured 67 = .ok (.iload_n 2, 1) := by decide +kernel
theorem dX10_measured_68 : decode cX10_measured 68 = .ok (.if_icmp .eq 6, 3) := by decide +kernel
theorem dX10_measured_71 : decode cX10_measured 71 = .ok (.bipush (-13), 2) := by decide +kernel
theorem dX10_measured_73 : decode cX10_measured 73 = .ok (.ireturn, 1) := by decide +kernel
theorem dX10_measured_74 : decode cX10_measured 74 = .ok (.aload_n 0, 1) := by decide +kernel
theorem dX10_measured_75 : decode cX10_measured 75 = .ok (.invokevirtual 208, 3) := by decide +kernel
theorem dX10_measured_78 : decode cX10_measured 78 = .ok (.aload_n 0, 1) := by decide +kernel
theorem dX10_measured_79 : decode cX10_measured 79 = .ok (.iload_n 1, 1) := by decide +kernel
theorem dX10_measured_80 : decode cX10_measured 80 = .ok (.iload_n 3, 1) := by decide +kernel
theorem dX10_measured_81 : decode cX10_measured 81 = .ok (.iload 4, 2) := by decide +kernel
theorem dX10_measured_83 : decode cX10_measured 83 = .ok (.iload 5, 2) := by decide +kernel
theorem dX10_measured_85 : decode cX10_measured 85 = .ok (.invokevirtual 314, 3) := by decide +kernel
theorem dX10_measured_88 : decode cX10_measured 88 = .ok (.ireturn, 1) := by decide +kernel
set_option maxRecDepth 20000 in
theorem ggX10_count_J6_bitCount_0f7a4 : GoodIn wsX10_count wsJ6_bitCount_0f7a4 := goodIn_r _ [14, 15, 16, 17] (by decide +kernel) (by decide +kernel)
set_option maxRecDepth 20000 in
theorem gX10_count_J6_bitCount_0f7a4 : GoodIn wsX10_count (va_wsS RX10 281 yJ6_bitCount_0f7a4 wsJ6_bitCount_0f7a4) := goodIn_app (goodIn_of _ (by decide +kernel)) ggX10_count_J6_bitCount_0f7a4
set_option maxRecDepth 20000 in
theorem ggX10_count_X3_countWays : GoodIn wsX10_count wsX3_countWays := goodIn_r _ [22, 23, 24, 25, 26, 21, 27, 28, 39, 40, 41, 42, 43, 44] (by decide +kernel) (by decide +kernel)
set_option maxRecDepth 20000 in
theorem gX10_count_X3_countWays : GoodIn wsX10_count (wsV RX10 230 RX3 yX3_countWays wsX3_countWays) := goodIn_app (goodIn_of _ (by decide +kernel)) ggX10_count_X3_countWays
theorem dX10_count_0 : decode cX10_count 0 = .ok (.iload_n 1, 1) := by decide +kernel
theorem dX10_count_1 : decode cX10_count 1 = .ok (.tableswitch 113 0 5 #[39, 47, 58, 69, 95, 103], 39) := by decide +kernel
theorem dX10_count_40 : decode cX10_count 40 = .ok (.aload_n 0, 1) := by decide +kernel
theorem dX10_count_41 : decode cX10_count 41 = .ok (.getfield 56, 3) := by decide +kernel
theorem dX10_count_44 : decode cX10_count 44 = .ok (.getfield 117, 3) := by decide +kernel
theorem dX10_count_47 : decode cX10_count 47 = .ok (.ireturn, 1) := by decide +kernel
theorem dX10_count_48 : decode cX10_count 48 = .ok (.aload_n 0, 1) := by decide +kernel
theorem dX10_count_49 : decode cX10_count 49 = .ok (.getfield 19, 3) := by decide +kernel
theorem dX10_count_52 : decode cX10_count 52 = .ok (.getfield 147, 3) := by decide +kernel
theorem dX10_count_55 : decode cX10_count 55 = .ok (.invokestatic 281, 3) := by decide +kernel
theorem dX10_count_58 : decode cX10_count 58 = .ok (.ireturn, 1) := by decide +kernel
theorem dX10_count_59 : decode cX10_count 59 = .ok (.aload_n 0, 1) := by decide +kernel
theorem dX10_count_60 : decode cX10_count 60 = .ok (.getfield 19, 3) := by decide +kernel
theorem dX10_count_63 : decode cX10_count 63 = .ok (.getfield 187, 3) := by decide +kernel
theorem dX10_count_66 : decode cX10_count 66 = .ok (.getfield 191, 3) := by decide +kernel
theorem dX10_count_69 : decode cX10_count 69 = .ok (.ireturn, 1) := by decide +kernel
theorem dX10_count_70 : decode cX10_count 70 = .ok (.aload_n 0, 1) := by decide +kernel
theorem dX10_count_71 : decode cX10_count 71 = .ok (.getfield 56, 3) := by decide +kernel
theorem dX10_count_74 : decode cX10_count 74 = .ok (.invokevirtual 230, 3) := by decide +kernel
theorem dX10_count_77 : decode cX10_count 77 = .ok (.sipush 20000, 3) := by decide +kernel
theorem dX10_count_80 : decode cX10_count 80 = .ok (.if_icmp .le 8, 3) := by decide +kernel
theorem dX10_count_83 : decode cX10_count 83 = .ok (.bipush (-6), 2) := by decide +kernel
theorem dX10_count_85 : decode cX10_count 85 = .ok (.goto 10, 3) := by decide +kernel
theorem dX10_count_88 : decode cX10_count 88 = .ok (.aload_n 0, 1) := by decide +kernel
theorem dX10_count_89 : decode cX10_count 89 = .ok (.getfield 56, 3) := by decide +kernel
theorem dX10_count_92 : decode cX10_count 92 = .ok (.invokevirtual 230, 3) := by decide +kernel
theorem dX10_count_95 : decode cX10_count 95 = .ok (.ireturn, 1) := by decide +kernel
theorem dX10_count_96 : decode cX10_count 96 = .ok (.aload_n 0, 1) := by decide +kernel
theorem dX10_count_97 : decode cX10_count 97 = .ok (.getfield 10, 3) := by decide +kernel
theorem dX10_count_100 : decode cX10_count 100 = .ok (.getfield 80, 3) := by decide +kernel
theorem dX10_count_103 : decode cX10_count 103 = .ok (.ireturn, 1) := by decide +kernel
theorem dX10_count_104 : decode cX10_count 104 = .ok (.aload_n 0, 1) := by decide +kernel
theorem dX10_count_105 : decode cX10_count 105 = .ok (.getfield 49, 3) := by decide +kernel
theorem dX10_count_108 : decode cX10_count 108 = .ok (.getfield 305, 3) := by decide +kernel
theorem dX10_count_111 : decode cX10_count 111 = .ok (.iconst 0, 1) := by decide +kernel
theorem dX10_count_112 : decode cX10_count 112 = .ok (.iaload, 1) := by decide +kernel
theorem dX10_count_113 : decode cX10_count 113 = .ok (.ireturn, 1) := by decide +kernel
theorem dX10_count_114 : decode cX10_count 114 = .ok (.iconst (-1), 1) := by decide +kernel
theorem dX10_count_115 : decode cX10_count 115 = .ok (.ireturn, 1) := by decide +kernel
theorem dX10_asNumber_0 : decode cX10_asNumber 0 = .ok (.iload_n 0, 1) := by decide +kernel
theorem dX10_asNumber_1 : decode cX10_asNumber 1 = .ok (.ifCond .eq 7, 3) := by decide +kernel
theorem dX10_asNumber_4 : decode cX10_asNumber 4 = .ok (.iconst 1, 1) := by decide +kernel
theorem dX10_asNumber_5 : decode cX10_asNumber 5 = .ok (.goto 4, 3) := by decide +kernel
theorem dX10_asNumber_8 : decode cX10_asNumber 8 = .ok (.iconst 0, 1) := by decide +kernel
theorem dX10_asNumber_9 : decode cX10_asNumber 9 = .ok (.ireturn, 1) := by decide +kernel
set_option maxRecDepth 20000 in
theorem ggX10_alive_X3_allRails : GoodIn wsX10_alive wsX3_allRails := goodIn_r _ [8, 9, 34, 35, 36, 37, 38, 39] (by decide +kernel) (by decide +kernel)
set_option maxRecDepth 20000 in
theorem gX10_alive_X3_allRails : GoodIn wsX10_alive (wsV RX10 120 RX3 yX3_allRails wsX3_allRails) := goodIn_app (goodIn_of _ (by decide +kernel)) ggX10_alive_X3_allRails
theorem dX10_alive_0 : decode cX10_alive 0 = .ok (.aload_n 0, 1) := by decide +kernel
theorem dX10_alive_1 : decode cX10_alive 1 = .ok (.getfield 56, 3) := by decide +kernel
theorem dX10_alive_4 : decode cX10_alive 4 = .ok (.invokevirtual 120, 3) := by decide +kernel
theorem dX10_alive_7 : decode cX10_alive 7 = .ok (.aload_n 0, 1) := by decide +kernel
theorem dX10_alive_8 : decode cX10_alive 8 = .ok (.getfield 19, 3) := by decide +kernel
theorem dX10_alive_11 : decode cX10_alive 11 = .ok (.getfield 147, 3) := by decide +kernel
theorem dX10_alive_14 : decode cX10_alive 14 = .ok (.iconst (-1), 1) := by decide +kernel
theorem dX10_alive_15 : decode cX10_alive 15 = .ok (.ixor, 1) := by decide +kernel
theorem dX10_alive_16 : decode cX10_alive 16 = .ok (.iand, 1) := by decide +kernel
theorem dX10_alive_17 : decode cX10_alive 17 = .ok (.ireturn, 1) := by decide +kernel
set_option maxRecDepth 20000 in
theorem ggX10_canBeUp_X10_alive : GoodIn wsX10_canBeUp wsX10_alive := goodIn_r _ [6, 1, 7, 8, 9, 10, 11, 12, 13, 14, 24, 25, 26, 27, 28, 29, 30, 31, 32, 33, 34, 35, 36, 37, 38, 39, 40, 41, 42, 43, 44, 45, 46, 47, 48, 49, 50, 51, 52, 53] (by decide +kernel) (by decide +kernel)
set_option maxRecDepth 20000 in
theorem gX10_canBeUp_X10_alive : GoodIn wsX10_canBeUp (wsV RX10 218 RX10 yX10_alive wsX10_alive) := goodIn_app (goodIn_of _ (by decide +kernel)) ggX10_canBeUp_X10_alive
set_option maxRecDepth 20000 in
theorem ggX10_canBeUp_X3_upAmong : GoodIn wsX10_canBeUp wsX3_upAmong := goodIn_r _ [18, 14, 19, 20, 21, 12, 22, 23, 48, 49, 50, 51, 52, 53] (by decide +kernel) (by decide +kernel)
set_option maxRecDepth 20000 in
theorem gX10_canBeUp_X3_upAmong : GoodIn wsX10_canBeUp (wsV RX10 205 RX3 yX3_upAmong wsX3_upAmong) := goodIn_app (goodIn_of _ (by decide +kernel)) ggX10_canBeUp_X3_upAmong
theorem dX10_canBeUp_0 : decode cX10_canBeUp 0 = .ok (.aload_n 0, 1) := by decide +kernel
theorem dX10_canBeUp_1 : decode cX10_canBeUp 1 = .ok (.getfield 56, 3) := by decide +kernel
theorem dX10_canBeUp_4 : decode cX10_canBeUp 4 = .ok (.aload_n 0, 1) := by decide +kernel
theorem dX10_canBeUp_5 : decode cX10_canBeUp 5 = .ok (.invokevirtual 218, 3) := by decide +kernel
theorem dX10_canBeUp_8 : decode cX10_canBeUp 8 = .ok (.invokevirtual 205, 3) := by decide +kernel
theorem dX10_canBeUp_11 : decode cX10_canBeUp 11 = .ok (.iload_n 1, 1) := by decide +kernel
theorem dX10_canBeUp_12 : decode cX10_canBeUp 12 = .ok (.ishr, 1) := by decide +kernel
theorem dX10_canBeUp_13 : decode cX10_canBeUp 13 = .ok (.iconst 1, 1) := by decide +kernel
theorem dX10_canBeUp_14 : decode cX10_canBeUp 14 = .ok (.iand, 1) := by decide +kernel
theorem dX10_canBeUp_15 : decode cX10_canBeUp 15 = .ok (.iconst 1, 1) := by decide +kernel
theorem dX10_canBeUp_16 : decode cX10_canBeUp 16 = .ok (.if_icmp .ne 7, 3) := by decide +kernel
theorem dX10_canBeUp_19 : decode cX10_canBeUp 19 = .ok (.iconst 1, 1) := by decide +kernel
theorem dX10_canBeUp_20 : decode cX10_canBeUp 20 = .ok (.goto 4, 3) := by decide +kernel
theorem dX10_canBeUp_23 : decode cX10_canBeUp 23 = .ok (.iconst 0, 1) := by decide +kernel
theorem dX10_canBeUp_24 : decode cX10_canBeUp 24 = .ok (.ireturn, 1) := by decide +kernel
set_option maxRecDepth 20000 in
theorem ggX10_followTimes_X0_setWaits : GoodIn wsX10_followTimes wsX0_setWaits := goodIn_r _ [9, 10, 11, 12, 13, 14, 15, 16, 17, 87, 88, 89, 90, 91, 92, 93, 94, 95, 96, 97, 98, 99, 100, 101] (by decide +kernel) (by decide +kernel)
set_option maxRecDepth 20000 in
theorem gX10_followTimes_X0_setWaits : GoodIn wsX10_followTimes (wsV RX10 211 RX0 yX0_setWaits wsX0_setWaits) := goodIn_app (goodIn_of _ (by decide +kernel)) ggX10_followTimes_X0_setWaits
set_option maxRecDepth 20000 in
theorem ggX10_followTimes_X0_copyTakes : GoodIn wsX10_followTimes wsX0_copyTakes := goodIn_r _ [21, 22, 23, 24, 25, 26, 93, 94, 95, 96, 97, 98, 99, 100, 101] (by decide +kernel) (by decide +kernel)
set_option maxRecDepth 20000 in
theorem gX10_followTimes_X0_copyTakes : GoodIn wsX10_followTimes (wsV RX10 318 RX0 yX0_copyTakes wsX0_copyTakes) := goodIn_app (goodIn_of _ (by decide +kernel)) ggX10_followTimes_X0_copyTakes
set_option maxRecDepth 20000 in
theorem ggX10_followTimes_X10_alive : GoodIn wsX10_followTimes wsX10_alive := goodIn_r _ [31, 2, 3, 32, 33, 34, 35, 15, 36, 37, 63, 64, 65, 66, 67, 68, 69, 70, 71, 72, 73, 74, 75, 76, 77, 78, 79, 80, 81, 82, 83, 84, 85, 86, 87, 88, 89, 90, 91, 92] (by decide +kernel) (by decide +kernel)
set_option maxRecDepth 20000 in
theorem gX10_followTimes_X10_alive : GoodIn wsX10_followTimes (wsV RX10 218 RX10 yX10_alive wsX10_alive) := goodIn_app (goodIn_of _ (by decide +kernel)) ggX10_followTimes_X10_alive
set_option maxRecDepth 20000 in
theorem ggX10_followTimes_X0_follow : GoodIn wsX10_followTimes wsX0_follow := goodIn_r _ [41, 42, 43, 44, 45, 46, 47, 8, 48, 10, 49, 11, 22, 50, 51, 52, 15, 53, 54, 55, 56, 57, 58, 59, 60, 61, 62, 93, 94, 95, 96, 97, 98, 99, 100, 101, 87, 88, 89, 90, 91, 92] (by decide +kernel) (by decide +kernel)
set_option maxRecDepth 20000 in
theorem gX10_followTimes_X0_follow : GoodIn wsX10_followTimes (wsV RX10 221 RX0 yX0_follow wsX0_follow) := goodIn_app (goodIn_of _ (by decide +kernel)) ggX10_followTimes_X0_follow
theorem dX10_followTimes_0 : decode cX10_followTimes 0 = .ok (.aload_n 0, 1) := by decide +kernel
theorem dX10_followTimes_1 : decode cX10_followTimes 1 = .ok (.getfield 26, 3) := by decide +kernel
theorem dX10_followTimes_4 : decode cX10_followTimes 4 = .ok (.aload_n 0, 1) := by decide +kernel
theorem dX10_followTimes_5 : decode cX10_followTimes 5 = .ok (.getfield 56, 3) := by decide +kernel
theorem dX10_followTimes_8 : decode cX10_followTimes 8 = .ok (.invokevirtual 211, 3) := by decide +kernel
theorem dX10_followTimes_11 : decode cX10_followTimes 11 = .ok (.aload_n 0, 1) := by decide +kernel
theorem dX10_followTimes_12 : decode cX10_followTimes 12 = .ok (.getfield 26, 3) := by decide +kernel
theorem dX10_followTimes_15 : decode cX10_followTimes 15 = .ok (.aload_n 0, 1) := by decide +kernel
theorem dX10_followTimes_16 : decode cX10_followTimes 16 = .ok (.getfield 19, 3) := by decide +kernel
theorem dX10_followTimes_19 : decode cX10_followTimes 19 = .ok (.getfield 150, 3) := by decide +kernel
theorem dX10_followTimes_22 : decode cX10_followTimes 22 = .ok (.invokevirtual 318, 3) := by decide +kernel
theorem dX10_followTimes_25 : decode cX10_followTimes 25 = .ok (.aload_n 0, 1) := by decide +kernel
theorem dX10_followTimes_26 : decode cX10_followTimes 26 = .ok (.getfield 26, 3) := by decide +kernel
theorem dX10_followTimes_29 : decode cX10_followTimes 29 = .ok (.aload_n 0, 1) := by decide +kernel
theorem dX10_followTimes_30 : decode cX10_followTimes 30 = .ok (.getfield 56, 3) := by decide +kernel
theorem dX10_followTimes_33 : decode cX10_followTimes 33 = .ok (.aload_n 0, 1) := by decide +kernel
theorem dX10_followTimes_34 : decode cX10_followTimes 34 = .ok (.invokevirtual 218, 3) := by decide +kernel
theorem dX10_followTimes_37 : decode cX10_followTimes 37 = .ok (.invokevirtual 221, 3) := by decide +kernel
theorem dX10_followTimes_40 : decode cX10_followTimes 40 = .ok (.return_, 1) := by decide +kernel
set_option maxRecDepth 20000 in
theorem ggX10_forgetReckoned_X9_forget : GoodIn wsX10_forgetReckoned wsX9_forget := goodIn_r _ [8, 9, 10, 25, 26, 27, 28, 29, 30] (by decide +kernel) (by decide +kernel)
set_option maxRecDepth 20000 in
theorem gX10_forgetReckoned_X9_forget : GoodIn wsX10_forgetReckoned (wsV RX10 321 RX9 yX9_forget wsX9_forget) := goodIn_app (goodIn_of _ (by decide +kernel)) ggX10_forgetReckoned_X9_forget
theorem dX10_forgetReckoned_0 : decode cX10_forgetReckoned 0 = .ok (.aload_n 0, 1) := by decide +kernel
theorem dX10_forgetReckoned_1 : decode cX10_forgetReckoned 1 = .ok (.getfield 35, 3) := by decide +kernel
theorem dX10_forgetReckoned_4 : decode cX10_forgetReckoned 4 = .ok (.invokevirtual 321, 3) := by decide +kernel
theorem dX10_forgetReckoned_7 : decode cX10_forgetReckoned 7 = .ok (.aload_n 0, 1) := by decide +kernel
theorem dX10_forgetReckoned_8 : decode cX10_forgetReckoned 8 = .ok (.getfield 42, 3) := by decide +kernel
theorem dX10_forgetReckoned_11 : decode cX10_forgetReckoned 11 = .ok (.iconst 0, 1) := by decide +kernel
theorem dX10_forgetReckoned_12 : decode cX10_forgetReckoned 12 = .ok (.putfield 324, 3) := by decide +kernel
theorem dX10_forgetReckoned_15 : decode cX10_forgetReckoned 15 = .ok (.return_, 1) := by decide +kernel
set_option maxRecDepth 20000 in
theorem ggX10_compareSheet_X0_drawnAt : GoodIn wsX10_compareSheet wsX0_drawnAt := goodIn_r _ [14, 15, 16, 17, 18, 19, 20, 13, 21, 22, 23, 24, 25, 26, 27, 28, 42, 43, 44, 45, 46, 47, 48, 49, 50, 51, 52, 53, 54, 55, 56] (by decide +kernel) (by decide +kernel)
set_option maxRecDepth 20000 in
theorem gX10_compareSheet_X0_drawnAt : GoodIn wsX10_compareSheet (wsV RX10 237 RX0 yX0_drawnAt wsX0_drawnAt) := goodIn_app (goodIn_of _ (by decide +kernel)) ggX10_compareSheet_X0_drawnAt
theorem dX10_compareSheet_0 : decode cX10_compareSheet 0 = .ok (.iconst 0, 1) := by decide +kernel
theorem dX10_compareSheet_1 : decode cX10_compareSheet 1 = .ok (.istore 5, 2) := by decide +kernel
theorem dX10_compareSheet_3 : decode cX10_compareSheet 3 = .ok (.bipush (-4), 2) := by decide +kernel
theorem dX10_compareSheet_5 : decode cX10_compareSheet 5 = .ok (.istore 6, 2) := by decide +kernel
theorem dX10_compareSheet_7 : decode cX10_compareSheet 7 = .ok (.iconst 0, 1) := by decide +kernel
theorem dX10_compareSheet_8 : decode cX10_compareSheet 8 = .ok (.istore 7, 2) := by decide +kernel
theorem dX10_compareSheet_10 : decode cX10_compareSheet 10 = .ok (.iconst 0, 1) := by decide +kernel
theorem dX10_compareSheet_11 : decode cX10_compareSheet 11 = .ok (.istore 8, 2) := by decide +kernel
theorem dX10_compareSheet_13 : decode cX10_compareSheet 13 = .ok (.iload 8, 2) := by decide +kernel
theorem dX10_compareSheet_15 : decode cX10_compareSheet 15 = .ok (.iload_n 3, 1) := by decide +kernel
theorem dX10_compareSheet_16 : decode cX10_compareSheet 16 = .ok (.if_icmp .ge 120, 3) := by decide +kernel
theorem dX10_compareSheet_19 : decode cX10_compareSheet 19 = .ok (.iload_n 2, 1) := by decide +kernel
theorem dX10_compareSheet_20 : decode cX10_compareSheet 20 = .ok (.iload 8, 2) := by decide +kernel
theorem dX10_compareSheet_22 : decode cX10_compareSheet 22 = .ok (.iadd, 1) := by decide +kernel
theorem dX10_compareSheet_23 : decode cX10_compareSheet 23 = .ok (.istore 9, 2) := by decide +kernel
theorem dX10_compareSheet_25 : decode cX10_compareSheet 25 = .ok (.iload 9, 2) := by decide +kernel
theorem dX10_compareSheet_27 : decode cX10_compareSheet 27 = .ok (.ifCond .lt 17, 3) := by decide +kernel
theorem dX10_compareSheet_30 : decode cX10_compareSheet 30 = .ok (.iload 9, 2) := by decide +kernel
theorem dX10_compareSheet_32 : decode cX10_compareSheet 32 = .ok (.aload_n 0, 1) := by decide +kernel
theorem dX10_compareSheet_33 : decode cX10_compareSheet 33 = .ok (.getfield 49, 3) := by decide +kernel
theorem dX10_compareSheet_36 : decode cX10_compareSheet 36 = .ok (.getfield 305, 3) := by decide +kernel
theorem dX10_compareSheet_39 : decode cX10_compareSheet 39 = .ok (.iload_n 1, 1) := by decide +kernel
theorem dX10_compareSheet_40 : decode cX10_compareSheet 40 = .ok (.iaload, 1) := by decide +kernel
theorem dX10_compareSheet_41 : decode cX10_compareSheet 41 = .ok (.if_icmp .lt 6, 3) := by decide +kernel
theorem dX10_compareSheet_44 : decode cX10_compareSheet 44 = .ok (.bipush (-12), 2) := by decide +kernel
theorem dX10_compareSheet_46 : decode cX10_compareSheet 46 = .ok (.ireturn, 1) := by decide +kernel
theorem dX10_compareSheet_47 : decode cX10_compareSheet 47 = .ok (.aload_n 0, 1) := by decide +kernel
theorem dX10_compareSheet_48 : decode cX10_compareSheet 48 = .ok (.getfield 49, 3) := by decide +kernel
theorem dX10_compareSheet_51 : decode cX10_compareSheet 51 = .ok (.getfield 327, 3) := by decide +kernel
theorem dX10_compareSheet_54 : decode cX10_compareSheet 54 = .ok (.iload_n 1, 1) := by decide +kernel
theorem dX10_compareSheet_55 : decode cX10_compareSheet 55 = .ok (.aaload, 1) := by decide +kernel
theorem dX10_compareSheet_56 : decode cX10_compareSheet 56 = .ok (.iload 9, 2) := by decide +kernel
theorem dX10_compareSheet_58 : decode cX10_compareSheet 58 = .ok (.iaload, 1) := by decide +kernel
theorem dX10_compareSheet_59 : decode cX10_compareSheet 59 = .ok (.istore 10, 2) := by decide +kernel
theorem dX10_compareSheet_61 : decode cX10_compareSheet 61 = .ok (.iload 10, 2) := by decide +kernel
theorem dX10_compareSheet_63 : decode cX10_compareSheet 63 = .ok (.ifCond .lt 11, 3) := by decide +kernel
theorem dX10_compareSheet_66 : decode cX10_compareSheet 66 = .ok (.iload 10, 2) := by decide +kernel
theorem dX10_compareSheet_68 : decode cX10_compareSheet 68 = .ok (.sipush 9999, 3) := by decide +kernel
theorem dX10_compareSheet_71 : decode cX10_compareSheet 71 = .ok (.if_icmp .le 9, 3) := by decide +kernel
theorem dX10_compareSheet_74 : decode cX10_compareSheet 74 = .ok (.bipush (-20), 2) := by decide +kernel
theorem dX10_compareSheet_76 : decode cX10_compareSheet 76 = .ok (.iload 8, 2) := by decide +kernel
theorem dX10_compareSheet_78 : decode cX10_compareSheet 78 = .ok (.isub, 1) := by decide +kernel
theorem dX10_compareSheet_79 : decode cX10_compareSheet 79 = .ok (.ireturn, 1) := by decide +kernel
theorem dX10_compareSheet_80 : decode cX10_compareSheet 80 = .ok (.iload 10, 2) := by decide +kernel
theorem dX10_compareSheet_82 : decode cX10_compareSheet 82 = .ok (.aload_n 0, 1) := by decide +kernel
theorem dX10_compareSheet_83 : decode cX10_compareSheet 83 = .ok (.getfield 26, 3) := by decide +kernel
theorem dX10_compareSheet_86 : decode cX10_compareSheet 86 = .ok (.aload_n 0, 1) := by decide +kernel
theorem dX10_compareSheet_87 : decode cX10_compareSheet 87 = .ok (.getfield 56, 3) := by decide +kernel
theorem dX10_compareSheet_90 : decode cX10_compareSheet 90 = .ok (.iload 8, 2) := by decide +kernel
theorem dX10_compareSheet_92 : decode cX10_compareSheet 92 = .ok (.invokevirtual 237, 3) := by decide +kernel
theorem dX10_compareSheet_95 : decode cX10_compareSheet 95 = .ok (.isub, 1) := by decide +kernel
theorem dX10_compareSheet_96 : decode cX10_compareSheet 96 = .ok (.invokestatic 331, 3) := by decide +kernel
theorem dX10_compareSheet_99 : decode cX10_compareSheet 99 = .ok (.istore 11, 2) := by decide +kernel
theorem dX10_compareSheet_101 : decode cX10_compareSheet 101 = .ok (.iload 7, 2) := by decide +kernel
theorem dX10_compareSheet_103 : decode cX10_compareSheet 103 = .ok (.iload 11, 2) := by decide +kernel
theorem dX10_compareSheet_105 : decode cX10_compareSheet 105 = .ok (.iadd, 1) := by decide +kernel
theorem dX10_compareSheet_106 : decode cX10_compareSheet 106 = .ok (.istore 7, 2) := by decide +kernel
theorem dX10_compareSheet_108 : decode cX10_compareSheet 108 = .ok (.iload 11, 2) := by decide +kernel
theorem dX10_compareSheet_110 : decode cX10_compareSheet 110 = .ok (.ifCond .ne 9, 3) := by decide +kernel
theorem dX10_compareSheet_113 : decode cX10_compareSheet 113 = .ok (.iinc 5 1, 3) := by decide +kernel
theorem dX10_compareSheet_116 : decode cX10_compareSheet 116 = .ok (.goto 14, 3) := by decide +kernel
theorem dX10_compareSheet_119 : decode cX10_compareSheet 119 = .ok (.iload 6, 2) := by decide +kernel
theorem dX10_compareSheet_121 : decode cX10_compareSheet 121 = .ok (.bipush (-4), 2) := by decide +kernel
theorem dX10_compareSheet_123 : decode cX10_compareSheet 123 = .ok (.if_icmp .ne 7, 3) := by decide +kernel
theorem dX10_compareSheet_126 : decode cX10_compareSheet 126 = .ok (.iload 8, 2) := by decide +kernel
theorem dX10_compareSheet_128 : decode cX10_compareSheet 128 = .ok (.istore 6, 2) := by decide +kernel
theorem dX10_compareSheet_130 : decode cX10_compareSheet 130 = .ok (.iinc 8 1, 3) := by decide +kernel
theorem dX10_compareSheet_133 : decode cX10_compareSheet 133 = .ok (.goto (-120), 3) := by decide +kernel
theorem dX10_compareSheet_136 : decode cX10_compareSheet 136 = .ok (.iload 4, 2) := by decide +kernel
theorem dX10_compareSheet_138 : decode cX10_compareSheet 138 = .ok (.ifCond .ne 8, 3) := by decide +kernel
theorem dX10_compareSheet_141 : decode cX10_compareSheet 141 = .ok (.iload 5, 2) := by decide +kernel
theorem dX10_compareSheet_143 : decode cX10_compareSheet 143 = .ok (.goto 16, 3) := by decide +kernel
theorem dX10_compareSheet_146 : decode cX10_compareSheet 146 = .ok (.iload 4, 2) := by decide +kernel
theorem dX10_compareSheet_148 : decode cX10_compareSheet 148 = .ok (.iconst 1, 1) := by decide +kernel
theorem dX10_compareSheet_149 : decode cX10_compareSheet 149 = .ok (.if_icmp .ne 8, 3) := by decide +kernel
theorem dX10_compareSheet_152 : decode cX10_compareSheet 152 = .ok (.iload 6, 2) := by decide +kernel
theorem dX10_compareSheet_154 : decode cX10_compareSheet 154 = .ok (.goto 5, 3) := by decide +kernel
theorem dX10_compareSheet_157 : decode cX10_compareSheet 157 = .ok (.iload 7, 2) := by decide +kernel
theorem dX10_compareSheet_159 : decode cX10_compareSheet 159 = .ok (.ireturn, 1) := by decide +kernel
set_option maxRecDepth 20000 in
theorem ggX11_init_X11_firstDraft : GoodIn wsX11_init wsX11_firstDraft := goodIn_r _ [37, 38, 39, 40, 41, 42, 43, 44, 69, 70, 71, 72, 73, 74, 75, 76, 77, 78, 79, 80, 81, 82, 83, 84, 85, 86, 87, 88, 89, 90, 91, 92, 93, 94, 95, 96, 97, 98, 99, 100, 101, 102, 103, 104, 105, 106, 107, 108, 109, 110, 111, 112, 113, 114, 115, 116, 117, 118, 119, 120, 121, 122, 123, 124, 125, 126, 127] (by decide +kernel) (by decide +kernel)
set_option maxRecDepth 20000 in
theorem gX11_init_X11_firstDraft : GoodIn wsX11_init (wsV RX11 92 RX11 yX11_firstDraft wsX11_firstDraft) := goodIn_app (goodIn_of _ (by decide +kernel)) ggX11_init_X11_firstDraft
set_option maxRecDepth 20000 in
theorem ggX11_init_X11_keepDraft : GoodIn wsX11_init wsX11_keepDraft := goodIn_r _ [48, 38, 49, 39, 50, 40, 51, 41, 52, 5, 9, 6, 10, 8, 11, 53, 54, 55, 36, 56, 57, 58, 59, 60, 61, 62, 63, 64, 18, 19, 20, 21, 22, 23, 65, 66, 67, 68, 69, 70, 71, 72, 73, 74, 75, 76, 77, 78, 79, 80, 81, 82, 83, 84, 85, 86, 87, 88, 89, 90, 91, 92, 93, 94, 95, 96, 97, 98, 99, 100, 101, 102, 103, 104, 105, 106, 107, 108, 109, 110, 111, 112, 113, 114, 115, 116, 117, 118, 119, 120, 121, 122, 123, 124, 125, 126, 127] (by decide +kernel) (by decide +kernel)
set_option maxRecDepth 20000 in
theorem gX11_init_X11_keepDraft : GoodIn wsX11_init (wsV RX11 95 RX11 yX11_keepDraft wsX11_keepDraft) := goodIn_app (goodIn_of _ (by decide +kernel)) ggX11_init_X11_keepDraft
theorem dX11_init_0 : decode cX11_init 0 = .ok (.aload_n 0, 1) := by decide +kernel
theorem dX11_init_1 : decode cX11_init 1 = .ok (.invokespecial 1, 3) := by decide +kernel
theorem dX11_init_4 : decode cX11_init 4 = .ok (.aload_n 0, 1) := by decide +kernel
theorem dX11_init_5 : decode cX11_init 5 = .ok (.bipush 56, 2) := by decide +kernel
theorem dX11_init_7 : decode cX11_init 7 = .ok (.newarray .int, 2) := by decide +kernel
theorem dX11_init_9 : decode cX11_init 9 = .ok (.putfield 7, 3) := by decide +kernel
theorem dX11_init_12 : decode cX11_init 12 = .ok (.aload_n 0, 1) := by decide +kernel
theorem dX11_init_13 : decode cX11_init 13 = .ok (.bipush 8, 2) := by decide +kernel
theorem dX11_init_15 : decode cX11_init 15 = .ok (.newarray .int, 2) := by decide +kernel
theorem dX11_init_17 : decode cX11_init 17 = .ok (.putfield 13, 3) := by decide +kernel
theorem dX11_init_20 : decode cX11_init 20 = .ok (.aload_n 0, 1) := by decide +kernel
theorem dX11_init_21 : decode cX11_init 21 = .ok (.sipush 4096, 3) := by decide +kernel
theorem dX11_init_24 : decode cX11_init 24 = .ok (.newarray .boolean, 2) := by decide +kernel
theorem dX11_init_26 : decode cX11_init 26 = .ok (.putfield 16, 3) := by decide +kernel
theorem dX11_init_29 : decode cX11_init 29 = .ok (.aload_n 0, 1) := by decide +kernel
theorem dX11_init_30 : decode cX11_init 30 = .ok (.bipush 56, 2) := by decide +kernel
theorem dX11_init_32 : decode cX11_init 32 = .ok (.newarray .int, 2) := by decide +kernel
theorem dX11_init_34 : decode cX11_init 34 = .ok (.putfield 20, 3) := by decide +kernel
theorem dX11_init_37 : decode cX11_init 37 = .ok (.aload_n 0, 1) := by decide +kernel
theorem dX11_init_38 : decode cX11_init 38 = .ok (.bipush 8, 2) := by decide +kernel
theorem dX11_init_40 : decode cX11_init 40 = .ok (.newarray .int, 2) := by decide +kernel
theorem dX11_init_42 : decode cX11_init 42 = .ok (.putfield 23, 3) := by decide +kernel
theorem dX11_init_45 : decode cX11_init 45 = .ok (.aload_n 0, 1) := by decide +kernel
theorem dX11_init_46 : decode cX11_init 46 = .ok (.sipush 4096, 3) := by decide +kernel
theorem dX11_init_49 : decode cX11_init 49 = .ok (.newarray .boolean, 2) := by decide +kernel
theorem dX11_init_51 : decode cX11_init 51 = .ok (.putfield 26, 3) := by decide +kernel
theorem dX11_init_54 : decode cX11_init 54 = .ok (.aload_n 0, 1) := by decide +kernel
theorem dX11_init_55 : decode cX11_init 55 = .ok (.sipush 400, 3) := by decide +kernel
theorem dX11_init_58 : decode cX11_init 58 = .ok (.newarray .int, 2) := by decide +kernel
theorem dX11_init_60 : decode cX11_init 60 = .ok (.putfield 29, 3) := by decide +kernel
theorem dX11_init_63 : decode cX11_init 63 = .ok (.aload_n 0, 1) := by decide +kernel
theorem dX11_init_64 : decode cX11_init 64 = .ok (.sipush 400, 3) := by decide +kernel
theorem dX11_init_67 : decode cX11_init 67 = .ok (.newarray .int, 2) := by decide +kernel
theorem dX11_init_69 : decode cX11_init 69 = .ok (.putfield 32, 3) := by decide +kernel
theorem dX11_init_72 : decode cX11_init 72 = .ok (.aload_n 0, 1) := by decide +kernel
theorem dX11_init_73 : decode cX11_init 73 = .ok (.sipush 400, 3) := by decide +kernel
theorem dX11_init_76 : decode cX11_init 76 = .ok (.newarray .int, 2) := by decide +kernel
theorem dX11_init_78 : decode cX11_init 78 = .ok (.putfield 35, 3) := by decide +kernel
theorem dX11_init_81 : decode cX11_init 81 = .ok (.aload_n 0, 1) := by decide +kernel
theorem dX11_init_82 : decode cX11_init 82 = .ok (.sipush 400, 3) := by decide +kernel
theorem dX11_init_85 : decode cX11_init 85 = .ok (.newarray .int, 2) := by decide +kernel
theorem dX11_init_87 : decode cX11_init 87 = .ok (.putfield 38, 3) := by decide +kernel
theorem dX11_init_90 : decode cX11_init 90 = .ok (.aload_n 0, 1) := by decide +kernel
theorem dX11_init_91 : decode cX11_init 91 = .ok (.sipush 400, 3) := by decide +kernel
theorem dX11_init_94 : decode cX11_init 94 = .ok (.newarray .boolean, 2) := by decide +kernel
theorem dX11_init_96 : decode cX11_init 96 = .ok (.putfield 41, 3) := by decide +kernel
theorem dX11_init_99 : decode cX11_init 99 = .ok (.aload_n 0, 1) := by decide +kernel
theorem dX11_init_100 : decode cX11_init 100 = .ok (.sipush 400, 3) := by decide +kernel
theorem dX11_init_103 : decode cX11_init 103 = .ok (.newarray .int, 2) := by decide +kernel
theorem dX11_init_105 : decode cX11_init 105 = .ok (.putfield 44, 3) := by decide +kernel
theorem dX11_init_108 : decode cX11_init 108 = .ok (.aload_n 0, 1) := by decide +kernel
theorem dX11_init_109 : decode cX11_init 109 = .ok (.bipush 8, 2) := by decide +kernel
theorem dX11_init_111 : decode cX11_init 111 = .ok (.newarray .int, 2) := by decide +kernel
theorem dX11_init_113 : decode cX11_init 113 = .ok (.putfield 47, 3) := by decide +kernel
theorem dX11_init_116 : decode cX11_init 116 = .ok (.aload_n 0, 1) := by decide +kernel
theorem dX11_init_117 : decode cX11_init 117 = .ok (.bipush 8, 2) := by decide +kernel
theorem dX11_init_119 : decode cX11_init 119 = .ok (.newarray .int, 2) := by decide +kernel
theorem dX11_init_121 : decode cX11_init 121 = .ok (.putfield 50, 3) := by decide +kernel
theorem dX11_init_124 : decode cX11_init 124 = .ok (.aload_n 0, 1) := by decide +kernel
theorem dX11_init_125 : decode cX11_init 125 = .ok (.bipush 8, 2) := by decide +kernel
theorem dX11_init_127 : decode cX11_init 127 = .ok (.newarray .int, 2) := by decide +kernel
theorem dX11_init_129 : decode cX11_init 129 = .ok (.putfield 53, 3) := by decide +kernel
theorem dX11_init_132 : decode cX11_init 132 = .ok (.aload_n 0, 1) := by decide +kernel
theorem dX11_init_133 : decode cX11_init 133 = .ok (.bipush 8, 2) := by decide +kernel
theorem dX11_init_135 : decode cX11_init 135 = .ok (.newarray .boolean, 2) := by decide +kernel
theorem dX11_init_137 : decode cX11_init 137 = .ok (.putfield 56, 3) := by decide +kernel
theorem dX11_init_140 : decode cX11_init 140 = .ok (.aload_n 0, 1) := by decide +kernel
theorem dX11_init_141 : decode cX11_init 141 = .ok (.bipush 8, 2) := by decide +kernel
theorem dX11_init_143 : decode cX11_init 143 = .ok (.newarray .int, 2) := by decide +kernel
theorem dX11_init_145 : decode cX11_init 145 = .ok (.putfield 59, 3) := by decide +kernel
theorem dX11_init_148 : decode cX11_init 148 = .ok (.aload_n 0, 1) := by decide +kernel
theorem dX11_init_149 : decode cX11_init 149 = .ok (.bipush 8, 2) := by decide +kernel
theorem dX11_init_151 : decode cX11_init 151 = .ok (.newarray .int, 2) := by decide +kernel
theorem dX11_init_153 : decode cX11_init 153 = .ok (.putfield 62, 3) := by decide +kernel
theorem dX11_init_156 : decode cX11_init 156 = .ok (.aload_n 0, 1) := by decide +kernel
theorem dX11_init_157 : decode cX11_init 157 = .ok (.sipush 192, 3) := by decide +kernel
theorem dX11_init_160 : decode cX11_init 160 = .ok (.newarray .int, 2) := by decide +kernel
theorem dX11_init_162 : decode cX11_init 162 = .ok (.putfield 65, 3) := by decide +kernel
theorem dX11_init_165 : decode cX11_init 165 = .ok (.aload_n 0, 1) := by decide +kernel
theorem dX11_init_166 : decode cX11_init 166 = .ok (.bipush 8, 2) := by decide +kernel
theorem dX11_init_168 : decode cX11_init 168 = .ok (.newarray .int, 2) := by decide +kernel
theorem dX11_init_170 : decode cX11_init 170 = .ok (.putfield 68, 3) := by decide +kernel
theorem dX11_init_173 : decode cX11_init 173 = .ok (.aload_n 0, 1) := by decide +kernel
theorem dX11_init_174 : decode cX11_init 174 = .ok (.bipush 8, 2) := by decide +kernel
theorem dX11_init_176 : decode cX11_init 176 = .ok (.newarray .int, 2) := by decide +kernel
theorem dX11_init_178 : decode cX11_init 178 = .ok (.putfield 71, 3) := by decide +kernel
theorem dX11_init_181 : decode cX11_init 181 = .ok (.aload_n 0, 1) := by decide +kernel
theorem dX11_init_182 : decode cX11_init 182 = .ok (.bipush 8, 2) := by decide +kernel
theorem dX11_init_184 : decode cX11_init 184 = .ok (.newarray .int, 2) := by decide +kernel
theorem dX11_init_186 : decode cX11_init 186 = .ok (.putfield 74, 3) := by decide +kernel
theorem dX11_init_189 : decode cX11_init 189 = .ok (.aload_n 0, 1) := by decide +kernel
theorem dX11_init_190 : decode cX11_init 190 = .ok (.bipush 8, 2) := by decide +kernel
theorem dX11_init_192 : decode cX11_init 192 = .ok (.newarray .int, 2) := by decide +kernel
theorem dX11_init_194 : decode cX11_init 194 = .ok (.putfield 77, 3) := by decide +kernel
theorem dX11_init_197 : decode cX11_init 197 = .ok (.aload_n 0, 1) := by decide +kernel
theorem dX11_init_198 : decode cX11_init 198 = .ok (.bipush 8, 2) := by decide +kernel
theorem dX11_init_200 : decode cX11_init 200 = .ok (.newarray .int, 2) := by decide +kernel
theorem dX11_init_202 : decode cX11_init 202 = .ok (.putfield 80, 3) := by decide +kernel
theorem dX11_init_205 : decode cX11_init 205 = .ok (.aload_n 0, 1) := by decide +kernel
theorem dX11_init_206 : decode cX11_init 206 = .ok (.iconst 4, 1) := by decide +kernel
theorem dX11_init_207 : decode cX11_init 207 = .ok (.newarray .int, 2) := by decide +kernel
theorem dX11_init_209 : decode cX11_init 209 = .ok (.putfield 83, 3) := by decide +kernel
theorem dX11_init_212 : decode cX11_init 212 = .ok (.aload_n 0, 1) := by decide +kernel
theorem dX11_init_213 : decode cX11_init 213 = .ok (.iconst 4, 1) := by decide +kernel
theorem dX11_init_214 : decode cX11_init 214 = .ok (.newarray .int, 2) := by decide +kernel
theorem dX11_init_216 : decode cX11_init 216 = .ok (.putfield 86, 3) := by decide +kernel
theorem dX11_init_219 : decode cX11_init 219 = .ok (.aload_n 0, 1) := by decide +kernel
theorem dX11_init_220 : decode cX11_init 220 = .ok (.sipush 160, 3) := by decide +kernel
theorem dX11_init_223 : decode cX11_init 223 = .ok (.newarray .int, 2) := by decide +kernel
theorem dX11_init_225 : decode cX11_init 225 = .ok (.putfield 89, 3) := by decide +kernel
theorem dX11_init_228 : decode cX11_init 228 = .ok (.iconst 0, 1) := by decide +kernel
theorem dX11_init_229 : decode cX11_init 229 = .ok (.istore_n 1, 1) := by decide +kernel
theorem dX11_init_230 : decode cX11_init 230 = .ok (.iload_n 1, 1) := by decide +kernel
theorem dX11_init_231 : decode cX11_init 231 = .ok (.iconst 4, 1) := by decide +kernel
theorem dX11_init_232 : decode cX11_init 232 = .ok (.if_icmp .ge 17, 3) := by decide +kernel
theorem dX11_init_235 : decode cX11_init 235 = .ok (.aload_n 0, 1) := by decide +kernel
theorem dX11_init_236 : decode cX11_init 236 = .ok (.getfield 83, 3) := by decide +kernel
theorem dX11_init_239 : decode cX11_init 239 = .ok (.iload_n 1, 1) := by decide +kernel
theorem dX11_init_240 : decode cX11_init 240 = .ok (.bipush (-4), 2) := by decide +kernel
theorem dX11_init_242 : decode cX11_init 242 = .ok (.iastore, 1) := by decide +kernel
theorem dX11_init_243 : decode cX11_init 243 = .ok (.iinc 1 1, 3) := by decide +kernel
theorem dX11_init_246 : decode cX11_init 246 = .ok (.goto (-16), 3) := by decide +kernel
theorem dX11_init_249 : decode cX11_init 249 = .ok (.aload_n 0, 1) := by decide +kernel
theorem dX11_init_250 : decode cX11_init 250 = .ok (.invokevirtual 92, 3) := by decide +kernel
theorem dX11_init_253 : decode cX11_init 253 = .ok (.aload_n 0, 1) := by decide +kernel
theorem dX11_init_254 : decode cX11_init 254 = .ok (.invokevirtual 95, 3) := by decide +kernel
theorem dX11_init_257 : decode cX11_init 257 = .ok (.return_, 1) := by decide +kernel
theorem dX11_in_0 : decode cX11_in 0 = .ok (.lload_n 0, 1) := by decide +kernel
theorem dX11_in_1 : decode cX11_in 1 = .ok (.lload_n 2, 1) := by decide +kernel
theorem dX11_in_2 : decode cX11_in 2 = .ok (.lcmp, 1) := by decide +kernel
theorem dX11_in_3 : decode cX11_in 3 = .ok (.ifCond .lt 14, 3) := by decide +kernel
theorem dX11_in_6 : decode cX11_in 6 = .ok (.lload_n 0, 1) := by decide +kernel
theorem dX11_in_7 : decode cX11_in 7 = .ok (.lload 4, 2) := by decide +kernel
theorem dX11_in_9 : decode cX11_in 9 = .ok (.lcmp, 1) := by decide +kernel
theorem dX11_in_10 : decode cX11_in 10 = .ok (.ifCond .gt 7, 3) := by decide +kernel
theorem dX11_in_13 : decode cX11_in 13 = .ok (.iconst 1, 1) := by decide +kernel
theorem dX11_in_14 : decode cX11_in 14 = .ok (.goto 4, 3) := by decide +kernel
theorem dX11_in_17 : decode cX11_in 17 = .ok (.iconst 0, 1) := by decide +kernel
theorem dX11_in_18 : decode cX11_in 18 = .ok (.ireturn, 1) := by decide +kernel
theorem dX11_flag_0 : decode cX11_flag 0 = .ok (.iload_n 0, 1) := by decide +kernel
theorem dX11_flag_1 : decode cX11_flag 1 = .ok (.ifCond .eq 7, 3) := by decide +kernel
theorem dX11_flag_4 : decode cX11_flag 4 = .ok (.iconst 1, 1) := by decide +kernel
theorem dX11_flag_5 : decode cX11_flag 5 = .ok (.goto 4, 3) := by decide +kernel
theorem dX11_flag_8 : decode cX11_flag 8 = .ok (.iconst 0, 1) := by decide +kernel
theorem dX11_flag_9 : decode cX11_flag 9 = .ok (.ireturn, 1) := by decide +kernel
theorem dX11_countOf_0 : decode cX11_countOf 0 = .ok (.iconst 0, 1) := by decide +kernel
theorem dX11_countOf_1 : decode cX11_countOf 1 = .ok (.istore_n 1, 1) := by decide +kernel
theorem dX11_countOf_2 : decode cX11_countOf 2 = .ok (.iconst 0, 1) := by decide +kernel
theorem dX11_countOf_3 : decode cX11_countOf 3 = .ok (.istore_n 2, 1) := by decide +kernel
theorem dX11_countOf_4 : decode cX11_countOf 4 = .ok (.iload_n 2, 1) := by decide +kernel
theorem dX11_countOf_5 : decode cX11_countOf 5 = .ok (.bipush 9, 2) := by decide +kernel
theorem dX11_countOf_7 : decode cX11_countOf 7 = .ok (.if_icmp .ge 17, 3) := by decide +kernel
theorem dX11_countOf_10 : decode cX11_countOf 10 = .ok (.iload_n 1, 1) := by decide +kernel
theorem dX11_countOf_11 : decode cX11_countOf 11 = .ok (.iload_n 0, 1) := by decide +kernel
theorem dX11_countOf_12 : decode cX11_countOf 12 = .ok (.iload_n 2, 1) := by decide +kernel
theorem dX11_countOf_13 : decode cX11_countOf 13 = .ok (.ishr, 1) := by decide +kernel
theorem dX11_countOf_14 : decode cX11_countOf 14 = .ok (.iconst 1, 1) := by decide +kernel
theorem dX11_countOf_15 : decode cX11_countOf 15 = .ok (.iand, 1) := by decide +kernel
theorem dX11_countOf_16 : decode cX11_countOf 16 = .ok (.iadd, 1) := by decide +kernel
theorem dX11_countOf_17 : decode cX11_countOf 17 = .ok (.istore_n 1, 1) := by decide +kernel
theorem dX11_countOf_18 : decode cX11_countOf 18 = .ok (.iinc 2 1, 3) := by decide +kernel
theorem dX11_countOf_21 : decode cX11_countOf 21 = .ok (.goto (-17), 3) := by decide +kernel
theorem dX11_countOf_24 : decode cX11_countOf 24 = .ok (.iload_n 1, 1) := by decide +kernel
theorem dX11_countOf_25 : decode cX11_countOf 25 = .ok (.ireturn, 1) := by decide +kernel
theorem dX11_of_0 : decode cX11_of 0 = .ok (.aload_n 0, 1) := by decide +kernel
theorem dX11_of_1 : decode cX11_of 1 = .ok (.getfield 7, 3) := by decide +kernel
theorem dX11_of_4 : decode cX11_of 4 = .ok (.bipush 7, 2) := by decide +kernel
theorem dX11_of_6 : decode cX11_of 6 = .ok (.iload_n 1, 1) := by decide +kernel
theorem dX11_of_7 : decode cX11_of 7 = .ok (.imul, 1) := by decide +kernel
theorem dX11_of_8 : decode cX11_of 8 = .ok (.iload_n 2, 1) := by decide +kernel
theorem dX11_of_9 : decode cX11_of 9 = .ok (.iadd, 1) := by decide +kernel
theorem dX11_of_10 : decode cX11_of 10 = .ok (.iaload, 1) := by decide +kernel
theorem dX11_of_11 : decode cX11_of 11 = .ok (.ireturn, 1) := by decide +kernel
theorem dX11_firstDraft_0 : decode cX11_firstDraft 0 = .ok (.aload_n 0, 1) := by decide +kernel
theorem dX11_firstDraft_1 : decode cX11_firstDraft 1 = .ok (.iconst 0, 1) := by decide +kernel
theorem dX11_firstDraft_2 : decode cX11_firstDraft 2 = .ok (.putfield 98, 3) := by decide +kernel
theorem dX11_firstDraft_5 : decode cX11_firstDraft 5 = .ok (.aload_n 0, 1) := by decide +kernel
theorem dX11_firstDraft_6 : decode cX11_firstDraft 6 = .ok (.sipush 999, 3) := by decide +kernel
theorem dX11_firstDraft_9 : decode cX11_firstDraft 9 = .ok (.putfield 102, 3) := by decide +kernel
theorem dX11_firstDraft_12 : decode cX11_firstDraft 12 = .ok (.aload_n 0, 1) := by decide +kernel
theorem dX11_firstDraft_13 : decode cX11_firstDraft 13 = .ok (.iconst 0, 1) := by decide +kernel
theorem dX11_firstDraft_14 : decode cX11_firstDraft 14 = .ok (.putfield 105, 3) := by decide +kernel
theorem dX11_firstDraft_17 : decode cX11_firstDraft 17 = .ok (.aload_n 0, 1) := by decide +kernel
theorem dX11_firstDraft_18 : decode cX11_firstDraft 18 = .ok (.iconst 5, 1) := by decide +kernel
theorem dX11_firstDraft_19 : decode cX11_firstDraft 19 = .ok (.putfield 108, 3) := by decide +kernel
theorem dX11_firstDraft_22 : decode cX11_firstDraft 22 = .ok (.aload_n 0, 1) := by decide +kernel
theorem dX11_firstDraft_23 : decode cX11_firstDraft 23 = .ok (.iconst 0, 1) := by decide +kernel
theorem dX11_firstDraft_24 : decode cX11_firstDraft 24 = .ok (.putfield 111, 3) := by decide +kernel
theorem dX11_firstDraft_27 : decode cX11_firstDraft 27 = .ok (.aload_n 0, 1) := by decide +kernel
theorem dX11_firstDraft_28 : decode cX11_firstDraft 28 = .ok (.iconst 0, 1) := by decide +kernel
theorem dX11_firstDraft_29 : decode cX11_firstDraft 29 = .ok (.putfield 115, 3) := by decide +kernel
theorem dX11_firstDraft_32 : decode cX11_firstDraft 32 = .ok (.aload_n 0, 1) := by decide +kernel
theorem dX11_firstDraft_33 : decode cX11_firstDraft 33 = .ok (.iconst 0, 1) := by decide +kernel
theorem dX11_firstDraft_34 : decode cX11_firstDraft 34 = .ok (.putfield 118, 3) := by decide +kernel
theorem dX11_firstDraft_37 : decode cX11_firstDraft 37 = .ok (.return_, 1) := by decide +kernel
set_option maxRecDepth 20000 in
theorem ggX11_keepDraft_X11_begins : GoodIn wsX11_keepDraft wsX11_begins := goodIn_r _ [19, 20, 21, 22, 6, 23, 24, 25, 26, 27, 28, 29, 30, 31, 32, 2, 33, 34, 35, 36, 18, 37, 9, 38, 39, 40, 41, 42, 43, 44, 45, 46, 47, 48, 49, 50, 51, 52, 53, 54, 55, 56, 57, 58, 59, 60, 61, 62, 63, 64, 65, 66, 67, 68, 69, 70, 71, 72, 73, 74, 75, 76, 77, 78, 79, 80, 81, 82, 83, 84, 85, 86, 87, 88, 89, 90, 91, 92, 93, 94, 95, 96] (by decide +kernel) (by decide +kernel)
set_option maxRecDepth 20000 in
theorem gX11_keepDraft_X11_begins : GoodIn wsX11_keepDraft (wsV RX11 133 RX11 yX11_begins wsX11_begins) := goodIn_app (goodIn_of _ (by decide +kernel)) ggX11_keepDraft_X11_begins
theorem dX11_keepDraft_0 : decode cX11_keepDraft 0 = .ok (.aload_n 0, 1) := by decide +kernel
theorem dX11_keepDraft_1 : decode cX11_keepDraft 1 = .ok (.aload_n 0, 1) := by decide +kernel
theorem dX11_keepDraft_2 : decode cX11_keepDraft 2 = .ok (.getfield 98, 3) := by decide +kernel
theorem dX11_keepDraft_5 : decode cX11_keepDraft 5 = .ok (.putfield 121, 3) := by decide +kernel
theorem dX11_keepDraft_8 : decode cX11_keepDraft 8 = .ok (.aload_n 0, 1) := by decide +kernel
theorem dX11_keepDraft_9 : decode cX11_keepDraft 9 = .ok (.aload_n 0, 1) := by decide +kernel
theorem dX11_keepDraft_10 : decode cX11_keepDraft 10 = .ok (.getfield 102, 3) := by decide +kernel
theorem dX11_keepDraft_13 : decode cX11_keepDraft 13 = .ok (.putfield 124, 3) := by decide +kernel
theorem dX11_keepDraft_16 : decode cX11_keepDraft 16 = .ok (.aload_n 0, 1) := by decide +kernel
theorem dX11_keepDraft_17 : decode cX11_keepDraft 17 = .ok (.aload_n 0, 1) := by decide +kernel
theorem dX11_keepDraft_18 : decode cX11_keepDraft 18 = .ok (.getfield 105, 3) := by decide +kernel
theorem dX11_keepDraft_21 : decode cX11_keepDraft 21 = .ok (.putfield 127, 3) := by decide +kernel
theorem dX11_keepDraft_24 : decode cX11_keepDraft 24 = .ok (.aload_n 0, 1) := by decide +kernel
theorem dX11_keepDraft_25 : decode cX11_keepDraft 25 = .ok (.aload_n 0, 1) := by decide +kernel
theorem dX11_keepDraft_26 : decode cX11_keepDraft 26 = .ok (.getfield 108, 3) := by decide +kernel
theorem dX11_keepDraft_29 : decode cX11_keepDraft 29 = .ok (.putfield 130, 3) := by decide +kernel
theorem dX11_keepDraft_32 : decode cX11_keepDraft 32 = .ok (.iconst 0, 1) := by decide +kernel
theorem dX11_keepDraft_33 : decode cX11_keepDraft 33 = .ok (.istore_n 1, 1) := by decide +kernel
theorem dX11_keepDraft_34 : decode cX11_keepDraft 34 = .ok (.iload_n 1, 1) := by decide +kernel
theorem dX11_keepDraft_35 : decode cX11_keepDraft 35 = .ok (.bipush 56, 2) := by decide +kernel
theorem dX11_keepDraft_37 : decode cX11_keepDraft 37 = .ok (.if_icmp .ge 21, 3) := by decide +kernel
theorem dX11_keepDraft_40 : decode cX11_keepDraft 40 = .ok (.aload_n 0, 1) := by decide +kernel
theorem dX11_keepDraft_41 : decode cX11_keepDraft 41 = .ok (.getfield 7, 3) := by decide +kernel
theorem dX11_keepDraft_44 : decode cX11_keepDraft 44 = .ok (.iload_n 1, 1) := by decide +kernel
theorem dX11_keepDraft_45 : decode cX11_keepDraft 45 = .ok (.aload_n 0, 1) := by decide +kernel
theorem dX11_keepDraft_46 : decode cX11_keepDraft 46 = .ok (.getfield 20, 3) := by decide +kernel
theorem dX11_keepDraft_49 : decode cX11_keepDraft 49 = .ok (.iload_n 1, 1) := by decide +kernel
theorem dX11_keepDraft_50 : decode cX11_keepDraft 50 = .ok (.iaload, 1) := by decide +kernel
theorem dX11_keepDraft_51 : decode cX11_keepDraft 51 = .ok (.iastore, 1) := by decide +kernel
theorem dX11_keepDraft_52 : decode cX11_keepDraft 52 = .ok (.iinc 1 1, 3) := by decide +kernel
theorem dX11_keepDraft_55 : decode cX11_keepDraft 55 = .ok (.goto (-21), 3) := by decide +kernel
theorem dX11_keepDraft_58 : decode cX11_keepDraft 58 = .ok (.iconst 0, 1) := by decide +kernel
theorem dX11_keepDraft_59 : decode cX11_keepDraft 59 = .ok (.istore_n 1, 1) := by decide +kernel
theorem dX11_keepDraft_60 : decode cX11_keepDraft 60 = .ok (.iload_n 1, 1) := by decide +kernel
theorem dX11_keepDraft_61 : decode cX11_keepDraft 61 = .ok (.bipush 8, 2) := by decide +kernel
theorem dX11_keepDraft_63 : decode cX11_keepDraft 63 = .ok (.if_icmp .ge 21, 3) := by decide +kernel
theorem dX11_keepDraft_66 : decode cX11_keepDraft 66 = .ok (.aload_n 0, 1) := by decide +kernel
theorem dX11_keepDraft_67 : decode cX11_keepDraft 67 = .ok (.getfield 13, 3) := by decide +kernel
theorem dX11_keepDraft_70 : decode cX11_keepDraft 70 = .ok (.iload_n 1, 1) := by decide +kernel
theorem dX11_keepDraft_71 : decode cX11_keepDraft 71 = .ok (.aload_n 0, 1) := by decide +kernel
theorem dX11_keepDraft_72 : decode cX11_keepDraft 72 = .ok (.getfield 23, 3) := by decide +kernel
theorem dX11_keepDraft_75 : decode cX11_keepDraft 75 = .ok (.iload_n 1, 1) := by decide +kernel
theorem dX11_keepDraft_76 : decode cX11_keepDraft 76 = .ok (.iaload, 1) := by decide +kernel
theorem dX11_keepDraft_77 : decode cX11_keepDraft 77 = .ok (.iastore, 1) := by decide +kernel
theorem dX11_keepDraft_78 : decode cX11_keepDraft 78 = .ok (.iinc 1 1, 3) := by decide +kernel
theorem dX11_keepDraft_81 : decode cX11_keepDraft 81 = .ok (.goto (-21), 3) := by decide +kernel
theorem dX11_keepDraft_84 : decode cX11_keepDraft 84 = .ok (.iconst 0, 1) := by decide +kernel
theorem dX11_keepDraft_85 : decode cX11_keepDraft 85 = .ok (.istore_n 1, 1) := by decide +kernel
theorem dX11_keepDraft_86 : decode cX11_keepDraft 86 = .ok (.iload_n 1, 1) := by decide +kernel
theorem dX11_keepDraft_87 : decode cX11_keepDraft 87 = .ok (.sipush 4096, 3) := by decide +kernel
theorem dX11_keepDraft_90 : decode cX11_keepDraft 90 = .ok (.if_icmp .ge 21, 3) := by decide +kernel
theorem dX11_keepDraft_93 : decode cX11_keepDraft 93 = .ok (.aload_n 0, 1) := by decide +kernel
theorem dX11_keepDraft_94 : decode cX11_keepDraft 94 = .ok (.getfield 16, 3) := by decide +kernel
theorem dX11_keepDraft_97 : decode cX11_keepDraft 97 = .ok (.iload_n 1, 1) := by decide +kernel
theorem dX11_keepDraft_98 : decode cX11_keepDraft 98 = .ok (.aload_n 0, 1) := by decide +kernel
theorem dX11_keepDraft_99 : decode cX11_keepDraft 99 = .ok (.getfield 26, 3) := by decide +kernel
theorem dX11_keepDraft_102 : decode cX11_keepDraft 102 = .ok (.iload_n 1, 1) := by decide +kernel
theorem dX11_keepDraft_103 : decode cX11_keepDraft 103 = .ok (.baload, 1) := by decide +kernel
theorem dX11_keepDraft_104 : decode cX11_keepDraft 104 = .ok (.bastore, 1) := by decide +kernel
theorem dX11_keepDraft_105 : decode cX11_keepDraft 105 = .ok (.iinc 1 1, 3) := by decide +kernel
theorem dX11_keepDraft_108 : decode cX11_keepDraft 108 = .ok (.goto (-22), 3) := by decide +kernel
theorem dX11_keepDraft_111 : decode cX11_keepDraft 111 = .ok (.aload_n 0, 1) := by decide +kernel
theorem dX11_keepDraft_112 : decode cX11_keepDraft 112 = .ok (.invokevirtual 133, 3) := by decide +kernel
theorem dX11_keepDraft_115 : decode cX11_keepDraft 115 = .ok (.return_, 1) := by decide +kernel
theorem dX11_feed_0 : decode cX11_feed 0 = .ok (.aload_n 0, 1) := by decide +kernel
theorem dX11_feed_1 : decode cX11_feed 1 = .ok (.getfield 136, 3) := by decide +kernel
theorem dX11_feed_4 : decode cX11_feed 4 = .ok (.bipush 8, 2) := by decide +kernel
theorem dX11_feed_6 : decode cX11_feed 6 = .ok (.iadd, 1) := by decide +kernel
theorem dX11_feed_7 : decode cX11_feed 7 = .ok (.sipush 400, 3) := by decide +kernel
theorem dX11_feed_10 : decode cX11_feed 10 = .ok (.if_icmp .le 6, 3) := by decide +kernel
theorem dX11_feed_13 : decode cX11_feed 13 = .ok (.bipush (-3), 2) := by decide +kernel
theorem dX11_feed_15 : decode cX11_feed 15 = .ok (.ireturn, 1) := by decide +kernel
theorem dX11_feed_16 : decode cX11_feed 16 = .ok (.bipush 56, 2) := by decide +kernel
theorem dX11_feed_18 : decode cX11_feed 18 = .ok (.istore_n 3, 1) := by decide +kernel
theorem dX11_feed_19 : decode cX11_feed 19 = .ok (.iload_n 3, 1) := by decide +kernel
theorem dX11_feed_20 : decode cX11_feed 20 = .ok (.ifCond .lt 36, 3) := by decide +kernel
theorem dX11_feed_23 : decode cX11_feed 23 = .ok (.aload_n 0, 1) := by decide +kernel
theorem dX11_feed_24 : decode cX11_feed 24 = .ok (.getfield 44, 3) := by decide +kernel
theorem dX11_feed_27 : decode cX11_feed 27 = .ok (.aload_n 0, 1) := by decide +kernel
theorem dX11_feed_28 : decode cX11_feed 28 = .ok (.getfield 136, 3) := by decide +kernel
theorem dX11_feed_31 : decode cX11_feed 31 = .ok (.lload_n 1, 1) := by decide +kernel
theorem dX11_feed_32 : decode cX11_feed 32 = .ok (.iload_n 3, 1) := by decide +kernel
theorem dX11_feed_33 : decode cX11_feed 33 = .ok (.lshr, 1) := by decide +kernel
theorem dX11_feed_34 : decode cX11_feed 34 = .ok (.ldc2_w 139, 3) := by decide +kernel
theorem dX11_feed_37 : decode cX11_feed 37 = .ok (.land, 1) := by decide +kernel
theorem dX11_feed_38 : decode cX11_feed 38 = .ok (.l2i, 1) := by decide +kernel
theorem dX11_feed_39 : decode cX11_feed 39 = .ok (.iastore, 1) := by decide +kernel
theorem dX11_feed_40 : decode cX11_feed 40 = .ok (.aload_n 0, 1) := by decide +kernel
theorem dX11_feed_41 : decode cX11_feed 41 = .ok (.dup, 1) := by decide +kernel
theorem dX11_feed_42 : decode cX11_feed 42 = .ok (.getfield 136, 3) := by decide +kernel
theorem dX11_feed_45 : decode cX11_feed 45 = .ok (.iconst 1, 1) := by decide +kernel
theorem dX11_feed_46 : decode cX11_feed 46 = .ok (.iadd, 1) := by decide +kernel
theorem dX11_feed_47 : decode cX11_feed 47 = .ok (.putfield 136, 3) := by decide +kernel
theorem dX11_feed_50 : decode cX11_feed 50 = .ok (.iinc 3 (-8), 3) := by decide +kernel
theorem dX11_feed_53 : decode cX11_feed 53 = .ok (.goto (-34), 3) := by decide +kernel
theorem dX11_feed_56 : decode cX11_feed 56 = .ok (.aload_n 0, 1) := by decide +kernel
theorem dX11_feed_57 : decode cX11_feed 57 = .ok (.getfield 136, 3) := by decide +kernel
theorem dX11_feed_60 : decode cX11_feed 60 = .ok (.ireturn, 1) := by decide +kernel
set_option maxRecDepth 20000 in
theorem ggX11_end_X11_in : GoodIn wsX11_end wsX11_in := goodIn_r _ [5] (by decide +kernel) (by decide +kernel)
set_option maxRecDepth 20000 in
theorem gX11_end_X11_in : GoodIn wsX11_end (va_wsS RX11 141 yX11_in wsX11_in) := goodIn_app (goodIn_of _ (by decide +kernel)) ggX11_end_X11_in
theorem dX11_end_0 : decode cX11_end 0 = .ok (.iload_n 1, 1) := by decide +kernel
theorem dX11_end_1 : decode cX11_end 1 = .ok (.i2l, 1) := by decide +kernel
theorem dX11_end_2 : decode cX11_end 2 = .ok (.lconst 0, 1) := by decide +kernel
theorem dX11_end_3 : decode cX11_end 3 = .ok (.aload_n 0, 1) := by decide +kernel
theorem dX11_end_4 : decode cX11_end 4 = .ok (.getfield 136, 3) := by decide +kernel
theorem dX11_end_7 : decode cX11_end 7 = .ok (.i2l, 1) := by decide +kernel
theorem dX11_end_8 : decode cX11_end 8 = .ok (.invokestatic 141, 3) := by decide +kernel
theorem dX11_end_11 : decode cX11_end 11 = .ok (.ifCond .ne 5, 3) := by decide +kernel
theorem dX11_end_14 : decode cX11_end 14 = .ok (.iconst (-1), 1) := by decide +kernel
theorem dX11_end_15 : decode cX11_end 15 = .ok (.ireturn, 1) := by decide +kernel
theorem dX11_end_16 : decode cX11_end 16 = .ok (.aload_n 0, 1) := by decide +kernel
theorem dX11_end_17 : decode cX11_end 17 = .ok (.getfield 136, 3) := by decide +kernel
theorem dX11_end_20 : decode cX11_end 20 = .ok (.istore_n 2, 1) := by decide +kernel
theorem dX11_end_21 : decode cX11_end 21 = .ok (.aload_n 0, 1) := by decide +kernel
theorem dX11_end_22 : decode cX11_end 22 = .ok (.iload_n 1, 1) := by decide +kernel
theorem dX11_end_23 : decode cX11_end 23 = .ok (.putfield 136, 3) := by decide +kernel
theorem dX11_end_26 : decode cX11_end 26 = .ok (.iload_n 2, 1) := by decide +kernel
theorem dX11_end_27 : decode cX11_end 27 = .ok (.ireturn, 1) := by decide +kernel
theorem dX11_wants_0 : decode cX11_wants 0 = .ok (.iload_n 1, 1) := by decide +kernel
theorem dX11_wants_1 : decode cX11_wants 1 = .ok (.ifCond .ne 23, 3) := by decide +kernel
theorem dX11_wants_4 : decode cX11_wants 4 = .ok (.aload_n 0, 1) := by decide +kernel
theorem dX11_wants_5 : decode cX11_wants 5 = .ok (.getfield 145, 3) := by decide +kernel
theorem dX11_wants_8 : decode cX11_wants 8 = .ok (.ifCond .ne 16, 3) := by decide +kernel
theorem dX11_wants_11 : decode cX11_wants 11 = .ok (.aload_n 0, 1) := by decide +kernel
theorem dX11_wants_12 : decode cX11_wants 12 = .ok (.iload_n 2, 1) := by decide +kernel
theorem dX11_wants_13 : decode cX11_wants 13 = .ok (.putfield 145, 3) := by decide +kernel
theorem dX11_wants_16 : decode cX11_wants 16 = .ok (.aload_n 0, 1) := by decide +kernel
theorem dX11_wants_17 : decode cX11_wants 17 = .ok (.aload_n 0, 1) := by decide +kernel
theorem dX11_wants_18 : decode cX11_wants 18 = .ok (.getfield 148, 3) := by decide +kernel
theorem dX11_wants_21 : decode cX11_wants 21 = .ok (.putfield 151, 3) := by decide +kernel
theorem dX11_wants_24 : decode cX11_wants 24 = .ok (.return_, 1) := by decide +kernel
theorem dX11_look_0 : decode cX11_look 0 = .ok (.iload_n 1, 1) := by decide +kernel
theorem dX11_look_1 : decode cX11_look 1 = .ok (.aload_n 0, 1) := by decide +kernel
theorem dX11_look_2 : decode cX11_look 2 = .ok (.getfield 136, 3) := by decide +kernel
theorem dX11_look_5 : decode cX11_look 5 = .ok (.if_icmp .ge 12, 3) := by decide +kernel
theorem dX11_look_8 : decode cX11_look 8 = .ok (.aload_n 0, 1) := by decide +kernel
theorem dX11_look_9 : decode cX11_look 9 = .ok (.getfield 44, 3) := by decide +kernel
theorem dX11_look_12 : decode cX11_look 12 = .ok (.iload_n 1, 1) := by decide +kernel
theorem dX11_look_13 : decode cX11_look 13 = .ok (.iaload, 1) := by decide +kernel
theorem dX11_look_14 : decode cX11_look 14 = .ok (.goto 4, 3) := by decide +kernel
theorem dX11_look_17 : decode cX11_look 17 = .ok (.iconst (-1), 1) := by decide +kernel
theorem dX11_look_18 : decode cX11_look 18 = .ok (.ireturn, 1) := by decide +kernel
set_option maxRecDepth 20000 in
theorem ggX11_is_X11_look : GoodIn wsX11_is wsX11_look := goodIn_r _ [7, 8, 9, 10, 11, 12, 13, 14, 15, 16, 17, 18, 19, 20, 21, 22, 23, 24, 25, 26, 27, 28, 29, 30, 31, 32, 33, 34, 35, 36, 37, 38, 39, 40, 41, 42, 43, 44, 45, 46, 47, 48, 49, 50, 51, 52, 53, 54, 55, 56, 57, 58, 59, 60, 61, 62, 63, 64, 65, 66, 67, 68] (by decide +kernel) (by decide +kernel)
set_option maxRecDepth 20000 in
theorem gX11_is_X11_look : GoodIn wsX11_is (wsV RX11 157 RX11 yX11_look wsX11_look) := goodIn_app (goodIn_of _ (by decide +kernel)) ggX11_is_X11_look
theorem dX11_is_0 : decode cX11_is 0 = .ok (.aload_n 0, 1) := by decide +kernel
theorem dX11_is_1 : decode cX11_is 1 = .ok (.getfield 154, 3) := by decide +kernel
theorem dX11_is_4 : decode cX11_is 4 = .ok (.aload_n 0, 1) := by decide +kernel
theorem dX11_is_5 : decode cX11_is 5 = .ok (.getfield 148, 3) := by decide +kernel
theorem dX11_is_8 : decode cX11_is 8 = .ok (.isub, 1) := by decide +kernel
theorem dX11_is_9 : decode cX11_is 9 = .ok (.iload_n 1, 1) := by decide +kernel
theorem dX11_is_10 : decode cX11_is 10 = .ok (.if_icmp .ne 68, 3) := by decide +kernel
theorem dX11_is_13 : decode cX11_is 13 = .ok (.aload_n 0, 1) := by decide +kernel
theorem dX11_is_14 : decode cX11_is 14 = .ok (.aload_n 0, 1) := by decide +kernel
theorem dX11_is_15 : decode cX11_is 15 = .ok (.getfield 148, 3) := by decide +kernel
theorem dX11_is_18 : decode cX11_is 18 = .ok (.invokevirtual 157, 3) := by decide +kernel
theorem dX11_is_21 : decode cX11_is 21 = .ok (.iload_n 2, 1) := by decide +kernel
theorem dX11_is_22 : decode cX11_is 22 = .ok (.if_icmp .ne 56, 3) := by decide +kernel
theorem dX11_is_25 : decode cX11_is 25 = .ok (.aload_n 0, 1) := by decide +kernel
theorem dX11_is_26 : decode cX11_is 26 = .ok (.aload_n 0, 1) := by decide +kernel
theorem dX11_is_27 : decode cX11_is 27 = .ok (.getfield 148, 3) := by decide +kernel
theorem dX11_is_30 : decode cX11_is 30 = .ok (.iconst 1, 1) := by decide +kernel
theorem dX11_is_31 : decode cX11_is 31 = .ok (.iadd, 1) := by decide +kernel
theorem dX11_is_32 : decode cX11_is 32 = .ok (.invokevirtual 157, 3) := by decide +kernel
theorem dX11_is_35 : decode cX11_is 35 = .ok (.iload_n 3, 1) := by decide +kernel
theorem dX11_is_36 : decode cX11_is 36 = .ok (.if_icmp .ne 42, 3) := by decide +kernel
theorem dX11_is_39 : decode cX11_is 39 = .ok (.aload_n 0, 1) := by decide +kernel
theorem dX11_is_40 : decode cX11_is 40 = .ok (.aload_n 0, 1) := by decide +kernel
theorem dX11_is_41 : decode cX11_is 41 = .ok (.getfield 148, 3) := by decide +kernel
theorem dX11_is_44 : decode cX11_is 44 = .ok (.iconst 2, 1) := by decide +kernel
theorem dX11_is_45 : decode cX11_is 45 = .ok (.iadd, 1) := by decide +kernel
theorem dX11_is_46 : decode cX11_is 46 = .ok (.invokevirtual 157, 3) := by decide +kernel
theorem dX11_is_49 : decode cX11_is 49 = .ok (.iload 4, 2) := by decide +kernel
theorem dX11_is_51 : decode cX11_is 51 = .ok (.if_icmp .ne 27, 3) := by decide +kernel
theorem dX11_is_54 : decode cX11_is 54 = .ok (.iload_n 1, 1) := by decide +kernel
theorem dX11_is_55 : decode cX11_is 55 = .ok (.iconst 4, 1) := by decide +kernel
theorem dX11_is_56 : decode cX11_is 56 = .ok (.if_icmp .lt 18, 3) := by decide +kernel
theorem dX11_is_59 : decode cX11_is 59 = .ok (.aload_n 0, 1) := by decide +kernel
theorem dX11_is_60 : decode cX11_is 60 = .ok (.aload_n 0, 1) := by decide +kernel
theorem dX11_is_61 : decode cX11_is 61 = .ok (.getfield 148, 3) := by decide +kernel
theorem dX11_is_64 : decode cX11_is 64 = .ok (.iconst 3, 1) := by decide +kernel
theorem dX11_is_65 : decode cX11_is 65 = .ok (.iadd, 1) := by decide +kernel
theorem dX11_is_66 : decode cX11_is 66 = .ok (.invokevirtual 157, 3) := by decide +kernel
theorem dX11_is_69 : decode cX11_is 69 = .ok (.iload 5, 2) := by decide +kernel
theorem dX11_is_71 : decode cX11_is 71 = .ok (.if_icmp .ne 7, 3) := by decide +kernel
theorem dX11_is_74 : decode cX11_is 74 = .ok (.iconst 1, 1) := by decide +kernel
theorem dX11_is_75 : decode cX11_is 75 = .ok (.goto 4, 3) := by decide +kernel
theorem dX11_is_78 : decode cX11_is 78 = .ok (.iconst 0, 1) := by decide +kernel
theorem dX11_is_79 : decode cX11_is 79 = .ok (.ireturn, 1) := by decide +kernel
set_option maxRecDepth 20000 in
theorem ggX11_nameNow_X11_look : GoodIn wsX11_nameNow wsX11_look := goodIn_r _ [8, 9, 10, 18, 19, 20, 21, 22, 23, 24, 25, 26, 27, 28, 29, 30, 31, 32, 33, 34, 35, 36, 37, 38, 39, 40, 41, 42, 43, 44, 45, 46, 47, 48, 49, 50, 51, 52, 53, 54, 55, 56, 57, 58, 59, 60, 61, 62, 63, 64, 65, 66, 67, 68, 69, 70, 71, 72, 73, 74, 75, 76] (by decide +kernel) (by decide +kernel)
set_option maxRecDepth 20000 in
theorem gX11_nameNow_X11_look : GoodIn wsX11_nameNow (wsV RX11 157 RX11 yX11_look wsX11_look) := goodIn_app (goodIn_of _ (by decide +kernel)) ggX11_nameNow_X11_look
set_option maxRecDepth 20000 in
theorem ggX11_nameNow_X11_in : GoodIn wsX11_nameNow wsX11_in := goodIn_r _ [13] (by decide +kernel) (by decide +kernel)
set_option maxRecDepth 20000 in
theorem gX11_nameNow_X11_in : GoodIn wsX11_nameNow (va_wsS RX11 141 yX11_in wsX11_in) := goodIn_app (goodIn_of _ (by decide +kernel)) ggX11_nameNow_X11_in
set_option maxRecDepth 20000 in
theorem ggX11_nameNow_X11_is : GoodIn wsX11_nameNow wsX11_is := goodIn_r _ [17, 2, 1, 4, 5, 6, 7, 8, 9, 10, 18, 19, 20, 21, 22, 23, 24, 25, 26, 27, 28, 29, 30, 31, 32, 33, 34, 35, 36, 37, 38, 39, 40, 41, 42, 43, 44, 45, 46, 47, 48, 49, 50, 51, 52, 53, 54, 55, 56, 57, 58, 59, 60, 61, 62, 63, 64, 65, 66, 67, 68, 69, 70, 71, 72, 73, 74, 75, 76] (by decide +kernel) (by decide +kernel)
set_option maxRecDepth 20000 in
theorem gX11_nameNow_X11_is : GoodIn wsX11_nameNow (wsV RX11 163 RX11 yX11_is wsX11_is) := goodIn_app (goodIn_of _ (by decide +kernel)) ggX11_nameNow_X11_is
theorem dX11_nameNow_0 : decode cX11_nameNow 0 = .ok (.aload_n 0, 1) := by decide +kernel
theorem dX11_nameNow_1 : decode cX11_nameNow 1 = .ok (.aload_n 0, 1) := by decide +kernel
theorem dX11_nameNow_2 : decode cX11_nameNow 2 = .ok (.getfield 148, 3) := by decide +kernel
theorem dX11_nameNow_5 : decode cX11_nameNow 5 = .ok (.invokevirtual 157, 3) := by decide +kernel
theorem dX11_nameNow_8 : decode cX11_nameNow 8 = .ok (.bipush 97, 2) := by decide +kernel
theorem dX11_nameNow_10 : decode cX11_nameNow 10 = .ok (.isub, 1) := by decide +kernel
theorem dX11_nameNow_11 : decode cX11_nameNow 11 = .ok (.istore_n 1, 1) := by decide +kernel
theorem dX11_nameNow_12 : decode cX11_nameNow 12 = .ok (.aload_n 0, 1) := by decide +kernel
theorem dX11_nameNow_13 : decode cX11_nameNow 13 = .ok (.getfield 154, 3) := by decide +kernel
theorem dX11_nameNow_16 : decode cX11_nameNow 16 = .ok (.aload_n 0, 1) := by decide +kernel
theorem dX11_nameNow_17 : decode cX11_nameNow 17 = .ok (.getfield 148, 3) := by decide +kernel
theorem dX11_nameNow_20 : decode cX11_nameNow 20 = .ok (.isub, 1) := by decide +kernel
theorem dX11_nameNow_21 : decode cX11_nameNow 21 = .ok (.iconst 1, 1) := by decide +kernel
theorem dX11_nameNow_22 : decode cX11_nameNow 22 = .ok (.if_icmp .ne 22, 3) := by decide +kernel
theorem dX11_nameNow_25 : decode cX11_nameNow 25 = .ok (.iload_n 1, 1) := by decide +kernel
theorem dX11_nameNow_26 : decode cX11_nameNow 26 = .ok (.i2l, 1) := by decide +kernel
theorem dX11_nameNow_27 : decode cX11_nameNow 27 = .ok (.lconst 0, 1) := by decide +kernel
theorem dX11_nameNow_28 : decode cX11_nameNow 28 = .ok (.ldc2_w 161, 3) := by decide +kernel
theorem dX11_nameNow_31 : decode cX11_nameNow 31 = .ok (.invokestatic 141, 3) := by decide +kernel
theorem dX11_nameNow_34 : decode cX11_nameNow 34 = .ok (.ifCond .eq 7, 3) := by decide +kernel
theorem dX11_nameNow_37 : decode cX11_nameNow 37 = .ok (.iload_n 1, 1) := by decide +kernel
theorem dX11_nameNow_38 : decode cX11_nameNow 38 = .ok (.goto 5, 3) := by decide +kernel
theorem dX11_nameNow_41 : decode cX11_nameNow 41 = .ok (.bipush (-4), 2) := by decide +kernel
theorem dX11_nameNow_43 : decode cX11_nameNow 43 = .ok (.ireturn, 1) := by decide +kernel
theorem dX11_nameNow_44 : decode cX11_nameNow 44 = .ok (.aload_n 0, 1) := by decide +kernel
theorem dX11_nameNow_45 : decode cX11_nameNow 45 = .ok (.iconst 4, 1) := by decide +kernel
theorem dX11_nameNow_46 : decode cX11_nameNow 46 = .ok (.bipush 114, 2) := by decide +kernel
theorem dX11_nameNow_48 : decode cX11_nameNow 48 = .ok (.bipush 97, 2) := by decide +kernel
theorem dX11_nameNow_50 : decode cX11_nameNow 50 = .ok (.bipush 105, 2) := by decide +kernel
theorem dX11_nameNow_52 : decode cX11_nameNow 52 = .ok (.bipush 108, 2) := by decide +kernel
theorem dX11_nameNow_54 : decode cX11_nameNow 54 = .ok (.invokevirtual 163, 3) := by decide +kernel
theorem dX11_nameNow_57 : decode cX11_nameNow 57 = .ok (.ifCond .eq 6, 3) := by decide +kernel
theorem dX11_nameNow_60 : decode cX11_nameNow 60 = .ok (.bipush 20, 2) := by decide +kernel
theorem dX11_nameNow_62 : decode cX11_nameNow 62 = .ok (.ireturn, 1) := by decide +kernel
theorem dX11_nameNow_63 : decode cX11_nameNow 63 = .ok (.aload_n 0, 1) := by decide +kernel
theorem dX11_nameNow_64 : decode cX11_nameNow 64 = .ok (.iconst 5, 1) := by decide +kernel
theorem dX11_nameNow_65 : decode cX11_nameNow 65 = .ok (.bipush 108, 2) := by decide +kernel
theorem dX11_nameNow_67 : decode cX11_nameNow 67 = .ok (.bipush 105, 2) := by decide +kernel
theorem dX11_nameNow_69 : decode cX11_nameNow 69 = .ok (.bipush 109, 2) := by decide +kernel
theorem dX11_nameNow_71 : decode cX11_nameNow 71 = .ok (.bipush 105, 2) := by decide +kernel
theorem dX11_nameNow_73 : decode cX11_nameNow 73 = .ok (.invokevirtual 163, 3) := by decide +kernel
theorem dX11_nameNow_76 : decode cX11_nameNow 76 = .ok (.ifCond .eq 21, 3) := by decide +kernel
theorem dX11_nameNow_79 : decode cX11_nameNow 79 = .ok (.aload_n 0, 1) := by decide +kernel
theorem dX11_nameNow_80 : decode cX11_nameNow 80 = .ok (.aload_n 0, 1) := by decide +kernel
theorem dX11_nameNow_81 : decode cX11_nameNow 81 = .ok (.getfield 148, 3) := by decide +kernel
theorem dX11_nameNow_84 : decode cX11_nameNow 84 = .ok (.iconst 4, 1) := by decide +kernel
theorem dX11_nameNow_85 : decode cX11_nameNow 85 = .ok (.iadd, 1) := by decide +kernel
theorem dX11_nameNow_86 : decode cX11_nameNow 86 = .ok (.invokevirtual 157, 3) := by decide +kernel
theorem dX11_nameNow_89 : decode cX11_nameNow 89 = .ok (.bipush 116, 2) := by decide +kernel
theorem dX11_nameNow_91 : decode cX11_nameNow 91 = .ok (.if_icmp .ne 6, 3) := by decide +kernel
theorem dX11_nameNow_94 : decode cX11_nameNow 94 = .ok (.bipush 21, 2) := by decide +kernel
theorem dX11_nameNow_96 : decode cX11_nameNow 96 = .ok (.ireturn, 1) := by decide +kernel
theorem dX11_nameNow_97 : decode cX11_nameNow 97 = .ok (.aload_n 0, 1) := by decide +kernel
theorem dX11_nameNow_98 : decode cX11_nameNow 98 = .ok (.iconst 5, 1) := by decide +kernel
theorem dX11_nameNow_99 : decode cX11_nameNow 99 = .ok (.bipush 114, 2) := by decide +kernel
theorem dX11_nameNow_101 : decode cX11_nameNow 101 = .ok (.bipush 101, 2) := by decide +kernel
theorem dX11_nameNow_103 : decode cX11_nameNow 103 = .ok (.bipush 116, 2) := by decide +kernel
theorem dX11_nameNow_105 : decode cX11_nameNow 105 = .ok (.bipush 114, 2) := by decide +kernel
theorem dX11_nameNow_107 : decode cX11_nameNow 107 = .ok (.invokevirtual 163, 3) := by decide +kernel
theorem dX11_nameNow_110 : decode cX11_nameNow 110 = .ok (.ifCond .eq 21, 3) := by decide +kernel
theorem dX11_nameNow_113 : decode cX11_nameNow 113 = .ok (.aload_n 0, 1) := by decide +kernel
theorem dX11_nameNow_114 : decode cX11_nameNow 114 = .ok (.aload_n 0, 1) := by decide +kernel
theorem dX11_nameNow_115 : decode cX11_nameNow 115 = .ok (.getfield 148, 3) := by decide +kernel
theorem dX11_nameNow_118 : decode cX11_nameNow 118 = .ok (.iconst 4, 1) := by decide +kernel
theorem dX11_nameNow_119 : decode cX11_nameNow 119 = .ok (.iadd, 1) := by decide +kernel
theorem dX11_nameNow_120 : decode cX11_nameNow 120 = .ok (.invokevirtual 157, 3) := by decide +kernel
theorem dX11_nameNow_123 : decode cX11_nameNow 123 = .ok (.bipush 121, 2) := by decide +kernel
theorem dX11_nameNow_125 : decode cX11_nameNow 125 = .ok (.if_icmp .ne 6, 3) := by decide +kernel
theorem dX11_nameNow_128 : decode cX11_nameNow 128 = .ok (.bipush 22, 2) := by decide +kernel
theorem dX11_nameNow_130 : decode cX11_nameNow 130 = .ok (.ireturn, 1) := by decide +kernel
theorem dX11_nameNow_131 : decode cX11_nameNow 131 = .ok (.aload_n 0, 1) := by decide +kernel
theorem dX11_nameNow_132 : decode cX11_nameNow 132 = .ok (.iconst 4, 1) := by decide +kernel
theorem dX11_nameNow_133 : decode cX11_nameNow 133 = .ok (.bipush 102, 2) := by decide +kernel
theorem dX11_nameNow_135 : decode cX11_nameNow 135 = .ok (.bipush 97, 2) := by decide +kernel
theorem dX11_nameNow_137 : decode cX11_nameNow 137 = .ok (.bipush 108, 2) := by decide +kernel
theorem dX11_nameNow_139 : decode cX11_nameNow 139 = .ok (.bipush 108, 2) := by decide +kernel
theorem dX11_nameNow_141 : decode cX11_nameNow 141 = .ok (.invokevirtual 163, 3) := by decide +kernel
theorem dX11_nameNow_144 : decode cX11_nameNow 144 = .ok (.ifCond .eq 6, 3) := by decide +kernel
theorem dX11_nameNow_147 : decode cX11_nameNow 147 = .ok (.bipush 23, 2) := by decide +kernel
theorem dX11_nameNow_149 : decode cX11_nameNow 149 = .ok (.ireturn, 1) := by decide +kernel
theorem dX11_nameNow_150 : decode cX11_nameNow 150 = .ok (.aload_n 0, 1) := by decide +kernel
theorem dX11_nameNow_151 : decode cX11_nameNow 151 = .ok (.iconst 4, 1) := by decide +kernel
theorem dX11_nameNow_152 : decode cX11_nameNow 152 = .ok (.bipush 100, 2) := by decide +kernel
theorem dX11_nameNow_154 : decode cX11_nameNow 154 = .ok (.bipush 114, 2) := by decide +kernel
theorem dX11_nameNow_156 : decode cX11_nameNow 156 = .ok (.bipush 97, 2) := by decide +kernel
theorem dX11_nameNow_158 : decode cX11_nameNow 158 = .ok (.bipush 119, 2) := by decide +kernel
theorem dX11_nameNow_160 : decode cX11_nameNow 160 = .ok (.invokevirtual 163, 3) := by decide +kernel
theorem dX11_nameNow_163 : decode cX11_nameNow 163 = .ok (.ifCond .eq 6, 3) := by decide +kernel
theorem dX11_nameNow_166 : decode cX11_nameNow 166 = .ok (.bipush 24, 2) := by decide +kernel
theorem dX11_nameNow_168 : decode cX11_nameNow 168 = .ok (.ireturn, 1) := by decide +kernel
theorem dX11_nameNow_169 : decode cX11_nameNow 169 = .ok (.aload_n 0, 1) := by decide +kernel
theorem dX11_nameNow_170 : decode cX11_nameNow 170 = .ok (.iconst 4, 1) := by decide +kernel
theorem dX11_nameNow_171 : decode cX11_nameNow 171 = .ok (.bipush 119, 2) := by decide +kernel
theorem dX11_nameNow_173 : decode cX11_nameNow 173 = .ok (.bipush 97, 2) := by decide +kernel
theorem dX11_nameNow_175 : decode cX11_nameNow 175 = .ok (.bipush 105, 2) := by decide +kernel
theorem dX11_nameNow_177 : decode cX11_nameNow 177 = .ok (.bipush 116, 2) := by decide +kernel
theorem dX11_nameNow_179 : decode cX11_nameNow 179 = .ok (.invokevirtual 163, 3) := by decide +kernel
theorem dX11_nameNow_182 : decode cX11_nameNow 182 = .ok (.ifCond .eq 6, 3) := by decide +kernel
theorem dX11_nameNow_185 : decode cX11_nameNow 185 = .ok (.bipush 25, 2) := by decide +kernel
theorem dX11_nameNow_187 : decode cX11_nameNow 187 = .ok (.ireturn, 1) := by decide +kernel
theorem dX11_nameNow_188 : decode cX11_nameNow 188 = .ok (.aload_n 0, 1) := by decide +kernel
theorem dX11_nameNow_189 : decode cX11_nameNow 189 = .ok (.bipush 6, 2) := by decide +kernel
theorem dX11_nameNow_191 : decode cX11_nameNow 191 = .ok (.bipush 119, 2) := by decide +kernel
theorem dX11_nameNow_193 : decode cX11_nameNow 193 = .ok (.bipush 105, 2) := by decide +kernel
theorem dX11_nameNow_195 : decode cX11_nameNow 195 = .ok (.bipush 116, 2) := by decide +kernel
theorem dX11_nameNow_197 : decode cX11_nameNow 197 = .ok (.bipush 104, 2) := by decide +kernel
theorem dX11_nameNow_199 : decode cX11_nameNow 199 = .ok (.invokevirtual 163, 3) := by decide +kernel
theorem dX11_nameNow_202 : decode cX11_nameNow 202 = .ok (.ifCond .eq 36, 3) := by decide +kernel
theorem dX11_nameNow_205 : decode cX11_nameNow 205 = .ok (.aload_n 0, 1) := by decide +kernel
theorem dX11_nameNow_206 : decode cX11_nameNow 206 = .ok (.aload_n 0, 1) := by decide +kernel
theorem dX11_nameNow_207 : decode cX11_nameNow 207 = .ok (.getfield 148, 3) := by decide +kernel
theorem dX11_nameNow_210 : decode cX11_nameNow 210 = .ok (.iconst 4, 1) := by decide +kernel
theorem dX11_nameNow_211 : decode cX11_nameNow 211 = .ok (.iadd, 1) := by decide +kernel
theorem dX11_nameNow_212 : decode cX11_nameNow 212 = .ok (.invokevirtual 157, 3) := by decide +kernel
theorem dX11_nameNow_215 : decode cX11_nameNow 215 = .ok (.bipush 105, 2) := by decide +kernel
theorem dX11_nameNow_217 : decode cX11_nameNow 217 = .ok (.if_icmp .ne 21, 3) := by decide +kernel
theorem dX11_nameNow_220 : decode cX11_nameNow 220 = .ok (.aload_n 0, 1) := by decide +kernel
theorem dX11_nameNow_221 : decode cX11_nameNow 221 = .ok (.aload_n 0, 1) := by decide +kernel
theorem dX11_nameNow_222 : decode cX11_nameNow 222 = .ok (.getfield 148, 3) := by decide +kernel
theorem dX11_nameNow_225 : decode cX11_nameNow 225 = .ok (.iconst 5, 1) := by decide +kernel
theorem dX11_nameNow_226 : decode cX11_nameNow 226 = .ok (.iadd, 1) := by decide +kernel
theorem dX11_nameNow_227 : decode cX11_nameNow 227 = .ok (.invokevirtual 157, 3) := by decide +kernel
theorem dX11_nameNow_230 : decode cX11_nameNow 230 = .ok (.bipush 110, 2) := by decide +kernel
theorem dX11_nameNow_232 : decode cX11_nameNow 232 = .ok (.if_icmp .ne 6, 3) := by decide +kernel
theorem dX11_nameNow_235 : decode cX11_nameNow 235 = .ok (.bipush 26, 2) := by decide +kernel
theorem dX11_nameNow_237 : decode cX11_nameNow 237 = .ok (.ireturn, 1) := by decide +kernel
theorem dX11_nameNow_238 : decode cX11_nameNow 238 = .ok (.aload_n 0, 1) := by decide +kernel
theorem dX11_nameNow_239 : decode cX11_nameNow 239 = .ok (.iconst 4, 1) := by decide +kernel
theorem dX11_nameNow_240 : decode cX11_nameNow 240 = .ok (.bipush 119, 2) := by decide +kernel
theorem dX11_nameNow_242 : decode cX11_nameNow 242 = .ok (.bipush 104, 2) := by decide +kernel
theorem dX11_nameNow_244 : decode cX11_nameNow 244 = .ok (.bipush 101, 2) := by decide +kernel
theorem dX11_nameNow_246 : decode cX11_nameNow 246 = .ok (.bipush 110, 2) := by decide +kernel
theorem dX11_nameNow_248 : decode cX11_nameNow 248 = .ok (.invokevirtual 163, 3) := by decide +kernel
theorem dX11_nameNow_251 : decode cX11_nameNow 251 = .ok (.ifCond .eq 8, 3) := by decide +kernel
theorem dX11_nameNow_254 : decode cX11_nameNow 254 = .ok (.bipush 27, 2) := by decide +kernel
theorem dX11_nameNow_256 : decode cX11_nameNow 256 = .ok (.goto 25, 3) := by decide +kernel
theorem dX11_nameNow_259 : decode cX11_nameNow 259 = .ok (.aload_n 0, 1) := by decide +kernel
theorem dX11_nameNow_260 : decode cX11_nameNow 260 = .ok (.iconst 3, 1) := by decide +kernel
theorem dX11_nameNow_261 : decode cX11_nameNow 261 = .ok (.bipush 107, 2) := by decide +kernel
theorem dX11_nameNow_263 : decode cX11_nameNow 263 = .ok (.bipush 101, 2) := by decide +kernel
theorem dX11_nameNow_265 : decode cX11_nameNow 265 = .ok (.bipush 121, 2) := by decide +kernel
theorem dX11_nameNow_267 : decode cX11_nameNow 267 = .ok (.iconst 0, 1) := by decide +kernel
theorem dX11_nameNow_268 : decode cX11_nameNow 268 = .ok (.invokevirtual 163, 3) := by decide +kernel
theorem dX11_nameNow_271 : decode cX11_nameNow 271 = .ok (.ifCond .eq 8, 3) := by decide +kernel
theorem dX11_nameNow_274 : decode cX11_nameNow 274 = .ok (.bipush 28, 2) := by decide +kernel
theorem dX11_nameNow_276 : decode cX11_nameNow 276 = .ok (.goto 5, 3) := by decide +kernel
theorem dX11_nameNow_279 : decode cX11_nameNow 279 = .ok (.bipush (-4), 2) := by decide +kernel
theorem dX11_nameNow_281 : decode cX11_nameNow 281 = .ok (.ireturn, 1) := by decide +kernel
set_option maxRecDepth 20000 in
theorem ggX11_next_X11_look : GoodIn wsX11_next wsX11_look := goodIn_r _ [14, 15, 16, 25, 26, 27, 28, 29, 30, 31, 32, 33, 34, 35, 36, 37, 38, 39, 40, 41, 42, 43, 44, 45, 46, 47, 48, 49, 50, 51, 52, 53, 54, 55, 56, 57, 58, 59, 60, 61, 62, 63, 64, 65, 66, 67, 68, 69, 70, 71, 72, 73, 74, 75, 76, 77, 78, 79, 80, 81, 82, 83] (by decide +kernel) (by decide +kernel)
set_option maxRecDepth 20000 in
theorem gX11_next_X11_look : GoodIn wsX11_next (wsV RX11 157 RX11 yX11_look wsX11_look) := goodIn_app (goodIn_of _ (by decide +kernel)) ggX11_next_X11_look
set_option maxRecDepth 20000 in
theorem ggX11_next_X11_in : GoodIn wsX11_next wsX11_in := goodIn_r _ [19] (by decide +kernel) (by decide +kernel)
set_option maxRecDepth 20000 in
theorem gX11_next_X11_in : GoodIn wsX11_next (va_wsS RX11 141 yX11_in wsX11_in) := goodIn_app (goodIn_of _ (by decide +kernel)) ggX11_next_X11_in
set_option maxRecDepth 20000 in
theorem ggX11_next_X11_wants : GoodIn wsX11_next wsX11_wants := goodIn_r _ [23, 1, 3, 24, 25, 26, 27, 28, 29, 30, 31, 32, 33, 34, 35, 36, 37, 38, 39, 40, 41, 42, 43, 44, 45, 46, 47, 48, 49, 50, 51, 52, 53, 54, 55, 56, 57, 58, 59, 60, 61, 62, 63, 64, 65, 66, 67, 68, 69, 70, 71, 72, 73, 74, 75, 76, 77, 78, 79, 80, 81, 82, 83] (by decide +kernel) (by decide +kernel)
set_option maxRecDepth 20000 in
theorem gX11_next_X11_wants : GoodIn wsX11_next (wsV RX11 181 RX11 yX11_wants wsX11_wants) := goodIn_app (goodIn_of _ (by decide +kernel)) ggX11_next_X11_wants
theorem dX11_next_0 : decode cX11_next 0 = .ok (.aload_n 0, 1) := by decide +kernel
theorem dX11_next_1 : decode cX11_next 1 = .ok (.getfield 145, 3) := by decide +kernel
theorem dX11_next_4 : decode cX11_next 4 = .ok (.ifCond .le 4, 3) := by decide +kernel
theorem dX11_next_7 : decode cX11_next 7 = .ok (.return_, 1) := by decide +kernel
theorem dX11_next_8 : decode cX11_next 8 = .ok (.aload_n 0, 1) := by decide +kernel
theorem dX11_next_9 : decode cX11_next 9 = .ok (.aload_n 0, 1) := by decide +kernel
theorem dX11_next_10 : decode cX11_next 10 = .ok (.getfield 154, 3) := by decide +kernel
theorem dX11_next_13 : decode cX11_next 13 = .ok (.invokevirtual 157, 3) := by decide +kernel
theorem dX11_next_16 : decode cX11_next 16 = .ok (.bipush 32, 2) := by decide +kernel
theorem dX11_next_18 : decode cX11_next 18 = .ok (.if_icmp .ne 16, 3) := by decide +kernel
theorem dX11_next_21 : decode cX11_next 21 = .ok (.aload_n 0, 1) := by decide +kernel
theorem dX11_next_22 : decode cX11_next 22 = .ok (.dup, 1) := by decide +kernel
theorem dX11_next_23 : decode cX11_next 23 = .ok (.getfield 154, 3) := by decide +kernel
theorem dX11_next_26 : decode cX11_next 26 = .ok (.iconst 1, 1) := by decide +kernel
theorem dX11_next_27 : decode cX11_next 27 = .ok (.iadd, 1) := by decide +kernel
theorem dX11_next_28 : decode cX11_next 28 = .ok (.putfield 154, 3) := by decide +kernel
theorem dX11_next_31 : decode cX11_next 31 = .ok (.goto (-23), 3) := by decide +kernel
theorem dX11_next_34 : decode cX11_next 34 = .ok (.aload_n 0, 1) := by decide +kernel
theorem dX11_next_35 : decode cX11_next 35 = .ok (.aload_n 0, 1) := by decide +kernel
theorem dX11_next_36 : decode cX11_next 36 = .ok (.getfield 154, 3) := by decide +kernel
theorem dX11_next_39 : decode cX11_next 39 = .ok (.putfield 148, 3) := by decide +kernel
theorem dX11_next_42 : decode cX11_next 42 = .ok (.aload_n 0, 1) := by decide +kernel
theorem dX11_next_43 : decode cX11_next 43 = .ok (.aload_n 0, 1) := by decide +kernel
theorem dX11_next_44 : decode cX11_next 44 = .ok (.getfield 154, 3) := by decide +kernel
theorem dX11_next_47 : decode cX11_next 47 = .ok (.invokevirtual 157, 3) := by decide +kernel
theorem dX11_next_50 : decode cX11_next 50 = .ok (.istore_n 1, 1) := by decide +kernel
theorem dX11_next_51 : decode cX11_next 51 = .ok (.iload_n 1, 1) := by decide +kernel
theorem dX11_next_52 : decode cX11_next 52 = .ok (.ifCond .ge 11, 3) := by decide +kernel
theorem dX11_next_55 : decode cX11_next 55 = .ok (.aload_n 0, 1) := by decide +kernel
theorem dX11_next_56 : decode cX11_next 56 = .ok (.iconst 0, 1) := by decide +kernel
theorem dX11_next_57 : decode cX11_next 57 = .ok (.putfield 167, 3) := by decide +kernel
theorem dX11_next_60 : decode cX11_next 60 = .ok (.goto 265, 3) := by decide +kernel
theorem dX11_next_63 : decode cX11_next 63 = .ok (.iload_n 1, 1) := by decide +kernel
theorem dX11_next_64 : decode cX11_next 64 = .ok (.i2l, 1) := by decide +kernel
theorem dX11_next_65 : decode cX11_next 65 = .ok (.ldc2_w 170, 3) := by decide +kernel
theorem dX11_next_68 : decode cX11_next 68 = .ok (.ldc2_w 172, 3) := by decide +kernel
theorem dX11_next_71 : decode cX11_next 71 = .ok (.invokestatic 141, 3) := by decide +kernel
theorem dX11_next_74 : decode cX11_next 74 = .ok (.ifCond .eq 42, 3) := by decide +kernel
theorem dX11_next_77 : decode cX11_next 77 = .ok (.aload_n 0, 1) := by decide +kernel
theorem dX11_next_78 : decode cX11_next 78 = .ok (.iconst 1, 1) := by decide +kernel
theorem dX11_next_79 : decode cX11_next 79 = .ok (.putfield 167, 3) := by decide +kernel
theorem dX11_next_82 : decode cX11_next 82 = .ok (.aload_n 0, 1) := by decide +kernel
theorem dX11_next_83 : decode cX11_next 83 = .ok (.aload_n 0, 1) := by decide +kernel
theorem dX11_next_84 : decode cX11_next 84 = .ok (.getfield 154, 3) := by decide +kernel
theorem dX11_next_87 : decode cX11_next 87 = .ok (.invokevirtual 157, 3) := by decide +kernel
theorem dX11_next_90 : decode cX11_next 90 = .ok (.i2l, 1) := by decide +kernel
theorem dX11_next_91 : decode cX11_next 91 = .ok (.ldc2_w 170, 3) := by decide +kernel
theorem dX11_next_94 : decode cX11_next 94 = .ok (.ldc2_w 172, 3) := by decide +kernel
theorem dX11_next_97 : decode cX11_next 97 = .ok (.invokestatic 141, 3) := by decide +kernel
theorem dX11_next_100 : decode cX11_next 100 = .ok (.ifCond .eq 225, 3) := by decide +kernel
theorem dX11_next_103 : decode cX11_next 103 = .ok (.aload_n 0, 1) := by decide +kernel
theorem dX11_next_104 : decode cX11_next 104 = .ok (.dup, 1) := by decide +kernel
theorem dX11_next_105 : decode cX11_next 105 = .ok (.getfield 154, 3) := by decide +kernel
theorem dX11_next_108 : decode cX11_next 108 = .ok (.iconst 1, 1) := by decide +kernel
theorem dX11_next_109 : decode cX11_next 109 = .ok (.iadd, 1) := by decide +kernel
theorem dX11_next_110 : decode cX11_next 110 = .ok (.putfield 154, 3) := by decide +kernel
theorem dX11_next_113 : decode cX11_next 113 = .ok (.goto (-31), 3) := by decide +kernel
theorem dX11_next_116 : decode cX11_next 116 = .ok (.iload_n 1, 1) := by decide +kernel
theorem dX11_next_117 : decode cX11_next 117 = .ok (.i2l, 1) := by decide +kernel
theorem dX11_next_118 : decode cX11_next 118 = .ok (.ldc2_w 174, 3) := by decide +kernel
theorem dX11_next_121 : decode cX11_next 121 = .ok (.ldc2_w 176, 3) := by decide +kernel
theorem dX11_next_124 : decode cX11_next 124 = .ok (.invokestatic 141, 3) := by decide +kernel
theorem dX11_next_127 : decode cX11_next 127 = .ok (.ifCond .eq 116, 3) := by decide +kernel
theorem dX11_next_130 : decode cX11_next 130 = .ok (.aload_n 0, 1) := by decide +kernel
theorem dX11_next_131 : decode cX11_next 131 = .ok (.iconst 2, 1) := by decide +kernel
theorem dX11_next_132 : decode cX11_next 132 = .ok (.putfield 167, 3) := by decide +kernel
theorem dX11_next_135 : decode cX11_next 135 = .ok (.aload_n 0, 1) := by decide +kernel
theorem dX11_next_136 : decode cX11_next 136 = .ok (.iconst 0, 1) := by decide +kernel
theorem dX11_next_137 : decode cX11_next 137 = .ok (.putfield 178, 3) := by decide +kernel
theorem dX11_next_140 : decode cX11_next 140 = .ok (.aload_n 0, 1) := by decide +kernel
theorem dX11_next_141 : decode cX11_next 141 = .ok (.aload_n 0, 1) := by decide +kernel
theorem dX11_next_142 : decode cX11_next 142 = .ok (.getfield 154, 3) := by decide +kernel
theorem dX11_next_145 : decode cX11_next 145 = .ok (.invokevirtual 157, 3) := by decide +kernel
theorem dX11_next_148 : decode cX11_next 148 = .ok (.i2l, 1) := by decide +kernel
theorem dX11_next_149 : decode cX11_next 149 = .ok (.ldc2_w 174, 3) := by decide +kernel
theorem dX11_next_152 : decode cX11_next 152 = .ok (.ldc2_w 176, 3) := by decide +kernel
theorem dX11_next_155 : decode cX11_next 155 = .ok (.invokestatic 141, 3) := by decide +kernel
theorem dX11_next_158 : decode cX11_next 158 = .ok (.ifCond .eq 59, 3) := by decide +kernel
theorem dX11_next_161 : decode cX11_next 161 = .ok (.aload_n 0, 1) := by decide +kernel
theorem dX11_next_162 : decode cX11_next 162 = .ok (.aload_n 0, 1) := by decide +kernel
theorem dX11_next_163 : decode cX11_next 163 = .ok (.getfield 154, 3) := by decide +kernel
theorem dX11_next_166 : decode cX11_next 166 = .ok (.aload_n 0, 1) := by decide +kernel
theorem dX11_next_167 : decode cX11_next 167 = .ok (.getfield 148, 3) := by decide +kernel
theorem dX11_next_170 : decode cX11_next 170 = .ok (.isub, 1) := by decide +kernel
theorem dX11_next_171 : decode cX11_next 171 = .ok (.iconst 3, 1) := by decide +kernel
theorem dX11_next_172 : decode cX11_next 172 = .ok (.if_icmp .ge 25, 3) := by decide +kernel
theorem dX11_next_175 : decode cX11_next 175 = .ok (.bipush 10, 2) := by decide +kernel
theorem dX11_next_177 : decode cX11_next 177 = .ok (.aload_n 0, 1) := by decide +kernel
theorem dX11_next_178 : decode cX11_next 178 = .ok (.getfield 178, 3) := by decide +kernel
theorem dX11_next_181 : decode cX11_next 181 = .ok (.imul, 1) := by decide +kernel
theorem dX11_next_182 : decode cX11_next 182 = .ok (.aload_n 0, 1) := by decide +kernel
theorem dX11_next_183 : decode cX11_next 183 = .ok (.aload_n 0, 1) := by decide +kernel
theorem dX11_next_184 : decode cX11_next 184 = .ok (.getfield 154, 3) := by decide +kernel
theorem dX11_next_187 : decode cX11_next 187 = .ok (.invokevirtual 157, 3) := by decide +kernel
theorem dX11_next_190 : decode cX11_next 190 = .ok (.iadd, 1) := by decide +kernel
theorem dX11_next_191 : decode cX11_next 191 = .ok (.bipush 48, 2) := by decide +kernel
theorem dX11_next_193 : decode cX11_next 193 = .ok (.isub, 1) := by decide +kernel
theorem dX11_next_194 : decode cX11_next 194 = .ok (.goto 7, 3) := by decide +kernel
theorem dX11_next_197 : decode cX11_next 197 = .ok (.aload_n 0, 1) := by decide +kernel
theorem dX11_next_198 : decode cX11_next 198 = .ok (.getfield 178, 3) := by decide +kernel
theorem dX11_next_201 : decode cX11_next 201 = .ok (.putfield 178, 3) := by decide +kernel
theorem dX11_next_204 : decode cX11_next 204 = .ok (.aload_n 0, 1) := by decide +kernel
theorem dX11_next_205 : decode cX11_next 205 = .ok (.dup, 1) := by decide +kernel
theorem dX11_next_206 : decode cX11_next 206 = .ok (.getfield 154, 3) := by decide +kernel
theorem dX11_next_209 : decode cX11_next 209 = .ok (.iconst 1, 1) := by decide +kernel
theorem dX11_next_210 : decode cX11_next 210 = .ok (.iadd, 1) := by decide +kernel
theorem dX11_next_211 : decode cX11_next 211 = .ok (.putfield 154, 3) := by decide +kernel
theorem dX11_next_214 : decode cX11_next 214 = .ok (.goto (-74), 3) := by decide +kernel
theorem dX11_next_217 : decode cX11_next 217 = .ok (.aload_n 0, 1) := by decide +kernel
theorem dX11_next_218 : decode cX11_next 218 = .ok (.aload_n 0, 1) := by decide +kernel
theorem dX11_next_219 : decode cX11_next 219 = .ok (.getfield 154, 3) := by decide +kernel
theorem dX11_next_222 : decode cX11_next 222 = .ok (.aload_n 0, 1) := by decide +kernel
theorem dX11_next_223 : decode cX11_next 223 = .ok (.getfield 148, 3) := by decide +kernel
theorem dX11_next_226 : decode cX11_next 226 = .ok (.isub, 1) := by decide +kernel
theorem dX11_next_227 : decode cX11_next 227 = .ok (.iconst 3, 1) := by decide +kernel
theorem dX11_next_228 : decode cX11_next 228 = .ok (.if_icmp .gt 7, 3) := by decide +kernel
theorem dX11_next_231 : decode cX11_next 231 = .ok (.iconst 1, 1) := by decide +kernel
theorem dX11_next_232 : decode cX11_next 232 = .ok (.goto 4, 3) := by decide +kernel
theorem dX11_next_235 : decode cX11_next 235 = .ok (.iconst 0, 1) := by decide +kernel
theorem dX11_next_236 : decode cX11_next 236 = .ok (.iconst 1, 1) := by decide +kernel
theorem dX11_next_237 : decode cX11_next 237 = .ok (.invokevirtual 181, 3) := by decide +kernel
theorem dX11_next_240 : decode cX11_next 240 = .ok (.goto 85, 3) := by decide +kernel
theorem dX11_next_243 : decode cX11_next 243 = .ok (.aload_n 0, 1) := by decide +kernel
theorem dX11_next_244 : decode cX11_next 244 = .ok (.iload_n 1, 1) := by decide +kernel
theorem dX11_next_245 : decode cX11_next 245 = .ok (.bipush 40, 2) := by decide +kernel
theorem dX11_next_247 : decode cX11_next 247 = .ok (.if_icmp .ne 7, 3) := by decide +kernel
theorem dX11_next_250 : decode cX11_next 250 = .ok (.iconst 3, 1) := by decide +kernel
theorem dX11_next_251 : decode cX11_next 251 = .ok (.goto 36, 3) := by decide +kernel
theorem dX11_next_254 : decode cX11_next 254 = .ok (.iload_n 1, 1) := by decide +kernel
theorem dX11_next_255 : decode cX11_next 255 = .ok (.bipush 41, 2) := by decide +kernel
theorem dX11_next_257 : decode cX11_next 257 = .ok (.if_icmp .ne 7, 3) := by decide +kernel
theorem dX11_next_260 : decode cX11_next 260 = .ok (.iconst 4, 1) := by decide +kernel
theorem dX11_next_261 : decode cX11_next 261 = .ok (.goto 26, 3) := by decide +kernel
theorem dX11_next_264 : decode cX11_next 264 = .ok (.iload_n 1, 1) := by decide +kernel
theorem dX11_next_265 : decode cX11_next 265 = .ok (.bipush 38, 2) := by decide +kernel
theorem dX11_next_267 : decode cX11_next 267 = .ok (.if_icmp .ne 7, 3) := by decide +kernel
theorem dX11_next_270 : decode cX11_next 270 = .ok (.iconst 5, 1) := by decide +kernel
theorem dX11_next_271 : decode cX11_next 271 = .ok (.goto 16, 3) := by decide +kernel
theorem dX11_next_274 : decode cX11_next 274 = .ok (.iload_n 1, 1) := by decide +kernel
theorem dX11_next_275 : decode cX11_next 275 = .ok (.bipush 124, 2) := by decide +kernel
theorem dX11_next_277 : decode cX11_next 277 = .ok (.if_icmp .ne 8, 3) := by decide +kernel
theorem dX11_next_280 : decode cX11_next 280 = .ok (.bipush 6, 2) := by decide +kernel
theorem dX11_next_282 : decode cX11_next 282 = .ok (.goto 5, 3) := by decide +kernel
theorem dX11_next_285 : decode cX11_next 285 = .ok (.bipush 7, 2) := by decide +kernel
theorem dX11_next_287 : decode cX11_next 287 = .ok (.putfield 167, 3) := by decide +kernel
theorem dX11_next_290 : decode cX11_next 290 = .ok (.aload_n 0, 1) := by decide +kernel
theorem dX11_next_291 : decode cX11_next 291 = .ok (.aload_n 0, 1) := by decide +kernel
theorem dX11_next_292 : decode cX11_next 292 = .ok (.getfield 167, 3) := by decide +kernel
theorem dX11_next_295 : decode cX11_next 295 = .ok (.bipush 7, 2) := by decide +kernel
theorem dX11_next_297 : decode cX11_next 297 = .ok (.if_icmp .ne 9, 3) := by decide +kernel
theorem dX11_next_300 : decode cX11_next 300 = .ok (.iload_n 1, 1) := by decide +kernel
theorem dX11_next_301 : decode cX11_next 301 = .ok (.bipush 59, 2) := by decide +kernel
theorem dX11_next_303 : decode cX11_next 303 = .ok (.if_icmp .ne 7, 3) := by decide +kernel
theorem dX11_next_306 : decode cX11_next 306 = .ok (.iconst 1, 1) := by decide +kernel
theorem dX11_next_307 : decode cX11_next 307 = .ok (.goto 4, 3) := by decide +kernel
theorem dX11_next_310 : decode cX11_next 310 = .ok (.iconst 0, 1) := by decide +kernel
theorem dX11_next_311 : decode cX11_next 311 = .ok (.iconst 1, 1) := by decide +kernel
theorem dX11_next_312 : decode cX11_next 312 = .ok (.invokevirtual 181, 3) := by decide +kernel
theorem dX11_next_315 : decode cX11_next 315 = .ok (.aload_n 0, 1) := by decide +kernel
theorem dX11_next_316 : decode cX11_next 316 = .ok (.dup, 1) := by decide +kernel
theorem dX11_next_317 : decode cX11_next 317 = .ok (.getfield 154, 3) := by decide +kernel
theorem dX11_next_320 : decode cX11_next 320 = .ok (.iconst 1, 1) := by decide +kernel
theorem dX11_next_321 : decode cX11_next 321 = .ok (.iadd, 1) := by decide +kernel
theorem dX11_next_322 : decode cX11_next 322 = .ok (.putfield 154, 3) := by decide +kernel
theorem dX11_next_325 : decode cX11_next 325 = .ok (.return_, 1) := by decide +kernel
set_option maxRecDepth 20000 in
theorem ggX11_readNumber_X11_wants : GoodIn wsX11_readNumber wsX11_wants := goodIn_r _ [8, 1, 9, 10, 29, 30, 31, 32, 33, 34, 35, 36, 37, 38, 39, 40, 41, 42, 43, 44, 45, 46, 47, 48, 49, 50, 51, 52, 53, 54, 55, 56, 57, 58, 59, 60, 61, 62, 63, 64, 65, 66, 67, 68, 69, 70, 71, 72, 73, 74, 75, 76, 77, 78, 79, 80, 81, 82, 83, 84, 85, 86, 87] (by decide +kernel) (by decide +kernel)
set_option maxRecDepth 20000 in
theorem gX11_readNumber_X11_wants : GoodIn wsX11_readNumber (wsV RX11 181 RX11 yX11_wants wsX11_wants) := goodIn_app (goodIn_of _ (by decide +kernel)) ggX11_readNumber_X11_wants
set_option maxRecDepth 20000 in
theorem ggX11_readNumber_X11_in : GoodIn wsX11_readNumber wsX11_in := goodIn_r _ [13] (by decide +kernel) (by decide +kernel)
set_option maxRecDepth 20000 in
theorem gX11_readNumber_X11_in : GoodIn wsX11_readNumber (va_wsS RX11 141 yX11_in wsX11_in) := goodIn_app (goodIn_of _ (by decide +kernel)) ggX11_readNumber_X11_in
set_option maxRecDepth 20000 in
theorem ggX11_readNumber_X11_next : GoodIn wsX11_readNumber wsX11_next := goodIn_r _ [17, 1, 18, 9, 2, 19, 20, 21, 22, 3, 23, 24, 25, 7, 26, 27, 28, 11, 12, 13, 4, 5, 6, 8, 10, 29, 30, 31, 32, 33, 34, 35, 36, 37, 38, 39, 40, 41, 42, 43, 44, 45, 46, 47, 48, 49, 50, 51, 52, 53, 54, 55, 56, 57, 58, 59, 60, 61, 62, 63, 64, 65, 66, 67, 68, 69, 70, 71, 72, 73, 74, 75, 76, 77, 78, 79, 80, 81, 82, 83, 84, 85, 86, 87] (by decide +kernel) (by decide +kernel)
set_option maxRecDepth 20000 in
theorem gX11_readNumber_X11_next : GoodIn wsX11_readNumber (wsV RX11 185 RX11 yX11_next wsX11_next) := goodIn_app (goodIn_of _ (by decide +kernel)) ggX11_readNumber_X11_next
theorem dX11_readNumber_0 : decode cX11_readNumber 0 = .ok (.aload_n 0, 1) := by decide +kernel
theorem dX11_readNumber_1 : decode cX11_readNumber 1 = .ok (.getfield 145, 3) := by decide +kernel
theorem dX11_readNumber_4 : decode cX11_readNumber 4 = .ok (.ifCond .ne 21, 3) := by decide +kernel
theorem dX11_readNumber_7 : decode cX11_readNumber 7 = .ok (.aload_n 0, 1) := by decide +kernel
theorem dX11_readNumber_8 : decode cX11_readNumber 8 = .ok (.aload_n 0, 1) := by decide +kernel
theorem dX11_readNumber_9 : decode cX11_readNumber 9 = .ok (.getfield 167, 3) := by decide +kernel
theorem dX11_readNumber_12 : decode cX11_readNumber 12 = .ok (.iconst 2, 1) := by decide +kernel
theorem dX11_readNumber_13 : decode cX11_readNumber 13 = .ok (.if_icmp .ne 7, 3) := by decide +kernel
theorem dX11_readNumber_16 : decode cX11_readNumber 16 = .ok (.iconst 1, 1) := by decide +kernel
theorem dX11_readNumber_17 : decode cX11_readNumber 17 = .ok (.goto 4, 3) := by decide +kernel
theorem dX11_readNumber_20 : decode cX11_readNumber 20 = .ok (.iconst 0, 1) := by decide +kernel
theorem dX11_readNumber_21 : decode cX11_readNumber 21 = .ok (.iconst 2, 1) := by decide +kernel
theorem dX11_readNumber_22 : decode cX11_readNumber 22 = .ok (.invokevirtual 181, 3) := by decide +kernel
theorem dX11_readNumber_25 : decode cX11_readNumber 25 = .ok (.aload_n 0, 1) := by decide +kernel
theorem dX11_readNumber_26 : decode cX11_readNumber 26 = .ok (.getfield 145, 3) := by decide +kernel
theorem dX11_readNumber_29 : decode cX11_readNumber 29 = .ok (.ifCond .ne 20, 3) := by decide +kernel
theorem dX11_readNumber_32 : decode cX11_readNumber 32 = .ok (.aload_n 0, 1) := by decide +kernel
theorem dX11_readNumber_33 : decode cX11_readNumber 33 = .ok (.aload_n 0, 1) := by decide +kernel
theorem dX11_readNumber_34 : decode cX11_readNumber 34 = .ok (.getfield 178, 3) := by decide +kernel
theorem dX11_readNumber_37 : decode cX11_readNumber 37 = .ok (.i2l, 1) := by decide +kernel
theorem dX11_readNumber_38 : decode cX11_readNumber 38 = .ok (.iload_n 1, 1) := by decide +kernel
theorem dX11_readNumber_39 : decode cX11_readNumber 39 = .ok (.i2l, 1) := by decide +kernel
theorem dX11_readNumber_40 : decode cX11_readNumber 40 = .ok (.iload_n 2, 1) := by decide +kernel
theorem dX11_readNumber_41 : decode cX11_readNumber 41 = .ok (.i2l, 1) := by decide +kernel
theorem dX11_readNumber_42 : decode cX11_readNumber 42 = .ok (.invokestatic 141, 3) := by decide +kernel
theorem dX11_readNumber_45 : decode cX11_readNumber 45 = .ok (.iconst 3, 1) := by decide +kernel
theorem dX11_readNumber_46 : decode cX11_readNumber 46 = .ok (.invokevirtual 181, 3) := by decide +kernel
theorem dX11_readNumber_49 : decode cX11_readNumber 49 = .ok (.aload_n 0, 1) := by decide +kernel
theorem dX11_readNumber_50 : decode cX11_readNumber 50 = .ok (.getfield 178, 3) := by decide +kernel
theorem dX11_readNumber_53 : decode cX11_readNumber 53 = .ok (.istore_n 3, 1) := by decide +kernel
theorem dX11_readNumber_54 : decode cX11_readNumber 54 = .ok (.aload_n 0, 1) := by decide +kernel
theorem dX11_readNumber_55 : decode cX11_readNumber 55 = .ok (.invokevirtual 185, 3) := by decide +kernel
theorem dX11_readNumber_58 : decode cX11_readNumber 58 = .ok (.iload_n 3, 1) := by decide +kernel
theorem dX11_readNumber_59 : decode cX11_readNumber 59 = .ok (.ireturn, 1) := by decide +kernel
set_option maxRecDepth 20000 in
theorem ggX11_readLetter_X11_nameNow : GoodIn wsX11_readLetter wsX11_nameNow := goodIn_r _ [13, 8, 14, 1, 15, 16, 17, 12, 18, 19, 20, 21, 22, 23, 24, 25, 26, 27, 43, 44, 45, 46, 47, 48, 49, 50, 51, 52, 53, 54, 55, 56, 57, 58, 59, 60, 61, 62, 63, 64, 65, 66, 67, 68, 69, 70, 71, 72, 73, 74, 75, 76, 77, 78, 79, 80, 81, 82, 83, 84, 85, 86, 87, 88, 89, 90, 91, 92, 93, 94, 95, 96, 97, 98, 99, 100, 101] (by decide +kernel) (by decide +kernel)
set_option maxRecDepth 20000 in
theorem gX11_readLetter_X11_nameNow : GoodIn wsX11_readLetter (wsV RX11 188 RX11 yX11_nameNow wsX11_nameNow) := goodIn_app (goodIn_of _ (by decide +kernel)) ggX11_readLetter_X11_nameNow
set_option maxRecDepth 20000 in
theorem ggX11_readLetter_X11_in : GoodIn wsX11_readLetter wsX11_in := goodIn_r _ [23] (by decide +kernel) (by decide +kernel)
set_option maxRecDepth 20000 in
theorem gX11_readLetter_X11_in : GoodIn wsX11_readLetter (va_wsS RX11 141 yX11_in wsX11_in) := goodIn_app (goodIn_of _ (by decide +kernel)) ggX11_readLetter_X11_in
set_option maxRecDepth 20000 in
theorem ggX11_readLetter_X11_wants : GoodIn wsX11_readLetter wsX11_wants := goodIn_r _ [31, 2, 8, 32, 43, 44, 45, 46, 47, 48, 49, 50, 51, 52, 53, 54, 55, 56, 57, 58, 59, 60, 61, 62, 63, 64, 65, 66, 67, 68, 69, 70, 71, 72, 73, 74, 75, 76, 77, 78, 79, 80, 81, 82, 83, 84, 85, 86, 87, 88, 89, 90, 91, 92, 93, 94, 95, 96, 97, 98, 99, 100, 101] (by decide +kernel) (by decide +kernel)
set_option maxRecDepth 20000 in
theorem gX11_readLetter_X11_wants : GoodIn wsX11_readLetter (wsV RX11 181 RX11 yX11_wants wsX11_wants) := goodIn_app (goodIn_of _ (by decide +kernel)) ggX11_readLetter_X11_wants
set_option maxRecDepth 20000 in
theorem ggX11_readLetter_X11_next : GoodIn wsX11_readLetter wsX11_next := goodIn_r _ [36, 2, 14, 8, 37, 38, 39, 40, 41, 42, 15, 16, 17, 12, 18, 19, 20, 21, 22, 23, 28, 29, 30, 31, 32, 43, 44, 45, 46, 47, 48, 49, 50, 51, 52, 53, 54, 55, 56, 57, 58, 59, 60, 61, 62, 63, 64, 65, 66, 67, 68, 69, 70, 71, 72, 73, 74, 75, 76, 77, 78, 79, 80, 81, 82, 83, 84, 85, 86, 87, 88, 89, 90, 91, 92, 93, 94, 95, 96, 97, 98, 99, 100, 101] (by decide +kernel) (by decide +kernel)
set_option maxRecDepth 20000 in
theorem gX11_readLetter_X11_next : GoodIn wsX11_readLetter (wsV RX11 185 RX11 yX11_next wsX11_next) := goodIn_app (goodIn_of _ (by decide +kernel)) ggX11_readLetter_X11_next
theorem dX11_readLetter_0 : decode cX11_readLetter 0 = .ok (.aload_n 0, 1) := by decide +kernel
theorem dX11_readLetter_1 : decode cX11_readLetter 1 = .ok (.invokevirtual 188, 3) := by decide +kernel
theorem dX11_readLetter_4 : decode cX11_readLetter 4 = .ok (.istore_n 1, 1) := by decide +kernel
theorem dX11_readLetter_5 : decode cX11_readLetter 5 = .ok (.aload_n 0, 1) := by decide +kernel
theorem dX11_readLetter_6 : decode cX11_readLetter 6 = .ok (.iload_n 1, 1) := by decide +kernel
theorem dX11_readLetter_7 : decode cX11_readLetter 7 = .ok (.i2l, 1) := by decide +kernel
theorem dX11_readLetter_8 : decode cX11_readLetter 8 = .ok (.lconst 0, 1) := by decide +kernel
theorem dX11_readLetter_9 : decode cX11_readLetter 9 = .ok (.ldc2_w 161, 3) := by decide +kernel
theorem dX11_readLetter_12 : decode cX11_readLetter 12 = .ok (.invokestatic 141, 3) := by decide +kernel
theorem dX11_readLetter_15 : decode cX11_readLetter 15 = .ok (.ifCond .ne 9, 3) := by decide +kernel
theorem dX11_readLetter_18 : decode cX11_readLetter 18 = .ok (.iload_n 1, 1) := by decide +kernel
theorem dX11_readLetter_19 : decode cX11_readLetter 19 = .ok (.bipush 28, 2) := by decide +kernel
theorem dX11_readLetter_21 : decode cX11_readLetter 21 = .ok (.if_icmp .ne 7, 3) := by decide +kernel
theorem dX11_readLetter_24 : decode cX11_readLetter 24 = .ok (.iconst 1, 1) := by decide +kernel
theorem dX11_readLetter_25 : decode cX11_readLetter 25 = .ok (.goto 4, 3) := by decide +kernel
theorem dX11_readLetter_28 : decode cX11_readLetter 28 = .ok (.iconst 0, 1) := by decide +kernel
theorem dX11_readLetter_29 : decode cX11_readLetter 29 = .ok (.iconst 3, 1) := by decide +kernel
theorem dX11_readLetter_30 : decode cX11_readLetter 30 = .ok (.invokevirtual 181, 3) := by decide +kernel
theorem dX11_readLetter_33 : decode cX11_readLetter 33 = .ok (.aload_n 0, 1) := by decide +kernel
theorem dX11_readLetter_34 : decode cX11_readLetter 34 = .ok (.getfield 145, 3) := by decide +kernel
theorem dX11_readLetter_37 : decode cX11_readLetter 37 = .ok (.ifCond .ne 73, 3) := by decide +kernel
theorem dX11_readLetter_40 : decode cX11_readLetter 40 = .ok (.aload_n 0, 1) := by decide +kernel
theorem dX11_readLetter_41 : decode cX11_readLetter 41 = .ok (.getfield 35, 3) := by decide +kernel
theorem dX11_readLetter_44 : decode cX11_readLetter 44 = .ok (.aload_n 0, 1) := by decide +kernel
theorem dX11_readLetter_45 : decode cX11_readLetter 45 = .ok (.getfield 192, 3) := by decide +kernel
theorem dX11_readLetter_48 : decode cX11_readLetter 48 = .ok (.iload_n 1, 1) := by decide +kernel
theorem dX11_readLetter_49 : decode cX11_readLetter 49 = .ok (.bipush 28, 2) := by decide +kernel
theorem dX11_readLetter_51 : decode cX11_readLetter 51 = .ok (.if_icmp .ne 8, 3) := by decide +kernel
theorem dX11_readLetter_54 : decode cX11_readLetter 54 = .ok (.bipush 8, 2) := by decide +kernel
theorem dX11_readLetter_56 : decode cX11_readLetter 56 = .ok (.goto 4, 3) := by decide +kernel
theorem dX11_readLetter_59 : decode cX11_readLetter 59 = .ok (.iload_n 1, 1) := by decide +kernel
theorem dX11_readLetter_60 : decode cX11_readLetter 60 = .ok (.iastore, 1) := by decide +kernel
theorem dX11_readLetter_61 : decode cX11_readLetter 61 = .ok (.aload_n 0, 1) := by decide +kernel
theorem dX11_readLetter_62 : decode cX11_readLetter 62 = .ok (.dup, 1) := by decide +kernel
theorem dX11_readLetter_63 : decode cX11_readLetter 63 = .ok (.getfield 192, 3) := by decide +kernel
theorem dX11_readLetter_66 : decode cX11_readLetter 66 = .ok (.iconst 1, 1) := by decide +kernel
theorem dX11_readLetter_67 : decode cX11_readLetter 67 = .ok (.iadd, 1) := by decide +kernel
theorem dX11_readLetter_68 : decode cX11_readLetter 68 = .ok (.putfield 192, 3) := by decide +kernel
theorem dX11_readLetter_71 : decode cX11_readLetter 71 = .ok (.iload_n 1, 1) := by decide +kernel
theorem dX11_readLetter_72 : decode cX11_readLetter 72 = .ok (.bipush 28, 2) := by decide +kernel
theorem dX11_readLetter_74 : decode cX11_readLetter 74 = .ok (.if_icmp .eq 36, 3) := by decide +kernel
theorem dX11_readLetter_77 : decode cX11_readLetter 77 = .ok (.aload_n 0, 1) := by decide +kernel
theorem dX11_readLetter_78 : decode cX11_readLetter 78 = .ok (.getfield 29, 3) := by decide +kernel
theorem dX11_readLetter_81 : decode cX11_readLetter 81 = .ok (.aload_n 0, 1) := by decide +kernel
theorem dX11_readLetter_82 : decode cX11_readLetter 82 = .ok (.getfield 118, 3) := by decide +kernel
theorem dX11_readLetter_85 : decode cX11_readLetter 85 = .ok (.iload_n 1, 1) := by decide +kernel
theorem dX11_readLetter_86 : decode cX11_readLetter 86 = .ok (.iastore, 1) := by decide +kernel
theorem dX11_readLetter_87 : decode cX11_readLetter 87 = .ok (.aload_n 0, 1) := by decide +kernel
theorem dX11_readLetter_88 : decode cX11_readLetter 88 = .ok (.getfield 32, 3) := by decide +kernel
theorem dX11_readLetter_91 : decode cX11_readLetter 91 = .ok (.aload_n 0, 1) := by decide +kernel
theorem dX11_readLetter_92 : decode cX11_readLetter 92 = .ok (.getfield 118, 3) := by decide +kernel
theorem dX11_readLetter_95 : decode cX11_readLetter 95 = .ok (.aload_n 0, 1) := by decide +kernel
theorem dX11_readLetter_96 : decode cX11_readLetter 96 = .ok (.getfield 148, 3) := by decide +kernel
theorem dX11_readLetter_99 : decode cX11_readLetter 99 = .ok (.iastore, 1) := by decide +kernel
theorem dX11_readLetter_100 : decode cX11_readLetter 100 = .ok (.aload_n 0, 1) := by decide +kernel
theorem dX11_readLetter_101 : decode cX11_readLetter 101 = .ok (.dup, 1) := by decide +kernel
theorem dX11_readLetter_102 : decode cX11_readLetter 102 = .ok (.getfield 118, 3) := by decide +kernel
theorem dX11_readLetter_105 : decode cX11_readLetter 105 = .ok (.iconst 1, 1) := by decide +kernel
theorem dX11_readLetter_106 : decode cX11_readLetter 106 = .ok (.iadd, 1) := by decide +kernel
theorem dX11_readLetter_107 : decode cX11_readLetter 107 = .ok (.putfield 118, 3) := by decide +kernel
theorem dX11_readLetter_110 : decode cX11_readLetter 110 = .ok (.aload_n 0, 1) := by decide +kernel
theorem dX11_readLetter_111 : decode cX11_readLetter 111 = .ok (.invokevirtual 185, 3) := by decide +kernel
theorem dX11_readLetter_114 : decode cX11_readLetter 114 = .ok (.return_, 1) := by decide +kernel
theorem dX11_done_0 : decode cX11_done 0 = .ok (.aload_n 0, 1) := by decide +kernel
theorem dX11_done_1 : decode cX11_done 1 = .ok (.getfield 195, 3) := by decide +kernel
theorem dX11_done_4 : decode cX11_done 4 = .ok (.ifCond .le 75, 3) := by decide +kernel
theorem dX11_done_7 : decode cX11_done 7 = .ok (.aload_n 0, 1) := by decide +kernel
theorem dX11_done_8 : decode cX11_done 8 = .ok (.getfield 38, 3) := by decide +kernel
theorem dX11_done_11 : decode cX11_done 11 = .ok (.aload_n 0, 1) := by decide +kernel
theorem dX11_done_12 : decode cX11_done 12 = .ok (.getfield 195, 3) := by decide +kernel
theorem dX11_done_15 : decode cX11_done 15 = .ok (.iconst 1, 1) := by decide +kernel
theorem dX11_done_16 : decode cX11_done 16 = .ok (.isub, 1) := by decide +kernel
theorem dX11_done_17 : decode cX11_done 17 = .ok (.iaload, 1) := by decide +kernel
theorem dX11_done_18 : decode cX11_done 18 = .ok (.bipush 12, 2) := by decide +kernel
theorem dX11_done_20 : decode cX11_done 20 = .ok (.if_icmp .eq 59, 3) := by decide +kernel
theorem dX11_done_23 : decode cX11_done 23 = .ok (.aload_n 0, 1) := by decide +kernel
theorem dX11_done_24 : decode cX11_done 24 = .ok (.getfield 38, 3) := by decide +kernel
theorem dX11_done_27 : decode cX11_done 27 = .ok (.aload_n 0, 1) := by decide +kernel
theorem dX11_done_28 : decode cX11_done 28 = .ok (.getfield 195, 3) := by decide +kernel
theorem dX11_done_31 : decode cX11_done 31 = .ok (.iconst 1, 1) := by decide +kernel
theorem dX11_done_32 : decode cX11_done 32 = .ok (.isub, 1) := by decide +kernel
theorem dX11_done_33 : decode cX11_done 33 = .ok (.iaload, 1) := by decide +kernel
theorem dX11_done_34 : decode cX11_done 34 = .ok (.iload_n 1, 1) := by decide +kernel
theorem dX11_done_35 : decode cX11_done 35 = .ok (.if_icmp .gt 44, 3) := by decide +kernel
theorem dX11_done_38 : decode cX11_done 38 = .ok (.aload_n 0, 1) := by decide +kernel
theorem dX11_done_39 : decode cX11_done 39 = .ok (.dup, 1) := by decide +kernel
theorem dX11_done_40 : decode cX11_done 40 = .ok (.getfield 195, 3) := by decide +kernel
theorem dX11_done_43 : decode cX11_done 43 = .ok (.iconst 1, 1) := by decide +kernel
theorem dX11_done_44 : decode cX11_done 44 = .ok (.isub, 1) := by decide +kernel
theorem dX11_done_45 : decode cX11_done 45 = .ok (.putfield 195, 3) := by decide +kernel
theorem dX11_done_48 : decode cX11_done 48 = .ok (.aload_n 0, 1) := by decide +kernel
theorem dX11_done_49 : decode cX11_done 49 = .ok (.getfield 35, 3) := by decide +kernel
theorem dX11_done_52 : decode cX11_done 52 = .ok (.aload_n 0, 1) := by decide +kernel
theorem dX11_done_53 : decode cX11_done 53 = .ok (.getfield 192, 3) := by decide +kernel
theorem dX11_done_56 : decode cX11_done 56 = .ok (.aload_n 0, 1) := by decide +kernel
theorem dX11_done_57 : decode cX11_done 57 = .ok (.getfield 38, 3) := by decide +kernel
theorem dX11_done_60 : decode cX11_done 60 = .ok (.aload_n 0, 1) := by decide +kernel
theorem dX11_done_61 : decode cX11_done 61 = .ok (.getfield 195, 3) := by decide +kernel
theorem dX11_done_64 : decode cX11_done 64 = .ok (.iaload, 1) := by decide +kernel
theorem dX11_done_65 : decode cX11_done 65 = .ok (.iastore, 1) := by decide +kernel
theorem dX11_done_66 : decode cX11_done 66 = .ok (.aload_n 0, 1) := by decide +kernel
theorem dX11_done_67 : decode cX11_done 67 = .ok (.dup, 1) := by decide +kernel
theorem dX11_done_68 : decode cX11_done 68 = .ok (.getfield 192, 3) := by decide +kernel
theorem dX11_done_71 : decode cX11_done 71 = .ok (.iconst 1, 1) := by decide +kernel
theorem dX11_done_72 : decode cX11_done 72 = .ok (.iadd, 1) := by decide +kernel
theorem dX11_done_73 : decode cX11_done 73 = .ok (.putfield 192, 3) := by decide +kernel
theorem dX11_done_76 : decode cX11_done 76 = .ok (.goto (-76), 3) := by decide +kernel
theorem dX11_done_79 : decode cX11_done 79 = .ok (.return_, 1) := by decide +kernel
theorem dX11_holdsBack_0 : decode cX11_holdsBack 0 = .ok (.aload_n 0, 1) := by decide +kernel
theorem dX11_holdsBack_1 : decode cX11_holdsBack 1 = .ok (.getfield 38, 3) := by decide +kernel
theorem dX11_holdsBack_4 : decode cX11_holdsBack 4 = .ok (.aload_n 0, 1) := by decide +kernel
theorem dX11_holdsBack_5 : decode cX11_holdsBack 5 = .ok (.getfield 195, 3) := by decide +kernel
theorem dX11_holdsBack_8 : decode cX11_holdsBack 8 = .ok (.iload_n 1, 1) := by decide +kernel
theorem dX11_holdsBack_9 : decode cX11_holdsBack 9 = .ok (.iastore, 1) := by decide +kernel
theorem dX11_holdsBack_10 : decode cX11_holdsBack 10 = .ok (.aload_n 0, 1) := by decide +kernel
theorem dX11_holdsBack_11 : decode cX11_holdsBack 11 = .ok (.dup, 1) := by decide +kernel
theorem dX11_holdsBack_12 : decode cX11_holdsBack 12 = .ok (.getfield 195, 3) := by decide +kernel
theorem dX11_holdsBack_15 : decode cX11_holdsBack 15 = .ok (.iconst 1, 1) := by decide +kernel
theorem dX11_holdsBack_16 : decode cX11_holdsBack 16 = .ok (.iadd, 1) := by decide +kernel
theorem dX11_holdsBack_17 : decode cX11_holdsBack 17 = .ok (.putfield 195, 3) := by decide +kernel
theorem dX11_holdsBack_20 : decode cX11_holdsBack 20 = .ok (.return_, 1) := by decide +kernel
set_option maxRecDepth 20000 in
theorem ggX11_readUnit_X11_wants : GoodIn wsX11_readUnit wsX11_wants := goodIn_r _ [9, 1, 10, 11, 58, 59, 60, 61, 62, 63, 64, 65, 66, 67, 68, 69, 70, 71, 72, 73, 74, 75, 76, 77, 78, 79, 80, 81, 82, 83, 84, 85, 86, 87, 88, 89, 90, 91, 92, 93, 94, 95, 96, 97, 98, 99, 100, 101, 102, 103, 104, 105, 106, 107, 108, 109, 110, 111, 112, 113, 114, 115, 116] (by decide +kernel) (by decide +kernel)
set_option maxRecDepth 20000 in
theorem gX11_readUnit_X11_wants : GoodIn wsX11_readUnit (wsV RX11 181 RX11 yX11_wants wsX11_wants) := goodIn_app (goodIn_of _ (by decide +kernel)) ggX11_readUnit_X11_wants
set_option maxRecDepth 20000 in
theorem ggX11_readUnit_X11_holdsBack : GoodIn wsX11_readUnit wsX11_holdsBack := goodIn_r _ [15, 16, 4, 58, 59, 60, 61, 62, 63, 64, 65, 66, 67, 68, 69, 70, 71, 72, 73, 74, 75, 76, 77, 78, 79, 80, 81, 82, 83, 84, 85, 86, 87, 88, 89, 90, 91, 92, 93, 94, 95, 96, 97, 98, 99, 100, 101, 102, 103, 104, 105, 106, 107, 108, 109, 110, 111, 112, 113, 114, 115, 116] (by decide +kernel) (by decide +kernel)
set_option maxRecDepth 20000 in
theorem gX11_readUnit_X11_holdsBack : GoodIn wsX11_readUnit (wsV RX11 201 RX11 yX11_holdsBack wsX11_holdsBack) := goodIn_app (goodIn_of _ (by decide +kernel)) ggX11_readUnit_X11_holdsBack
set_option maxRecDepth 20000 in
theorem ggX11_readUnit_X11_next : GoodIn wsX11_readUnit wsX11_next := goodIn_r _ [20, 1, 21, 10, 2, 22, 23, 24, 25, 26, 27, 28, 29, 8, 30, 31, 32, 33, 34, 35, 5, 6, 7, 9, 11, 58, 59, 60, 61, 62, 63, 64, 65, 66, 67, 68, 69, 70, 71, 72, 73, 74, 75, 76, 77, 78, 79, 80, 81, 82, 83, 84, 85, 86, 87, 88, 89, 90, 91, 92, 93, 94, 95, 96, 97, 98, 99, 100, 101, 102, 103, 104, 105, 106, 107, 108, 109, 110, 111, 112, 113, 114, 115, 116] (by decide +kernel) (by decide +kernel)
set_option maxRecDepth 20000 in
theorem gX11_readUnit_X11_next : GoodIn wsX11_readUnit (wsV RX11 185 RX11 yX11_next wsX11_next) := goodIn_app (goodIn_of _ (by decide +kernel)) ggX11_readUnit_X11_next
set_option maxRecDepth 20000 in
theorem ggX11_readUnit_X11_readLetter : GoodIn wsX11_readUnit wsX11_readLetter := goodIn_r _ [39, 40, 1, 41, 42, 43, 44, 45, 10, 46, 47, 48, 8, 49, 21, 27, 28, 29, 30, 31, 32, 33, 34, 35, 50, 51, 52, 53, 5, 6, 7, 9, 11, 17, 18, 19, 20, 2, 22, 23, 24, 25, 26, 58, 59, 60, 61, 62, 63, 64, 65, 66, 67, 68, 69, 70, 71, 72, 73, 74, 75, 76, 77, 78, 79, 80, 81, 82, 83, 84, 85, 86, 87, 88, 89, 90, 91, 92, 93, 94, 95, 96, 97, 98, 99, 100, 101, 102, 103, 104, 105, 106, 107, 108, 109, 110, 111, 112, 113, 114, 115, 116] (by decide +kernel) (by decide +kernel)
set_option maxRecDepth 20000 in
theorem gX11_readUnit_X11_readLetter : GoodIn wsX11_readUnit (wsV RX11 205 RX11 yX11_readLetter wsX11_readLetter) := goodIn_app (goodIn_of _ (by decide +kernel)) ggX11_readUnit_X11_readLetter
set_option maxRecDepth 20000 in
theorem ggX11_readUnit_X11_done : GoodIn wsX11_readUnit wsX11_done := goodIn_r _ [57, 4, 16, 41, 42, 58, 59, 60, 61, 62, 63, 64, 65, 66, 67, 68, 69, 70, 71, 72, 73, 74, 75, 76, 77, 78, 79, 80, 81, 82, 83, 84, 85, 86, 87, 88, 89, 90, 91, 92, 93, 94, 95, 96, 97, 98, 99, 100, 101, 102, 103, 104, 105, 106, 107, 108, 109, 110, 111, 112, 113, 114, 115, 116] (by decide +kernel) (by decide +kernel)
set_option maxRecDepth 20000 in
theorem gX11_readUnit_X11_done : GoodIn wsX11_readUnit (wsV RX11 208 RX11 yX11_done wsX11_done) := goodIn_app (goodIn_of _ (by decide +kernel)) ggX11_readUnit_X11_done
theorem dX11_readUnit_0 : decode cX11_readUnit 0 = .ok (.aload_n 0, 1) := by decide +kernel
theorem dX11_readUnit_1 : decode cX11_readUnit 1 = .ok (.getfield 145, 3) := by decide +kernel
theorem dX11_readUnit_4 : decode cX11_readUnit 4 = .ok (.ifCond .ne 53, 3) := by decide +kernel
theorem dX11_readUnit_7 : decode cX11_readUnit 7 = .ok (.aload_n 0, 1) := by decide +kernel
theorem dX11_readUnit_8 : decode cX11_readUnit 8 = .ok (.getfield 167, 3) := by decide +kernel
theorem dX11_readUnit_11 : decode cX11_readUnit 11 = .ok (.iconst 3, 1) := by decide +kernel
theorem dX11_readUnit_12 : decode cX11_readUnit 12 = .ok (.if_icmp .ne 45, 3) := by decide +kernel
theorem dX11_readUnit_15 : decode cX11_readUnit 15 = .ok (.aload_n 0, 1) := by decide +kernel
theorem dX11_readUnit_16 : decode cX11_readUnit 16 = .ok (.aload_n 0, 1) := by decide +kernel
theorem dX11_readUnit_17 : decode cX11_readUnit 17 = .ok (.getfield 198, 3) := by decide +kernel
theorem dX11_readUnit_20 : decode cX11_readUnit 20 = .ok (.bipush 6, 2) := by decide +kernel
theorem dX11_readUnit_22 : decode cX11_readUnit 22 = .ok (.if_icmp .ge 7, 3) := by decide +kernel
theorem dX11_readUnit_25 : decode cX11_readUnit 25 = .ok (.iconst 1, 1) := by decide +kernel
theorem dX11_readUnit_26 : decode cX11_readUnit 26 = .ok (.goto 4, 3) := by decide +kernel
theorem dX11_readUnit_29 : decode cX11_readUnit 29 = .ok (.iconst 0, 1) := by decide +kernel
theorem dX11_readUnit_30 : decode cX11_readUnit 30 = .ok (.iconst 5, 1) := by decide +kernel
theorem dX11_readUnit_31 : decode cX11_readUnit 31 = .ok (.invokevirtual 181, 3) := by decide +kernel
theorem dX11_readUnit_34 : decode cX11_readUnit 34 = .ok (.aload_n 0, 1) := by decide +kernel
theorem dX11_readUnit_35 : decode cX11_readUnit 35 = .ok (.dup, 1) := by decide +kernel
theorem dX11_readUnit_36 : decode cX11_readUnit 36 = .ok (.getfield 198, 3) := by decide +kernel
theorem dX11_readUnit_39 : decode cX11_readUnit 39 = .ok (.iconst 1, 1) := by decide +kernel
theorem dX11_readUnit_40 : decode cX11_readUnit 40 = .ok (.iadd, 1) := by decide +kernel
theorem dX11_readUnit_41 : decode cX11_readUnit 41 = .ok (.putfield 198, 3) := by decide +kernel
theorem dX11_readUnit_44 : decode cX11_readUnit 44 = .ok (.aload_n 0, 1) := by decide +kernel
theorem dX11_readUnit_45 : decode cX11_readUnit 45 = .ok (.bipush 12, 2) := by decide +kernel
theorem dX11_readUnit_47 : decode cX11_readUnit 47 = .ok (.invokevirtual 201, 3) := by decide +kernel
theorem dX11_readUnit_50 : decode cX11_readUnit 50 = .ok (.aload_n 0, 1) := by decide +kernel
theorem dX11_readUnit_51 : decode cX11_readUnit 51 = .ok (.invokevirtual 185, 3) := by decide +kernel
theorem dX11_readUnit_54 : decode cX11_readUnit 54 = .ok (.goto (-54), 3) := by decide +kernel
theorem dX11_readUnit_57 : decode cX11_readUnit 57 = .ok (.aload_n 0, 1) := by decide +kernel
theorem dX11_readUnit_58 : decode cX11_readUnit 58 = .ok (.getfield 145, 3) := by decide +kernel
theorem dX11_readUnit_61 : decode cX11_readUnit 61 = .ok (.ifCond .ne 21, 3) := by decide +kernel
theorem dX11_readUnit_64 : decode cX11_readUnit 64 = .ok (.aload_n 0, 1) := by decide +kernel
theorem dX11_readUnit_65 : decode cX11_readUnit 65 = .ok (.aload_n 0, 1) := by decide +kernel
theorem dX11_readUnit_66 : decode cX11_readUnit 66 = .ok (.getfield 167, 3) := by decide +kernel
theorem dX11_readUnit_69 : decode cX11_readUnit 69 = .ok (.iconst 1, 1) := by decide +kernel
theorem dX11_readUnit_70 : decode cX11_readUnit 70 = .ok (.if_icmp .ne 7, 3) := by decide +kernel
theorem dX11_readUnit_73 : decode cX11_readUnit 73 = .ok (.iconst 1, 1) := by decide +kernel
theorem dX11_readUnit_74 : decode cX11_readUnit 74 = .ok (.goto 4, 3) := by decide +kernel
theorem dX11_readUnit_77 : decode cX11_readUnit 77 = .ok (.iconst 0, 1) := by decide +kernel
theorem dX11_readUnit_78 : decode cX11_readUnit 78 = .ok (.iconst 2, 1) := by decide +kernel
theorem dX11_readUnit_79 : decode cX11_readUnit 79 = .ok (.invokevirtual 181, 3) := by decide +kernel
theorem dX11_readUnit_82 : decode cX11_readUnit 82 = .ok (.aload_n 0, 1) := by decide +kernel
theorem dX11_readUnit_83 : decode cX11_readUnit 83 = .ok (.getfield 145, 3) := by decide +kernel
theorem dX11_readUnit_86 : decode cX11_readUnit 86 = .ok (.ifCond .ne 7, 3) := by decide +kernel
theorem dX11_readUnit_89 : decode cX11_readUnit 89 = .ok (.aload_n 0, 1) := by decide +kernel
theorem dX11_readUnit_90 : decode cX11_readUnit 90 = .ok (.invokevirtual 205, 3) := by decide +kernel
theorem dX11_readUnit_93 : decode cX11_readUnit 93 = .ok (.aload_n 0, 1) := by decide +kernel
theorem dX11_readUnit_94 : decode cX11_readUnit 94 = .ok (.getfield 145, 3) := by decide +kernel
theorem dX11_readUnit_97 : decode cX11_readUnit 97 = .ok (.ifCond .ne 68, 3) := by decide +kernel
theorem dX11_readUnit_100 : decode cX11_readUnit 100 = .ok (.aload_n 0, 1) := by decide +kernel
theorem dX11_readUnit_101 : decode cX11_readUnit 101 = .ok (.getfield 167, 3) := by decide +kernel
theorem dX11_readUnit_104 : decode cX11_readUnit 104 = .ok (.iconst 4, 1) := by decide +kernel
theorem dX11_readUnit_105 : decode cX11_readUnit 105 = .ok (.if_icmp .ne 60, 3) := by decide +kernel
theorem dX11_readUnit_108 : decode cX11_readUnit 108 = .ok (.aload_n 0, 1) := by decide +kernel
theorem dX11_readUnit_109 : decode cX11_readUnit 109 = .ok (.aload_n 0, 1) := by decide +kernel
theorem dX11_readUnit_110 : decode cX11_readUnit 110 = .ok (.getfield 198, 3) := by decide +kernel
theorem dX11_readUnit_113 : decode cX11_readUnit 113 = .ok (.ifCond .le 7, 3) := by decide +kernel
theorem dX11_readUnit_116 : decode cX11_readUnit 116 = .ok (.iconst 1, 1) := by decide +kernel
theorem dX11_readUnit_117 : decode cX11_readUnit 117 = .ok (.goto 4, 3) := by decide +kernel
theorem dX11_readUnit_120 : decode cX11_readUnit 120 = .ok (.iconst 0, 1) := by decide +kernel
theorem dX11_readUnit_121 : decode cX11_readUnit 121 = .ok (.iconst 2, 1) := by decide +kernel
theorem dX11_readUnit_122 : decode cX11_readUnit 122 = .ok (.invokevirtual 181, 3) := by decide +kernel
theorem dX11_readUnit_125 : decode cX11_readUnit 125 = .ok (.aload_n 0, 1) := by decide +kernel
theorem dX11_readUnit_126 : decode cX11_readUnit 126 = .ok (.getfield 145, 3) := by decide +kernel
theorem dX11_readUnit_129 : decode cX11_readUnit 129 = .ok (.ifCond .ne 29, 3) := by decide +kernel
theorem dX11_readUnit_132 : decode cX11_readUnit 132 = .ok (.aload_n 0, 1) := by decide +kernel
theorem dX11_readUnit_133 : decode cX11_readUnit 133 = .ok (.bipush 11, 2) := by decide +kernel
theorem dX11_readUnit_135 : decode cX11_readUnit 135 = .ok (.invokevirtual 208, 3) := by decide +kernel
theorem dX11_readUnit_138 : decode cX11_readUnit 138 = .ok (.aload_n 0, 1) := by decide +kernel
theorem dX11_readUnit_139 : decode cX11_readUnit 139 = .ok (.dup, 1) := by decide +kernel
theorem dX11_readUnit_140 : decode cX11_readUnit 140 = .ok (.getfield 195, 3) := by decide +kernel
theorem dX11_readUnit_143 : decode cX11_readUnit 143 = .ok (.iconst 1, 1) := by decide +kernel
theorem dX11_readUnit_144 : decode cX11_readUnit 144 = .ok (.isub, 1) := by decide +kernel
theorem dX11_readUnit_145 : decode cX11_readUnit 145 = .ok (.putfield 195, 3) := by decide +kernel
theorem dX11_readUnit_148 : decode cX11_readUnit 148 = .ok (.aload_n 0, 1) := by decide +kernel
theorem dX11_readUnit_149 : decode cX11_readUnit 149 = .ok (.dup, 1) := by decide +kernel
theorem dX11_readUnit_150 : decode cX11_readUnit 150 = .ok (.getfield 198, 3) := by decide +kernel
theorem dX11_readUnit_153 : decode cX11_readUnit 153 = .ok (.iconst 1, 1) := by decide +kernel
theorem dX11_readUnit_154 : decode cX11_readUnit 154 = .ok (.isub, 1) := by decide +kernel
theorem dX11_readUnit_155 : decode cX11_readUnit 155 = .ok (.putfield 198, 3) := by decide +kernel
theorem dX11_readUnit_158 : decode cX11_readUnit 158 = .ok (.aload_n 0, 1) := by decide +kernel
theorem dX11_readUnit_159 : decode cX11_readUnit 159 = .ok (.invokevirtual 185, 3) := by decide +kernel
theorem dX11_readUnit_162 : decode cX11_readUnit 162 = .ok (.goto (-69), 3) := by decide +kernel
theorem dX11_readUnit_165 : decode cX11_readUnit 165 = .ok (.return_, 1) := by decide +kernel
set_option maxRecDepth 20000 in
theorem ggX11_readFormula_X11_readUnit : GoodIn wsX11_readFormula wsX11_readUnit := goodIn_r _ [10, 4, 5, 3, 2, 11, 12, 13, 9, 14, 15, 16, 17, 18, 19, 20, 21, 22, 23, 24, 25, 26, 27, 28, 29, 30, 31, 32, 33, 34, 35, 36, 37, 38, 39, 40, 41, 42, 43, 44, 45, 46, 1, 47, 48, 49, 50, 51, 52, 53, 54, 55, 56, 57, 58, 59, 60, 61, 62, 63, 64, 65, 66, 67, 68, 69, 70, 71, 72, 73, 74, 75, 76, 77, 78, 79, 80, 81, 82, 83, 84, 85, 86, 87, 88, 89, 90, 91, 92, 93, 94, 95, 96, 97, 98, 99, 100, 101, 102, 103, 104, 105, 106, 107, 108, 109, 110, 111, 112, 113, 114, 115, 116, 117, 118, 119, 120] (by decide +kernel) (by decide +kernel)
set_option maxRecDepth 20000 in
theorem gX11_readFormula_X11_readUnit : GoodIn wsX11_readFormula (wsV RX11 211 RX11 yX11_readUnit wsX11_readUnit) := goodIn_app (goodIn_of _ (by decide +kernel)) ggX11_readFormula_X11_readUnit
set_option maxRecDepth 20000 in
theorem ggX11_readFormula_X11_done : GoodIn wsX11_readFormula wsX11_done := goodIn_r _ [61, 2, 21, 46, 1, 62, 63, 64, 65, 66, 67, 68, 69, 70, 71, 72, 73, 74, 75, 76, 77, 78, 79, 80, 81, 82, 83, 84, 85, 86, 87, 88, 89, 90, 91, 92, 93, 94, 95, 96, 97, 98, 99, 100, 101, 102, 103, 104, 105, 106, 107, 108, 109, 110, 111, 112, 113, 114, 115, 116, 117, 118, 119, 120] (by decide +kernel) (by decide +kernel)
set_option maxRecDepth 20000 in
theorem gX11_readFormula_X11_done : GoodIn wsX11_readFormula (wsV RX11 208 RX11 yX11_done wsX11_done) := goodIn_app (goodIn_of _ (by decide +kernel)) ggX11_readFormula_X11_done
set_option maxRecDepth 20000 in
theorem ggX11_readFormula_X11_holdsBack : GoodIn wsX11_readFormula wsX11_holdsBack := goodIn_r _ [20, 21, 2, 62, 63, 64, 65, 66, 67, 68, 69, 70, 71, 72, 73, 74, 75, 76, 77, 78, 79, 80, 81, 82, 83, 84, 85, 86, 87, 88, 89, 90, 91, 92, 93, 94, 95, 96, 97, 98, 99, 100, 101, 102, 103, 104, 105, 106, 107, 108, 109, 110, 111, 112, 113, 114, 115, 116, 117, 118, 119, 120] (by decide +kernel) (by decide +kernel)
set_option maxRecDepth 20000 in
theorem gX11_readFormula_X11_holdsBack : GoodIn wsX11_readFormula (wsV RX11 201 RX11 yX11_holdsBack wsX11_holdsBack) := goodIn_app (goodIn_of _ (by decide +kernel)) ggX11_readFormula_X11_holdsBack
set_option maxRecDepth 20000 in
theorem ggX11_readFormula_X11_next : GoodIn wsX11_readFormula wsX11_next := goodIn_r _ [25, 4, 26, 15, 5, 27, 28, 29, 30, 31, 32, 33, 34, 9, 35, 36, 37, 38, 39, 40, 11, 12, 13, 14, 16, 62, 63, 64, 65, 66, 67, 68, 69, 70, 71, 72, 73, 74, 75, 76, 77, 78, 79, 80, 81, 82, 83, 84, 85, 86, 87, 88, 89, 90, 91, 92, 93, 94, 95, 96, 97, 98, 99, 100, 101, 102, 103, 104, 105, 106, 107, 108, 109, 110, 111, 112, 113, 114, 115, 116, 117, 118, 119, 120] (by decide +kernel) (by decide +kernel)
set_option maxRecDepth 20000 in
theorem gX11_readFormula_X11_next : GoodIn wsX11_readFormula (wsV RX11 185 RX11 yX11_next wsX11_next) := goodIn_app (goodIn_of _ (by decide +kernel)) ggX11_readFormula_X11_next
set_option maxRecDepth 20000 in
theorem ggX11_readFormula_X11_wants : GoodIn wsX11_readFormula wsX11_wants := goodIn_r _ [14, 4, 15, 16, 62, 63, 64, 65, 66, 67, 68, 69, 70, 71, 72, 73, 74, 75, 76, 77, 78, 79, 80, 81, 82, 83, 84, 85, 86, 87, 88, 89, 90, 91, 92, 93, 94, 95, 96, 97, 98, 99, 100, 101, 102, 103, 104, 105, 106, 107, 108, 109, 110, 111, 112, 113, 114, 115, 116, 117, 118, 119, 120] (by decide +kernel) (by decide +kernel)
set_option maxRecDepth 20000 in
theorem gX11_readFormula_X11_wants : GoodIn wsX11_readFormula (wsV RX11 181 RX11 yX11_wants wsX11_wants) := goodIn_app (goodIn_of _ (by decide +kernel)) ggX11_readFormula_X11_wants
theorem dX11_readFormula_0 : decode cX11_readFormula 0 = .ok (.aload_n 0, 1) := by decide +kernel
theorem dX11_readFormula_1 : decode cX11_readFormula 1 = .ok (.iconst 0, 1) := by decide +kernel
theorem dX11_readFormula_2 : decode cX11_readFormula 2 = .ok (.putfield 192, 3) := by decide +kernel
theorem dX11_readFormula_5 : decode cX11_readFormula 5 = .ok (.aload_n 0, 1) := by decide +kernel
theorem dX11_readFormula_6 : decode cX11_readFormula 6 = .ok (.iconst 0, 1) := by decide +kernel
theorem dX11_readFormula_7 : decode cX11_readFormula 7 = .ok (.putfield 195, 3) := by decide +kernel
theorem dX11_readFormula_10 : decode cX11_readFormula 10 = .ok (.aload_n 0, 1) := by decide +kernel
theorem dX11_readFormula_11 : decode cX11_readFormula 11 = .ok (.iconst 0, 1) := by decide +kernel
theorem dX11_readFormula_12 : decode cX11_readFormula 12 = .ok (.putfield 198, 3) := by decide +kernel
theorem dX11_readFormula_15 : decode cX11_readFormula 15 = .ok (.aload_n 0, 1) := by decide +kernel
theorem dX11_readFormula_16 : decode cX11_readFormula 16 = .ok (.invokevirtual 211, 3) := by decide +kernel
theorem dX11_readFormula_19 : decode cX11_readFormula 19 = .ok (.aload_n 0, 1) := by decide +kernel
theorem dX11_readFormula_20 : decode cX11_readFormula 20 = .ok (.getfield 145, 3) := by decide +kernel
theorem dX11_readFormula_23 : decode cX11_readFormula 23 = .ok (.ifCond .ne 57, 3) := by decide +kernel
theorem dX11_readFormula_26 : decode cX11_readFormula 26 = .ok (.aload_n 0, 1) := by decide +kernel
theorem dX11_readFormula_27 : decode cX11_readFormula 27 = .ok (.getfield 167, 3) := by decide +kernel
theorem dX11_readFormula_30 : decode cX11_readFormula 30 = .ok (.iconst 5, 1) := by decide +kernel
theorem dX11_readFormula_31 : decode cX11_readFormula 31 = .ok (.if_icmp .eq 12, 3) := by decide +kernel
theorem dX11_readFormula_34 : decode cX11_readFormula 34 = .ok (.aload_n 0, 1) := by decide +kernel
theorem dX11_readFormula_35 : decode cX11_readFormula 35 = .ok (.getfield 167, 3) := by decide +kernel
theorem dX11_readFormula_38 : decode cX11_readFormula 38 = .ok (.bipush 6, 2) := by decide +kernel
theorem dX11_readFormula_40 : decode cX11_readFormula 40 = .ok (.if_icmp .ne 40, 3) := by decide +kernel
theorem dX11_readFormula_43 : decode cX11_readFormula 43 = .ok (.aload_n 0, 1) := by decide +kernel
theorem dX11_readFormula_44 : decode cX11_readFormula 44 = .ok (.getfield 167, 3) := by decide +kernel
theorem dX11_readFormula_47 : decode cX11_readFormula 47 = .ok (.iconst 5, 1) := by decide +kernel
theorem dX11_readFormula_48 : decode cX11_readFormula 48 = .ok (.if_icmp .ne 8, 3) := by decide +kernel
theorem dX11_readFormula_51 : decode cX11_readFormula 51 = .ok (.bipush 10, 2) := by decide +kernel
theorem dX11_readFormula_53 : decode cX11_readFormula 53 = .ok (.goto 5, 3) := by decide +kernel
theorem dX11_readFormula_56 : decode cX11_readFormula 56 = .ok (.bipush 11, 2) := by decide +kernel
theorem dX11_readFormula_58 : decode cX11_readFormula 58 = .ok (.istore_n 1, 1) := by decide +kernel
theorem dX11_readFormula_59 : decode cX11_readFormula 59 = .ok (.aload_n 0, 1) := by decide +kernel
theorem dX11_readFormula_60 : decode cX11_readFormula 60 = .ok (.iload_n 1, 1) := by decide +kernel
theorem dX11_readFormula_61 : decode cX11_readFormula 61 = .ok (.invokevirtual 208, 3) := by decide +kernel
theorem dX11_readFormula_64 : decode cX11_readFormula 64 = .ok (.aload_n 0, 1) := by decide +kernel
theorem dX11_readFormula_65 : decode cX11_readFormula 65 = .ok (.iload_n 1, 1) := by decide +kernel
theorem dX11_readFormula_66 : decode cX11_readFormula 66 = .ok (.invokevirtual 201, 3) := by decide +kernel
theorem dX11_readFormula_69 : decode cX11_readFormula 69 = .ok (.aload_n 0, 1) := by decide +kernel
theorem dX11_readFormula_70 : decode cX11_readFormula 70 = .ok (.invokevirtual 185, 3) := by decide +kernel
theorem dX11_readFormula_73 : decode cX11_readFormula 73 = .ok (.aload_n 0, 1) := by decide +kernel
theorem dX11_readFormula_74 : decode cX11_readFormula 74 = .ok (.invokevirtual 211, 3) := by decide +kernel
theorem dX11_readFormula_77 : decode cX11_readFormula 77 = .ok (.goto (-58), 3) := by decide +kernel
theorem dX11_readFormula_80 : decode cX11_readFormula 80 = .ok (.aload_n 0, 1) := by decide +kernel
theorem dX11_readFormula_81 : decode cX11_readFormula 81 = .ok (.getfield 145, 3) := by decide +kernel
theorem dX11_readFormula_84 : decode cX11_readFormula 84 = .ok (.ifCond .ne 20, 3) := by decide +kernel
theorem dX11_readFormula_87 : decode cX11_readFormula 87 = .ok (.aload_n 0, 1) := by decide +kernel
theorem dX11_readFormula_88 : decode cX11_readFormula 88 = .ok (.aload_n 0, 1) := by decide +kernel
theorem dX11_readFormula_89 : decode cX11_readFormula 89 = .ok (.getfield 198, 3) := by decide +kernel
theorem dX11_readFormula_92 : decode cX11_readFormula 92 = .ok (.ifCond .ne 7, 3) := by decide +kernel
theorem dX11_readFormula_95 : decode cX11_readFormula 95 = .ok (.iconst 1, 1) := by decide +kernel
theorem dX11_readFormula_96 : decode cX11_readFormula 96 = .ok (.goto 4, 3) := by decide +kernel
theorem dX11_readFormula_99 : decode cX11_readFormula 99 = .ok (.iconst 0, 1) := by decide +kernel
theorem dX11_readFormula_100 : decode cX11_readFormula 100 = .ok (.iconst 2, 1) := by decide +kernel
theorem dX11_readFormula_101 : decode cX11_readFormula 101 = .ok (.invokevirtual 181, 3) := by decide +kernel
theorem dX11_readFormula_104 : decode cX11_readFormula 104 = .ok (.aload_n 0, 1) := by decide +kernel
theorem dX11_readFormula_105 : decode cX11_readFormula 105 = .ok (.getfield 145, 3) := by decide +kernel
theorem dX11_readFormula_108 : decode cX11_readFormula 108 = .ok (.ifCond .ne 9, 3) := by decide +kernel
theorem dX11_readFormula_111 : decode cX11_readFormula 111 = .ok (.aload_n 0, 1) := by decide +kernel
theorem dX11_readFormula_112 : decode cX11_readFormula 112 = .ok (.bipush 11, 2) := by decide +kernel
theorem dX11_readFormula_114 : decode cX11_readFormula 114 = .ok (.invokevirtual 208, 3) := by decide +kernel
theorem dX11_readFormula_117 : decode cX11_readFormula 117 = .ok (.return_, 1) := by decide +kernel
theorem dX11_worth_0 : decode cX11_worth 0 = .ok (.iconst 0, 1) := by decide +kernel
theorem dX11_worth_1 : decode cX11_worth 1 = .ok (.istore_n 2, 1) := by decide +kernel
theorem dX11_worth_2 : decode cX11_worth 2 = .ok (.iconst 0, 1) := by decide +kernel
theorem dX11_worth_3 : decode cX11_worth 3 = .ok (.istore_n 3, 1) := by decide +kernel
theorem dX11_worth_4 : decode cX11_worth 4 = .ok (.iload_n 3, 1) := by decide +kernel
theorem dX11_worth_5 : decode cX11_worth 5 = .ok (.aload_n 0, 1) := by decide +kernel
theorem dX11_worth_6 : decode cX11_worth 6 = .ok (.getfield 192, 3) := by decide +kernel
theorem dX11_worth_9 : decode cX11_worth 9 = .ok (.if_icmp .ge 126, 3) := by decide +kernel
theorem dX11_worth_12 : decode cX11_worth 12 = .ok (.aload_n 0, 1) := by decide +kernel
theorem dX11_worth_13 : decode cX11_worth 13 = .ok (.getfield 35, 3) := by decide +kernel
theorem dX11_worth_16 : decode cX11_worth 16 = .ok (.iload_n 3, 1) := by decide +kernel
theorem dX11_worth_17 : decode cX11_worth 17 = .ok (.iaload, 1) := by decide +kernel
theorem dX11_worth_18 : decode cX11_worth 18 = .ok (.bipush 9, 2) := by decide +kernel
theorem dX11_worth_20 : decode cX11_worth 20 = .ok (.if_icmp .ge 34, 3) := by decide +kernel
theorem dX11_worth_23 : decode cX11_worth 23 = .ok (.aload_n 0, 1) := by decide +kernel
theorem dX11_worth_24 : decode cX11_worth 24 = .ok (.getfield 41, 3) := by decide +kernel
theorem dX11_worth_27 : decode cX11_worth 27 = .ok (.iload_n 2, 1) := by decide +kernel
theorem dX11_worth_28 : decode cX11_worth 28 = .ok (.iload_n 1, 1) := by decide +kernel
theorem dX11_worth_29 : decode cX11_worth 29 = .ok (.aload_n 0, 1) := by decide +kernel
theorem dX11_worth_30 : decode cX11_worth 30 = .ok (.getfield 35, 3) := by decide +kernel
theorem dX11_worth_33 : decode cX11_worth 33 = .ok (.iload_n 3, 1) := by decide +kernel
theorem dX11_worth_34 : decode cX11_worth 34 = .ok (.iaload, 1) := by decide +kernel
theorem dX11_worth_35 : decode cX11_worth 35 = .ok (.ishr, 1) := by decide +kernel
theorem dX11_worth_36 : decode cX11_worth 36 = .ok (.iconst 1, 1) := by decide +kernel
theorem dX11_worth_37 : decode cX11_worth 37 = .ok (.iand, 1) := by decide +kernel
theorem dX11_worth_38 : decode cX11_worth 38 = .ok (.iconst 1, 1) := by decide +kernel
theorem dX11_worth_39 : decode cX11_worth 39 = .ok (.if_icmp .ne 7, 3) := by decide +kernel
theorem dX11_worth_42 : decode cX11_worth 42 = .ok (.iconst 1, 1) := by decide +kernel
theorem dX11_worth_43 : decode cX11_worth 43 = .ok (.goto 4, 3) := by decide +kernel
theorem dX11_worth_46 : decode cX11_worth 46 = .ok (.iconst 0, 1) := by decide +kernel
theorem dX11_worth_47 : decode cX11_worth 47 = .ok (.bastore, 1) := by decide +kernel
theorem dX11_worth_48 : decode cX11_worth 48 = .ok (.iinc 2 1, 3) := by decide +kernel
theorem dX11_worth_51 : decode cX11_worth 51 = .ok (.goto 78, 3) := by decide +kernel
theorem dX11_worth_54 : decode cX11_worth 54 = .ok (.iinc 2 (-1), 3) := by decide +kernel
theorem dX11_worth_57 : decode cX11_worth 57 = .ok (.aload_n 0, 1) := by decide +kernel
theorem dX11_worth_58 : decode cX11_worth 58 = .ok (.getfield 41, 3) := by decide +kernel
theorem dX11_worth_61 : decode cX11_worth 61 = .ok (.iload_n 2, 1) := by decide +kernel
theorem dX11_worth_62 : decode cX11_worth 62 = .ok (.iconst 1, 1) := by decide +kernel
theorem dX11_worth_63 : decode cX11_worth 63 = .ok (.isub, 1) := by decide +kernel
theorem dX11_worth_64 : decode cX11_worth 64 = .ok (.aload_n 0, 1) := by decide +kernel
theorem dX11_worth_65 : decode cX11_worth 65 = .ok (.getfield 35, 3) := by decide +kernel
theorem dX11_worth_68 : decode cX11_worth 68 = .ok (.iload_n 3, 1) := by decide +kernel
theorem dX11_worth_69 : decode cX11_worth 69 = .ok (.iaload, 1) := by decide +kernel
theorem dX11_worth_70 : decode cX11_worth 70 = .ok (.bipush 10, 2) := by decide +kernel
theorem dX11_worth_72 : decode cX11_worth 72 = .ok (.if_icmp .ne 31, 3) := by decide +kernel
theorem dX11_worth_75 : decode cX11_worth 75 = .ok (.aload_n 0, 1) := by decide +kernel
theorem dX11_worth_76 : decode cX11_worth 76 = .ok (.getfield 41, 3) := by decide +kernel
theorem dX11_worth_79 : decode cX11_worth 79 = .ok (.iload_n 2, 1) := by decide +kernel
theorem dX11_worth_80 : decode cX11_worth 80 = .ok (.iconst 1, 1) := by decide +kernel
theorem dX11_worth_81 : decode cX11_worth 81 = .ok (.isub, 1) := by decide +kernel
theorem dX11_worth_82 : decode cX11_worth 82 = .ok (.baload, 1) := by decide +kernel
theorem dX11_worth_83 : decode cX11_worth 83 = .ok (.ifCond .eq 16, 3) := by decide +kernel
theorem dX11_worth_86 : decode cX11_worth 86 = .ok (.aload_n 0, 1) := by decide +kernel
theorem dX11_worth_87 : decode cX11_worth 87 = .ok (.getfield 41, 3) := by decide +kernel
theorem dX11_worth_90 : decode cX11_worth 90 = .ok (.iload_n 2, 1) := by decide +kernel
theorem dX11_worth_91 : decode cX11_worth 91 = .ok (.baload, 1) := by decide +kernel
theorem dX11_worth_92 : decode cX11_worth 92 = .ok (.ifCond .eq 7, 3) := by decide +kernel
theorem dX11_worth_95 : decode cX11_worth 95 = .ok (.iconst 1, 1) := by decide +kernel
theorem dX11_worth_96 : decode cX11_worth 96 = .ok (.goto 32, 3) := by decide +kernel
theorem dX11_worth_99 : decode cX11_worth 99 = .ok (.iconst 0, 1) := by decide +kernel
theorem dX11_worth_100 : decode cX11_worth 100 = .ok (.goto 28, 3) := by decide +kernel
theorem dX11_worth_103 : decode cX11_worth 103 = .ok (.aload_n 0, 1) := by decide +kernel
theorem dX11_worth_104 : decode cX11_worth 104 = .ok (.getfield 41, 3) := by decide +kernel
theorem dX11_worth_107 : decode cX11_worth 107 = .ok (.iload_n 2, 1) := by decide +kernel
theorem dX11_worth_108 : decode cX11_worth 108 = .ok (.iconst 1, 1) := by decide +kernel
theorem dX11_worth_109 : decode cX11_worth 109 = .ok (.isub, 1) := by decide +kernel
theorem dX11_worth_110 : decode cX11_worth 110 = .ok (.baload, 1) := by decide +kernel
theorem dX11_worth_111 : decode cX11_worth 111 = .ok (.ifCond .ne 12, 3) := by decide +kernel
theorem dX11_worth_114 : decode cX11_worth 114 = .ok (.aload_n 0, 1) := by decide +kernel
theorem dX11_worth_115 : decode cX11_worth 115 = .ok (.getfield 41, 3) := by decide +kernel
theorem dX11_worth_118 : decode cX11_worth 118 = .ok (.iload_n 2, 1) := by decide +kernel
theorem dX11_worth_119 : decode cX11_worth 119 = .ok (.baload, 1) := by decide +kernel
theorem dX11_worth_120 : decode cX11_worth 120 = .ok (.ifCond .eq 7, 3) := by decide +kernel
theorem dX11_worth_123 : decode cX11_worth 123 = .ok (.iconst 1, 1) := by decide +kernel
theorem dX11_worth_124 : decode cX11_worth 124 = .ok (.goto 4, 3) := by decide +kernel
theorem dX11_worth_127 : decode cX11_worth 127 = .ok (.iconst 0, 1) := by decide +kernel
theorem dX11_worth_128 : decode cX11_worth 128 = .ok (.bastore, 1) := by decide +kernel
theorem dX11_worth_129 : decode cX11_worth 129 = .ok (.iinc 3 1, 3) := by decide +kernel
theorem dX11_worth_132 : decode cX11_worth 132 = .ok (.goto (-128), 3) := by decide +kernel
theorem dX11_worth_135 : decode cX11_worth 135 = .ok (.aload_n 0, 1) := by decide +kernel
theorem dX11_worth_136 : decode cX11_worth 136 = .ok (.getfield 41, 3) := by decide +kernel
theorem dX11_worth_139 : decode cX11_worth 139 = .ok (.iconst 0, 1) := by decide +kernel
theorem dX11_worth_140 : decode cX11_worth 140 = .ok (.baload, 1) := by decide +kernel
theorem dX11_worth_141 : decode cX11_worth 141 = .ok (.ireturn, 1) := by decide +kernel
set_option maxRecDepth 20000 in
theorem ggX11_keepFormula_X11_worth : GoodIn wsX11_keepFormula wsX11_worth := goodIn_r _ [10, 3, 4, 11, 12, 13, 14, 15, 16, 17, 18, 19, 20, 21, 22, 23, 24, 25, 26, 27, 28, 29, 30, 31, 32, 33, 34, 35, 36, 37, 38, 39, 40, 41, 42, 43, 44, 45, 46, 47, 48, 49, 50, 51, 52, 53, 54, 55, 56, 57, 58, 59, 60, 61, 62, 63, 64, 65, 66, 67, 68, 69, 70] (by decide +kernel) (by decide +kernel)
set_option maxRecDepth 20000 in
theorem gX11_keepFormula_X11_worth : GoodIn wsX11_keepFormula (wsV RX11 214 RX11 yX11_worth wsX11_worth) := goodIn_app (goodIn_of _ (by decide +kernel)) ggX11_keepFormula_X11_worth
theorem dX11_keepFormula_0 : decode cX11_keepFormula 0 = .ok (.aload_n 0, 1) := by decide +kernel
theorem dX11_keepFormula_1 : decode cX11_keepFormula 1 = .ok (.getfield 23, 3) := by decide +kernel
theorem dX11_keepFormula_4 : decode cX11_keepFormula 4 = .ok (.aload_n 0, 1) := by decide +kernel
theorem dX11_keepFormula_5 : decode cX11_keepFormula 5 = .ok (.getfield 98, 3) := by decide +kernel
theorem dX11_keepFormula_8 : decode cX11_keepFormula 8 = .ok (.iconst 0, 1) := by decide +kernel
theorem dX11_keepFormula_9 : decode cX11_keepFormula 9 = .ok (.iastore, 1) := by decide +kernel
theorem dX11_keepFormula_10 : decode cX11_keepFormula 10 = .ok (.iconst 0, 1) := by decide +kernel
theorem dX11_keepFormula_11 : decode cX11_keepFormula 11 = .ok (.istore_n 1, 1) := by decide +kernel
theorem dX11_keepFormula_12 : decode cX11_keepFormula 12 = .ok (.iload_n 1, 1) := by decide +kernel
theorem dX11_keepFormula_13 : decode cX11_keepFormula 13 = .ok (.aload_n 0, 1) := by decide +kernel
theorem dX11_keepFormula_14 : decode cX11_keepFormula 14 = .ok (.getfield 192, 3) := by decide +kernel
theorem dX11_keepFormula_17 : decode cX11_keepFormula 17 = .ok (.if_icmp .ge 44, 3) := by decide +kernel
theorem dX11_keepFormula_20 : decode cX11_keepFormula 20 = .ok (.aload_n 0, 1) := by decide +kernel
theorem dX11_keepFormula_21 : decode cX11_keepFormula 21 = .ok (.getfield 23, 3) := by decide +kernel
theorem dX11_keepFormula_24 : decode cX11_keepFormula 24 = .ok (.aload_n 0, 1) := by decide +kernel
theorem dX11_keepFormula_25 : decode cX11_keepFormula 25 = .ok (.getfield 98, 3) := by decide +kernel
theorem dX11_keepFormula_28 : decode cX11_keepFormula 28 = .ok (.dup2, 1) := by decide +kernel
theorem dX11_keepFormula_29 : decode cX11_keepFormula 29 = .ok (.iaload, 1) := by decide +kernel
theorem dX11_keepFormula_30 : decode cX11_keepFormula 30 = .ok (.aload_n 0, 1) := by decide +kernel
theorem dX11_keepFormula_31 : decode cX11_keepFormula 31 = .ok (.getfield 35, 3) := by decide +kernel
theorem dX11_keepFormula_34 : decode cX11_keepFormula 34 = .ok (.iload_n 1, 1) := by decide +kernel
theorem dX11_keepFormula_35 : decode cX11_keepFormula 35 = .ok (.iaload, 1) := by decide +kernel
theorem dX11_keepFormula_36 : decode cX11_keepFormula 36 = .ok (.bipush 9, 2) := by decide +kernel
theorem dX11_keepFormula_38 : decode cX11_keepFormula 38 = .ok (.if_icmp .ge 14, 3) := by decide +kernel
theorem dX11_keepFormula_41 : decode cX11_keepFormula 41 = .ok (.iconst 1, 1) := by decide +kernel
theorem dX11_keepFormula_42 : decode cX11_keepFormula 42 = .ok (.aload_n 0, 1) := by decide +kernel
theorem dX11_keepFormula_43 : decode cX11_keepFormula 43 = .ok (.getfield 35, 3) := by decide +kernel
theorem dX11_keepFormula_46 : decode cX11_keepFormula 46 = .ok (.iload_n 1, 1) := by decide +kernel
theorem dX11_keepFormula_47 : decode cX11_keepFormula 47 = .ok (.iaload, 1) := by decide +kernel
theorem dX11_keepFormula_48 : decode cX11_keepFormula 48 = .ok (.ishl, 1) := by decide +kernel
theorem dX11_keepFormula_49 : decode cX11_keepFormula 49 = .ok (.goto 4, 3) := by decide +kernel
theorem dX11_keepFormula_52 : decode cX11_keepFormula 52 = .ok (.iconst 0, 1) := by decide +kernel
theorem dX11_keepFormula_53 : decode cX11_keepFormula 53 = .ok (.ior, 1) := by decide +kernel
theorem dX11_keepFormula_54 : decode cX11_keepFormula 54 = .ok (.iastore, 1) := by decide +kernel
theorem dX11_keepFormula_55 : decode cX11_keepFormula 55 = .ok (.iinc 1 1, 3) := by decide +kernel
theorem dX11_keepFormula_58 : decode cX11_keepFormula 58 = .ok (.goto (-46), 3) := by decide +kernel
theorem dX11_keepFormula_61 : decode cX11_keepFormula 61 = .ok (.iconst 0, 1) := by decide +kernel
theorem dX11_keepFormula_62 : decode cX11_keepFormula 62 = .ok (.istore_n 1, 1) := by decide +kernel
theorem dX11_keepFormula_63 : decode cX11_keepFormula 63 = .ok (.iload_n 1, 1) := by decide +kernel
theorem dX11_keepFormula_64 : decode cX11_keepFormula 64 = .ok (.sipush 512, 3) := by decide +kernel
theorem dX11_keepFormula_67 : decode cX11_keepFormula 67 = .ok (.if_icmp .ge 29, 3) := by decide +kernel
theorem dX11_keepFormula_70 : decode cX11_keepFormula 70 = .ok (.aload_n 0, 1) := by decide +kernel
theorem dX11_keepFormula_71 : decode cX11_keepFormula 71 = .ok (.getfield 26, 3) := by decide +kernel
theorem dX11_keepFormula_74 : decode cX11_keepFormula 74 = .ok (.sipush 512, 3) := by decide +kernel
theorem dX11_keepFormula_77 : decode cX11_keepFormula 77 = .ok (.aload_n 0, 1) := by decide +kernel
theorem dX11_keepFormula_78 : decode cX11_keepFormula 78 = .ok (.getfield 98, 3) := by decide +kernel
theorem dX11_keepFormula_81 : decode cX11_keepFormula 81 = .ok (.imul, 1) := by decide +kernel
theorem dX11_keepFormula_82 : decode cX11_keepFormula 82 = .ok (.iload_n 1, 1) := by decide +kernel
theorem dX11_keepFormula_83 : decode cX11_keepFormula 83 = .ok (.iadd, 1) := by decide +kernel
theorem dX11_keepFormula_84 : decode cX11_keepFormula 84 = .ok (.aload_n 0, 1) := by decide +kernel
theorem dX11_keepFormula_85 : decode cX11_keepFormula 85 = .ok (.iload_n 1, 1) := by decide +kernel
theorem dX11_keepFormula_86 : decode cX11_keepFormula 86 = .ok (.invokevirtual 214, 3) := by decide +kernel
theorem dX11_keepFormula_89 : decode cX11_keepFormula 89 = .ok (.bastore, 1) := by decide +kernel
theorem dX11_keepFormula_90 : decode cX11_keepFormula 90 = .ok (.iinc 1 1, 3) := by decide +kernel
theorem dX11_keepFormula_93 : decode cX11_keepFormula 93 = .ok (.goto (-30), 3) := by decide +kernel
theorem dX11_keepFormula_96 : decode cX11_keepFormula 96 = .ok (.return_, 1) := by decide +kernel
set_option maxRecDepth 20000 in
theorem ggX11_readWith_X11_next : GoodIn wsX11_readWith wsX11_next := goodIn_r _ [7, 8, 9, 10, 11, 12, 13, 14, 15, 16, 17, 18, 19, 6, 20, 21, 22, 23, 24, 25, 26, 27, 28, 29, 30, 35, 36, 37, 38, 39, 40, 41, 42, 43, 44, 45, 46, 47, 48, 49, 50, 51, 52, 53, 54, 55, 56, 57, 58, 59, 60, 61, 62, 63, 64, 65, 66, 67, 68, 69, 70, 71, 72, 73, 74, 75, 76, 77, 78, 79, 80, 81, 82, 83, 84, 85, 86, 87, 88, 89, 90, 91, 92, 93] (by decide +kernel) (by decide +kernel)
set_option maxRecDepth 20000 in
theorem gX11_readWith_X11_next : GoodIn wsX11_readWith (wsV RX11 185 RX11 yX11_next wsX11_next) := goodIn_app (goodIn_of _ (by decide +kernel)) ggX11_readWith_X11_next
set_option maxRecDepth 20000 in
theorem ggX11_readWith_X11_readNumber : GoodIn wsX11_readWith wsX11_readNumber := goodIn_r _ [34, 8, 11, 16, 26, 27, 28, 6, 29, 10, 30, 23, 24, 25, 3, 4, 5, 7, 9, 12, 13, 14, 15, 17, 18, 19, 20, 21, 22, 35, 36, 37, 38, 39, 40, 41, 42, 43, 44, 45, 46, 47, 48, 49, 50, 51, 52, 53, 54, 55, 56, 57, 58, 59, 60, 61, 62, 63, 64, 65, 66, 67, 68, 69, 70, 71, 72, 73, 74, 75, 76, 77, 78, 79, 80, 81, 82, 83, 84, 85, 86, 87, 88, 89, 90, 91, 92, 93] (by decide +kernel) (by decide +kernel)
set_option maxRecDepth 20000 in
theorem gX11_readWith_X11_readNumber : GoodIn wsX11_readWith (wsV RX11 218 RX11 yX11_readNumber wsX11_readNumber) := goodIn_app (goodIn_of _ (by decide +kernel)) ggX11_readWith_X11_readNumber
theorem dX11_readWith_0 : decode cX11_readWith 0 = .ok (.bipush 7, 2) := by decide +kernel
theorem dX11_readWith_2 : decode cX11_readWith 2 = .ok (.aload_n 0, 1) := by decide +kernel
theorem dX11_readWith_3 : decode cX11_readWith 3 = .ok (.getfield 98, 3) := by decide +kernel
theorem dX11_readWith_6 : decode cX11_readWith 6 = .ok (.imul, 1) := by decide +kernel
theorem dX11_readWith_7 : decode cX11_readWith 7 = .ok (.istore_n 2, 1) := by decide +kernel
theorem dX11_readWith_8 : decode cX11_readWith 8 = .ok (.aload_n 0, 1) := by decide +kernel
theorem dX11_readWith_9 : decode cX11_readWith 9 = .ok (.invokevirtual 185, 3) := by decide +kernel
theorem dX11_readWith_12 : decode cX11_readWith 12 = .ok (.iload_n 1, 1) := by decide +kernel
theorem dX11_readWith_13 : decode cX11_readWith 13 = .ok (.bipush 23, 2) := by decide +kernel
theorem dX11_readWith_15 : decode cX11_readWith 15 = .ok (.if_icmp .ne 21, 3) := by decide +kernel
theorem dX11_readWith_18 : decode cX11_readWith 18 = .ok (.aload_n 0, 1) := by decide +kernel
theorem dX11_readWith_19 : decode cX11_readWith 19 = .ok (.getfield 20, 3) := by decide +kernel
theorem dX11_readWith_22 : decode cX11_readWith 22 = .ok (.iload_n 2, 1) := by decide +kernel
theorem dX11_readWith_23 : decode cX11_readWith 23 = .ok (.iconst 2, 1) := by decide +kernel
theorem dX11_readWith_24 : decode cX11_readWith 24 = .ok (.iadd, 1) := by decide +kernel
theorem dX11_readWith_25 : decode cX11_readWith 25 = .ok (.aload_n 0, 1) := by decide +kernel
theorem dX11_readWith_26 : decode cX11_readWith 26 = .ok (.iconst 0, 1) := by decide +kernel
theorem dX11_readWith_27 : decode cX11_readWith 27 = .ok (.bipush 9, 2) := by decide +kernel
theorem dX11_readWith_29 : decode cX11_readWith 29 = .ok (.invokevirtual 218, 3) := by decide +kernel
theorem dX11_readWith_32 : decode cX11_readWith 32 = .ok (.iastore, 1) := by decide +kernel
theorem dX11_readWith_33 : decode cX11_readWith 33 = .ok (.goto 82, 3) := by decide +kernel
theorem dX11_readWith_36 : decode cX11_readWith 36 = .ok (.iload_n 1, 1) := by decide +kernel
theorem dX11_readWith_37 : decode cX11_readWith 37 = .ok (.bipush 24, 2) := by decide +kernel
theorem dX11_readWith_39 : decode cX11_readWith 39 = .ok (.if_icmp .ne 36, 3) := by decide +kernel
theorem dX11_readWith_42 : decode cX11_readWith 42 = .ok (.aload_n 0, 1) := by decide +kernel
theorem dX11_readWith_43 : decode cX11_readWith 43 = .ok (.getfield 20, 3) := by decide +kernel
theorem dX11_readWith_46 : decode cX11_readWith 46 = .ok (.iload_n 2, 1) := by decide +kernel
theorem dX11_readWith_47 : decode cX11_readWith 47 = .ok (.iconst 3, 1) := by decide +kernel
theorem dX11_readWith_48 : decode cX11_readWith 48 = .ok (.iadd, 1) := by decide +kernel
theorem dX11_readWith_49 : decode cX11_readWith 49 = .ok (.aload_n 0, 1) := by decide +kernel
theorem dX11_readWith_50 : decode cX11_readWith 50 = .ok (.iconst 0, 1) := by decide +kernel
theorem dX11_readWith_51 : decode cX11_readWith 51 = .ok (.bipush 99, 2) := by decide +kernel
theorem dX11_readWith_53 : decode cX11_readWith 53 = .ok (.invokevirtual 218, 3) := by decide +kernel
theorem dX11_readWith_56 : decode cX11_readWith 56 = .ok (.iastore, 1) := by decide +kernel
theorem dX11_readWith_57 : decode cX11_readWith 57 = .ok (.aload_n 0, 1) := by decide +kernel
theorem dX11_readWith_58 : decode cX11_readWith 58 = .ok (.getfield 20, 3) := by decide +kernel
theorem dX11_readWith_61 : decode cX11_readWith 61 = .ok (.iload_n 2, 1) := by decide +kernel
theorem dX11_readWith_62 : decode cX11_readWith 62 = .ok (.iconst 4, 1) := by decide +kernel
theorem dX11_readWith_63 : decode cX11_readWith 63 = .ok (.iadd, 1) := by decide +kernel
theorem dX11_readWith_64 : decode cX11_readWith 64 = .ok (.aload_n 0, 1) := by decide +kernel
theorem dX11_readWith_65 : decode cX11_readWith 65 = .ok (.iconst 0, 1) := by decide +kernel
theorem dX11_readWith_66 : decode cX11_readWith 66 = .ok (.bipush 99, 2) := by decide +kernel
theorem dX11_readWith_68 : decode cX11_readWith 68 = .ok (.invokevirtual 218, 3) := by decide +kernel
theorem dX11_readWith_71 : decode cX11_readWith 71 = .ok (.iastore, 1) := by decide +kernel
theorem dX11_readWith_72 : decode cX11_readWith 72 = .ok (.goto 43, 3) := by decide +kernel
theorem dX11_readWith_75 : decode cX11_readWith 75 = .ok (.iload_n 1, 1) := by decide +kernel
theorem dX11_readWith_76 : decode cX11_readWith 76 = .ok (.bipush 25, 2) := by decide +kernel
theorem dX11_readWith_78 : decode cX11_readWith 78 = .ok (.if_icmp .ne 21, 3) := by decide +kernel
theorem dX11_readWith_81 : decode cX11_readWith 81 = .ok (.aload_n 0, 1) := by decide +kernel
theorem dX11_readWith_82 : decode cX11_readWith 82 = .ok (.getfield 20, 3) := by decide +kernel
theorem dX11_readWith_85 : decode cX11_readWith 85 = .ok (.iload_n 2, 1) := by decide +kernel
theorem dX11_readWith_86 : decode cX11_readWith 86 = .ok (.iconst 5, 1) := by decide +kernel
theorem dX11_readWith_87 : decode cX11_readWith 87 = .ok (.iadd, 1) := by decide +kernel
theorem dX11_readWith_88 : decode cX11_readWith 88 = .ok (.aload_n 0, 1) := by decide +kernel
theorem dX11_readWith_89 : decode cX11_readWith 89 = .ok (.iconst 0, 1) := by decide +kernel
theorem dX11_readWith_90 : decode cX11_readWith 90 = .ok (.bipush 9, 2) := by decide +kernel
theorem dX11_readWith_92 : decode cX11_readWith 92 = .ok (.invokevirtual 218, 3) := by decide +kernel
theorem dX11_readWith_95 : decode cX11_readWith 95 = .ok (.iastore, 1) := by decide +kernel
theorem dX11_readWith_96 : decode cX11_readWith 96 = .ok (.goto 19, 3) := by decide +kernel
theorem dX11_readWith_99 : decode cX11_readWith 99 = .ok (.aload_n 0, 1) := by decide +kernel
theorem dX11_readWith_100 : decode cX11_readWith 100 = .ok (.getfield 20, 3) := by decide +kernel
theorem dX11_readWith_103 : decode cX11_readWith 103 = .ok (.iload_n 2, 1) := by decide +kernel
theorem dX11_readWith_104 : decode cX11_readWith 104 = .ok (.bipush 6, 2) := by decide +kernel
theorem dX11_readWith_106 : decode cX11_readWith 106 = .ok (.iadd, 1) := by decide +kernel
theorem dX11_readWith_107 : decode cX11_readWith 107 = .ok (.aload_n 0, 1) := by decide +kernel
theorem dX11_readWith_108 : decode cX11_readWith 108 = .ok (.iconst 1, 1) := by decide +kernel
theorem dX11_readWith_109 : decode cX11_readWith 109 = .ok (.bipush 99, 2) := by decide +kernel
theorem dX11_readWith_111 : decode cX11_readWith 111 = .ok (.invokevirtual 218, 3) := by decide +kernel
theorem dX11_readWith_114 : decode cX11_readWith 114 = .ok (.iastore, 1) := by decide +kernel
theorem dX11_readWith_115 : decode cX11_readWith 115 = .ok (.return_, 1) := by decide +kernel
set_option maxRecDepth 20000 in
theorem ggX11_readRail_X11_wants : GoodIn wsX11_readRail wsX11_wants := goodIn_r _ [11, 2, 12, 13, 93, 94, 95, 96, 97, 98, 99, 100, 101, 102, 103, 104, 105, 106, 107, 108, 109, 110, 111, 112, 113, 114, 115, 116, 117, 118, 119, 120, 121, 122, 123, 124, 125, 126, 127, 128, 129, 130, 131, 132, 133, 134, 135, 136, 137, 138, 139, 140, 141, 142, 143, 144, 145, 146, 147, 148, 149, 150, 151] (by decide +kernel) (by decide +kernel)
set_option maxRecDepth 20000 in
theorem gX11_readRail_X11_wants : GoodIn wsX11_readRail (wsV RX11 181 RX11 yX11_wants wsX11_wants) := goodIn_app (goodIn_of _ (by decide +kernel)) ggX11_readRail_X11_wants
set_option maxRecDepth 20000 in
theorem ggX11_readRail_X11_next : GoodIn wsX11_readRail wsX11_next := goodIn_r _ [17, 2, 18, 12, 3, 19, 20, 21, 22, 23, 24, 25, 26, 10, 27, 28, 29, 30, 31, 32, 7, 8, 9, 11, 13, 93, 94, 95, 96, 97, 98, 99, 100, 101, 102, 103, 104, 105, 106, 107, 108, 109, 110, 111, 112, 113, 114, 115, 116, 117, 118, 119, 120, 121, 122, 123, 124, 125, 126, 127, 128, 129, 130, 131, 132, 133, 134, 135, 136, 137, 138, 139, 140, 141, 142, 143, 144, 145, 146, 147, 148, 149, 150, 151] (by decide +kernel) (by decide +kernel)
set_option maxRecDepth 20000 in
theorem gX11_readRail_X11_next : GoodIn wsX11_readRail (wsV RX11 185 RX11 yX11_next wsX11_next) := goodIn_app (goodIn_of _ (by decide +kernel)) ggX11_readRail_X11_next
set_option maxRecDepth 20000 in
theorem ggX11_readRail_X11_nameNow : GoodIn wsX11_readRail wsX11_nameNow := goodIn_r _ [36, 12, 18, 37, 24, 25, 26, 10, 27, 28, 29, 30, 31, 32, 38, 39, 40, 41, 93, 94, 95, 96, 97, 98, 99, 100, 101, 102, 103, 104, 105, 106, 107, 108, 109, 110, 111, 112, 113, 114, 115, 116, 117, 118, 119, 120, 121, 122, 123, 124, 125, 126, 127, 128, 129, 130, 131, 132, 133, 134, 135, 136, 137, 138, 139, 140, 141, 142, 143, 144, 145, 146, 147, 148, 149, 150, 151] (by decide +kernel) (by decide +kernel)
set_option maxRecDepth 20000 in
theorem gX11_readRail_X11_nameNow : GoodIn wsX11_readRail (wsV RX11 188 RX11 yX11_nameNow wsX11_nameNow) := goodIn_app (goodIn_of _ (by decide +kernel)) ggX11_readRail_X11_nameNow
set_option maxRecDepth 20000 in
theorem ggX11_readRail_X11_readNumber : GoodIn wsX11_readRail wsX11_readNumber := goodIn_r _ [45, 2, 3, 23, 7, 8, 9, 10, 11, 12, 13, 30, 31, 32, 14, 15, 16, 17, 18, 19, 20, 21, 22, 24, 25, 26, 27, 28, 29, 93, 94, 95, 96, 97, 98, 99, 100, 101, 102, 103, 104, 105, 106, 107, 108, 109, 110, 111, 112, 113, 114, 115, 116, 117, 118, 119, 120, 121, 122, 123, 124, 125, 126, 127, 128, 129, 130, 131, 132, 133, 134, 135, 136, 137, 138, 139, 140, 141, 142, 143, 144, 145, 146, 147, 148, 149, 150, 151] (by decide +kernel) (by decide +kernel)
set_option maxRecDepth 20000 in
theorem gX11_readRail_X11_readNumber : GoodIn wsX11_readRail (wsV RX11 218 RX11 yX11_readNumber wsX11_readNumber) := goodIn_app (goodIn_of _ (by decide +kernel)) ggX11_readRail_X11_readNumber
set_option maxRecDepth 20000 in
theorem ggX11_readRail_X11_in : GoodIn wsX11_readRail wsX11_in := goodIn_r _ [32] (by decide +kernel) (by decide +kernel)
set_option maxRecDepth 20000 in
theorem gX11_readRail_X11_in : GoodIn wsX11_readRail (va_wsS RX11 141 yX11_in wsX11_in) := goodIn_app (goodIn_of _ (by decide +kernel)) ggX11_readRail_X11_in
set_option maxRecDepth 20000 in
theorem ggX11_readRail_X11_readWith : GoodIn wsX11_readRail wsX11_readWith := goodIn_r _ [49, 1, 4, 14, 15, 16, 10, 17, 2, 18, 12, 3, 19, 20, 21, 22, 23, 24, 25, 26, 27, 28, 29, 30, 31, 32, 7, 8, 9, 11, 13, 42, 43, 44, 45, 93, 94, 95, 96, 97, 98, 99, 100, 101, 102, 103, 104, 105, 106, 107, 108, 109, 110, 111, 112, 113, 114, 115, 116, 117, 118, 119, 120, 121, 122, 123, 124, 125, 126, 127, 128, 129, 130, 131, 132, 133, 134, 135, 136, 137, 138, 139, 140, 141, 142, 143, 144, 145, 146, 147, 148, 149, 150, 151] (by decide +kernel) (by decide +kernel)
set_option maxRecDepth 20000 in
theorem gX11_readRail_X11_readWith : GoodIn wsX11_readRail (wsV RX11 226 RX11 yX11_readWith wsX11_readWith) := goodIn_app (goodIn_of _ (by decide +kernel)) ggX11_readRail_X11_readWith
set_option maxRecDepth 20000 in
theorem ggX11_readRail_X11_readWhen : GoodIn wsX11_readRail wsX11_readWhen := goodIn_r _ [53, 2, 3, 54, 55, 1, 14, 15, 16, 10, 17, 18, 12, 19, 20, 21, 22, 23, 24, 25, 26, 27, 28, 29, 30, 31, 32, 7, 8, 9, 11, 13, 56, 57, 58, 59, 60, 61, 62, 63, 64, 65, 66, 67, 68, 69, 70, 71, 72, 73, 74, 37, 75, 76, 77, 33, 34, 35, 36, 38, 39, 40, 41, 78, 79, 80, 81, 82, 83, 84, 85, 86, 87, 88, 89, 90, 91, 92, 93, 94, 95, 96, 97, 98, 99, 100, 101, 102, 103, 104, 105, 106, 107, 108, 109, 110, 111, 112, 113, 114, 115, 116, 117, 118, 119, 120, 121, 122, 123, 124, 125, 126, 127, 128, 129, 130, 131, 132, 133, 134, 135, 136, 137, 138, 139, 140, 141, 142, 143, 144, 145, 146, 147, 148, 149, 150, 151] (by decide +kernel) (by decide +kernel)
set_option maxRecDepth 20000 in
theorem gX11_readRail_X11_readWhen : GoodIn wsX11_readRail (wsV RX11 229 RX11 yX11_readWhen wsX11_readWhen) := goodIn_app (goodIn_of _ (by decide +kernel)) ggX11_readRail_X11_readWhen
theorem dX11_readRail_0 : decode cX11_readRail 0 = .ok (.aload_n 0, 1) := by decide +kernel
theorem dX11_readRail_1 : decode cX11_readRail 1 = .ok (.aload_n 0, 1) := by decide +kernel
theorem dX11_readRail_2 : decode cX11_readRail 2 = .ok (.getfield 98, 3) := by decide +kernel
theorem dX11_readRail_5 : decode cX11_readRail 5 = .ok (.bipush 8, 2) := by decide +kernel
theorem dX11_readRail_7 : decode cX11_readRail 7 = .ok (.if_icmp .ge 7, 3) := by decide +kernel
theorem dX11_readRail_10 : decode cX11_readRail 10 = .ok (.iconst 1, 1) := by decide +kernel
theorem dX11_readRail_11 : decode cX11_readRail 11 = .ok (.goto 4, 3) := by decide +kernel
theorem dX11_readRail_14 : decode cX11_readRail 14 = .ok (.iconst 0, 1) := by decide +kernel
theorem dX11_readRail_15 : decode cX11_readRail 15 = .ok (.iconst 5, 1) := by decide +kernel
theorem dX11_readRail_16 : decode cX11_readRail 16 = .ok (.invokevirtual 181, 3) := by decide +kernel
theorem dX11_readRail_19 : decode cX11_readRail 19 = .ok (.aload_n 0, 1) := by decide +kernel
theorem dX11_readRail_20 : decode cX11_readRail 20 = .ok (.invokevirtual 185, 3) := by decide +kernel
theorem dX11_readRail_23 : decode cX11_readRail 23 = .ok (.aload_n 0, 1) := by decide +kernel
theorem dX11_readRail_24 : decode cX11_readRail 24 = .ok (.getfield 145, 3) := by decide +kernel
theorem dX11_readRail_27 : decode cX11_readRail 27 = .ok (.ifCond .ne 21, 3) := by decide +kernel
theorem dX11_readRail_30 : decode cX11_readRail 30 = .ok (.aload_n 0, 1) := by decide +kernel
theorem dX11_readRail_31 : decode cX11_readRail 31 = .ok (.aload_n 0, 1) := by decide +kernel
theorem dX11_readRail_32 : decode cX11_readRail 32 = .ok (.getfield 167, 3) := by decide +kernel
theorem dX11_readRail_35 : decode cX11_readRail 35 = .ok (.iconst 1, 1) := by decide +kernel
theorem dX11_readRail_36 : decode cX11_readRail 36 = .ok (.if_icmp .ne 7, 3) := by decide +kernel
theorem dX11_readRail_39 : decode cX11_readRail 39 = .ok (.iconst 1, 1) := by decide +kernel
theorem dX11_readRail_40 : decode cX11_readRail 40 = .ok (.goto 4, 3) := by decide +kernel
theorem dX11_readRail_43 : decode cX11_readRail 43 = .ok (.iconst 0, 1) := by decide +kernel
theorem dX11_readRail_44 : decode cX11_readRail 44 = .ok (.iconst 2, 1) := by decide +kernel
theorem dX11_readRail_45 : decode cX11_readRail 45 = .ok (.invokevirtual 181, 3) := by decide +kernel
theorem dX11_readRail_48 : decode cX11_readRail 48 = .ok (.aload_n 0, 1) := by decide +kernel
theorem dX11_readRail_49 : decode cX11_readRail 49 = .ok (.getfield 145, 3) := by decide +kernel
theorem dX11_readRail_52 : decode cX11_readRail 52 = .ok (.ifCond .ne 24, 3) := by decide +kernel
theorem dX11_readRail_55 : decode cX11_readRail 55 = .ok (.aload_n 0, 1) := by decide +kernel
theorem dX11_readRail_56 : decode cX11_readRail 56 = .ok (.aload_n 0, 1) := by decide +kernel
theorem dX11_readRail_57 : decode cX11_readRail 57 = .ok (.invokevirtual 188, 3) := by decide +kernel
theorem dX11_readRail_60 : decode cX11_readRail 60 = .ok (.aload_n 0, 1) := by decide +kernel
theorem dX11_readRail_61 : decode cX11_readRail 61 = .ok (.getfield 98, 3) := by decide +kernel
theorem dX11_readRail_64 : decode cX11_readRail 64 = .ok (.if_icmp .ne 7, 3) := by decide +kernel
theorem dX11_readRail_67 : decode cX11_readRail 67 = .ok (.iconst 1, 1) := by decide +kernel
theorem dX11_readRail_68 : decode cX11_readRail 68 = .ok (.goto 4, 3) := by decide +kernel
theorem dX11_readRail_71 : decode cX11_readRail 71 = .ok (.iconst 0, 1) := by decide +kernel
theorem dX11_readRail_72 : decode cX11_readRail 72 = .ok (.iconst 3, 1) := by decide +kernel
theorem dX11_readRail_73 : decode cX11_readRail 73 = .ok (.invokevirtual 181, 3) := by decide +kernel
theorem dX11_readRail_76 : decode cX11_readRail 76 = .ok (.aload_n 0, 1) := by decide +kernel
theorem dX11_readRail_77 : decode cX11_readRail 77 = .ok (.invokevirtual 185, 3) := by decide +kernel
theorem dX11_readRail_80 : decode cX11_readRail 80 = .ok (.aload_n 0, 1) := by decide +kernel
theorem dX11_readRail_81 : decode cX11_readRail 81 = .ok (.iconst 1, 1) := by decide +kernel
theorem dX11_readRail_82 : decode cX11_readRail 82 = .ok (.bipush 9, 2) := by decide +kernel
theorem dX11_readRail_84 : decode cX11_readRail 84 = .ok (.invokevirtual 218, 3) := by decide +kernel
theorem dX11_readRail_87 : decode cX11_readRail 87 = .ok (.istore_n 1, 1) := by decide +kernel
theorem dX11_readRail_88 : decode cX11_readRail 88 = .ok (.aload_n 0, 1) := by decide +kernel
theorem dX11_readRail_89 : decode cX11_readRail 89 = .ok (.iload_n 1, 1) := by decide +kernel
theorem dX11_readRail_90 : decode cX11_readRail 90 = .ok (.bipush 9, 2) := by decide +kernel
theorem dX11_readRail_92 : decode cX11_readRail 92 = .ok (.invokevirtual 218, 3) := by decide +kernel
theorem dX11_readRail_95 : decode cX11_readRail 95 = .ok (.istore_n 2, 1) := by decide +kernel
theorem dX11_readRail_96 : decode cX11_readRail 96 = .ok (.aload_n 0, 1) := by decide +kernel
theorem dX11_readRail_97 : decode cX11_readRail 97 = .ok (.getfield 145, 3) := by decide +kernel
theorem dX11_readRail_100 : decode cX11_readRail 100 = .ok (.ifCond .le 4, 3) := by decide +kernel
theorem dX11_readRail_103 : decode cX11_readRail 103 = .ok (.return_, 1) := by decide +kernel
theorem dX11_readRail_104 : decode cX11_readRail 104 = .ok (.iconst 0, 1) := by decide +kernel
theorem dX11_readRail_105 : decode cX11_readRail 105 = .ok (.istore_n 3, 1) := by decide +kernel
theorem dX11_readRail_106 : decode cX11_readRail 106 = .ok (.iload_n 3, 1) := by decide +kernel
theorem dX11_readRail_107 : decode cX11_readRail 107 = .ok (.bipush 7, 2) := by decide +kernel
theorem dX11_readRail_109 : decode cX11_readRail 109 = .ok (.if_icmp .ge 64, 3) := by decide +kernel
theorem dX11_readRail_112 : decode cX11_readRail 112 = .ok (.aload_n 0, 1) := by decide +kernel
theorem dX11_readRail_113 : decode cX11_readRail 113 = .ok (.getfield 20, 3) := by decide +kernel
theorem dX11_readRail_116 : decode cX11_readRail 116 = .ok (.bipush 7, 2) := by decide +kernel
theorem dX11_readRail_118 : decode cX11_readRail 118 = .ok (.aload_n 0, 1) := by decide +kernel
theorem dX11_readRail_119 : decode cX11_readRail 119 = .ok (.getfield 98, 3) := by decide +kernel
theorem dX11_readRail_122 : decode cX11_readRail 122 = .ok (.imul, 1) := by decide +kernel
theorem dX11_readRail_123 : decode cX11_readRail 123 = .ok (.iload_n 3, 1) := by decide +kernel
theorem dX11_readRail_124 : decode cX11_readRail 124 = .ok (.iadd, 1) := by decide +kernel
theorem dX11_readRail_125 : decode cX11_readRail 125 = .ok (.iload_n 3, 1) := by decide +kernel
theorem dX11_readRail_126 : decode cX11_readRail 126 = .ok (.ifCond .ne 7, 3) := by decide +kernel
theorem dX11_readRail_129 : decode cX11_readRail 129 = .ok (.iload_n 1, 1) := by decide +kernel
theorem dX11_readRail_130 : decode cX11_readRail 130 = .ok (.goto 36, 3) := by decide +kernel
