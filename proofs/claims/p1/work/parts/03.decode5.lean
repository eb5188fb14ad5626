theorem dX11_peak_132 : decode cX11_peak 132 = .ok (.iload 4, 2) := by decide +kernel
theorem dX11_peak_134 : decode cX11_peak 134 = .ok (.goto 4, 3) := by decide +kernel
theorem dX11_peak_137 : decode cX11_peak 137 = .ok (.iload_n 2, 1) := by decide +kernel
theorem dX11_peak_138 : decode cX11_peak 138 = .ok (.istore_n 2, 1) := by decide +kernel
theorem dX11_peak_139 : decode cX11_peak 139 = .ok (.aload_n 0, 1) := by decide +kernel
theorem dX11_peak_140 : decode cX11_peak 140 = .ok (.invokevirtual 347, 3) := by decide +kernel
theorem dX11_peak_143 : decode cX11_peak 143 = .ok (.istore_n 3, 1) := by decide +kernel
theorem dX11_peak_144 : decode cX11_peak 144 = .ok (.goto (-52), 3) := by decide +kernel
theorem dX11_peak_147 : decode cX11_peak 147 = .ok (.iload_n 2, 1) := by decide +kernel
theorem dX11_peak_148 : decode cX11_peak 148 = .ok (.ireturn, 1) := by decide +kernel
theorem dX11_lastGood_0 : decode cX11_lastGood 0 = .ok (.bipush (-4), 2) := by decide +kernel
theorem dX11_lastGood_2 : decode cX11_lastGood 2 = .ok (.istore_n 1, 1) := by decide +kernel
theorem dX11_lastGood_3 : decode cX11_lastGood 3 = .ok (.iconst 0, 1) := by decide +kernel
theorem dX11_lastGood_4 : decode cX11_lastGood 4 = .ok (.istore_n 2, 1) := by decide +kernel
theorem dX11_lastGood_5 : decode cX11_lastGood 5 = .ok (.iload_n 2, 1) := by decide +kernel
theorem dX11_lastGood_6 : decode cX11_lastGood 6 = .ok (.aload_n 0, 1) := by decide +kernel
theorem dX11_lastGood_7 : decode cX11_lastGood 7 = .ok (.getfield 121, 3) := by decide +kernel
theorem dX11_lastGood_10 : decode cX11_lastGood 10 = .ok (.if_icmp .ge 42, 3) := by decide +kernel
theorem dX11_lastGood_13 : decode cX11_lastGood 13 = .ok (.aload_n 0, 1) := by decide +kernel
theorem dX11_lastGood_14 : decode cX11_lastGood 14 = .ok (.getfield 71, 3) := by decide +kernel
theorem dX11_lastGood_17 : decode cX11_lastGood 17 = .ok (.iload_n 2, 1) := by decide +kernel
theorem dX11_lastGood_18 : decode cX11_lastGood 18 = .ok (.iaload, 1) := by decide +kernel
theorem dX11_lastGood_19 : decode cX11_lastGood 19 = .ok (.ldc_w 333, 3) := by decide +kernel
theorem dX11_lastGood_22 : decode cX11_lastGood 22 = .ok (.if_icmp .ge 22, 3) := by decide +kernel
theorem dX11_lastGood_25 : decode cX11_lastGood 25 = .ok (.aload_n 0, 1) := by decide +kernel
theorem dX11_lastGood_26 : decode cX11_lastGood 26 = .ok (.getfield 71, 3) := by decide +kernel
theorem dX11_lastGood_29 : decode cX11_lastGood 29 = .ok (.iload_n 2, 1) := by decide +kernel
theorem dX11_lastGood_30 : decode cX11_lastGood 30 = .ok (.iaload, 1) := by decide +kernel
theorem dX11_lastGood_31 : decode cX11_lastGood 31 = .ok (.iload_n 1, 1) := by decide +kernel
theorem dX11_lastGood_32 : decode cX11_lastGood 32 = .ok (.if_icmp .le 12, 3) := by decide +kernel
theorem dX11_lastGood_35 : decode cX11_lastGood 35 = .ok (.aload_n 0, 1) := by decide +kernel
theorem dX11_lastGood_36 : decode cX11_lastGood 36 = .ok (.getfield 71, 3) := by decide +kernel
theorem dX11_lastGood_39 : decode cX11_lastGood 39 = .ok (.iload_n 2, 1) := by decide +kernel
theorem dX11_lastGood_40 : decode cX11_lastGood 40 = .ok (.iaload, 1) := by decide +kernel
theorem dX11_lastGood_41 : decode cX11_lastGood 41 = .ok (.goto 4, 3) := by decide +kernel
theorem dX11_lastGood_44 : decode cX11_lastGood 44 = .ok (.iload_n 1, 1) := by decide +kernel
theorem dX11_lastGood_45 : decode cX11_lastGood 45 = .ok (.istore_n 1, 1) := by decide +kernel
theorem dX11_lastGood_46 : decode cX11_lastGood 46 = .ok (.iinc 2 1, 3) := by decide +kernel
theorem dX11_lastGood_49 : decode cX11_lastGood 49 = .ok (.goto (-44), 3) := by decide +kernel
theorem dX11_lastGood_52 : decode cX11_lastGood 52 = .ok (.iload_n 1, 1) := by decide +kernel
theorem dX11_lastGood_53 : decode cX11_lastGood 53 = .ok (.ireturn, 1) := by decide +kernel
set_option maxRecDepth 20000 in
theorem ggX11_findStagger_X11_setTimes : GoodIn wsX11_findStagger wsX11_setTimes := goodIn_r _ [10, 2, 11, 12, 13, 14, 15, 9, 16, 17, 57, 58, 59, 60, 61, 62, 63, 64, 65, 66, 67, 68, 69, 70, 71, 72, 73, 74, 75, 76, 77, 78, 79, 80, 81, 82, 83, 84, 85, 86, 87, 88, 89, 90, 91, 92, 93, 94, 95, 96, 97, 98, 99, 100, 101, 102, 103, 104, 105, 106, 107, 108, 109, 110, 111, 112, 113, 114, 115] (by decide +kernel) (by decide +kernel)
set_option maxRecDepth 20000 in
theorem gX11_findStagger_X11_setTimes : GoodIn wsX11_findStagger (wsV RX11 337 RX11 yX11_setTimes wsX11_setTimes) := goodIn_app (goodIn_of _ (by decide +kernel)) ggX11_findStagger_X11_setTimes
set_option maxRecDepth 20000 in
theorem ggX11_findStagger_X11_findTimes : GoodIn wsX11_findStagger wsX11_findTimes := goodIn_r _ [21, 22, 23, 24, 25, 2, 3, 11, 26, 27, 28, 9, 29, 30, 31, 32, 33, 34, 35, 36, 37, 38, 39, 57, 58, 59, 60, 61, 62, 63, 64, 65, 66, 67, 68, 69, 70, 71, 72, 73, 74, 75, 76, 77, 78, 79, 80, 81, 82, 83, 84, 85, 86, 87, 88, 89, 90, 91, 92, 93, 94, 95, 96, 97, 98, 99, 100, 101, 102, 103, 104, 105, 106, 107, 108, 109, 110, 111, 112, 113, 114, 115] (by decide +kernel) (by decide +kernel)
set_option maxRecDepth 20000 in
theorem gX11_findStagger_X11_findTimes : GoodIn wsX11_findStagger (wsV RX11 340 RX11 yX11_findTimes wsX11_findTimes) := goodIn_app (goodIn_of _ (by decide +kernel)) ggX11_findStagger_X11_findTimes
set_option maxRecDepth 20000 in
theorem ggX11_findStagger_X11_lastGood : GoodIn wsX11_findStagger wsX11_lastGood := goodIn_r _ [43, 2, 25, 24, 57, 58, 59, 60, 61, 62, 63, 64, 65, 66, 67, 68, 69, 70, 71, 72, 73, 74, 75, 76, 77, 78, 79, 80, 81, 82, 83, 84, 85, 86, 87, 88, 89, 90, 91, 92, 93, 94, 95, 96, 97, 98, 99, 100, 101, 102, 103, 104, 105, 106, 107, 108, 109, 110, 111, 112, 113, 114, 115] (by decide +kernel) (by decide +kernel)
set_option maxRecDepth 20000 in
theorem gX11_findStagger_X11_lastGood : GoodIn wsX11_findStagger (wsV RX11 364 RX11 yX11_lastGood wsX11_lastGood) := goodIn_app (goodIn_of _ (by decide +kernel)) ggX11_findStagger_X11_lastGood
set_option maxRecDepth 20000 in
theorem ggX11_findStagger_X11_peakNow : GoodIn wsX11_findStagger wsX11_peakNow := goodIn_r _ [47, 48, 49, 50, 51, 9, 52, 2, 25, 23, 24, 3, 53, 54, 55, 56, 13, 14, 15, 16, 17, 57, 58, 59, 60, 61, 62, 63, 64, 65, 66, 67, 68, 69, 70, 71, 72, 73, 74, 75, 76, 77, 78, 79, 80, 81, 82, 83, 84, 85, 86, 87, 88, 89, 90, 91, 92, 93, 94, 95, 96, 97, 98, 99, 100, 101, 102, 103, 104, 105, 106, 107, 108, 109, 110, 111, 112, 113, 114, 115] (by decide +kernel) (by decide +kernel)
set_option maxRecDepth 20000 in
theorem gX11_findStagger_X11_peakNow : GoodIn wsX11_findStagger (wsV RX11 358 RX11 yX11_peakNow wsX11_peakNow) := goodIn_app (goodIn_of _ (by decide +kernel)) ggX11_findStagger_X11_peakNow
theorem dX11_findStagger_0 : decode cX11_findStagger 0 = .ok (.aload_n 0, 1) := by decide +kernel
theorem dX11_findStagger_1 : decode cX11_findStagger 1 = .ok (.bipush (-4), 2) := by decide +kernel
theorem dX11_findStagger_3 : decode cX11_findStagger 3 = .ok (.putfield 361, 3) := by decide +kernel
theorem dX11_findStagger_6 : decode cX11_findStagger 6 = .ok (.aload_n 0, 1) := by decide +kernel
theorem dX11_findStagger_7 : decode cX11_findStagger 7 = .ok (.iconst 0, 1) := by decide +kernel
theorem dX11_findStagger_8 : decode cX11_findStagger 8 = .ok (.invokevirtual 337, 3) := by decide +kernel
theorem dX11_findStagger_11 : decode cX11_findStagger 11 = .ok (.iconst 0, 1) := by decide +kernel
theorem dX11_findStagger_12 : decode cX11_findStagger 12 = .ok (.istore_n 1, 1) := by decide +kernel
theorem dX11_findStagger_13 : decode cX11_findStagger 13 = .ok (.iload_n 1, 1) := by decide +kernel
theorem dX11_findStagger_14 : decode cX11_findStagger 14 = .ok (.iconst 1, 1) := by decide +kernel
theorem dX11_findStagger_15 : decode cX11_findStagger 15 = .ok (.iconst 2, 1) := by decide +kernel
theorem dX11_findStagger_16 : decode cX11_findStagger 16 = .ok (.aload_n 0, 1) := by decide +kernel
theorem dX11_findStagger_17 : decode cX11_findStagger 17 = .ok (.getfield 121, 3) := by decide +kernel
theorem dX11_findStagger_20 : decode cX11_findStagger 20 = .ok (.imul, 1) := by decide +kernel
theorem dX11_findStagger_21 : decode cX11_findStagger 21 = .ok (.ishl, 1) := by decide +kernel
theorem dX11_findStagger_22 : decode cX11_findStagger 22 = .ok (.if_icmp .ge 121, 3) := by decide +kernel
theorem dX11_findStagger_25 : decode cX11_findStagger 25 = .ok (.iconst 0, 1) := by decide +kernel
theorem dX11_findStagger_26 : decode cX11_findStagger 26 = .ok (.istore_n 2, 1) := by decide +kernel
theorem dX11_findStagger_27 : decode cX11_findStagger 27 = .ok (.iload_n 2, 1) := by decide +kernel
theorem dX11_findStagger_28 : decode cX11_findStagger 28 = .ok (.aload_n 0, 1) := by decide +kernel
theorem dX11_findStagger_29 : decode cX11_findStagger 29 = .ok (.getfield 121, 3) := by decide +kernel
theorem dX11_findStagger_32 : decode cX11_findStagger 32 = .ok (.if_icmp .ge 29, 3) := by decide +kernel
theorem dX11_findStagger_35 : decode cX11_findStagger 35 = .ok (.aload_n 0, 1) := by decide +kernel
theorem dX11_findStagger_36 : decode cX11_findStagger 36 = .ok (.getfield 77, 3) := by decide +kernel
theorem dX11_findStagger_39 : decode cX11_findStagger 39 = .ok (.iload_n 2, 1) := by decide +kernel
theorem dX11_findStagger_40 : decode cX11_findStagger 40 = .ok (.iload_n 1, 1) := by decide +kernel
theorem dX11_findStagger_41 : decode cX11_findStagger 41 = .ok (.iconst 2, 1) := by decide +kernel
theorem dX11_findStagger_42 : decode cX11_findStagger 42 = .ok (.aload_n 0, 1) := by decide +kernel
theorem dX11_findStagger_43 : decode cX11_findStagger 43 = .ok (.getfield 121, 3) := by decide +kernel
theorem dX11_findStagger_46 : decode cX11_findStagger 46 = .ok (.iconst 1, 1) := by decide +kernel
theorem dX11_findStagger_47 : decode cX11_findStagger 47 = .ok (.isub, 1) := by decide +kernel
theorem dX11_findStagger_48 : decode cX11_findStagger 48 = .ok (.iload_n 2, 1) := by decide +kernel
theorem dX11_findStagger_49 : decode cX11_findStagger 49 = .ok (.isub, 1) := by decide +kernel
theorem dX11_findStagger_50 : decode cX11_findStagger 50 = .ok (.imul, 1) := by decide +kernel
theorem dX11_findStagger_51 : decode cX11_findStagger 51 = .ok (.ishr, 1) := by decide +kernel
theorem dX11_findStagger_52 : decode cX11_findStagger 52 = .ok (.iconst 3, 1) := by decide +kernel
theorem dX11_findStagger_53 : decode cX11_findStagger 53 = .ok (.iand, 1) := by decide +kernel
theorem dX11_findStagger_54 : decode cX11_findStagger 54 = .ok (.iastore, 1) := by decide +kernel
theorem dX11_findStagger_55 : decode cX11_findStagger 55 = .ok (.iinc 2 1, 3) := by decide +kernel
theorem dX11_findStagger_58 : decode cX11_findStagger 58 = .ok (.goto (-31), 3) := by decide +kernel
theorem dX11_findStagger_61 : decode cX11_findStagger 61 = .ok (.aload_n 0, 1) := by decide +kernel
theorem dX11_findStagger_62 : decode cX11_findStagger 62 = .ok (.invokevirtual 340, 3) := by decide +kernel
theorem dX11_findStagger_65 : decode cX11_findStagger 65 = .ok (.aload_n 0, 1) := by decide +kernel
theorem dX11_findStagger_66 : decode cX11_findStagger 66 = .ok (.invokevirtual 364, 3) := by decide +kernel
theorem dX11_findStagger_69 : decode cX11_findStagger 69 = .ok (.istore_n 2, 1) := by decide +kernel
theorem dX11_findStagger_70 : decode cX11_findStagger 70 = .ok (.iload_n 2, 1) := by decide +kernel
theorem dX11_findStagger_71 : decode cX11_findStagger 71 = .ok (.bipush (-4), 2) := by decide +kernel
theorem dX11_findStagger_73 : decode cX11_findStagger 73 = .ok (.if_icmp .eq 64, 3) := by decide +kernel
theorem dX11_findStagger_76 : decode cX11_findStagger 76 = .ok (.aload_n 0, 1) := by decide +kernel
theorem dX11_findStagger_77 : decode cX11_findStagger 77 = .ok (.getfield 361, 3) := by decide +kernel
theorem dX11_findStagger_80 : decode cX11_findStagger 80 = .ok (.bipush (-4), 2) := by decide +kernel
theorem dX11_findStagger_82 : decode cX11_findStagger 82 = .ok (.if_icmp .eq 11, 3) := by decide +kernel
theorem dX11_findStagger_85 : decode cX11_findStagger 85 = .ok (.iload_n 2, 1) := by decide +kernel
theorem dX11_findStagger_86 : decode cX11_findStagger 86 = .ok (.aload_n 0, 1) := by decide +kernel
theorem dX11_findStagger_87 : decode cX11_findStagger 87 = .ok (.getfield 361, 3) := by decide +kernel
theorem dX11_findStagger_90 : decode cX11_findStagger 90 = .ok (.if_icmp .ge 47, 3) := by decide +kernel
theorem dX11_findStagger_93 : decode cX11_findStagger 93 = .ok (.aload_n 0, 1) := by decide +kernel
theorem dX11_findStagger_94 : decode cX11_findStagger 94 = .ok (.invokevirtual 358, 3) := by decide +kernel
theorem dX11_findStagger_97 : decode cX11_findStagger 97 = .ok (.aload_n 0, 1) := by decide +kernel
theorem dX11_findStagger_98 : decode cX11_findStagger 98 = .ok (.getfield 124, 3) := by decide +kernel
theorem dX11_findStagger_101 : decode cX11_findStagger 101 = .ok (.if_icmp .gt 36, 3) := by decide +kernel
theorem dX11_findStagger_104 : decode cX11_findStagger 104 = .ok (.aload_n 0, 1) := by decide +kernel
theorem dX11_findStagger_105 : decode cX11_findStagger 105 = .ok (.iload_n 2, 1) := by decide +kernel
theorem dX11_findStagger_106 : decode cX11_findStagger 106 = .ok (.putfield 361, 3) := by decide +kernel
theorem dX11_findStagger_109 : decode cX11_findStagger 109 = .ok (.iconst 0, 1) := by decide +kernel
theorem dX11_findStagger_110 : decode cX11_findStagger 110 = .ok (.istore_n 3, 1) := by decide +kernel
theorem dX11_findStagger_111 : decode cX11_findStagger 111 = .ok (.iload_n 3, 1) := by decide +kernel
theorem dX11_findStagger_112 : decode cX11_findStagger 112 = .ok (.aload_n 0, 1) := by decide +kernel
theorem dX11_findStagger_113 : decode cX11_findStagger 113 = .ok (.getfield 121, 3) := by decide +kernel
theorem dX11_findStagger_116 : decode cX11_findStagger 116 = .ok (.if_icmp .ge 21, 3) := by decide +kernel
theorem dX11_findStagger_119 : decode cX11_findStagger 119 = .ok (.aload_n 0, 1) := by decide +kernel
theorem dX11_findStagger_120 : decode cX11_findStagger 120 = .ok (.getfield 80, 3) := by decide +kernel
theorem dX11_findStagger_123 : decode cX11_findStagger 123 = .ok (.iload_n 3, 1) := by decide +kernel
theorem dX11_findStagger_124 : decode cX11_findStagger 124 = .ok (.aload_n 0, 1) := by decide +kernel
theorem dX11_findStagger_125 : decode cX11_findStagger 125 = .ok (.getfield 77, 3) := by decide +kernel
theorem dX11_findStagger_128 : decode cX11_findStagger 128 = .ok (.iload_n 3, 1) := by decide +kernel
theorem dX11_findStagger_129 : decode cX11_findStagger 129 = .ok (.iaload, 1) := by decide +kernel
theorem dX11_findStagger_130 : decode cX11_findStagger 130 = .ok (.iastore, 1) := by decide +kernel
theorem dX11_findStagger_131 : decode cX11_findStagger 131 = .ok (.iinc 3 1, 3) := by decide +kernel
theorem dX11_findStagger_134 : decode cX11_findStagger 134 = .ok (.goto (-23), 3) := by decide +kernel
theorem dX11_findStagger_137 : decode cX11_findStagger 137 = .ok (.iinc 1 1, 3) := by decide +kernel
theorem dX11_findStagger_140 : decode cX11_findStagger 140 = .ok (.goto (-127), 3) := by decide +kernel
theorem dX11_findStagger_143 : decode cX11_findStagger 143 = .ok (.return_, 1) := by decide +kernel
set_option maxRecDepth 20000 in
theorem ggX11_stagger_X11_in : GoodIn wsX11_stagger wsX11_in := goodIn_r _ [8] (by decide +kernel) (by decide +kernel)
set_option maxRecDepth 20000 in
theorem gX11_stagger_X11_in : GoodIn wsX11_stagger (va_wsS RX11 141 yX11_in wsX11_in) := goodIn_app (goodIn_of _ (by decide +kernel)) ggX11_stagger_X11_in
set_option maxRecDepth 20000 in
theorem ggX11_stagger_X11_findStagger : GoodIn wsX11_stagger wsX11_findStagger := goodIn_r _ [12, 3, 2, 13, 14, 4, 15, 16, 17, 7, 18, 19, 20, 21, 22, 23, 24, 25, 26, 27, 28, 29, 30, 31, 32, 33, 34, 35, 36, 37, 38, 39, 40, 41, 42, 43, 44, 45, 46, 47, 48, 49, 50, 51, 52, 53, 54, 55, 56, 57, 58, 59, 60, 61, 62, 63, 64, 65, 66, 67, 68, 69, 70, 71, 72, 73, 74, 75, 76, 77, 78, 79, 80, 81, 82, 83, 84, 85, 86, 87, 88, 89, 90, 91, 92, 93, 94, 95, 96, 97, 98, 99, 100, 101, 102, 103, 104, 105, 106, 107, 108, 109, 110, 111, 112, 113, 114, 115, 116, 117, 118, 119, 120, 121, 122, 123] (by decide +kernel) (by decide +kernel)
set_option maxRecDepth 20000 in
theorem gX11_stagger_X11_findStagger : GoodIn wsX11_stagger (wsV RX11 369 RX11 yX11_findStagger wsX11_findStagger) := goodIn_app (goodIn_of _ (by decide +kernel)) ggX11_stagger_X11_findStagger
theorem dX11_stagger_0 : decode cX11_stagger 0 = .ok (.iload_n 1, 1) := by decide +kernel
theorem dX11_stagger_1 : decode cX11_stagger 1 = .ok (.ifCond .eq 24, 3) := by decide +kernel
theorem dX11_stagger_4 : decode cX11_stagger 4 = .ok (.iload_n 1, 1) := by decide +kernel
theorem dX11_stagger_5 : decode cX11_stagger 5 = .ok (.i2l, 1) := by decide +kernel
theorem dX11_stagger_6 : decode cX11_stagger 6 = .ok (.ldc2_w 367, 3) := by decide +kernel
theorem dX11_stagger_9 : decode cX11_stagger 9 = .ok (.bipush 9, 2) := by decide +kernel
theorem dX11_stagger_11 : decode cX11_stagger 11 = .ok (.aload_n 0, 1) := by decide +kernel
theorem dX11_stagger_12 : decode cX11_stagger 12 = .ok (.getfield 121, 3) := by decide +kernel
theorem dX11_stagger_15 : decode cX11_stagger 15 = .ok (.iadd, 1) := by decide +kernel
theorem dX11_stagger_16 : decode cX11_stagger 16 = .ok (.i2l, 1) := by decide +kernel
theorem dX11_stagger_17 : decode cX11_stagger 17 = .ok (.invokestatic 141, 3) := by decide +kernel
theorem dX11_stagger_20 : decode cX11_stagger 20 = .ok (.ifCond .ne 5, 3) := by decide +kernel
theorem dX11_stagger_23 : decode cX11_stagger 23 = .ok (.iconst (-1), 1) := by decide +kernel
theorem dX11_stagger_24 : decode cX11_stagger 24 = .ok (.ireturn, 1) := by decide +kernel
theorem dX11_stagger_25 : decode cX11_stagger 25 = .ok (.aload_n 0, 1) := by decide +kernel
theorem dX11_stagger_26 : decode cX11_stagger 26 = .ok (.getfield 121, 3) := by decide +kernel
theorem dX11_stagger_29 : decode cX11_stagger 29 = .ok (.bipush 6, 2) := by decide +kernel
theorem dX11_stagger_31 : decode cX11_stagger 31 = .ok (.if_icmp .le 6, 3) := by decide +kernel
theorem dX11_stagger_34 : decode cX11_stagger 34 = .ok (.bipush (-2), 2) := by decide +kernel
theorem dX11_stagger_36 : decode cX11_stagger 36 = .ok (.ireturn, 1) := by decide +kernel
theorem dX11_stagger_37 : decode cX11_stagger 37 = .ok (.aload_n 0, 1) := by decide +kernel
theorem dX11_stagger_38 : decode cX11_stagger 38 = .ok (.invokevirtual 369, 3) := by decide +kernel
theorem dX11_stagger_41 : decode cX11_stagger 41 = .ok (.aload_n 0, 1) := by decide +kernel
theorem dX11_stagger_42 : decode cX11_stagger 42 = .ok (.getfield 361, 3) := by decide +kernel
theorem dX11_stagger_45 : decode cX11_stagger 45 = .ok (.bipush (-4), 2) := by decide +kernel
theorem dX11_stagger_47 : decode cX11_stagger 47 = .ok (.if_icmp .ne 8, 3) := by decide +kernel
theorem dX11_stagger_50 : decode cX11_stagger 50 = .ok (.bipush (-4), 2) := by decide +kernel
theorem dX11_stagger_52 : decode cX11_stagger 52 = .ok (.goto 23, 3) := by decide +kernel
theorem dX11_stagger_55 : decode cX11_stagger 55 = .ok (.iload_n 1, 1) := by decide +kernel
theorem dX11_stagger_56 : decode cX11_stagger 56 = .ok (.ifCond .ne 10, 3) := by decide +kernel
theorem dX11_stagger_59 : decode cX11_stagger 59 = .ok (.aload_n 0, 1) := by decide +kernel
theorem dX11_stagger_60 : decode cX11_stagger 60 = .ok (.getfield 361, 3) := by decide +kernel
theorem dX11_stagger_63 : decode cX11_stagger 63 = .ok (.goto 12, 3) := by decide +kernel
theorem dX11_stagger_66 : decode cX11_stagger 66 = .ok (.aload_n 0, 1) := by decide +kernel
theorem dX11_stagger_67 : decode cX11_stagger 67 = .ok (.getfield 80, 3) := by decide +kernel
theorem dX11_stagger_70 : decode cX11_stagger 70 = .ok (.iload_n 1, 1) := by decide +kernel
theorem dX11_stagger_71 : decode cX11_stagger 71 = .ok (.bipush 10, 2) := by decide +kernel
theorem dX11_stagger_73 : decode cX11_stagger 73 = .ok (.isub, 1) := by decide +kernel
theorem dX11_stagger_74 : decode cX11_stagger 74 = .ok (.iaload, 1) := by decide +kernel
theorem dX11_stagger_75 : decode cX11_stagger 75 = .ok (.ireturn, 1) := by decide +kernel
set_option maxRecDepth 20000 in
theorem ggX11_adopt_X11_findStagger : GoodIn wsX11_adopt wsX11_findStagger := goodIn_r _ [9, 2, 1, 10, 11, 4, 12, 13, 14, 8, 15, 16, 17, 18, 19, 20, 21, 3, 22, 23, 24, 25, 26, 27, 28, 29, 30, 31, 32, 33, 34, 35, 36, 37, 38, 39, 40, 41, 42, 43, 44, 45, 46, 47, 48, 49, 50, 51, 52, 53, 54, 55, 56, 57, 58, 59, 60, 61, 62, 63, 64, 65, 66, 67, 68, 69, 70, 71, 72, 73, 74, 75, 76, 77, 78, 79, 80, 81, 82, 83, 84, 85, 86, 87, 88, 89, 90, 91, 92, 93, 94, 95, 96, 97, 98, 99, 100, 101, 102, 103, 104, 105, 106, 107, 108, 109, 110, 111, 112, 113, 114, 115, 116, 117, 118, 119] (by decide +kernel) (by decide +kernel)
set_option maxRecDepth 20000 in
theorem gX11_adopt_X11_findStagger : GoodIn wsX11_adopt (wsV RX11 369 RX11 yX11_findStagger wsX11_findStagger) := goodIn_app (goodIn_of _ (by decide +kernel)) ggX11_adopt_X11_findStagger
theorem dX11_adopt_0 : decode cX11_adopt 0 = .ok (.aload_n 0, 1) := by decide +kernel
theorem dX11_adopt_1 : decode cX11_adopt 1 = .ok (.getfield 121, 3) := by decide +kernel
theorem dX11_adopt_4 : decode cX11_adopt 4 = .ok (.bipush 6, 2) := by decide +kernel
theorem dX11_adopt_6 : decode cX11_adopt 6 = .ok (.if_icmp .le 6, 3) := by decide +kernel
theorem dX11_adopt_9 : decode cX11_adopt 9 = .ok (.bipush (-2), 2) := by decide +kernel
theorem dX11_adopt_11 : decode cX11_adopt 11 = .ok (.ireturn, 1) := by decide +kernel
theorem dX11_adopt_12 : decode cX11_adopt 12 = .ok (.aload_n 0, 1) := by decide +kernel
theorem dX11_adopt_13 : decode cX11_adopt 13 = .ok (.invokevirtual 369, 3) := by decide +kernel
theorem dX11_adopt_16 : decode cX11_adopt 16 = .ok (.iconst 0, 1) := by decide +kernel
theorem dX11_adopt_17 : decode cX11_adopt 17 = .ok (.istore_n 1, 1) := by decide +kernel
theorem dX11_adopt_18 : decode cX11_adopt 18 = .ok (.iload_n 1, 1) := by decide +kernel
theorem dX11_adopt_19 : decode cX11_adopt 19 = .ok (.aload_n 0, 1) := by decide +kernel
theorem dX11_adopt_20 : decode cX11_adopt 20 = .ok (.getfield 121, 3) := by decide +kernel
theorem dX11_adopt_23 : decode cX11_adopt 23 = .ok (.if_icmp .ge 35, 3) := by decide +kernel
theorem dX11_adopt_26 : decode cX11_adopt 26 = .ok (.aload_n 0, 1) := by decide +kernel
theorem dX11_adopt_27 : decode cX11_adopt 27 = .ok (.getfield 361, 3) := by decide +kernel
theorem dX11_adopt_30 : decode cX11_adopt 30 = .ok (.bipush (-4), 2) := by decide +kernel
theorem dX11_adopt_32 : decode cX11_adopt 32 = .ok (.if_icmp .eq 26, 3) := by decide +kernel
theorem dX11_adopt_35 : decode cX11_adopt 35 = .ok (.aload_n 0, 1) := by decide +kernel
theorem dX11_adopt_36 : decode cX11_adopt 36 = .ok (.getfield 7, 3) := by decide +kernel
theorem dX11_adopt_39 : decode cX11_adopt 39 = .ok (.bipush 7, 2) := by decide +kernel
theorem dX11_adopt_41 : decode cX11_adopt 41 = .ok (.iload_n 1, 1) := by decide +kernel
theorem dX11_adopt_42 : decode cX11_adopt 42 = .ok (.imul, 1) := by decide +kernel
theorem dX11_adopt_43 : decode cX11_adopt 43 = .ok (.iconst 5, 1) := by decide +kernel
theorem dX11_adopt_44 : decode cX11_adopt 44 = .ok (.iadd, 1) := by decide +kernel
theorem dX11_adopt_45 : decode cX11_adopt 45 = .ok (.aload_n 0, 1) := by decide +kernel
theorem dX11_adopt_46 : decode cX11_adopt 46 = .ok (.getfield 80, 3) := by decide +kernel
theorem dX11_adopt_49 : decode cX11_adopt 49 = .ok (.iload_n 1, 1) := by decide +kernel
theorem dX11_adopt_50 : decode cX11_adopt 50 = .ok (.iaload, 1) := by decide +kernel
theorem dX11_adopt_51 : decode cX11_adopt 51 = .ok (.iastore, 1) := by decide +kernel
theorem dX11_adopt_52 : decode cX11_adopt 52 = .ok (.iinc 1 1, 3) := by decide +kernel
theorem dX11_adopt_55 : decode cX11_adopt 55 = .ok (.goto (-37), 3) := by decide +kernel
theorem dX11_adopt_58 : decode cX11_adopt 58 = .ok (.aload_n 0, 1) := by decide +kernel
theorem dX11_adopt_59 : decode cX11_adopt 59 = .ok (.getfield 361, 3) := by decide +kernel
theorem dX11_adopt_62 : decode cX11_adopt 62 = .ok (.ireturn, 1) := by decide +kernel
set_option maxRecDepth 20000 in
theorem ggX11_down_X11_areRails : GoodIn wsX11_down wsX11_areRails := goodIn_r _ [5, 6, 7, 8, 4, 9, 24, 25, 26, 27, 28, 29, 30, 31, 32, 33, 34, 35, 36, 37, 38, 39, 40, 41, 42, 43, 44, 45, 46, 47, 48, 49, 50, 51, 52, 53, 54, 55, 56, 57, 58, 59, 60, 61, 62, 63, 64, 65, 66, 67, 68, 69, 70, 71, 72, 73, 74, 75, 76, 77, 78, 79, 80, 81, 82] (by decide +kernel) (by decide +kernel)
set_option maxRecDepth 20000 in
theorem gX11_down_X11_areRails : GoodIn wsX11_down (wsV RX11 372 RX11 yX11_areRails wsX11_areRails) := goodIn_app (goodIn_of _ (by decide +kernel)) ggX11_down_X11_areRails
set_option maxRecDepth 20000 in
theorem ggX11_down_X11_deadOnes : GoodIn wsX11_down wsX11_deadOnes := goodIn_r _ [13, 6, 14, 24, 25, 26, 27, 28, 29, 30, 31, 32, 33, 34, 35, 36, 37, 38, 39, 40, 41, 42, 43, 44, 45, 46, 47, 48, 49, 50, 51, 52, 53, 54, 55, 56, 57, 58, 59, 60, 61, 62, 63, 64, 65, 66, 67, 68, 69, 70, 71, 72, 73, 74, 75, 76, 77, 78, 79, 80, 81, 82] (by decide +kernel) (by decide +kernel)
set_option maxRecDepth 20000 in
theorem gX11_down_X11_deadOnes : GoodIn wsX11_down (wsV RX11 324 RX11 yX11_deadOnes wsX11_deadOnes) := goodIn_app (goodIn_of _ (by decide +kernel)) ggX11_down_X11_deadOnes
set_option maxRecDepth 20000 in
theorem ggX11_down_X11_upBut : GoodIn wsX11_down wsX11_upBut := goodIn_r _ [18, 6, 19, 20, 21, 4, 22, 23, 24, 25, 26, 27, 28, 29, 30, 31, 32, 33, 34, 35, 36, 37, 38, 39, 40, 41, 42, 43, 44, 45, 46, 47, 48, 49, 50, 51, 52, 53, 54, 55, 56, 57, 58, 59, 60, 61, 62, 63, 64, 65, 66, 67, 68, 69, 70, 71, 72, 73, 74, 75, 76, 77, 78, 79, 80, 81, 82] (by decide +kernel) (by decide +kernel)
set_option maxRecDepth 20000 in
theorem gX11_down_X11_upBut : GoodIn wsX11_down (wsV RX11 327 RX11 yX11_upBut wsX11_upBut) := goodIn_app (goodIn_of _ (by decide +kernel)) ggX11_down_X11_upBut
theorem dX11_down_0 : decode cX11_down 0 = .ok (.aload_n 0, 1) := by decide +kernel
theorem dX11_down_1 : decode cX11_down 1 = .ok (.iload_n 1, 1) := by decide +kernel
theorem dX11_down_2 : decode cX11_down 2 = .ok (.invokevirtual 372, 3) := by decide +kernel
theorem dX11_down_5 : decode cX11_down 5 = .ok (.ifCond .eq 27, 3) := by decide +kernel
theorem dX11_down_8 : decode cX11_down 8 = .ok (.aload_n 0, 1) := by decide +kernel
theorem dX11_down_9 : decode cX11_down 9 = .ok (.aload_n 0, 1) := by decide +kernel
theorem dX11_down_10 : decode cX11_down 10 = .ok (.invokevirtual 324, 3) := by decide +kernel
theorem dX11_down_13 : decode cX11_down 13 = .ok (.invokevirtual 327, 3) := by decide +kernel
theorem dX11_down_16 : decode cX11_down 16 = .ok (.aload_n 0, 1) := by decide +kernel
theorem dX11_down_17 : decode cX11_down 17 = .ok (.aload_n 0, 1) := by decide +kernel
theorem dX11_down_18 : decode cX11_down 18 = .ok (.invokevirtual 324, 3) := by decide +kernel
theorem dX11_down_21 : decode cX11_down 21 = .ok (.iload_n 1, 1) := by decide +kernel
theorem dX11_down_22 : decode cX11_down 22 = .ok (.ior, 1) := by decide +kernel
theorem dX11_down_23 : decode cX11_down 23 = .ok (.invokevirtual 327, 3) := by decide +kernel
theorem dX11_down_26 : decode cX11_down 26 = .ok (.iconst (-1), 1) := by decide +kernel
theorem dX11_down_27 : decode cX11_down 27 = .ok (.ixor, 1) := by decide +kernel
theorem dX11_down_28 : decode cX11_down 28 = .ok (.iand, 1) := by decide +kernel
theorem dX11_down_29 : decode cX11_down 29 = .ok (.goto 4, 3) := by decide +kernel
theorem dX11_down_32 : decode cX11_down 32 = .ok (.iconst (-1), 1) := by decide +kernel
theorem dX11_down_33 : decode cX11_down 33 = .ok (.ireturn, 1) := by decide +kernel
set_option maxRecDepth 20000 in
theorem ggX11_isUp_X11_upBut : GoodIn wsX11_isUp wsX11_upBut := goodIn_r _ [5, 6, 7, 8, 9, 4, 10, 11, 12, 13, 14, 15, 16, 17, 18, 19, 20, 21, 22, 23, 24, 25, 26, 27, 28, 29, 30, 31, 32, 33, 34, 35, 36, 37, 38, 39, 40, 41, 42, 43, 44, 45, 46, 47, 48, 49, 50, 51, 52, 53, 54, 55, 56, 57, 58, 59, 60, 61, 62, 63, 64, 65, 66, 67, 68, 69, 70] (by decide +kernel) (by decide +kernel)
set_option maxRecDepth 20000 in
theorem gX11_isUp_X11_upBut : GoodIn wsX11_isUp (wsV RX11 327 RX11 yX11_upBut wsX11_upBut) := goodIn_app (goodIn_of _ (by decide +kernel)) ggX11_isUp_X11_upBut
theorem dX11_isUp_0 : decode cX11_isUp 0 = .ok (.aload_n 0, 1) := by decide +kernel
theorem dX11_isUp_1 : decode cX11_isUp 1 = .ok (.iload_n 2, 1) := by decide +kernel
theorem dX11_isUp_2 : decode cX11_isUp 2 = .ok (.invokevirtual 327, 3) := by decide +kernel
theorem dX11_isUp_5 : decode cX11_isUp 5 = .ok (.iload_n 1, 1) := by decide +kernel
theorem dX11_isUp_6 : decode cX11_isUp 6 = .ok (.ishr, 1) := by decide +kernel
theorem dX11_isUp_7 : decode cX11_isUp 7 = .ok (.iconst 1, 1) := by decide +kernel
theorem dX11_isUp_8 : decode cX11_isUp 8 = .ok (.iand, 1) := by decide +kernel
theorem dX11_isUp_9 : decode cX11_isUp 9 = .ok (.iconst 1, 1) := by decide +kernel
theorem dX11_isUp_10 : decode cX11_isUp 10 = .ok (.if_icmp .ne 7, 3) := by decide +kernel
theorem dX11_isUp_13 : decode cX11_isUp 13 = .ok (.iconst 1, 1) := by decide +kernel
theorem dX11_isUp_14 : decode cX11_isUp 14 = .ok (.goto 4, 3) := by decide +kernel
theorem dX11_isUp_17 : decode cX11_isUp 17 = .ok (.iconst 0, 1) := by decide +kernel
theorem dX11_isUp_18 : decode cX11_isUp 18 = .ok (.ireturn, 1) := by decide +kernel
set_option maxRecDepth 20000 in
theorem ggX11_cut_X11_isRail : GoodIn wsX11_cut wsX11_isRail := goodIn_r _ [6, 1, 7, 8, 5, 9, 31, 32, 33, 34, 35, 36, 37, 38, 39, 40, 41, 42, 43, 44, 45, 46, 47, 48, 49, 50, 51, 52, 53, 54, 55, 56, 57, 58, 59, 60, 61, 62, 63, 64, 65, 66, 67, 68, 69, 70, 71, 72, 73, 74, 75, 76, 77, 78, 79, 80, 81, 82, 83, 84, 85, 86, 87, 88, 89] (by decide +kernel) (by decide +kernel)
set_option maxRecDepth 20000 in
theorem gX11_cut_X11_isRail : GoodIn wsX11_cut (wsV RX11 248 RX11 yX11_isRail wsX11_isRail) := goodIn_app (goodIn_of _ (by decide +kernel)) ggX11_cut_X11_isRail
set_option maxRecDepth 20000 in
theorem ggX11_cut_X11_in : GoodIn wsX11_cut wsX11_in := goodIn_r _ [9] (by decide +kernel) (by decide +kernel)
set_option maxRecDepth 20000 in
theorem gX11_cut_X11_in : GoodIn wsX11_cut (va_wsS RX11 141 yX11_in wsX11_in) := goodIn_app (goodIn_of _ (by decide +kernel)) ggX11_cut_X11_in
set_option maxRecDepth 20000 in
theorem ggX11_cut_X11_deadOnes : GoodIn wsX11_cut wsX11_deadOnes := goodIn_r _ [13, 1, 14, 31, 32, 33, 34, 35, 36, 37, 38, 39, 40, 41, 42, 43, 44, 45, 46, 47, 48, 49, 50, 51, 52, 53, 54, 55, 56, 57, 58, 59, 60, 61, 62, 63, 64, 65, 66, 67, 68, 69, 70, 71, 72, 73, 74, 75, 76, 77, 78, 79, 80, 81, 82, 83, 84, 85, 86, 87, 88, 89] (by decide +kernel) (by decide +kernel)
set_option maxRecDepth 20000 in
theorem gX11_cut_X11_deadOnes : GoodIn wsX11_cut (wsV RX11 324 RX11 yX11_deadOnes wsX11_deadOnes) := goodIn_app (goodIn_of _ (by decide +kernel)) ggX11_cut_X11_deadOnes
set_option maxRecDepth 20000 in
theorem ggX11_cut_X11_isUp : GoodIn wsX11_cut wsX11_isUp := goodIn_r _ [18, 19, 20, 21, 5, 22, 1, 23, 24, 25, 26, 27, 31, 32, 33, 34, 35, 36, 37, 38, 39, 40, 41, 42, 43, 44, 45, 46, 47, 48, 49, 50, 51, 52, 53, 54, 55, 56, 57, 58, 59, 60, 61, 62, 63, 64, 65, 66, 67, 68, 69, 70, 71, 72, 73, 74, 75, 76, 77, 78, 79, 80, 81, 82, 83, 84, 85, 86, 87, 88, 89] (by decide +kernel) (by decide +kernel)
set_option maxRecDepth 20000 in
theorem gX11_cut_X11_isUp : GoodIn wsX11_cut (wsV RX11 375 RX11 yX11_isUp wsX11_isUp) := goodIn_app (goodIn_of _ (by decide +kernel)) ggX11_cut_X11_isUp
set_option maxRecDepth 20000 in
theorem ggX11_cut_X11_countOf : GoodIn wsX11_cut wsX11_countOf := goodIn_r _ [30] (by decide +kernel) (by decide +kernel)
set_option maxRecDepth 20000 in
theorem gX11_cut_X11_countOf : GoodIn wsX11_cut (va_wsS RX11 378 yX11_countOf wsX11_countOf) := goodIn_app (goodIn_of _ (by decide +kernel)) ggX11_cut_X11_countOf
theorem dX11_cut_0 : decode cX11_cut 0 = .ok (.aload_n 0, 1) := by decide +kernel
theorem dX11_cut_1 : decode cX11_cut 1 = .ok (.iload_n 1, 1) := by decide +kernel
theorem dX11_cut_2 : decode cX11_cut 2 = .ok (.invokevirtual 248, 3) := by decide +kernel
theorem dX11_cut_5 : decode cX11_cut 5 = .ok (.ifCond .eq 13, 3) := by decide +kernel
theorem dX11_cut_8 : decode cX11_cut 8 = .ok (.iload_n 2, 1) := by decide +kernel
theorem dX11_cut_9 : decode cX11_cut 9 = .ok (.i2l, 1) := by decide +kernel
theorem dX11_cut_10 : decode cX11_cut 10 = .ok (.lconst 0, 1) := by decide +kernel
theorem dX11_cut_11 : decode cX11_cut 11 = .ok (.lconst 1, 1) := by decide +kernel
theorem dX11_cut_12 : decode cX11_cut 12 = .ok (.invokestatic 141, 3) := by decide +kernel
theorem dX11_cut_15 : decode cX11_cut 15 = .ok (.ifCond .ne 5, 3) := by decide +kernel
theorem dX11_cut_18 : decode cX11_cut 18 = .ok (.iconst (-1), 1) := by decide +kernel
theorem dX11_cut_19 : decode cX11_cut 19 = .ok (.ireturn, 1) := by decide +kernel
theorem dX11_cut_20 : decode cX11_cut 20 = .ok (.aload_n 0, 1) := by decide +kernel
theorem dX11_cut_21 : decode cX11_cut 21 = .ok (.iload_n 1, 1) := by decide +kernel
theorem dX11_cut_22 : decode cX11_cut 22 = .ok (.aload_n 0, 1) := by decide +kernel
theorem dX11_cut_23 : decode cX11_cut 23 = .ok (.invokevirtual 324, 3) := by decide +kernel
theorem dX11_cut_26 : decode cX11_cut 26 = .ok (.invokevirtual 375, 3) := by decide +kernel
theorem dX11_cut_29 : decode cX11_cut 29 = .ok (.ifCond .ne 6, 3) := by decide +kernel
theorem dX11_cut_32 : decode cX11_cut 32 = .ok (.bipush (-2), 2) := by decide +kernel
theorem dX11_cut_34 : decode cX11_cut 34 = .ok (.ireturn, 1) := by decide +kernel
theorem dX11_cut_35 : decode cX11_cut 35 = .ok (.bipush (-4), 2) := by decide +kernel
theorem dX11_cut_37 : decode cX11_cut 37 = .ok (.istore_n 3, 1) := by decide +kernel
theorem dX11_cut_38 : decode cX11_cut 38 = .ok (.iconst 0, 1) := by decide +kernel
theorem dX11_cut_39 : decode cX11_cut 39 = .ok (.istore 4, 2) := by decide +kernel
theorem dX11_cut_41 : decode cX11_cut 41 = .ok (.iload 4, 2) := by decide +kernel
theorem dX11_cut_43 : decode cX11_cut 43 = .ok (.iconst 1, 1) := by decide +kernel
theorem dX11_cut_44 : decode cX11_cut 44 = .ok (.aload_n 0, 1) := by decide +kernel
theorem dX11_cut_45 : decode cX11_cut 45 = .ok (.getfield 121, 3) := by decide +kernel
theorem dX11_cut_48 : decode cX11_cut 48 = .ok (.ishl, 1) := by decide +kernel
theorem dX11_cut_49 : decode cX11_cut 49 = .ok (.if_icmp .ge 70, 3) := by decide +kernel
theorem dX11_cut_52 : decode cX11_cut 52 = .ok (.iload 4, 2) := by decide +kernel
theorem dX11_cut_54 : decode cX11_cut 54 = .ok (.iload_n 1, 1) := by decide +kernel
theorem dX11_cut_55 : decode cX11_cut 55 = .ok (.ishr, 1) := by decide +kernel
theorem dX11_cut_56 : decode cX11_cut 56 = .ok (.iconst 1, 1) := by decide +kernel
theorem dX11_cut_57 : decode cX11_cut 57 = .ok (.iand, 1) := by decide +kernel
theorem dX11_cut_58 : decode cX11_cut 58 = .ok (.ifCond .ne 25, 3) := by decide +kernel
theorem dX11_cut_61 : decode cX11_cut 61 = .ok (.iload_n 3, 1) := by decide +kernel
theorem dX11_cut_62 : decode cX11_cut 62 = .ok (.bipush (-4), 2) := by decide +kernel
theorem dX11_cut_64 : decode cX11_cut 64 = .ok (.if_icmp .eq 15, 3) := by decide +kernel
theorem dX11_cut_67 : decode cX11_cut 67 = .ok (.iload 4, 2) := by decide +kernel
theorem dX11_cut_69 : decode cX11_cut 69 = .ok (.invokestatic 378, 3) := by decide +kernel
theorem dX11_cut_72 : decode cX11_cut 72 = .ok (.iload_n 3, 1) := by decide +kernel
theorem dX11_cut_73 : decode cX11_cut 73 = .ok (.invokestatic 378, 3) := by decide +kernel
theorem dX11_cut_76 : decode cX11_cut 76 = .ok (.if_icmp .ge 7, 3) := by decide +kernel
theorem dX11_cut_79 : decode cX11_cut 79 = .ok (.iconst 1, 1) := by decide +kernel
theorem dX11_cut_80 : decode cX11_cut 80 = .ok (.goto 4, 3) := by decide +kernel
theorem dX11_cut_83 : decode cX11_cut 83 = .ok (.iconst 0, 1) := by decide +kernel
theorem dX11_cut_84 : decode cX11_cut 84 = .ok (.istore 5, 2) := by decide +kernel
theorem dX11_cut_86 : decode cX11_cut 86 = .ok (.iload 5, 2) := by decide +kernel
theorem dX11_cut_88 : decode cX11_cut 88 = .ok (.ifCond .eq 23, 3) := by decide +kernel
theorem dX11_cut_91 : decode cX11_cut 91 = .ok (.aload_n 0, 1) := by decide +kernel
theorem dX11_cut_92 : decode cX11_cut 92 = .ok (.iload_n 1, 1) := by decide +kernel
theorem dX11_cut_93 : decode cX11_cut 93 = .ok (.aload_n 0, 1) := by decide +kernel
theorem dX11_cut_94 : decode cX11_cut 94 = .ok (.invokevirtual 324, 3) := by decide +kernel
theorem dX11_cut_97 : decode cX11_cut 97 = .ok (.iload 4, 2) := by decide +kernel
theorem dX11_cut_99 : decode cX11_cut 99 = .ok (.ior, 1) := by decide +kernel
theorem dX11_cut_100 : decode cX11_cut 100 = .ok (.invokevirtual 375, 3) := by decide +kernel
theorem dX11_cut_103 : decode cX11_cut 103 = .ok (.ifCond .ne 8, 3) := by decide +kernel
theorem dX11_cut_106 : decode cX11_cut 106 = .ok (.iload 4, 2) := by decide +kernel
theorem dX11_cut_108 : decode cX11_cut 108 = .ok (.goto 4, 3) := by decide +kernel
theorem dX11_cut_111 : decode cX11_cut 111 = .ok (.iload_n 3, 1) := by decide +kernel
theorem dX11_cut_112 : decode cX11_cut 112 = .ok (.istore_n 3, 1) := by decide +kernel
theorem dX11_cut_113 : decode cX11_cut 113 = .ok (.iinc 4 1, 3) := by decide +kernel
theorem dX11_cut_116 : decode cX11_cut 116 = .ok (.goto (-75), 3) := by decide +kernel
theorem dX11_cut_119 : decode cX11_cut 119 = .ok (.iload_n 3, 1) := by decide +kernel
theorem dX11_cut_120 : decode cX11_cut 120 = .ok (.bipush (-4), 2) := by decide +kernel
theorem dX11_cut_122 : decode cX11_cut 122 = .ok (.if_icmp .ne 8, 3) := by decide +kernel
theorem dX11_cut_125 : decode cX11_cut 125 = .ok (.bipush (-4), 2) := by decide +kernel
theorem dX11_cut_127 : decode cX11_cut 127 = .ok (.goto 15, 3) := by decide +kernel
theorem dX11_cut_130 : decode cX11_cut 130 = .ok (.iload_n 2, 1) := by decide +kernel
theorem dX11_cut_131 : decode cX11_cut 131 = .ok (.ifCond .ne 10, 3) := by decide +kernel
theorem dX11_cut_134 : decode cX11_cut 134 = .ok (.iload_n 3, 1) := by decide +kernel
theorem dX11_cut_135 : decode cX11_cut 135 = .ok (.invokestatic 378, 3) := by decide +kernel
theorem dX11_cut_138 : decode cX11_cut 138 = .ok (.goto 4, 3) := by decide +kernel
theorem dX11_cut_141 : decode cX11_cut 141 = .ok (.iload_n 3, 1) := by decide +kernel
theorem dX11_cut_142 : decode cX11_cut 142 = .ok (.ireturn, 1) := by decide +kernel
set_option maxRecDepth 20000 in
theorem ggX11_need_X11_isRail : GoodIn wsX11_need wsX11_isRail := goodIn_r _ [6, 1, 7, 8, 5, 9, 31, 32, 33, 34, 35, 36, 37, 38, 39, 40, 41, 42, 43, 44, 45, 46, 47, 48, 49, 50, 51, 52, 53, 54, 55, 56, 57, 58, 59, 60, 61, 62, 63, 64, 65, 66, 67, 68, 69, 70, 71, 72, 73, 74, 75, 76, 77, 78, 79, 80, 81, 82, 83, 84, 85, 86, 87, 88, 89] (by decide +kernel) (by decide +kernel)
set_option maxRecDepth 20000 in
theorem gX11_need_X11_isRail : GoodIn wsX11_need (wsV RX11 248 RX11 yX11_isRail wsX11_isRail) := goodIn_app (goodIn_of _ (by decide +kernel)) ggX11_need_X11_isRail
set_option maxRecDepth 20000 in
theorem ggX11_need_X11_in : GoodIn wsX11_need wsX11_in := goodIn_r _ [9] (by decide +kernel) (by decide +kernel)
set_option maxRecDepth 20000 in
theorem gX11_need_X11_in : GoodIn wsX11_need (va_wsS RX11 141 yX11_in wsX11_in) := goodIn_app (goodIn_of _ (by decide +kernel)) ggX11_need_X11_in
set_option maxRecDepth 20000 in
theorem ggX11_need_X11_deadOnes : GoodIn wsX11_need wsX11_deadOnes := goodIn_r _ [13, 1, 14, 31, 32, 33, 34, 35, 36, 37, 38, 39, 40, 41, 42, 43, 44, 45, 46, 47, 48, 49, 50, 51, 52, 53, 54, 55, 56, 57, 58, 59, 60, 61, 62, 63, 64, 65, 66, 67, 68, 69, 70, 71, 72, 73, 74, 75, 76, 77, 78, 79, 80, 81, 82, 83, 84, 85, 86, 87, 88, 89] (by decide +kernel) (by decide +kernel)
set_option maxRecDepth 20000 in
theorem gX11_need_X11_deadOnes : GoodIn wsX11_need (wsV RX11 324 RX11 yX11_deadOnes wsX11_deadOnes) := goodIn_app (goodIn_of _ (by decide +kernel)) ggX11_need_X11_deadOnes
set_option maxRecDepth 20000 in
theorem ggX11_need_X11_isUp : GoodIn wsX11_need wsX11_isUp := goodIn_r _ [18, 19, 20, 21, 5, 22, 1, 23, 24, 25, 26, 27, 31, 32, 33, 34, 35, 36, 37, 38, 39, 40, 41, 42, 43, 44, 45, 46, 47, 48, 49, 50, 51, 52, 53, 54, 55, 56, 57, 58, 59, 60, 61, 62, 63, 64, 65, 66, 67, 68, 69, 70, 71, 72, 73, 74, 75, 76, 77, 78, 79, 80, 81, 82, 83, 84, 85, 86, 87, 88, 89] (by decide +kernel) (by decide +kernel)
set_option maxRecDepth 20000 in
theorem gX11_need_X11_isUp : GoodIn wsX11_need (wsV RX11 375 RX11 yX11_isUp wsX11_isUp) := goodIn_app (goodIn_of _ (by decide +kernel)) ggX11_need_X11_isUp
set_option maxRecDepth 20000 in
theorem ggX11_need_X11_countOf : GoodIn wsX11_need wsX11_countOf := goodIn_r _ [30] (by decide +kernel) (by decide +kernel)
set_option maxRecDepth 20000 in
theorem gX11_need_X11_countOf : GoodIn wsX11_need (va_wsS RX11 378 yX11_countOf wsX11_countOf) := goodIn_app (goodIn_of _ (by decide +kernel)) ggX11_need_X11_countOf
theorem dX11_need_0 : decode cX11_need 0 = .ok (.aload_n 0, 1) := by decide +kernel
theorem dX11_need_1 : decode cX11_need 1 = .ok (.iload_n 1, 1) := by decide +kernel
theorem dX11_need_2 : decode cX11_need 2 = .ok (.invokevirtual 248, 3) := by decide +kernel
theorem dX11_need_5 : decode cX11_need 5 = .ok (.ifCond .eq 13, 3) := by decide +kernel
theorem dX11_need_8 : decode cX11_need 8 = .ok (.iload_n 2, 1) := by decide +kernel
theorem dX11_need_9 : decode cX11_need 9 = .ok (.i2l, 1) := by decide +kernel
theorem dX11_need_10 : decode cX11_need 10 = .ok (.lconst 0, 1) := by decide +kernel
theorem dX11_need_11 : decode cX11_need 11 = .ok (.lconst 1, 1) := by decide +kernel
theorem dX11_need_12 : decode cX11_need 12 = .ok (.invokestatic 141, 3) := by decide +kernel
theorem dX11_need_15 : decode cX11_need 15 = .ok (.ifCond .ne 5, 3) := by decide +kernel
theorem dX11_need_18 : decode cX11_need 18 = .ok (.iconst (-1), 1) := by decide +kernel
theorem dX11_need_19 : decode cX11_need 19 = .ok (.ireturn, 1) := by decide +kernel
theorem dX11_need_20 : decode cX11_need 20 = .ok (.aload_n 0, 1) := by decide +kernel
theorem dX11_need_21 : decode cX11_need 21 = .ok (.iload_n 1, 1) := by decide +kernel
theorem dX11_need_22 : decode cX11_need 22 = .ok (.aload_n 0, 1) := by decide +kernel
theorem dX11_need_23 : decode cX11_need 23 = .ok (.invokevirtual 324, 3) := by decide +kernel
theorem dX11_need_26 : decode cX11_need 26 = .ok (.invokevirtual 375, 3) := by decide +kernel
theorem dX11_need_29 : decode cX11_need 29 = .ok (.ifCond .ne 6, 3) := by decide +kernel
theorem dX11_need_32 : decode cX11_need 32 = .ok (.bipush (-2), 2) := by decide +kernel
theorem dX11_need_34 : decode cX11_need 34 = .ok (.ireturn, 1) := by decide +kernel
theorem dX11_need_35 : decode cX11_need 35 = .ok (.iconst 1, 1) := by decide +kernel
theorem dX11_need_36 : decode cX11_need 36 = .ok (.aload_n 0, 1) := by decide +kernel
theorem dX11_need_37 : decode cX11_need 37 = .ok (.getfield 121, 3) := by decide +kernel
theorem dX11_need_40 : decode cX11_need 40 = .ok (.ishl, 1) := by decide +kernel
theorem dX11_need_41 : decode cX11_need 41 = .ok (.iconst 1, 1) := by decide +kernel
theorem dX11_need_42 : decode cX11_need 42 = .ok (.isub, 1) := by decide +kernel
theorem dX11_need_43 : decode cX11_need 43 = .ok (.istore_n 3, 1) := by decide +kernel
theorem dX11_need_44 : decode cX11_need 44 = .ok (.iload_n 3, 1) := by decide +kernel
theorem dX11_need_45 : decode cX11_need 45 = .ok (.istore 4, 2) := by decide +kernel
theorem dX11_need_47 : decode cX11_need 47 = .ok (.iconst 0, 1) := by decide +kernel
theorem dX11_need_48 : decode cX11_need 48 = .ok (.istore 5, 2) := by decide +kernel
theorem dX11_need_50 : decode cX11_need 50 = .ok (.iload 5, 2) := by decide +kernel
theorem dX11_need_52 : decode cX11_need 52 = .ok (.iconst 1, 1) := by decide +kernel
theorem dX11_need_53 : decode cX11_need 53 = .ok (.aload_n 0, 1) := by decide +kernel
theorem dX11_need_54 : decode cX11_need 54 = .ok (.getfield 121, 3) := by decide +kernel
theorem dX11_need_57 : decode cX11_need 57 = .ok (.ishl, 1) := by decide +kernel
theorem dX11_need_58 : decode cX11_need 58 = .ok (.if_icmp .ge 73, 3) := by decide +kernel
theorem dX11_need_61 : decode cX11_need 61 = .ok (.iload 5, 2) := by decide +kernel
theorem dX11_need_63 : decode cX11_need 63 = .ok (.aload_n 0, 1) := by decide +kernel
theorem dX11_need_64 : decode cX11_need 64 = .ok (.invokevirtual 324, 3) := by decide +kernel
theorem dX11_need_67 : decode cX11_need 67 = .ok (.iand, 1) := by decide +kernel
theorem dX11_need_68 : decode cX11_need 68 = .ok (.ifCond .ne 26, 3) := by decide +kernel
theorem dX11_need_71 : decode cX11_need 71 = .ok (.iload 4, 2) := by decide +kernel
theorem dX11_need_73 : decode cX11_need 73 = .ok (.iload_n 3, 1) := by decide +kernel
theorem dX11_need_74 : decode cX11_need 74 = .ok (.if_icmp .eq 16, 3) := by decide +kernel
theorem dX11_need_77 : decode cX11_need 77 = .ok (.iload 5, 2) := by decide +kernel
theorem dX11_need_79 : decode cX11_need 79 = .ok (.invokestatic 378, 3) := by decide +kernel
theorem dX11_need_82 : decode cX11_need 82 = .ok (.iload 4, 2) := by decide +kernel
theorem dX11_need_84 : decode cX11_need 84 = .ok (.invokestatic 378, 3) := by decide +kernel
theorem dX11_need_87 : decode cX11_need 87 = .ok (.if_icmp .ge 7, 3) := by decide +kernel
theorem dX11_need_90 : decode cX11_need 90 = .ok (.iconst 1, 1) := by decide +kernel
theorem dX11_need_91 : decode cX11_need 91 = .ok (.goto 4, 3) := by decide +kernel
theorem dX11_need_94 : decode cX11_need 94 = .ok (.iconst 0, 1) := by decide +kernel
theorem dX11_need_95 : decode cX11_need 95 = .ok (.istore 6, 2) := by decide +kernel
theorem dX11_need_97 : decode cX11_need 97 = .ok (.iload 6, 2) := by decide +kernel
theorem dX11_need_99 : decode cX11_need 99 = .ok (.ifCond .eq 22, 3) := by decide +kernel
theorem dX11_need_102 : decode cX11_need 102 = .ok (.aload_n 0, 1) := by decide +kernel
theorem dX11_need_103 : decode cX11_need 103 = .ok (.iload_n 1, 1) := by decide +kernel
theorem dX11_need_104 : decode cX11_need 104 = .ok (.iload_n 3, 1) := by decide +kernel
theorem dX11_need_105 : decode cX11_need 105 = .ok (.iload 5, 2) := by decide +kernel
theorem dX11_need_107 : decode cX11_need 107 = .ok (.iconst (-1), 1) := by decide +kernel
theorem dX11_need_108 : decode cX11_need 108 = .ok (.ixor, 1) := by decide +kernel
theorem dX11_need_109 : decode cX11_need 109 = .ok (.iand, 1) := by decide +kernel
theorem dX11_need_110 : decode cX11_need 110 = .ok (.invokevirtual 375, 3) := by decide +kernel
theorem dX11_need_113 : decode cX11_need 113 = .ok (.ifCond .eq 8, 3) := by decide +kernel
theorem dX11_need_116 : decode cX11_need 116 = .ok (.iload 5, 2) := by decide +kernel
theorem dX11_need_118 : decode cX11_need 118 = .ok (.goto 5, 3) := by decide +kernel
theorem dX11_need_121 : decode cX11_need 121 = .ok (.iload 4, 2) := by decide +kernel
theorem dX11_need_123 : decode cX11_need 123 = .ok (.istore 4, 2) := by decide +kernel
theorem dX11_need_125 : decode cX11_need 125 = .ok (.iinc 5 1, 3) := by decide +kernel
theorem dX11_need_128 : decode cX11_need 128 = .ok (.goto (-78), 3) := by decide +kernel
theorem dX11_need_131 : decode cX11_need 131 = .ok (.iload_n 2, 1) := by decide +kernel
theorem dX11_need_132 : decode cX11_need 132 = .ok (.ifCond .ne 11, 3) := by decide +kernel
theorem dX11_need_135 : decode cX11_need 135 = .ok (.iload 4, 2) := by decide +kernel
theorem dX11_need_137 : decode cX11_need 137 = .ok (.invokestatic 378, 3) := by decide +kernel
theorem dX11_need_140 : decode cX11_need 140 = .ok (.goto 5, 3) := by decide +kernel
theorem dX11_need_143 : decode cX11_need 143 = .ok (.iload 4, 2) := by decide +kernel
theorem dX11_need_145 : decode cX11_need 145 = .ok (.ireturn, 1) := by decide +kernel
set_option maxRecDepth 20000 in
theorem ggX11_must_X11_isRail : GoodIn wsX11_must wsX11_isRail := goodIn_r _ [6, 1, 7, 8, 5, 9, 28, 29, 30, 31, 32, 33, 34, 35, 36, 37, 38, 39, 40, 41, 42, 43, 44, 45, 46, 47, 48, 49, 50, 51, 52, 53, 54, 55, 56, 57, 58, 59, 60, 61, 62, 63, 64, 65, 66, 67, 68, 69, 70, 71, 72, 73, 74, 75, 76, 77, 78, 79, 80, 81, 82, 83, 84, 85, 86] (by decide +kernel) (by decide +kernel)
set_option maxRecDepth 20000 in
theorem gX11_must_X11_isRail : GoodIn wsX11_must (wsV RX11 248 RX11 yX11_isRail wsX11_isRail) := goodIn_app (goodIn_of _ (by decide +kernel)) ggX11_must_X11_isRail
set_option maxRecDepth 20000 in
theorem ggX11_must_X11_deadOnes : GoodIn wsX11_must wsX11_deadOnes := goodIn_r _ [13, 1, 14, 28, 29, 30, 31, 32, 33, 34, 35, 36, 37, 38, 39, 40, 41, 42, 43, 44, 45, 46, 47, 48, 49, 50, 51, 52, 53, 54, 55, 56, 57, 58, 59, 60, 61, 62, 63, 64, 65, 66, 67, 68, 69, 70, 71, 72, 73, 74, 75, 76, 77, 78, 79, 80, 81, 82, 83, 84, 85, 86] (by decide +kernel) (by decide +kernel)
set_option maxRecDepth 20000 in
theorem gX11_must_X11_deadOnes : GoodIn wsX11_must (wsV RX11 324 RX11 yX11_deadOnes wsX11_deadOnes) := goodIn_app (goodIn_of _ (by decide +kernel)) ggX11_must_X11_deadOnes
set_option maxRecDepth 20000 in
theorem ggX11_must_X11_isUp : GoodIn wsX11_must wsX11_isUp := goodIn_r _ [18, 19, 20, 21, 5, 22, 1, 23, 24, 25, 26, 27, 28, 29, 30, 31, 32, 33, 34, 35, 36, 37, 38, 39, 40, 41, 42, 43, 44, 45, 46, 47, 48, 49, 50, 51, 52, 53, 54, 55, 56, 57, 58, 59, 60, 61, 62, 63, 64, 65, 66, 67, 68, 69, 70, 71, 72, 73, 74, 75, 76, 77, 78, 79, 80, 81, 82, 83, 84, 85, 86] (by decide +kernel) (by decide +kernel)
set_option maxRecDepth 20000 in
theorem gX11_must_X11_isUp : GoodIn wsX11_must (wsV RX11 375 RX11 yX11_isUp wsX11_isUp) := goodIn_app (goodIn_of _ (by decide +kernel)) ggX11_must_X11_isUp
theorem dX11_must_0 : decode cX11_must 0 = .ok (.aload_n 0, 1) := by decide +kernel
theorem dX11_must_1 : decode cX11_must 1 = .ok (.iload_n 1, 1) := by decide +kernel
theorem dX11_must_2 : decode cX11_must 2 = .ok (.invokevirtual 248, 3) := by decide +kernel
theorem dX11_must_5 : decode cX11_must 5 = .ok (.ifCond .ne 5, 3) := by decide +kernel
theorem dX11_must_8 : decode cX11_must 8 = .ok (.iconst (-1), 1) := by decide +kernel
theorem dX11_must_9 : decode cX11_must 9 = .ok (.ireturn, 1) := by decide +kernel
theorem dX11_must_10 : decode cX11_must 10 = .ok (.aload_n 0, 1) := by decide +kernel
theorem dX11_must_11 : decode cX11_must 11 = .ok (.iload_n 1, 1) := by decide +kernel
theorem dX11_must_12 : decode cX11_must 12 = .ok (.aload_n 0, 1) := by decide +kernel
theorem dX11_must_13 : decode cX11_must 13 = .ok (.invokevirtual 324, 3) := by decide +kernel
theorem dX11_must_16 : decode cX11_must 16 = .ok (.invokevirtual 375, 3) := by decide +kernel
theorem dX11_must_19 : decode cX11_must 19 = .ok (.ifCond .ne 6, 3) := by decide +kernel
theorem dX11_must_22 : decode cX11_must 22 = .ok (.bipush (-2), 2) := by decide +kernel
theorem dX11_must_24 : decode cX11_must 24 = .ok (.ireturn, 1) := by decide +kernel
theorem dX11_must_25 : decode cX11_must 25 = .ok (.iconst 0, 1) := by decide +kernel
theorem dX11_must_26 : decode cX11_must 26 = .ok (.istore_n 2, 1) := by decide +kernel
theorem dX11_must_27 : decode cX11_must 27 = .ok (.iconst 0, 1) := by decide +kernel
theorem dX11_must_28 : decode cX11_must 28 = .ok (.istore_n 3, 1) := by decide +kernel
theorem dX11_must_29 : decode cX11_must 29 = .ok (.iload_n 3, 1) := by decide +kernel
theorem dX11_must_30 : decode cX11_must 30 = .ok (.aload_n 0, 1) := by decide +kernel
theorem dX11_must_31 : decode cX11_must 31 = .ok (.getfield 121, 3) := by decide +kernel
theorem dX11_must_34 : decode cX11_must 34 = .ok (.if_icmp .ge 35, 3) := by decide +kernel
theorem dX11_must_37 : decode cX11_must 37 = .ok (.iload_n 2, 1) := by decide +kernel
theorem dX11_must_38 : decode cX11_must 38 = .ok (.aload_n 0, 1) := by decide +kernel
theorem dX11_must_39 : decode cX11_must 39 = .ok (.iload_n 1, 1) := by decide +kernel
theorem dX11_must_40 : decode cX11_must 40 = .ok (.aload_n 0, 1) := by decide +kernel
theorem dX11_must_41 : decode cX11_must 41 = .ok (.invokevirtual 324, 3) := by decide +kernel
theorem dX11_must_44 : decode cX11_must 44 = .ok (.iconst 1, 1) := by decide +kernel
theorem dX11_must_45 : decode cX11_must 45 = .ok (.iload_n 3, 1) := by decide +kernel
theorem dX11_must_46 : decode cX11_must 46 = .ok (.ishl, 1) := by decide +kernel
theorem dX11_must_47 : decode cX11_must 47 = .ok (.ior, 1) := by decide +kernel
theorem dX11_must_48 : decode cX11_must 48 = .ok (.invokevirtual 375, 3) := by decide +kernel
theorem dX11_must_51 : decode cX11_must 51 = .ok (.ifCond .eq 7, 3) := by decide +kernel
theorem dX11_must_54 : decode cX11_must 54 = .ok (.iconst 0, 1) := by decide +kernel
theorem dX11_must_55 : decode cX11_must 55 = .ok (.goto 6, 3) := by decide +kernel
theorem dX11_must_58 : decode cX11_must 58 = .ok (.iconst 1, 1) := by decide +kernel
theorem dX11_must_59 : decode cX11_must 59 = .ok (.iload_n 3, 1) := by decide +kernel
theorem dX11_must_60 : decode cX11_must 60 = .ok (.ishl, 1) := by decide +kernel
theorem dX11_must_61 : decode cX11_must 61 = .ok (.ior, 1) := by decide +kernel
theorem dX11_must_62 : decode cX11_must 62 = .ok (.istore_n 2, 1) := by decide +kernel
theorem dX11_must_63 : decode cX11_must 63 = .ok (.iinc 3 1, 3) := by decide +kernel
theorem dX11_must_66 : decode cX11_must 66 = .ok (.goto (-37), 3) := by decide +kernel
theorem dX11_must_69 : decode cX11_must 69 = .ok (.iload_n 2, 1) := by decide +kernel
theorem dX11_must_70 : decode cX11_must 70 = .ok (.ireturn, 1) := by decide +kernel
set_option maxRecDepth 20000 in
theorem ggX11_seen_X11_areRails : GoodIn wsX11_seen wsX11_areRails := goodIn_r _ [6, 1, 7, 8, 5, 9, 19, 20, 21, 22, 23, 24, 25, 26, 27, 28, 29, 30, 31, 32, 33, 34, 35, 36, 37, 38, 39, 40, 41, 42, 43, 44, 45, 46, 47, 48, 49, 50, 51, 52, 53, 54, 55, 56, 57, 58, 59, 60, 61, 62, 63, 64, 65, 66, 67, 68, 69, 70, 71, 72, 73, 74, 75, 76, 77] (by decide +kernel) (by decide +kernel)
set_option maxRecDepth 20000 in
theorem gX11_seen_X11_areRails : GoodIn wsX11_seen (wsV RX11 372 RX11 yX11_areRails wsX11_areRails) := goodIn_app (goodIn_of _ (by decide +kernel)) ggX11_seen_X11_areRails
set_option maxRecDepth 20000 in
theorem ggX11_seen_X11_upBut : GoodIn wsX11_seen wsX11_upBut := goodIn_r _ [13, 1, 14, 15, 16, 5, 17, 18, 19, 20, 21, 22, 23, 24, 25, 26, 27, 28, 29, 30, 31, 32, 33, 34, 35, 36, 37, 38, 39, 40, 41, 42, 43, 44, 45, 46, 47, 48, 49, 50, 51, 52, 53, 54, 55, 56, 57, 58, 59, 60, 61, 62, 63, 64, 65, 66, 67, 68, 69, 70, 71, 72, 73, 74, 75, 76, 77] (by decide +kernel) (by decide +kernel)
set_option maxRecDepth 20000 in
theorem gX11_seen_X11_upBut : GoodIn wsX11_seen (wsV RX11 327 RX11 yX11_upBut wsX11_upBut) := goodIn_app (goodIn_of _ (by decide +kernel)) ggX11_seen_X11_upBut
theorem dX11_seen_0 : decode cX11_seen 0 = .ok (.aload_n 0, 1) := by decide +kernel
theorem dX11_seen_1 : decode cX11_seen 1 = .ok (.iload_n 1, 1) := by decide +kernel
theorem dX11_seen_2 : decode cX11_seen 2 = .ok (.invokevirtual 372, 3) := by decide +kernel
theorem dX11_seen_5 : decode cX11_seen 5 = .ok (.ifCond .ne 5, 3) := by decide +kernel
theorem dX11_seen_8 : decode cX11_seen 8 = .ok (.iconst (-1), 1) := by decide +kernel
theorem dX11_seen_9 : decode cX11_seen 9 = .ok (.ireturn, 1) := by decide +kernel
theorem dX11_seen_10 : decode cX11_seen 10 = .ok (.aload_n 0, 1) := by decide +kernel
theorem dX11_seen_11 : decode cX11_seen 11 = .ok (.iconst 0, 1) := by decide +kernel
theorem dX11_seen_12 : decode cX11_seen 12 = .ok (.invokevirtual 327, 3) := by decide +kernel
theorem dX11_seen_15 : decode cX11_seen 15 = .ok (.iload_n 1, 1) := by decide +kernel
theorem dX11_seen_16 : decode cX11_seen 16 = .ok (.if_icmp .ne 9, 3) := by decide +kernel
theorem dX11_seen_19 : decode cX11_seen 19 = .ok (.sipush 256, 3) := by decide +kernel
theorem dX11_seen_22 : decode cX11_seen 22 = .ok (.goto 4, 3) := by decide +kernel
theorem dX11_seen_25 : decode cX11_seen 25 = .ok (.iconst 0, 1) := by decide +kernel
theorem dX11_seen_26 : decode cX11_seen 26 = .ok (.istore_n 2, 1) := by decide +kernel
theorem dX11_seen_27 : decode cX11_seen 27 = .ok (.iconst 0, 1) := by decide +kernel
theorem dX11_seen_28 : decode cX11_seen 28 = .ok (.istore_n 3, 1) := by decide +kernel
theorem dX11_seen_29 : decode cX11_seen 29 = .ok (.iload_n 3, 1) := by decide +kernel
theorem dX11_seen_30 : decode cX11_seen 30 = .ok (.aload_n 0, 1) := by decide +kernel
theorem dX11_seen_31 : decode cX11_seen 31 = .ok (.getfield 121, 3) := by decide +kernel
theorem dX11_seen_34 : decode cX11_seen 34 = .ok (.if_icmp .ge 30, 3) := by decide +kernel
theorem dX11_seen_37 : decode cX11_seen 37 = .ok (.iload_n 2, 1) := by decide +kernel
theorem dX11_seen_38 : decode cX11_seen 38 = .ok (.aload_n 0, 1) := by decide +kernel
theorem dX11_seen_39 : decode cX11_seen 39 = .ok (.iconst 1, 1) := by decide +kernel
theorem dX11_seen_40 : decode cX11_seen 40 = .ok (.iload_n 3, 1) := by decide +kernel
theorem dX11_seen_41 : decode cX11_seen 41 = .ok (.ishl, 1) := by decide +kernel
theorem dX11_seen_42 : decode cX11_seen 42 = .ok (.invokevirtual 327, 3) := by decide +kernel
theorem dX11_seen_45 : decode cX11_seen 45 = .ok (.iload_n 1, 1) := by decide +kernel
theorem dX11_seen_46 : decode cX11_seen 46 = .ok (.if_icmp .ne 9, 3) := by decide +kernel
theorem dX11_seen_49 : decode cX11_seen 49 = .ok (.iconst 1, 1) := by decide +kernel
theorem dX11_seen_50 : decode cX11_seen 50 = .ok (.iload_n 3, 1) := by decide +kernel
theorem dX11_seen_51 : decode cX11_seen 51 = .ok (.ishl, 1) := by decide +kernel
theorem dX11_seen_52 : decode cX11_seen 52 = .ok (.goto 4, 3) := by decide +kernel
theorem dX11_seen_55 : decode cX11_seen 55 = .ok (.iconst 0, 1) := by decide +kernel
theorem dX11_seen_56 : decode cX11_seen 56 = .ok (.ior, 1) := by decide +kernel
theorem dX11_seen_57 : decode cX11_seen 57 = .ok (.istore_n 2, 1) := by decide +kernel
theorem dX11_seen_58 : decode cX11_seen 58 = .ok (.iinc 3 1, 3) := by decide +kernel
theorem dX11_seen_61 : decode cX11_seen 61 = .ok (.goto (-32), 3) := by decide +kernel
theorem dX11_seen_64 : decode cX11_seen 64 = .ok (.iload_n 2, 1) := by decide +kernel
theorem dX11_seen_65 : decode cX11_seen 65 = .ok (.ireturn, 1) := by decide +kernel
set_option maxRecDepth 20000 in
theorem ggX11_isSheet_X11_in : GoodIn wsX11_isSheet wsX11_in := goodIn_r _ [6] (by decide +kernel) (by decide +kernel)
set_option maxRecDepth 20000 in
theorem gX11_isSheet_X11_in : GoodIn wsX11_isSheet (va_wsS RX11 141 yX11_in wsX11_in) := goodIn_app (goodIn_of _ (by decide +kernel)) ggX11_isSheet_X11_in
theorem dX11_isSheet_0 : decode cX11_isSheet 0 = .ok (.iload_n 0, 1) := by decide +kernel
theorem dX11_isSheet_1 : decode cX11_isSheet 1 = .ok (.i2l, 1) := by decide +kernel
theorem dX11_isSheet_2 : decode cX11_isSheet 2 = .ok (.lconst 0, 1) := by decide +kernel
theorem dX11_isSheet_3 : decode cX11_isSheet 3 = .ok (.ldc2_w 356, 3) := by decide +kernel
theorem dX11_isSheet_6 : decode cX11_isSheet 6 = .ok (.invokestatic 141, 3) := by decide +kernel
theorem dX11_isSheet_9 : decode cX11_isSheet 9 = .ok (.ifCond .eq 19, 3) := by decide +kernel
theorem dX11_isSheet_12 : decode cX11_isSheet 12 = .ok (.iload_n 1, 1) := by decide +kernel
theorem dX11_isSheet_13 : decode cX11_isSheet 13 = .ok (.i2l, 1) := by decide +kernel
theorem dX11_isSheet_14 : decode cX11_isSheet 14 = .ok (.lconst 0, 1) := by decide +kernel
theorem dX11_isSheet_15 : decode cX11_isSheet 15 = .ok (.ldc2_w 322, 3) := by decide +kernel
theorem dX11_isSheet_18 : decode cX11_isSheet 18 = .ok (.invokestatic 141, 3) := by decide +kernel
theorem dX11_isSheet_21 : decode cX11_isSheet 21 = .ok (.ifCond .eq 7, 3) := by decide +kernel
theorem dX11_isSheet_24 : decode cX11_isSheet 24 = .ok (.iconst 1, 1) := by decide +kernel
theorem dX11_isSheet_25 : decode cX11_isSheet 25 = .ok (.goto 4, 3) := by decide +kernel
theorem dX11_isSheet_28 : decode cX11_isSheet 28 = .ok (.iconst 0, 1) := by decide +kernel
theorem dX11_isSheet_29 : decode cX11_isSheet 29 = .ok (.ireturn, 1) := by decide +kernel
set_option maxRecDepth 20000 in
theorem ggX11_sheet_X11_isSheet : GoodIn wsX11_sheet wsX11_isSheet := goodIn_r _ [7, 8, 9, 10, 11, 6, 12] (by decide +kernel) (by decide +kernel)
set_option maxRecDepth 20000 in
theorem gX11_sheet_X11_isSheet : GoodIn wsX11_sheet (va_wsS RX11 381 yX11_isSheet wsX11_isSheet) := goodIn_app (goodIn_of _ (by decide +kernel)) ggX11_sheet_X11_isSheet
theorem dX11_sheet_0 : decode cX11_sheet 0 = .ok (.iload_n 1, 1) := by decide +kernel
theorem dX11_sheet_1 : decode cX11_sheet 1 = .ok (.iload_n 2, 1) := by decide +kernel
theorem dX11_sheet_2 : decode cX11_sheet 2 = .ok (.invokestatic 381, 3) := by decide +kernel
theorem dX11_sheet_5 : decode cX11_sheet 5 = .ok (.ifCond .eq 9, 3) := by decide +kernel
theorem dX11_sheet_8 : decode cX11_sheet 8 = .ok (.iload_n 3, 1) := by decide +kernel
theorem dX11_sheet_9 : decode cX11_sheet 9 = .ok (.bipush 40, 2) := by decide +kernel
theorem dX11_sheet_11 : decode cX11_sheet 11 = .ok (.if_icmp .le 5, 3) := by decide +kernel
theorem dX11_sheet_14 : decode cX11_sheet 14 = .ok (.iconst (-1), 1) := by decide +kernel
theorem dX11_sheet_15 : decode cX11_sheet 15 = .ok (.ireturn, 1) := by decide +kernel
theorem dX11_sheet_16 : decode cX11_sheet 16 = .ok (.iload_n 3, 1) := by decide +kernel
theorem dX11_sheet_17 : decode cX11_sheet 17 = .ok (.ifCond .ge 6, 3) := by decide +kernel
theorem dX11_sheet_20 : decode cX11_sheet 20 = .ok (.bipush (-14), 2) := by decide +kernel
theorem dX11_sheet_22 : decode cX11_sheet 22 = .ok (.ireturn, 1) := by decide +kernel
theorem dX11_sheet_23 : decode cX11_sheet 23 = .ok (.aload_n 0, 1) := by decide +kernel
theorem dX11_sheet_24 : decode cX11_sheet 24 = .ok (.getfield 83, 3) := by decide +kernel
theorem dX11_sheet_27 : decode cX11_sheet 27 = .ok (.iload_n 1, 1) := by decide +kernel
theorem dX11_sheet_28 : decode cX11_sheet 28 = .ok (.iload_n 2, 1) := by decide +kernel
theorem dX11_sheet_29 : decode cX11_sheet 29 = .ok (.iastore, 1) := by decide +kernel
theorem dX11_sheet_30 : decode cX11_sheet 30 = .ok (.aload_n 0, 1) := by decide +kernel
theorem dX11_sheet_31 : decode cX11_sheet 31 = .ok (.getfield 86, 3) := by decide +kernel
theorem dX11_sheet_34 : decode cX11_sheet 34 = .ok (.iload_n 1, 1) := by decide +kernel
theorem dX11_sheet_35 : decode cX11_sheet 35 = .ok (.iload_n 3, 1) := by decide +kernel
theorem dX11_sheet_36 : decode cX11_sheet 36 = .ok (.iastore, 1) := by decide +kernel
theorem dX11_sheet_37 : decode cX11_sheet 37 = .ok (.iconst 0, 1) := by decide +kernel
theorem dX11_sheet_38 : decode cX11_sheet 38 = .ok (.istore 4, 2) := by decide +kernel
theorem dX11_sheet_40 : decode cX11_sheet 40 = .ok (.iload 4, 2) := by decide +kernel
theorem dX11_sheet_42 : decode cX11_sheet 42 = .ok (.bipush 40, 2) := by decide +kernel
theorem dX11_sheet_44 : decode cX11_sheet 44 = .ok (.if_icmp .ge 22, 3) := by decide +kernel
theorem dX11_sheet_47 : decode cX11_sheet 47 = .ok (.aload_n 0, 1) := by decide +kernel
theorem dX11_sheet_48 : decode cX11_sheet 48 = .ok (.getfield 89, 3) := by decide +kernel
theorem dX11_sheet_51 : decode cX11_sheet 51 = .ok (.bipush 40, 2) := by decide +kernel
theorem dX11_sheet_53 : decode cX11_sheet 53 = .ok (.iload_n 1, 1) := by decide +kernel
theorem dX11_sheet_54 : decode cX11_sheet 54 = .ok (.imul, 1) := by decide +kernel
theorem dX11_sheet_55 : decode cX11_sheet 55 = .ok (.iload 4, 2) := by decide +kernel
theorem dX11_sheet_57 : decode cX11_sheet 57 = .ok (.iadd, 1) := by decide +kernel
theorem dX11_sheet_58 : decode cX11_sheet 58 = .ok (.iconst 0, 1) := by decide +kernel
theorem dX11_sheet_59 : decode cX11_sheet 59 = .ok (.iastore, 1) := by decide +kernel
theorem dX11_sheet_60 : decode cX11_sheet 60 = .ok (.iinc 4 1, 3) := by decide +kernel
theorem dX11_sheet_63 : decode cX11_sheet 63 = .ok (.goto (-23), 3) := by decide +kernel
theorem dX11_sheet_66 : decode cX11_sheet 66 = .ok (.iconst 1, 1) := by decide +kernel
theorem dX11_sheet_67 : decode cX11_sheet 67 = .ok (.ireturn, 1) := by decide +kernel
set_option maxRecDepth 20000 in
theorem ggX11_lay_X11_isSheet : GoodIn wsX11_lay wsX11_isSheet := goodIn_r _ [7, 8, 9, 10, 11, 6, 12] (by decide +kernel) (by decide +kernel)
set_option maxRecDepth 20000 in
theorem gX11_lay_X11_isSheet : GoodIn wsX11_lay (va_wsS RX11 381 yX11_isSheet wsX11_isSheet) := goodIn_app (goodIn_of _ (by decide +kernel)) ggX11_lay_X11_isSheet
set_option maxRecDepth 20000 in
theorem ggX11_lay_X11_in : GoodIn wsX11_lay wsX11_in := goodIn_r _ [12] (by decide +kernel) (by decide +kernel)
set_option maxRecDepth 20000 in
theorem gX11_lay_X11_in : GoodIn wsX11_lay (va_wsS RX11 141 yX11_in wsX11_in) := goodIn_app (goodIn_of _ (by decide +kernel)) ggX11_lay_X11_in
theorem dX11_lay_0 : decode cX11_lay 0 = .ok (.iload_n 1, 1) := by decide +kernel
theorem dX11_lay_1 : decode cX11_lay 1 = .ok (.iconst 0, 1) := by decide +kernel
theorem dX11_lay_2 : decode cX11_lay 2 = .ok (.invokestatic 381, 3) := by decide +kernel
theorem dX11_lay_5 : decode cX11_lay 5 = .ok (.ifCond .ne 5, 3) := by decide +kernel
theorem dX11_lay_8 : decode cX11_lay 8 = .ok (.iconst (-1), 1) := by decide +kernel
theorem dX11_lay_9 : decode cX11_lay 9 = .ok (.ireturn, 1) := by decide +kernel
theorem dX11_lay_10 : decode cX11_lay 10 = .ok (.aload_n 0, 1) := by decide +kernel
theorem dX11_lay_11 : decode cX11_lay 11 = .ok (.getfield 83, 3) := by decide +kernel
theorem dX11_lay_14 : decode cX11_lay 14 = .ok (.iload_n 1, 1) := by decide +kernel
theorem dX11_lay_15 : decode cX11_lay 15 = .ok (.iaload, 1) := by decide +kernel
theorem dX11_lay_16 : decode cX11_lay 16 = .ok (.bipush (-4), 2) := by decide +kernel
theorem dX11_lay_18 : decode cX11_lay 18 = .ok (.if_icmp .ne 6, 3) := by decide +kernel
theorem dX11_lay_21 : decode cX11_lay 21 = .ok (.bipush (-11), 2) := by decide +kernel
theorem dX11_lay_23 : decode cX11_lay 23 = .ok (.ireturn, 1) := by decide +kernel
theorem dX11_lay_24 : decode cX11_lay 24 = .ok (.iload_n 2, 1) := by decide +kernel
theorem dX11_lay_25 : decode cX11_lay 25 = .ok (.i2l, 1) := by decide +kernel
theorem dX11_lay_26 : decode cX11_lay 26 = .ok (.lconst 0, 1) := by decide +kernel
theorem dX11_lay_27 : decode cX11_lay 27 = .ok (.aload_n 0, 1) := by decide +kernel
theorem dX11_lay_28 : decode cX11_lay 28 = .ok (.getfield 86, 3) := by decide +kernel
theorem dX11_lay_31 : decode cX11_lay 31 = .ok (.iload_n 1, 1) := by decide +kernel
theorem dX11_lay_32 : decode cX11_lay 32 = .ok (.iaload, 1) := by decide +kernel
theorem dX11_lay_33 : decode cX11_lay 33 = .ok (.iconst 1, 1) := by decide +kernel
theorem dX11_lay_34 : decode cX11_lay 34 = .ok (.isub, 1) := by decide +kernel
theorem dX11_lay_35 : decode cX11_lay 35 = .ok (.i2l, 1) := by decide +kernel
theorem dX11_lay_36 : decode cX11_lay 36 = .ok (.invokestatic 141, 3) := by decide +kernel
theorem dX11_lay_39 : decode cX11_lay 39 = .ok (.ifCond .ne 6, 3) := by decide +kernel
theorem dX11_lay_42 : decode cX11_lay 42 = .ok (.bipush (-12), 2) := by decide +kernel
theorem dX11_lay_44 : decode cX11_lay 44 = .ok (.ireturn, 1) := by decide +kernel
theorem dX11_lay_45 : decode cX11_lay 45 = .ok (.aload_n 0, 1) := by decide +kernel
theorem dX11_lay_46 : decode cX11_lay 46 = .ok (.getfield 89, 3) := by decide +kernel
theorem dX11_lay_49 : decode cX11_lay 49 = .ok (.bipush 40, 2) := by decide +kernel
theorem dX11_lay_51 : decode cX11_lay 51 = .ok (.iload_n 1, 1) := by decide +kernel
theorem dX11_lay_52 : decode cX11_lay 52 = .ok (.imul, 1) := by decide +kernel
theorem dX11_lay_53 : decode cX11_lay 53 = .ok (.iload_n 2, 1) := by decide +kernel
theorem dX11_lay_54 : decode cX11_lay 54 = .ok (.iadd, 1) := by decide +kernel
theorem dX11_lay_55 : decode cX11_lay 55 = .ok (.aload_n 0, 1) := by decide +kernel
theorem dX11_lay_56 : decode cX11_lay 56 = .ok (.getfield 83, 3) := by decide +kernel
theorem dX11_lay_59 : decode cX11_lay 59 = .ok (.iload_n 1, 1) := by decide +kernel
theorem dX11_lay_60 : decode cX11_lay 60 = .ok (.iaload, 1) := by decide +kernel
theorem dX11_lay_61 : decode cX11_lay 61 = .ok (.ifCond .ne 8, 3) := by decide +kernel
theorem dX11_lay_64 : decode cX11_lay 64 = .ok (.iload_n 3, 1) := by decide +kernel
theorem dX11_lay_65 : decode cX11_lay 65 = .ok (.i2b, 1) := by decide +kernel
theorem dX11_lay_66 : decode cX11_lay 66 = .ok (.goto 19, 3) := by decide +kernel
theorem dX11_lay_69 : decode cX11_lay 69 = .ok (.aload_n 0, 1) := by decide +kernel
theorem dX11_lay_70 : decode cX11_lay 70 = .ok (.getfield 83, 3) := by decide +kernel
theorem dX11_lay_73 : decode cX11_lay 73 = .ok (.iload_n 1, 1) := by decide +kernel
theorem dX11_lay_74 : decode cX11_lay 74 = .ok (.iaload, 1) := by decide +kernel
theorem dX11_lay_75 : decode cX11_lay 75 = .ok (.iconst 1, 1) := by decide +kernel
theorem dX11_lay_76 : decode cX11_lay 76 = .ok (.if_icmp .ne 8, 3) := by decide +kernel
theorem dX11_lay_79 : decode cX11_lay 79 = .ok (.iload_n 3, 1) := by decide +kernel
theorem dX11_lay_80 : decode cX11_lay 80 = .ok (.i2s, 1) := by decide +kernel
theorem dX11_lay_81 : decode cX11_lay 81 = .ok (.goto 4, 3) := by decide +kernel
theorem dX11_lay_84 : decode cX11_lay 84 = .ok (.iload_n 3, 1) := by decide +kernel
theorem dX11_lay_85 : decode cX11_lay 85 = .ok (.iastore, 1) := by decide +kernel
theorem dX11_lay_86 : decode cX11_lay 86 = .ok (.iconst 1, 1) := by decide +kernel
theorem dX11_lay_87 : decode cX11_lay 87 = .ok (.ireturn, 1) := by decide +kernel
set_option maxRecDepth 20000 in
theorem ggX11_measured_X11_isSheet : GoodIn wsX11_measured wsX11_isSheet := goodIn_r _ [10, 11, 2, 12, 13, 9, 14] (by decide +kernel) (by decide +kernel)
set_option maxRecDepth 20000 in
theorem gX11_measured_X11_isSheet : GoodIn wsX11_measured (va_wsS RX11 381 yX11_isSheet wsX11_isSheet) := goodIn_app (goodIn_of _ (by decide +kernel)) ggX11_measured_X11_isSheet
set_option maxRecDepth 20000 in
theorem ggX11_measured_X11_in : GoodIn wsX11_measured wsX11_in := goodIn_r _ [14] (by decide +kernel) (by decide +kernel)
set_option maxRecDepth 20000 in
theorem gX11_measured_X11_in : GoodIn wsX11_measured (va_wsS RX11 141 yX11_in wsX11_in) := goodIn_app (goodIn_of _ (by decide +kernel)) ggX11_measured_X11_in
set_option maxRecDepth 20000 in
theorem ggX11_measured_X11_setWaits : GoodIn wsX11_measured wsX11_setWaits := goodIn_r _ [18, 19, 20, 21, 22, 23, 9, 24, 25, 62, 63, 64, 65, 66, 67, 68, 69, 70, 71, 72, 73, 74, 75, 76, 77, 78, 79, 80, 81, 82, 83, 84, 85, 86, 87, 88, 89, 90, 91, 92, 93, 94, 95, 96, 97, 98, 99, 100, 101, 102, 103, 104, 105, 106, 107, 108, 109, 110, 111, 112, 113, 114, 115, 116, 117, 118, 119, 120] (by decide +kernel) (by decide +kernel)
set_option maxRecDepth 20000 in
theorem gX11_measured_X11_setWaits : GoodIn wsX11_measured (wsV RX11 334 RX11 yX11_setWaits wsX11_setWaits) := goodIn_app (goodIn_of _ (by decide +kernel)) ggX11_measured_X11_setWaits
set_option maxRecDepth 20000 in
theorem ggX11_measured_X11_setTimes : GoodIn wsX11_measured wsX11_setTimes := goodIn_r _ [29, 19, 30, 31, 21, 22, 23, 9, 24, 25, 62, 63, 64, 65, 66, 67, 68, 69, 70, 71, 72, 73, 74, 75, 76, 77, 78, 79, 80, 81, 82, 83, 84, 85, 86, 87, 88, 89, 90, 91, 92, 93, 94, 95, 96, 97, 98, 99, 100, 101, 102, 103, 104, 105, 106, 107, 108, 109, 110, 111, 112, 113, 114, 115, 116, 117, 118, 119, 120] (by decide +kernel) (by decide +kernel)
set_option maxRecDepth 20000 in
theorem gX11_measured_X11_setTimes : GoodIn wsX11_measured (wsV RX11 337 RX11 yX11_setTimes wsX11_setTimes) := goodIn_app (goodIn_of _ (by decide +kernel)) ggX11_measured_X11_setTimes
set_option maxRecDepth 20000 in
theorem ggX11_measured_X11_findTimes : GoodIn wsX11_measured wsX11_findTimes := goodIn_r _ [35, 36, 37, 38, 39, 19, 20, 30, 40, 41, 42, 9, 43, 44, 45, 46, 47, 48, 49, 50, 51, 52, 53, 62, 63, 64, 65, 66, 67, 68, 69, 70, 71, 72, 73, 74, 75, 76, 77, 78, 79, 80, 81, 82, 83, 84, 85, 86, 87, 88, 89, 90, 91, 92, 93, 94, 95, 96, 97, 98, 99, 100, 101, 102, 103, 104, 105, 106, 107, 108, 109, 110, 111, 112, 113, 114, 115, 116, 117, 118, 119, 120] (by decide +kernel) (by decide +kernel)
set_option maxRecDepth 20000 in
theorem gX11_measured_X11_findTimes : GoodIn wsX11_measured (wsV RX11 340 RX11 yX11_findTimes wsX11_findTimes) := goodIn_app (goodIn_of _ (by decide +kernel)) ggX11_measured_X11_findTimes
set_option maxRecDepth 20000 in
theorem ggX11_measured_X11_drawnAt : GoodIn wsX11_measured wsX11_drawnAt := goodIn_r _ [57, 19, 39, 37, 38, 20, 58, 59, 60, 9, 61, 21, 22, 23, 24, 25, 62, 63, 64, 65, 66, 67, 68, 69, 70, 71, 72, 73, 74, 75, 76, 77, 78, 79, 80, 81, 82, 83, 84, 85, 86, 87, 88, 89, 90, 91, 92, 93, 94, 95, 96, 97, 98, 99, 100, 101, 102, 103, 104, 105, 106, 107, 108, 109, 110, 111, 112, 113, 114, 115, 116, 117, 118, 119, 120] (by decide +kernel) (by decide +kernel)
set_option maxRecDepth 20000 in
theorem gX11_measured_X11_drawnAt : GoodIn wsX11_measured (wsV RX11 350 RX11 yX11_drawnAt wsX11_drawnAt) := goodIn_app (goodIn_of _ (by decide +kernel)) ggX11_measured_X11_drawnAt
theorem dX11_measured_0 : decode cX11_measured 0 = .ok (.iload_n 1, 1) := by decide +kernel
theorem dX11_measured_1 : decode cX11_measured 1 = .ok (.iload_n 2, 1) := by decide +kernel
theorem dX11_measured_2 : decode cX11_measured 2 = .ok (.invokestatic 381, 3) := by decide +kernel
theorem dX11_measured_5 : decode cX11_measured 5 = .ok (.ifCond .eq 29, 3) := by decide +kernel
theorem dX11_measured_8 : decode cX11_measured 8 = .ok (.iload 4, 2) := by decide +kernel
theorem dX11_measured_10 : decode cX11_measured 10 = .ok (.i2l, 1) := by decide +kernel
theorem dX11_measured_11 : decode cX11_measured 11 = .ok (.lconst 0, 1) := by decide +kernel
theorem dX11_measured_12 : decode cX11_measured 12 = .ok (.ldc2_w 384, 3) := by decide +kernel
theorem dX11_measured_15 : decode cX11_measured 15 = .ok (.invokestatic 141, 3) := by decide +kernel
theorem dX11_measured_18 : decode cX11_measured 18 = .ok (.ifCond .eq 16, 3) := by decide +kernel
theorem dX11_measured_21 : decode cX11_measured 21 = .ok (.iload 5, 2) := by decide +kernel
theorem dX11_measured_23 : decode cX11_measured 23 = .ok (.i2l, 1) := by decide +kernel
theorem dX11_measured_24 : decode cX11_measured 24 = .ok (.lconst 0, 1) := by decide +kernel
theorem dX11_measured_25 : decode cX11_measured 25 = .ok (.ldc2_w 322, 3) := by decide +kernel
theorem dX11_measured_28 : decode cX11_measured 28 = .ok (.invokestatic 141, 3) := by decide +kernel
theorem dX11_measured_31 : decode cX11_measured 31 = .ok (.ifCond .ne 5, 3) := by decide +kernel
theorem dX11_measured_34 : decode cX11_measured 34 = .ok (.iconst (-1), 1) := by decide +kernel
theorem dX11_measured_35 : decode cX11_measured 35 = .ok (.ireturn, 1) := by decide +kernel
theorem dX11_measured_36 : decode cX11_measured 36 = .ok (.aload_n 0, 1) := by decide +kernel
theorem dX11_measured_37 : decode cX11_measured 37 = .ok (.getfield 83, 3) := by decide +kernel
theorem dX11_measured_40 : decode cX11_measured 40 = .ok (.iload_n 1, 1) := by decide +kernel
theorem dX11_measured_41 : decode cX11_measured 41 = .ok (.iaload, 1) := by decide +kernel
theorem dX11_measured_42 : decode cX11_measured 42 = .ok (.iload_n 2, 1) := by decide +kernel
theorem dX11_measured_43 : decode cX11_measured 43 = .ok (.if_icmp .eq 22, 3) := by decide +kernel
theorem dX11_measured_46 : decode cX11_measured 46 = .ok (.aload_n 0, 1) := by decide +kernel
theorem dX11_measured_47 : decode cX11_measured 47 = .ok (.getfield 83, 3) := by decide +kernel
theorem dX11_measured_50 : decode cX11_measured 50 = .ok (.iload_n 1, 1) := by decide +kernel
theorem dX11_measured_51 : decode cX11_measured 51 = .ok (.iaload, 1) := by decide +kernel
theorem dX11_measured_52 : decode cX11_measured 52 = .ok (.bipush (-4), 2) := by decide +kernel
theorem dX11_measured_54 : decode cX11_measured 54 = .ok (.if_icmp .ne 8, 3) := by decide +kernel
theorem dX11_measured_57 : decode cX11_measured 57 = .ok (.bipush (-11), 2) := by decide +kernel
theorem dX11_measured_59 : decode cX11_measured 59 = .ok (.goto 5, 3) := by decide +kernel
theorem dX11_measured_62 : decode cX11_measured 62 = .ok (.bipush (-13), 2) := by decide +kernel
theorem dX11_measured_64 : decode cX11_measured 64 = .ok (.ireturn, 1) := by decide +kernel
theorem dX11_measured_65 : decode cX11_measured 65 = .ok (.aload_n 0, 1) := by decide +kernel
theorem dX11_measured_66 : decode cX11_measured 66 = .ok (.invokevirtual 334, 3) := by decide +kernel
theorem dX11_measured_69 : decode cX11_measured 69 = .ok (.aload_n 0, 1) := by decide +kernel
theorem dX11_measured_70 : decode cX11_measured 70 = .ok (.iconst 0, 1) := by decide +kernel
theorem dX11_measured_71 : decode cX11_measured 71 = .ok (.invokevirtual 337, 3) := by decide +kernel
theorem dX11_measured_74 : decode cX11_measured 74 = .ok (.aload_n 0, 1) := by decide +kernel
theorem dX11_measured_75 : decode cX11_measured 75 = .ok (.invokevirtual 340, 3) := by decide +kernel
theorem dX11_measured_78 : decode cX11_measured 78 = .ok (.iconst 0, 1) := by decide +kernel
theorem dX11_measured_79 : decode cX11_measured 79 = .ok (.istore 6, 2) := by decide +kernel
theorem dX11_measured_81 : decode cX11_measured 81 = .ok (.bipush (-4), 2) := by decide +kernel
theorem dX11_measured_83 : decode cX11_measured 83 = .ok (.istore 7, 2) := by decide +kernel
theorem dX11_measured_85 : decode cX11_measured 85 = .ok (.iconst 0, 1) := by decide +kernel
theorem dX11_measured_86 : decode cX11_measured 86 = .ok (.istore 8, 2) := by decide +kernel
theorem dX11_measured_88 : decode cX11_measured 88 = .ok (.iconst 0, 1) := by decide +kernel
theorem dX11_measured_89 : decode cX11_measured 89 = .ok (.istore 9, 2) := by decide +kernel
theorem dX11_measured_91 : decode cX11_measured 91 = .ok (.iload 9, 2) := by decide +kernel
theorem dX11_measured_93 : decode cX11_measured 93 = .ok (.iload 4, 2) := by decide +kernel
theorem dX11_measured_95 : decode cX11_measured 95 = .ok (.if_icmp .ge 139, 3) := by decide +kernel
theorem dX11_measured_98 : decode cX11_measured 98 = .ok (.iload_n 3, 1) := by decide +kernel
theorem dX11_measured_99 : decode cX11_measured 99 = .ok (.i2l, 1) := by decide +kernel
theorem dX11_measured_100 : decode cX11_measured 100 = .ok (.iload 9, 2) := by decide +kernel
theorem dX11_measured_102 : decode cX11_measured 102 = .ok (.i2l, 1) := by decide +kernel
theorem dX11_measured_103 : decode cX11_measured 103 = .ok (.ladd, 1) := by decide +kernel
theorem dX11_measured_104 : decode cX11_measured 104 = .ok (.lstore 10, 2) := by decide +kernel
theorem dX11_measured_106 : decode cX11_measured 106 = .ok (.lload 10, 2) := by decide +kernel
theorem dX11_measured_108 : decode cX11_measured 108 = .ok (.lconst 0, 1) := by decide +kernel
theorem dX11_measured_109 : decode cX11_measured 109 = .ok (.lcmp, 1) := by decide +kernel
theorem dX11_measured_110 : decode cX11_measured 110 = .ok (.ifCond .lt 16, 3) := by decide +kernel
theorem dX11_measured_113 : decode cX11_measured 113 = .ok (.lload 10, 2) := by decide +kernel
theorem dX11_measured_115 : decode cX11_measured 115 = .ok (.aload_n 0, 1) := by decide +kernel
theorem dX11_measured_116 : decode cX11_measured 116 = .ok (.getfield 86, 3) := by decide +kernel
theorem dX11_measured_119 : decode cX11_measured 119 = .ok (.iload_n 1, 1) := by decide +kernel
theorem dX11_measured_120 : decode cX11_measured 120 = .ok (.iaload, 1) := by decide +kernel
theorem dX11_measured_121 : decode cX11_measured 121 = .ok (.i2l, 1) := by decide +kernel
theorem dX11_measured_122 : decode cX11_measured 122 = .ok (.lcmp, 1) := by decide +kernel
theorem dX11_measured_123 : decode cX11_measured 123 = .ok (.ifCond .lt 6, 3) := by decide +kernel
theorem dX11_measured_126 : decode cX11_measured 126 = .ok (.bipush (-12), 2) := by decide +kernel
theorem dX11_measured_128 : decode cX11_measured 128 = .ok (.ireturn, 1) := by decide +kernel
theorem dX11_measured_129 : decode cX11_measured 129 = .ok (.aload_n 0, 1) := by decide +kernel
theorem dX11_measured_130 : decode cX11_measured 130 = .ok (.getfield 89, 3) := by decide +kernel
theorem dX11_measured_133 : decode cX11_measured 133 = .ok (.bipush 40, 2) := by decide +kernel
theorem dX11_measured_135 : decode cX11_measured 135 = .ok (.iload_n 1, 1) := by decide +kernel
theorem dX11_measured_136 : decode cX11_measured 136 = .ok (.imul, 1) := by decide +kernel
theorem dX11_measured_137 : decode cX11_measured 137 = .ok (.lload 10, 2) := by decide +kernel
theorem dX11_measured_139 : decode cX11_measured 139 = .ok (.l2i, 1) := by decide +kernel
theorem dX11_measured_140 : decode cX11_measured 140 = .ok (.iadd, 1) := by decide +kernel
theorem dX11_measured_141 : decode cX11_measured 141 = .ok (.iaload, 1) := by decide +kernel
theorem dX11_measured_142 : decode cX11_measured 142 = .ok (.istore 12, 2) := by decide +kernel
theorem dX11_measured_144 : decode cX11_measured 144 = .ok (.iload 12, 2) := by decide +kernel
theorem dX11_measured_146 : decode cX11_measured 146 = .ok (.i2l, 1) := by decide +kernel
theorem dX11_measured_147 : decode cX11_measured 147 = .ok (.lconst 0, 1) := by decide +kernel
theorem dX11_measured_148 : decode cX11_measured 148 = .ok (.ldc2_w 386, 3) := by decide +kernel
theorem dX11_measured_151 : decode cX11_measured 151 = .ok (.invokestatic 141, 3) := by decide +kernel
theorem dX11_measured_154 : decode cX11_measured 154 = .ok (.ifCond .ne 9, 3) := by decide +kernel
theorem dX11_measured_157 : decode cX11_measured 157 = .ok (.bipush (-20), 2) := by decide +kernel
theorem dX11_measured_159 : decode cX11_measured 159 = .ok (.iload 9, 2) := by decide +kernel
theorem dX11_measured_161 : decode cX11_measured 161 = .ok (.isub, 1) := by decide +kernel
theorem dX11_measured_162 : decode cX11_measured 162 = .ok (.ireturn, 1) := by decide +kernel
theorem dX11_measured_163 : decode cX11_measured 163 = .ok (.iload 12, 2) := by decide +kernel
theorem dX11_measured_165 : decode cX11_measured 165 = .ok (.aload_n 0, 1) := by decide +kernel
theorem dX11_measured_166 : decode cX11_measured 166 = .ok (.iload 9, 2) := by decide +kernel
theorem dX11_measured_168 : decode cX11_measured 168 = .ok (.invokevirtual 350, 3) := by decide +kernel
theorem dX11_measured_171 : decode cX11_measured 171 = .ok (.isub, 1) := by decide +kernel
theorem dX11_measured_172 : decode cX11_measured 172 = .ok (.istore 13, 2) := by decide +kernel
theorem dX11_measured_174 : decode cX11_measured 174 = .ok (.iload 6, 2) := by decide +kernel
theorem dX11_measured_176 : decode cX11_measured 176 = .ok (.iload 13, 2) := by decide +kernel
theorem dX11_measured_178 : decode cX11_measured 178 = .ok (.ifCond .ne 7, 3) := by decide +kernel
theorem dX11_measured_181 : decode cX11_measured 181 = .ok (.iconst 1, 1) := by decide +kernel
theorem dX11_measured_182 : decode cX11_measured 182 = .ok (.goto 4, 3) := by decide +kernel
theorem dX11_measured_185 : decode cX11_measured 185 = .ok (.iconst 0, 1) := by decide +kernel
theorem dX11_measured_186 : decode cX11_measured 186 = .ok (.iadd, 1) := by decide +kernel
theorem dX11_measured_187 : decode cX11_measured 187 = .ok (.istore 6, 2) := by decide +kernel
theorem dX11_measured_189 : decode cX11_measured 189 = .ok (.iload 13, 2) := by decide +kernel
theorem dX11_measured_191 : decode cX11_measured 191 = .ok (.ifCond .eq 15, 3) := by decide +kernel
theorem dX11_measured_194 : decode cX11_measured 194 = .ok (.iload 7, 2) := by decide +kernel
theorem dX11_measured_196 : decode cX11_measured 196 = .ok (.bipush (-4), 2) := by decide +kernel
theorem dX11_measured_198 : decode cX11_measured 198 = .ok (.if_icmp .ne 8, 3) := by decide +kernel
theorem dX11_measured_201 : decode cX11_measured 201 = .ok (.iload 9, 2) := by decide +kernel
theorem dX11_measured_203 : decode cX11_measured 203 = .ok (.goto 5, 3) := by decide +kernel
theorem dX11_measured_206 : decode cX11_measured 206 = .ok (.iload 7, 2) := by decide +kernel
theorem dX11_measured_208 : decode cX11_measured 208 = .ok (.istore 7, 2) := by decide +kernel
theorem dX11_measured_210 : decode cX11_measured 210 = .ok (.iload 8, 2) := by decide +kernel
theorem dX11_measured_212 : decode cX11_measured 212 = .ok (.iload 13, 2) := by decide +kernel
theorem dX11_measured_214 : decode cX11_measured 214 = .ok (.ifCond .ge 9, 3) := by decide +kernel
theorem dX11_measured_217 : decode cX11_measured 217 = .ok (.iload 13, 2) := by decide +kernel
theorem dX11_measured_219 : decode cX11_measured 219 = .ok (.ineg, 1) := by decide +kernel
theorem dX11_measured_220 : decode cX11_measured 220 = .ok (.goto 5, 3) := by decide +kernel
theorem dX11_measured_223 : decode cX11_measured 223 = .ok (.iload 13, 2) := by decide +kernel
theorem dX11_measured_225 : decode cX11_measured 225 = .ok (.iadd, 1) := by decide +kernel
theorem dX11_measured_226 : decode cX11_measured 226 = .ok (.istore 8, 2) := by decide +kernel
theorem dX11_measured_228 : decode cX11_measured 228 = .ok (.iinc 9 1, 3) := by decide +kernel
theorem dX11_measured_231 : decode cX11_measured 231 = .ok (.goto (-140), 3) := by decide +kernel
theorem dX11_measured_234 : decode cX11_measured 234 = .ok (.iload 5, 2) := by decide +kernel
theorem dX11_measured_236 : decode cX11_measured 236 = .ok (.ifCond .ne 8, 3) := by decide +kernel
theorem dX11_measured_239 : decode cX11_measured 239 = .ok (.iload 6, 2) := by decide +kernel
theorem dX11_measured_241 : decode cX11_measured 241 = .ok (.goto 16, 3) := by decide +kernel
theorem dX11_measured_244 : decode cX11_measured 244 = .ok (.iload 5, 2) := by decide +kernel
theorem dX11_measured_246 : decode cX11_measured 246 = .ok (.iconst 1, 1) := by decide +kernel
theorem dX11_measured_247 : decode cX11_measured 247 = .ok (.if_icmp .ne 8, 3) := by decide +kernel
theorem dX11_measured_250 : decode cX11_measured 250 = .ok (.iload 7, 2) := by decide +kernel
theorem dX11_measured_252 : decode cX11_measured 252 = .ok (.goto 5, 3) := by decide +kernel
theorem dX11_measured_255 : decode cX11_measured 255 = .ok (.iload 8, 2) := by decide +kernel
theorem dX11_measured_257 : decode cX11_measured 257 = .ok (.ireturn, 1) := by decide +kernel
set_option maxRecDepth 20000 in
theorem ggX11_count_X11_deadOnes : GoodIn wsX11_count wsX11_deadOnes := goodIn_r _ [10, 1, 11, 24, 25, 26, 27, 28, 29, 30, 31, 32, 33, 34, 35, 36, 37, 38, 39, 40, 41, 42, 43, 44, 45, 46, 47, 48, 49, 50, 51, 52, 53, 54, 55, 56, 57, 58, 59, 60, 61, 62, 63, 64, 65, 66, 67, 68, 69, 70, 71, 72, 73, 74, 75, 76, 77, 78, 79, 80, 81, 82] (by decide +kernel) (by decide +kernel)
set_option maxRecDepth 20000 in
theorem gX11_count_X11_deadOnes : GoodIn wsX11_count (wsV RX11 324 RX11 yX11_deadOnes wsX11_deadOnes) := goodIn_app (goodIn_of _ (by decide +kernel)) ggX11_count_X11_deadOnes
set_option maxRecDepth 20000 in
theorem ggX11_count_X11_countOf : GoodIn wsX11_count wsX11_countOf := goodIn_r _ [14] (by decide +kernel) (by decide +kernel)
set_option maxRecDepth 20000 in
theorem gX11_count_X11_countOf : GoodIn wsX11_count (va_wsS RX11 378 yX11_countOf wsX11_countOf) := goodIn_app (goodIn_of _ (by decide +kernel)) ggX11_count_X11_countOf
set_option maxRecDepth 20000 in
theorem ggX11_count_X11_ways : GoodIn wsX11_count wsX11_ways := goodIn_r _ [18, 1, 19, 20, 21, 9, 22, 23, 24, 25, 26, 27, 28, 29, 30, 31, 32, 33, 34, 35, 36, 37, 38, 39, 40, 41, 42, 43, 44, 45, 46, 47, 48, 49, 50, 51, 52, 53, 54, 55, 56, 57, 58, 59, 60, 61, 62, 63, 64, 65, 66, 67, 68, 69, 70, 71, 72, 73, 74, 75, 76, 77, 78, 79, 80, 81, 82] (by decide +kernel) (by decide +kernel)
set_option maxRecDepth 20000 in
theorem gX11_count_X11_ways : GoodIn wsX11_count (wsV RX11 343 RX11 yX11_ways wsX11_ways) := goodIn_app (goodIn_of _ (by decide +kernel)) ggX11_count_X11_ways
theorem dX11_count_0 : decode cX11_count 0 = .ok (.iload_n 1, 1) := by decide +kernel
theorem dX11_count_1 : decode cX11_count 1 = .ok (.tableswitch 105 0 5 #[39, 44, 52, 57, 77, 82], 39) := by decide +kernel
theorem dX11_count_40 : decode cX11_count 40 = .ok (.aload_n 0, 1) := by decide +kernel
theorem dX11_count_41 : decode cX11_count 41 = .ok (.getfield 121, 3) := by decide +kernel
theorem dX11_count_44 : decode cX11_count 44 = .ok (.ireturn, 1) := by decide +kernel
theorem dX11_count_45 : decode cX11_count 45 = .ok (.aload_n 0, 1) := by decide +kernel
theorem dX11_count_46 : decode cX11_count 46 = .ok (.invokevirtual 324, 3) := by decide +kernel
theorem dX11_count_49 : decode cX11_count 49 = .ok (.invokestatic 378, 3) := by decide +kernel
theorem dX11_count_52 : decode cX11_count 52 = .ok (.ireturn, 1) := by decide +kernel
theorem dX11_count_53 : decode cX11_count 53 = .ok (.aload_n 0, 1) := by decide +kernel
theorem dX11_count_54 : decode cX11_count 54 = .ok (.getfield 288, 3) := by decide +kernel
theorem dX11_count_57 : decode cX11_count 57 = .ok (.ireturn, 1) := by decide +kernel
theorem dX11_count_58 : decode cX11_count 58 = .ok (.aload_n 0, 1) := by decide +kernel
theorem dX11_count_59 : decode cX11_count 59 = .ok (.invokevirtual 343, 3) := by decide +kernel
theorem dX11_count_62 : decode cX11_count 62 = .ok (.sipush 20000, 3) := by decide +kernel
theorem dX11_count_65 : decode cX11_count 65 = .ok (.if_icmp .le 8, 3) := by decide +kernel
theorem dX11_count_68 : decode cX11_count 68 = .ok (.bipush (-6), 2) := by decide +kernel
theorem dX11_count_70 : decode cX11_count 70 = .ok (.goto 7, 3) := by decide +kernel
theorem dX11_count_73 : decode cX11_count 73 = .ok (.aload_n 0, 1) := by decide +kernel
theorem dX11_count_74 : decode cX11_count 74 = .ok (.invokevirtual 343, 3) := by decide +kernel
theorem dX11_count_77 : decode cX11_count 77 = .ok (.ireturn, 1) := by decide +kernel
theorem dX11_count_78 : decode cX11_count 78 = .ok (.aload_n 0, 1) := by decide +kernel
theorem dX11_count_79 : decode cX11_count 79 = .ok (.getfield 136, 3) := by decide +kernel
theorem dX11_count_82 : decode cX11_count 82 = .ok (.ireturn, 1) := by decide +kernel
theorem dX11_count_83 : decode cX11_count 83 = .ok (.aload_n 0, 1) := by decide +kernel
theorem dX11_count_84 : decode cX11_count 84 = .ok (.getfield 83, 3) := by decide +kernel
theorem dX11_count_87 : decode cX11_count 87 = .ok (.iconst 0, 1) := by decide +kernel
theorem dX11_count_88 : decode cX11_count 88 = .ok (.iaload, 1) := by decide +kernel
theorem dX11_count_89 : decode cX11_count 89 = .ok (.bipush (-4), 2) := by decide +kernel
theorem dX11_count_91 : decode cX11_count 91 = .ok (.if_icmp .ne 8, 3) := by decide +kernel
theorem dX11_count_94 : decode cX11_count 94 = .ok (.bipush (-4), 2) := by decide +kernel
theorem dX11_count_96 : decode cX11_count 96 = .ok (.goto 9, 3) := by decide +kernel
theorem dX11_count_99 : decode cX11_count 99 = .ok (.aload_n 0, 1) := by decide +kernel
theorem dX11_count_100 : decode cX11_count 100 = .ok (.getfield 86, 3) := by decide +kernel
theorem dX11_count_103 : decode cX11_count 103 = .ok (.iconst 0, 1) := by decide +kernel
theorem dX11_count_104 : decode cX11_count 104 = .ok (.iaload, 1) := by decide +kernel
theorem dX11_count_105 : decode cX11_count 105 = .ok (.ireturn, 1) := by decide +kernel
theorem dX11_count_106 : decode cX11_count 106 = .ok (.iconst (-1), 1) := by decide +kernel
theorem dX11_count_107 : decode cX11_count 107 = .ok (.ireturn, 1) := by decide +kernel
theorem dJ6_bitCount_0f7a4_0 : decode cJ6_bitCount_0f7a4 0 = .ok (.iload_n 0, 1) := by decide +kernel
theorem dJ6_bitCount_0f7a4_1 : decode cJ6_bitCount_0f7a4 1 = .ok (.iload_n 0, 1) := by decide +kernel
theorem dJ6_bitCount_0f7a4_2 : decode cJ6_bitCount_0f7a4 2 = .ok (.iconst 1, 1) := by decide +kernel
theorem dJ6_bitCount_0f7a4_3 : decode cJ6_bitCount_0f7a4 3 = .ok (.iushr, 1) := by decide +kernel
theorem dJ6_bitCount_0f7a4_4 : decode cJ6_bitCount_0f7a4 4 = .ok (.ldc_w 265, 3) := by decide +kernel
theorem dJ6_bitCount_0f7a4_7 : decode cJ6_bitCount_0f7a4 7 = .ok (.iand, 1) := by decide +kernel
theorem dJ6_bitCount_0f7a4_8 : decode cJ6_bitCount_0f7a4 8 = .ok (.isub, 1) := by decide +kernel
theorem dJ6_bitCount_0f7a4_9 : decode cJ6_bitCount_0f7a4 9 = .ok (.istore_n 0, 1) := by decide +kernel
theorem dJ6_bitCount_0f7a4_10 : decode cJ6_bitCount_0f7a4 10 = .ok (.iload_n 0, 1) := by decide +kernel
theorem dJ6_bitCount_0f7a4_11 : decode cJ6_bitCount_0f7a4 11 = .ok (.ldc_w 266, 3) := by decide +kernel
theorem dJ6_bitCount_0f7a4_14 : decode cJ6_bitCount_0f7a4 14 = .ok (.iand, 1) := by decide +kernel
theorem dJ6_bitCount_0f7a4_15 : decode cJ6_bitCount_0f7a4 15 = .ok (.iload_n 0, 1) := by decide +kernel
theorem dJ6_bitCount_0f7a4_16 : decode cJ6_bitCount_0f7a4 16 = .ok (.iconst 2, 1) := by decide +kernel
theorem dJ6_bitCount_0f7a4_17 : decode cJ6_bitCount_0f7a4 17 = .ok (.iushr, 1) := by decide +kernel
theorem dJ6_bitCount_0f7a4_18 : decode cJ6_bitCount_0f7a4 18 = .ok (.ldc_w 266, 3) := by decide +kernel
theorem dJ6_bitCount_0f7a4_21 : decode cJ6_bitCount_0f7a4 21 = .ok (.iand, 1) := by decide +kernel
theorem dJ6_bitCount_0f7a4_22 : decode cJ6_bitCount_0f7a4 22 = .ok (.iadd, 1) := by decide +kernel
theorem dJ6_bitCount_0f7a4_23 : decode cJ6_bitCount_0f7a4 23 = .ok (.istore_n 0, 1) := by decide +kernel
theorem dJ6_bitCount_0f7a4_24 : decode cJ6_bitCount_0f7a4 24 = .ok (.iload_n 0, 1) := by decide +kernel
theorem dJ6_bitCount_0f7a4_25 : decode cJ6_bitCount_0f7a4 25 = .ok (.iload_n 0, 1) := by decide +kernel
theorem dJ6_bitCount_0f7a4_26 : decode cJ6_bitCount_0f7a4 26 = .ok (.iconst 4, 1) := by decide +kernel
theorem dJ6_bitCount_0f7a4_27 : decode cJ6_bitCount_0f7a4 27 = .ok (.iushr, 1) := by decide +kernel
theorem dJ6_bitCount_0f7a4_28 : decode cJ6_bitCount_0f7a4 28 = .ok (.iadd, 1) := by decide +kernel
theorem dJ6_bitCount_0f7a4_29 : decode cJ6_bitCount_0f7a4 29 = .ok (.ldc_w 267, 3) := by decide +kernel
theorem dJ6_bitCount_0f7a4_32 : decode cJ6_bitCount_0f7a4 32 = .ok (.iand, 1) := by decide +kernel
theorem dJ6_bitCount_0f7a4_33 : decode cJ6_bitCount_0f7a4 33 = .ok (.istore_n 0, 1) := by decide +kernel
theorem dJ6_bitCount_0f7a4_34 : decode cJ6_bitCount_0f7a4 34 = .ok (.iload_n 0, 1) := by decide +kernel
theorem dJ6_bitCount_0f7a4_35 : decode cJ6_bitCount_0f7a4 35 = .ok (.iload_n 0, 1) := by decide +kernel
theorem dJ6_bitCount_0f7a4_36 : decode cJ6_bitCount_0f7a4 36 = .ok (.bipush 8, 2) := by decide +kernel
theorem dJ6_bitCount_0f7a4_38 : decode cJ6_bitCount_0f7a4 38 = .ok (.iushr, 1) := by decide +kernel
theorem dJ6_bitCount_0f7a4_39 : decode cJ6_bitCount_0f7a4 39 = .ok (.iadd, 1) := by decide +kernel
theorem dJ6_bitCount_0f7a4_40 : decode cJ6_bitCount_0f7a4 40 = .ok (.istore_n 0, 1) := by decide +kernel
theorem dJ6_bitCount_0f7a4_41 : decode cJ6_bitCount_0f7a4 41 = .ok (.iload_n 0, 1) := by decide +kernel
theorem dJ6_bitCount_0f7a4_42 : decode cJ6_bitCount_0f7a4 42 = .ok (.iload_n 0, 1) := by decide +kernel
theorem dJ6_bitCount_0f7a4_43 : decode cJ6_bitCount_0f7a4 43 = .ok (.bipush 16, 2) := by decide +kernel
theorem dJ6_bitCount_0f7a4_45 : decode cJ6_bitCount_0f7a4 45 = .ok (.iushr, 1) := by decide +kernel
theorem dJ6_bitCount_0f7a4_46 : decode cJ6_bitCount_0f7a4 46 = .ok (.iadd, 1) := by decide +kernel
theorem dJ6_bitCount_0f7a4_47 : decode cJ6_bitCount_0f7a4 47 = .ok (.istore_n 0, 1) := by decide +kernel
theorem dJ6_bitCount_0f7a4_48 : decode cJ6_bitCount_0f7a4 48 = .ok (.iload_n 0, 1) := by decide +kernel
theorem dJ6_bitCount_0f7a4_49 : decode cJ6_bitCount_0f7a4 49 = .ok (.bipush 63, 2) := by decide +kernel
theorem dJ6_bitCount_0f7a4_51 : decode cJ6_bitCount_0f7a4 51 = .ok (.iand, 1) := by decide +kernel
theorem dJ6_bitCount_0f7a4_52 : decode cJ6_bitCount_0f7a4 52 = .ok (.ireturn, 1) := by decide +kernel
theorem dJ9_abs_0f7a4_0 : decode cJ9_abs_0f7a4 0 = .ok (.iload_n 0, 1) := by decide +kernel
theorem dJ9_abs_0f7a4_1 : decode cJ9_abs_0f7a4 1 = .ok (.ifCond .ge 8, 3) := by decide +kernel
theorem dJ9_abs_0f7a4_4 : decode cJ9_abs_0f7a4 4 = .ok (.iload_n 0, 1) := by decide +kernel
theorem dJ9_abs_0f7a4_5 : decode cJ9_abs_0f7a4 5 = .ok (.ineg, 1) := by decide +kernel
theorem dJ9_abs_0f7a4_6 : decode cJ9_abs_0f7a4 6 = .ok (.goto 4, 3) := by decide +kernel
theorem dJ9_abs_0f7a4_9 : decode cJ9_abs_0f7a4 9 = .ok (.iload_n 0, 1) := by decide +kernel
theorem dJ9_abs_0f7a4_10 : decode cJ9_abs_0f7a4 10 = .ok (.ireturn, 1) := by decide +kernel
theorem dJ9_max_7cf53_0 : decode cJ9_max_7cf53 0 = .ok (.iload_n 0, 1) := by decide +kernel
theorem dJ9_max_7cf53_1 : decode cJ9_max_7cf53 1 = .ok (.iload_n 1, 1) := by decide +kernel
theorem dJ9_max_7cf53_2 : decode cJ9_max_7cf53 2 = .ok (.if_icmp .lt 7, 3) := by decide +kernel
theorem dJ9_max_7cf53_5 : decode cJ9_max_7cf53 5 = .ok (.iload_n 0, 1) := by decide +kernel
theorem dJ9_max_7cf53_6 : decode cJ9_max_7cf53 6 = .ok (.goto 4, 3) := by decide +kernel
theorem dJ9_max_7cf53_9 : decode cJ9_max_7cf53 9 = .ok (.iload_n 1, 1) := by decide +kernel
theorem dJ9_max_7cf53_10 : decode cJ9_max_7cf53 10 = .ok (.ireturn, 1) := by decide +kernel
theorem dJ9_min_7cf53_0 : decode cJ9_min_7cf53 0 = .ok (.iload_n 0, 1) := by decide +kernel
theorem dJ9_min_7cf53_1 : decode cJ9_min_7cf53 1 = .ok (.iload_n 1, 1) := by decide +kernel
theorem dJ9_min_7cf53_2 : decode cJ9_min_7cf53 2 = .ok (.if_icmp .gt 7, 3) := by decide +kernel
theorem dJ9_min_7cf53_5 : decode cJ9_min_7cf53 5 = .ok (.iload_n 0, 1) := by decide +kernel
theorem dJ9_min_7cf53_6 : decode cJ9_min_7cf53 6 = .ok (.goto 4, 3) := by decide +kernel
theorem dJ9_min_7cf53_9 : decode cJ9_min_7cf53 9 = .ok (.iload_n 1, 1) := by decide +kernel
theorem dJ9_min_7cf53_10 : decode cJ9_min_7cf53 10 = .ok (.ireturn, 1) := by decide +kernel
set_option maxRecDepth 20000 in
theorem ggJ0_length_8abf5_J0_coder_7d493 : GoodIn wsJ0_length_8abf5 wsJ0_coder_7d493 := goodIn_r _ [6, 7, 8] (by decide +kernel) (by decide +kernel)
set_option maxRecDepth 20000 in
theorem gJ0_length_8abf5_J0_coder_7d493 : GoodIn wsJ0_length_8abf5 (wsV RJ0 335 RJ0 yJ0_coder_7d493 wsJ0_coder_7d493) := goodIn_app (goodIn_of _ (by decide +kernel)) ggJ0_length_8abf5_J0_coder_7d493
theorem dJ0_length_8abf5_0 : decode cJ0_length_8abf5 0 = .ok (.aload_n 0, 1) := by decide +kernel
theorem dJ0_length_8abf5_1 : decode cJ0_length_8abf5 1 = .ok (.getfield 9, 3) := by decide +kernel
theorem dJ0_length_8abf5_4 : decode cJ0_length_8abf5 4 = .ok (.arraylength, 1) := by decide +kernel
theorem dJ0_length_8abf5_5 : decode cJ0_length_8abf5 5 = .ok (.aload_n 0, 1) := by decide +kernel
theorem dJ0_length_8abf5_6 : decode cJ0_length_8abf5 6 = .ok (.invokevirtual 335, 3) := by decide +kernel
theorem dJ0_length_8abf5_9 : decode cJ0_length_8abf5 9 = .ok (.ishr, 1) := by decide +kernel
theorem dJ0_length_8abf5_10 : decode cJ0_length_8abf5 10 = .ok (.ireturn, 1) := by decide +kernel
set_option maxRecDepth 20000 in
theorem ggJ0_charAt_5068e_J0_isLatin1_aae02 : GoodIn wsJ0_charAt_5068e wsJ0_isLatin1_aae02 := goodIn_r _ [6, 7, 8] (by decide +kernel) (by decide +kernel)
set_option maxRecDepth 20000 in
theorem gJ0_charAt_5068e_J0_isLatin1_aae02 : GoodIn wsJ0_charAt_5068e (wsV RJ0 492 RJ0 yJ0_isLatin1_aae02 wsJ0_isLatin1_aae02) := goodIn_app (goodIn_of _ (by decide +kernel)) ggJ0_charAt_5068e_J0_isLatin1_aae02
set_option maxRecDepth 20000 in
theorem ggJ0_charAt_5068e_J1_charAt_3b067 : GoodIn wsJ0_charAt_5068e wsJ1_charAt_3b067 := goodIn_r _ [12, 13, 14, 5, 15, 16, 17, 18, 19, 20] (by decide +kernel) (by decide +kernel)
set_option maxRecDepth 20000 in
theorem gJ0_charAt_5068e_J1_charAt_3b067 : GoodIn wsJ0_charAt_5068e (va_wsS RJ0 495 yJ1_charAt_3b067 wsJ1_charAt_3b067) := goodIn_app (goodIn_of _ (by decide +kernel)) ggJ0_charAt_5068e_J1_charAt_3b067
set_option maxRecDepth 20000 in
theorem ggJ0_charAt_5068e_J2_charAt_3b067 : GoodIn wsJ0_charAt_5068e wsJ2_charAt_3b067 := goodIn_r _ [24, 25, 26, 23, 27, 28, 29, 30, 31, 14, 5, 15, 16, 17, 18, 19, 20, 32, 33, 34, 35, 36, 37] (by decide +kernel) (by decide +kernel)
set_option maxRecDepth 20000 in
theorem gJ0_charAt_5068e_J2_charAt_3b067 : GoodIn wsJ0_charAt_5068e (va_wsS RJ0 498 yJ2_charAt_3b067 wsJ2_charAt_3b067) := goodIn_app (goodIn_of _ (by decide +kernel)) ggJ0_charAt_5068e_J2_charAt_3b067
theorem dJ0_charAt_5068e_0 : decode cJ0_charAt_5068e 0 = .ok (.aload_n 0, 1) := by decide +kernel
theorem dJ0_charAt_5068e_1 : decode cJ0_charAt_5068e 1 = .ok (.invokevirtual 492, 3) := by decide +kernel
theorem dJ0_charAt_5068e_4 : decode cJ0_charAt_5068e 4 = .ok (.ifCond .eq 12, 3) := by decide +kernel
theorem dJ0_charAt_5068e_7 : decode cJ0_charAt_5068e 7 = .ok (.aload_n 0, 1) := by decide +kernel
theorem dJ0_charAt_5068e_8 : decode cJ0_charAt_5068e 8 = .ok (.getfield 9, 3) := by decide +kernel
theorem dJ0_charAt_5068e_11 : decode cJ0_charAt_5068e 11 = .ok (.iload_n 1, 1) := by decide +kernel
theorem dJ0_charAt_5068e_12 : decode cJ0_charAt_5068e 12 = .ok (.invokestatic 495, 3) := by decide +kernel
theorem dJ0_charAt_5068e_15 : decode cJ0_charAt_5068e 15 = .ok (.ireturn, 1) := by decide +kernel
theorem dJ0_charAt_5068e_16 : decode cJ0_charAt_5068e 16 = .ok (.aload_n 0, 1) := by decide +kernel
theorem dJ0_charAt_5068e_17 : decode cJ0_charAt_5068e 17 = .ok (.getfield 9, 3) := by decide +kernel
theorem dJ0_charAt_5068e_20 : decode cJ0_charAt_5068e 20 = .ok (.iload_n 1, 1) := by decide +kernel
theorem dJ0_charAt_5068e_21 : decode cJ0_charAt_5068e 21 = .ok (.invokestatic 498, 3) := by decide +kernel
theorem dJ0_charAt_5068e_24 : decode cJ0_charAt_5068e 24 = .ok (.ireturn, 1) := by decide +kernel
theorem dJ0_coder_7d493_0 : decode cJ0_coder_7d493 0 = .ok (.getstatic 38, 3) := by decide +kernel
theorem dJ0_coder_7d493_3 : decode cJ0_coder_7d493 3 = .ok (.ifCond .eq 10, 3) := by decide +kernel
theorem dJ0_coder_7d493_6 : decode cJ0_coder_7d493 6 = .ok (.aload_n 0, 1) := by decide +kernel
theorem dJ0_coder_7d493_7 : decode cJ0_coder_7d493 7 = .ok (.getfield 15, 3) := by decide +kernel
theorem dJ0_coder_7d493_10 : decode cJ0_coder_7d493 10 = .ok (.goto 4, 3) := by decide +kernel
theorem dJ0_coder_7d493_13 : decode cJ0_coder_7d493 13 = .ok (.iconst 1, 1) := by decide +kernel
theorem dJ0_coder_7d493_14 : decode cJ0_coder_7d493 14 = .ok (.ireturn, 1) := by decide +kernel
theorem dJ0_isLatin1_aae02_0 : decode cJ0_isLatin1_aae02 0 = .ok (.getstatic 38, 3) := by decide +kernel
theorem dJ0_isLatin1_aae02_3 : decode cJ0_isLatin1_aae02 3 = .ok (.ifCond .eq 14, 3) := by decide +kernel
theorem dJ0_isLatin1_aae02_6 : decode cJ0_isLatin1_aae02 6 = .ok (.aload_n 0, 1) := by decide +kernel
theorem dJ0_isLatin1_aae02_7 : decode cJ0_isLatin1_aae02 7 = .ok (.getfield 15, 3) := by decide +kernel
theorem dJ0_isLatin1_aae02_10 : decode cJ0_isLatin1_aae02 10 = .ok (.ifCond .ne 7, 3) := by decide +kernel
theorem dJ0_isLatin1_aae02_13 : decode cJ0_isLatin1_aae02 13 = .ok (.iconst 1, 1) := by decide +kernel
theorem dJ0_isLatin1_aae02_14 : decode cJ0_isLatin1_aae02 14 = .ok (.goto 4, 3) := by decide +kernel
theorem dJ0_isLatin1_aae02_17 : decode cJ0_isLatin1_aae02 17 = .ok (.iconst 0, 1) := by decide +kernel
theorem dJ0_isLatin1_aae02_18 : decode cJ0_isLatin1_aae02 18 = .ok (.ireturn, 1) := by decide +kernel
set_option maxRecDepth 20000 in
theorem ggJ0_checkIndex_df160_J3_checkIndex_8e157 : GoodIn wsJ0_checkIndex_df160 wsJ3_checkIndex_8e157 := goodIn_r _ [5] (by decide +kernel) (by decide +kernel)
set_option maxRecDepth 20000 in
theorem gJ0_checkIndex_df160_J3_checkIndex_8e157 : GoodIn wsJ0_checkIndex_df160 (va_wsS RJ0 1059 yJ3_checkIndex_8e157 wsJ3_checkIndex_8e157) := goodIn_app (goodIn_of _ (by decide +kernel)) ggJ0_checkIndex_df160_J3_checkIndex_8e157
theorem dJ0_checkIndex_df160_0 : decode cJ0_checkIndex_df160 0 = .ok (.iload_n 0, 1) := by decide +kernel
theorem dJ0_checkIndex_df160_1 : decode cJ0_checkIndex_df160 1 = .ok (.iload_n 1, 1) := by decide +kernel
theorem dJ0_checkIndex_df160_2 : decode cJ0_checkIndex_df160 2 = .ok (.getstatic 1053, 3) := by decide +kernel
theorem dJ0_checkIndex_df160_5 : decode cJ0_checkIndex_df160 5 = .ok (.invokestatic 1059, 3) := by decide +kernel
theorem dJ0_checkIndex_df160_8 : decode cJ0_checkIndex_df160 8 = .ok (.pop, 1) := by decide +kernel
theorem dJ0_checkIndex_df160_9 : decode cJ0_checkIndex_df160 9 = .ok (.return_, 1) := by decide +kernel
set_option maxRecDepth 20000 in
theorem ggJ1_charAt_3b067_J0_checkIndex_df160 : GoodIn wsJ1_charAt_3b067 wsJ0_checkIndex_df160 := goodIn_r _ [4, 5, 6, 7, 8, 9] (by decide +kernel) (by decide +kernel)
set_option maxRecDepth 20000 in
theorem gJ1_charAt_3b067_J0_checkIndex_df160 : GoodIn wsJ1_charAt_3b067 (va_wsS RJ1 9 yJ0_checkIndex_df160 wsJ0_checkIndex_df160) := goodIn_app (goodIn_of _ (by decide +kernel)) ggJ1_charAt_3b067_J0_checkIndex_df160
theorem dJ1_charAt_3b067_0 : decode cJ1_charAt_3b067 0 = .ok (.iload_n 1, 1) := by decide +kernel
theorem dJ1_charAt_3b067_1 : decode cJ1_charAt_3b067 1 = .ok (.aload_n 0, 1) := by decide +kernel
theorem dJ1_charAt_3b067_2 : decode cJ1_charAt_3b067 2 = .ok (.arraylength, 1) := by decide +kernel
theorem dJ1_charAt_3b067_3 : decode cJ1_charAt_3b067 3 = .ok (.invokestatic 9, 3) := by decide +kernel
theorem dJ1_charAt_3b067_6 : decode cJ1_charAt_3b067 6 = .ok (.aload_n 0, 1) := by decide +kernel
theorem dJ1_charAt_3b067_7 : decode cJ1_charAt_3b067 7 = .ok (.iload_n 1, 1) := by decide +kernel
theorem dJ1_charAt_3b067_8 : decode cJ1_charAt_3b067 8 = .ok (.baload, 1) := by decide +kernel
theorem dJ1_charAt_3b067_9 : decode cJ1_charAt_3b067 9 = .ok (.sipush 255, 3) := by decide +kernel
theorem dJ1_charAt_3b067_12 : decode cJ1_charAt_3b067 12 = .ok (.iand, 1) := by decide +kernel
theorem dJ1_charAt_3b067_13 : decode cJ1_charAt_3b067 13 = .ok (.i2c, 1) := by decide +kernel
theorem dJ1_charAt_3b067_14 : decode cJ1_charAt_3b067 14 = .ok (.ireturn, 1) := by decide +kernel
set_option maxRecDepth 20000 in
theorem ggJ2_getChar_3b067_J2_length_9d52b : GoodIn wsJ2_getChar_3b067 wsJ2_length_9d52b := goodIn_r _ [7] (by decide +kernel) (by decide +kernel)
set_option maxRecDepth 20000 in
theorem gJ2_getChar_3b067_J2_length_9d52b : GoodIn wsJ2_getChar_3b067 (va_wsS RJ2 48 yJ2_length_9d52b wsJ2_length_9d52b) := goodIn_app (goodIn_of _ (by decide +kernel)) ggJ2_getChar_3b067_J2_length_9d52b
theorem dJ2_getChar_3b067_0 : decode cJ2_getChar_3b067 0 = .ok (.getstatic 44, 3) := by decide +kernel
theorem dJ2_getChar_3b067_3 : decode cJ2_getChar_3b067 3 = .ok (.ifCond .ne 25, 3) := by decide +kernel
theorem dJ2_getChar_3b067_6 : decode cJ2_getChar_3b067 6 = .ok (.iload_n 1, 1) := by decide +kernel
theorem dJ2_getChar_3b067_7 : decode cJ2_getChar_3b067 7 = .ok (.ifCond .lt 11, 3) := by decide +kernel
theorem dJ2_getChar_3b067_10 : decode cJ2_getChar_3b067 10 = .ok (.iload_n 1, 1) := by decide +kernel
theorem dJ2_getChar_3b067_11 : decode cJ2_getChar_3b067 11 = .ok (.aload_n 0, 1) := by decide +kernel
theorem dJ2_getChar_3b067_12 : decode cJ2_getChar_3b067 12 = .ok (.invokestatic 48, 3) := by decide +kernel
theorem dJ2_getChar_3b067_15 : decode cJ2_getChar_3b067 15 = .ok (.if_icmp .lt 13, 3) := by decide +kernel
theorem dJ2_getChar_3b067_18 : decode cJ2_getChar_3b067 18 = .ok (.new 52, 3) := by decide +kernel
theorem dJ2_getChar_3b067_21 : decode cJ2_getChar_3b067 21 = .ok (.dup, 1) := by decide +kernel
theorem dJ2_getChar_3b067_22 : decode cJ2_getChar_3b067 22 = .ok (.ldc 54, 2) := by decide +kernel
theorem dJ2_getChar_3b067_24 : decode cJ2_getChar_3b067 24 = .ok (.invokespecial 56, 3) := by decide +kernel
theorem dJ2_getChar_3b067_27 : decode cJ2_getChar_3b067 27 = .ok (.athrow, 1) := by decide +kernel
theorem dJ2_getChar_3b067_28 : decode cJ2_getChar_3b067 28 = .ok (.iload_n 1, 1) := by decide +kernel
theorem dJ2_getChar_3b067_29 : decode cJ2_getChar_3b067 29 = .ok (.iconst 1, 1) := by decide +kernel
theorem dJ2_getChar_3b067_30 : decode cJ2_getChar_3b067 30 = .ok (.ishl, 1) := by decide +kernel
theorem dJ2_getChar_3b067_31 : decode cJ2_getChar_3b067 31 = .ok (.istore_n 1, 1) := by decide +kernel
theorem dJ2_getChar_3b067_32 : decode cJ2_getChar_3b067 32 = .ok (.aload_n 0, 1) := by decide +kernel
theorem dJ2_getChar_3b067_33 : decode cJ2_getChar_3b067 33 = .ok (.iload_n 1, 1) := by decide +kernel
theorem dJ2_getChar_3b067_34 : decode cJ2_getChar_3b067 34 = .ok (.iinc 1 1, 3) := by decide +kernel
theorem dJ2_getChar_3b067_37 : decode cJ2_getChar_3b067 37 = .ok (.baload, 1) := by decide +kernel
theorem dJ2_getChar_3b067_38 : decode cJ2_getChar_3b067 38 = .ok (.sipush 255, 3) := by decide +kernel
theorem dJ2_getChar_3b067_41 : decode cJ2_getChar_3b067 41 = .ok (.iand, 1) := by decide +kernel
theorem dJ2_getChar_3b067_42 : decode cJ2_getChar_3b067 42 = .ok (.getstatic 59, 3) := by decide +kernel
theorem dJ2_getChar_3b067_45 : decode cJ2_getChar_3b067 45 = .ok (.ishl, 1) := by decide +kernel
theorem dJ2_getChar_3b067_46 : decode cJ2_getChar_3b067 46 = .ok (.aload_n 0, 1) := by decide +kernel
theorem dJ2_getChar_3b067_47 : decode cJ2_getChar_3b067 47 = .ok (.iload_n 1, 1) := by decide +kernel
theorem dJ2_getChar_3b067_48 : decode cJ2_getChar_3b067 48 = .ok (.baload, 1) := by decide +kernel
theorem dJ2_getChar_3b067_49 : decode cJ2_getChar_3b067 49 = .ok (.sipush 255, 3) := by decide +kernel
theorem dJ2_getChar_3b067_52 : decode cJ2_getChar_3b067 52 = .ok (.iand, 1) := by decide +kernel
theorem dJ2_getChar_3b067_53 : decode cJ2_getChar_3b067 53 = .ok (.getstatic 63, 3) := by decide +kernel
theorem dJ2_getChar_3b067_56 : decode cJ2_getChar_3b067 56 = .ok (.ishl, 1) := by decide +kernel
theorem dJ2_getChar_3b067_57 : decode cJ2_getChar_3b067 57 = .ok (.ior, 1) := by decide +kernel
theorem dJ2_getChar_3b067_58 : decode cJ2_getChar_3b067 58 = .ok (.i2c, 1) := by decide +kernel
theorem dJ2_getChar_3b067_59 : decode cJ2_getChar_3b067 59 = .ok (.ireturn, 1) := by decide +kernel
theorem dJ2_length_9d52b_0 : decode cJ2_length_9d52b 0 = .ok (.aload_n 0, 1) := by decide +kernel
theorem dJ2_length_9d52b_1 : decode cJ2_length_9d52b 1 = .ok (.arraylength, 1) := by decide +kernel
theorem dJ2_length_9d52b_2 : decode cJ2_length_9d52b 2 = .ok (.iconst 1, 1) := by decide +kernel
theorem dJ2_length_9d52b_3 : decode cJ2_length_9d52b 3 = .ok (.ishr, 1) := by decide +kernel
theorem dJ2_length_9d52b_4 : decode cJ2_length_9d52b 4 = .ok (.ireturn, 1) := by decide +kernel
set_option maxRecDepth 20000 in
theorem ggJ2_charAt_3b067_J2_checkIndex_2214a : GoodIn wsJ2_charAt_3b067 wsJ2_checkIndex_2214a := goodIn_r _ [4, 5, 6, 3, 7, 8, 9, 10, 11, 12, 13, 14, 15, 16] (by decide +kernel) (by decide +kernel)
set_option maxRecDepth 20000 in
theorem gJ2_charAt_3b067_J2_checkIndex_2214a : GoodIn wsJ2_charAt_3b067 (va_wsS RJ2 67 yJ2_checkIndex_2214a wsJ2_checkIndex_2214a) := goodIn_app (goodIn_of _ (by decide +kernel)) ggJ2_charAt_3b067_J2_checkIndex_2214a
set_option maxRecDepth 20000 in
theorem ggJ2_charAt_3b067_J2_getChar_3b067 : GoodIn wsJ2_charAt_3b067 wsJ2_getChar_3b067 := goodIn_r _ [19, 20, 21, 22, 5, 6, 3, 7] (by decide +kernel) (by decide +kernel)
set_option maxRecDepth 20000 in
theorem gJ2_charAt_3b067_J2_getChar_3b067 : GoodIn wsJ2_charAt_3b067 (va_wsS RJ2 71 yJ2_getChar_3b067 wsJ2_getChar_3b067) := goodIn_app (goodIn_of _ (by decide +kernel)) ggJ2_charAt_3b067_J2_getChar_3b067
theorem dJ2_charAt_3b067_0 : decode cJ2_charAt_3b067 0 = .ok (.iload_n 1, 1) := by decide +kernel
theorem dJ2_charAt_3b067_1 : decode cJ2_charAt_3b067 1 = .ok (.aload_n 0, 1) := by decide +kernel
theorem dJ2_charAt_3b067_2 : decode cJ2_charAt_3b067 2 = .ok (.invokestatic 67, 3) := by decide +kernel
theorem dJ2_charAt_3b067_5 : decode cJ2_charAt_3b067 5 = .ok (.aload_n 0, 1) := by decide +kernel
theorem dJ2_charAt_3b067_6 : decode cJ2_charAt_3b067 6 = .ok (.iload_n 1, 1) := by decide +kernel
theorem dJ2_charAt_3b067_7 : decode cJ2_charAt_3b067 7 = .ok (.invokestatic 71, 3) := by decide +kernel
theorem dJ2_charAt_3b067_10 : decode cJ2_charAt_3b067 10 = .ok (.ireturn, 1) := by decide +kernel
set_option maxRecDepth 20000 in
theorem ggJ2_checkIndex_2214a_J2_length_9d52b : GoodIn wsJ2_checkIndex_2214a wsJ2_length_9d52b := goodIn_r _ [4] (by decide +kernel) (by decide +kernel)
set_option maxRecDepth 20000 in
theorem gJ2_checkIndex_2214a_J2_length_9d52b : GoodIn wsJ2_checkIndex_2214a (va_wsS RJ2 48 yJ2_length_9d52b wsJ2_length_9d52b) := goodIn_app (goodIn_of _ (by decide +kernel)) ggJ2_checkIndex_2214a_J2_length_9d52b
set_option maxRecDepth 20000 in
theorem ggJ2_checkIndex_2214a_J0_checkIndex_df160 : GoodIn wsJ2_checkIndex_2214a wsJ0_checkIndex_df160 := goodIn_r _ [8, 9, 10, 11, 12, 13] (by decide +kernel) (by decide +kernel)
set_option maxRecDepth 20000 in
theorem gJ2_checkIndex_2214a_J0_checkIndex_df160 : GoodIn wsJ2_checkIndex_2214a (va_wsS RJ2 414 yJ0_checkIndex_df160 wsJ0_checkIndex_df160) := goodIn_app (goodIn_of _ (by decide +kernel)) ggJ2_checkIndex_2214a_J0_checkIndex_df160
theorem dJ2_checkIndex_2214a_0 : decode cJ2_checkIndex_2214a 0 = .ok (.iload_n 0, 1) := by decide +kernel
theorem dJ2_checkIndex_2214a_1 : decode cJ2_checkIndex_2214a 1 = .ok (.aload_n 1, 1) := by decide +kernel
theorem dJ2_checkIndex_2214a_2 : decode cJ2_checkIndex_2214a 2 = .ok (.invokestatic 48, 3) := by decide +kernel
theorem dJ2_checkIndex_2214a_5 : decode cJ2_checkIndex_2214a 5 = .ok (.invokestatic 414, 3) := by decide +kernel
theorem dJ2_checkIndex_2214a_8 : decode cJ2_checkIndex_2214a 8 = .ok (.return_, 1) := by decide +kernel
theorem dJ7_fill_d0a16_0 : decode cJ7_fill_d0a16 0 = .ok (.iconst 0, 1) := by decide +kernel
theorem dJ7_fill_d0a16_1 : decode cJ7_fill_d0a16 1 = .ok (.istore_n 3, 1) := by decide +kernel
theorem dJ7_fill_d0a16_2 : decode cJ7_fill_d0a16 2 = .ok (.aload_n 0, 1) := by decide +kernel
theorem dJ7_fill_d0a16_3 : decode cJ7_fill_d0a16 3 = .ok (.arraylength, 1) := by decide +kernel
theorem dJ7_fill_d0a16_4 : decode cJ7_fill_d0a16 4 = .ok (.istore 4, 2) := by decide +kernel
theorem dJ7_fill_d0a16_6 : decode cJ7_fill_d0a16 6 = .ok (.iload_n 3, 1) := by decide +kernel
theorem dJ7_fill_d0a16_7 : decode cJ7_fill_d0a16 7 = .ok (.iload 4, 2) := by decide +kernel
theorem dJ7_fill_d0a16_9 : decode cJ7_fill_d0a16 9 = .ok (.if_icmp .ge 13, 3) := by decide +kernel
theorem dJ7_fill_d0a16_12 : decode cJ7_fill_d0a16 12 = .ok (.aload_n 0, 1) := by decide +kernel
theorem dJ7_fill_d0a16_13 : decode cJ7_fill_d0a16 13 = .ok (.iload_n 3, 1) := by decide +kernel
theorem dJ7_fill_d0a16_14 : decode cJ7_fill_d0a16 14 = .ok (.lload_n 1, 1) := by decide +kernel
theorem dJ7_fill_d0a16_15 : decode cJ7_fill_d0a16 15 = .ok (.lastore, 1) := by decide +kernel
theorem dJ7_fill_d0a16_16 : decode cJ7_fill_d0a16 16 = .ok (.iinc 3 1, 3) := by decide +kernel
theorem dJ7_fill_d0a16_19 : decode cJ7_fill_d0a16 19 = .ok (.goto (-13), 3) := by decide +kernel
theorem dJ7_fill_d0a16_22 : decode cJ7_fill_d0a16 22 = .ok (.return_, 1) := by decide +kernel
theorem dJ7_fill_53178_0 : decode cJ7_fill_53178 0 = .ok (.iconst 0, 1) := by decide +kernel
theorem dJ7_fill_53178_1 : decode cJ7_fill_53178 1 = .ok (.istore_n 2, 1) := by decide +kernel
theorem dJ7_fill_53178_2 : decode cJ7_fill_53178 2 = .ok (.aload_n 0, 1) := by decide +kernel
theorem dJ7_fill_53178_3 : decode cJ7_fill_53178 3 = .ok (.arraylength, 1) := by decide +kernel
theorem dJ7_fill_53178_4 : decode cJ7_fill_53178 4 = .ok (.istore_n 3, 1) := by decide +kernel
theorem dJ7_fill_53178_5 : decode cJ7_fill_53178 5 = .ok (.iload_n 2, 1) := by decide +kernel
theorem dJ7_fill_53178_6 : decode cJ7_fill_53178 6 = .ok (.iload_n 3, 1) := by decide +kernel
theorem dJ7_fill_53178_7 : decode cJ7_fill_53178 7 = .ok (.if_icmp .ge 13, 3) := by decide +kernel
theorem dJ7_fill_53178_10 : decode cJ7_fill_53178 10 = .ok (.aload_n 0, 1) := by decide +kernel
theorem dJ7_fill_53178_11 : decode cJ7_fill_53178 11 = .ok (.iload_n 2, 1) := by decide +kernel
theorem dJ7_fill_53178_12 : decode cJ7_fill_53178 12 = .ok (.iload_n 1, 1) := by decide +kernel
theorem dJ7_fill_53178_13 : decode cJ7_fill_53178 13 = .ok (.iastore, 1) := by decide +kernel
theorem dJ7_fill_53178_14 : decode cJ7_fill_53178 14 = .ok (.iinc 2 1, 3) := by decide +kernel
theorem dJ7_fill_53178_17 : decode cJ7_fill_53178 17 = .ok (.goto (-12), 3) := by decide +kernel
theorem dJ7_fill_53178_20 : decode cJ7_fill_53178 20 = .ok (.return_, 1) := by decide +kernel
theorem dJ3_checkIndex_8e157_0 : decode cJ3_checkIndex_8e157 0 = .ok (.iload_n 0, 1) := by decide +kernel
theorem dJ3_checkIndex_8e157_1 : decode cJ3_checkIndex_8e157 1 = .ok (.ifCond .lt 8, 3) := by decide +kernel
theorem dJ3_checkIndex_8e157_4 : decode cJ3_checkIndex_8e157 4 = .ok (.iload_n 0, 1) := by decide +kernel
theorem dJ3_checkIndex_8e157_5 : decode cJ3_checkIndex_8e157 5 = .ok (.iload_n 1, 1) := by decide +kernel
theorem dJ3_checkIndex_8e157_6 : decode cJ3_checkIndex_8e157 6 = .ok (.if_icmp .lt 10, 3) := by decide +kernel
theorem dJ3_checkIndex_8e157_9 : decode cJ3_checkIndex_8e157 9 = .ok (.aload_n 2, 1) := by decide +kernel
theorem dJ3_checkIndex_8e157_10 : decode cJ3_checkIndex_8e157 10 = .ok (.iload_n 0, 1) := by decide +kernel
theorem dJ3_checkIndex_8e157_11 : decode cJ3_checkIndex_8e157 11 = .ok (.iload_n 1, 1) := by decide +kernel
theorem dJ3_checkIndex_8e157_12 : decode cJ3_checkIndex_8e157 12 = .ok (.invokestatic 95, 3) := by decide +kernel
theorem dJ3_checkIndex_8e157_15 : decode cJ3_checkIndex_8e157 15 = .ok (.athrow, 1) := by decide +kernel
theorem dJ3_checkIndex_8e157_16 : decode cJ3_checkIndex_8e157 16 = .ok (.iload_n 0, 1) := by decide +kernel
theorem dJ3_checkIndex_8e157_17 : decode cJ3_checkIndex_8e157 17 = .ok (.ireturn, 1) := by decide +kernel
set_option maxRecDepth 20000 in
theorem ggL_law_X10_init : GoodIn wsL_law wsX10_init := goodIn_r _ [9, 10, 11, 12, 13, 14, 15, 16, 17, 18, 19, 20, 21, 22, 23, 24, 25, 26, 27, 28, 29, 30, 31, 32, 33, 34, 35, 36, 37, 38, 39, 40, 41, 42, 43, 44, 45, 46, 47, 48, 49, 50, 51, 52, 53, 54, 55, 56, 57, 58, 59, 60, 61, 62, 63, 64, 65, 66, 67, 68, 69, 70, 71, 72, 73, 74, 75, 76, 77, 78, 79, 80, 81, 82, 83, 84, 85, 86, 87, 88, 89, 90, 91, 92, 93, 94, 95, 96, 97, 98, 99, 100, 101, 102, 103, 104, 105, 106, 107, 108, 109, 110, 111, 112, 113, 114, 115, 116, 117, 118, 119, 120, 121, 122, 123, 124, 125, 126, 127, 128, 129, 130, 131, 132, 133, 134, 135, 1241, 1242, 1172, 1173, 1174, 1175, 1176, 1177, 1178, 1179, 1180, 1181, 1243, 1244, 1245, 1246, 1247, 1248, 1249, 1250, 1251, 1252, 1253, 1254, 1255, 1256, 1257, 1258, 1259, 1260, 1261, 1262, 1263, 1264, 1265, 1266, 1267, 1268, 1269, 1270, 1271, 1272, 1273, 1274, 1275, 1276, 1277, 1278, 1279, 1280, 1281, 1282, 1283, 1284, 1285, 1286, 1287, 1288, 1289, 1290, 1291, 1292, 1293, 1294, 1295, 1296, 1297, 1298, 1299, 1300, 1301] (by decide +kernel) (by decide +kernel)
set_option maxRecDepth 20000 in
theorem gL_law_X10_init : GoodIn wsL_law (wsX10_init) := ggL_law_X10_init
set_option maxRecDepth 20000 in
theorem ggL_law_X11_init : GoodIn wsL_law wsX11_init := goodIn_r _ [138, 139, 11, 12, 51, 140, 141, 92, 142, 143, 144, 145, 146, 147, 148, 149, 150, 151, 152, 153, 154, 155, 156, 157, 158, 159, 160, 161, 162, 163, 164, 165, 166, 167, 168, 169, 5, 170, 171, 172, 173, 174, 175, 176, 177, 178, 179, 180, 181, 182, 183, 184, 185, 186, 187, 188, 189, 190, 191, 192, 193, 194, 195, 196, 197, 198, 199, 200, 201, 1182, 1183, 1184, 1185, 1186, 1187, 1188, 1189, 1190, 1191, 1192, 1193, 1194, 1195, 1196, 1197, 1198, 1199, 1200, 1201, 1202, 1203, 1204, 1205, 1206, 1207, 1208, 1209, 1210, 1211, 1212, 1213, 1214, 1215, 1216, 1217, 1218, 1219, 1220, 1221, 1222, 1223, 1224, 1225, 1226, 1227, 1228, 1229, 1230, 1231, 1232, 1233, 1234, 1235, 1236, 1237, 1238, 1239, 1240] (by decide +kernel) (by decide +kernel)
set_option maxRecDepth 20000 in
theorem gL_law_X11_init : GoodIn wsL_law (wsX11_init) := ggL_law_X11_init
set_option maxRecDepth 20000 in
theorem ggL_law_X10_feed : GoodIn wsL_law wsX10_feed := goodIn_r _ [205, 16, 206, 207, 208, 209, 15, 210, 53, 52, 1172, 1173, 1174, 1175, 1176, 1177, 1178, 1179, 1180, 1181, 1241, 1242] (by decide +kernel) (by decide +kernel)
set_option maxRecDepth 20000 in
theorem gL_law_X10_feed : GoodIn wsL_law (wsV RL 15 RX10 yX10_feed wsX10_feed) := goodIn_app (goodIn_of _ (by decide +kernel)) ggL_law_X10_feed
set_option maxRecDepth 20000 in
theorem ggL_law_X11_feed : GoodIn wsL_law wsX11_feed := goodIn_r _ [214, 215, 151, 216, 1182, 1183, 1184, 1185, 1186, 1187, 1188, 1189, 1190, 1191, 1192, 1193, 1194, 1195, 1196, 1197, 1198, 1199, 1200, 1201, 1202, 1203, 1204, 1205, 1206, 1207, 1208, 1209, 1210, 1211, 1212, 1213, 1214, 1215, 1216, 1217, 1218, 1219, 1220, 1221, 1222, 1223, 1224, 1225, 1226, 1227, 1228, 1229, 1230, 1231, 1232, 1233, 1234, 1235, 1236, 1237, 1238, 1239, 1240] (by decide +kernel) (by decide +kernel)
set_option maxRecDepth 20000 in
theorem gL_law_X11_feed : GoodIn wsL_law (wsV RL 19 RX11 yX11_feed wsX11_feed) := goodIn_app (goodIn_of _ (by decide +kernel)) ggL_law_X11_feed
set_option maxRecDepth 20000 in
theorem ggL_law_X10_end : GoodIn wsL_law wsX10_end := goodIn_r _ [220, 16, 206, 1172, 1173, 1174, 1175, 1176, 1177, 1178, 1179, 1180, 1181, 1241, 1242] (by decide +kernel) (by decide +kernel)
set_option maxRecDepth 20000 in
theorem gL_law_X10_end : GoodIn wsL_law (wsV RL 20 RX10 yX10_end wsX10_end) := goodIn_app (goodIn_of _ (by decide +kernel)) ggL_law_X10_end
set_option maxRecDepth 20000 in
theorem ggL_law_X11_end : GoodIn wsL_law wsX11_end := goodIn_r _ [224, 215, 225, 226, 5, 227, 1182, 1183, 1184, 1185, 1186, 1187, 1188, 1189, 1190, 1191, 1192, 1193, 1194, 1195, 1196, 1197, 1198, 1199, 1200, 1201, 1202, 1203, 1204, 1205, 1206, 1207, 1208, 1209, 1210, 1211, 1212, 1213, 1214, 1215, 1216, 1217, 1218, 1219, 1220, 1221, 1222, 1223, 1224, 1225, 1226, 1227, 1228, 1229, 1230, 1231, 1232, 1233, 1234, 1235, 1236, 1237, 1238, 1239, 1240] (by decide +kernel) (by decide +kernel)
set_option maxRecDepth 20000 in
theorem gL_law_X11_end : GoodIn wsL_law (wsV RL 24 RX11 yX11_end wsX11_end) := goodIn_app (goodIn_of _ (by decide +kernel)) ggL_law_X11_end
set_option maxRecDepth 20000 in
theorem ggL_law_X10_text : GoodIn wsL_law wsX10_text := goodIn_r _ [231, 45, 41, 16, 206, 232, 46, 233, 40, 20, 234, 235, 236, 44, 237, 131, 238, 239, 240, 241, 132, 242, 243, 244, 245, 39, 246, 122, 123, 124, 125, 247, 112, 113, 114, 248, 249, 250, 251, 130, 252, 253, 254, 255, 256, 257, 258, 259, 260, 261, 262, 263, 264, 265, 266, 267, 268, 269, 270, 271, 272, 273, 274, 275, 276, 277, 278, 279, 280, 281, 282, 283, 284, 285, 286, 287, 288, 289, 290, 291, 292, 293, 294, 295, 296, 297, 298, 299, 300, 301, 302, 303, 304, 305, 306, 307, 308, 309, 310, 311, 312, 313, 314, 315, 316, 317, 318, 319, 320, 321, 322, 323, 324, 325, 326, 327, 328, 329, 121, 330, 331, 332, 333, 334, 119, 335, 336, 337, 338, 339, 340, 341, 342, 343, 344, 345, 346, 347, 348, 349, 350, 351, 352, 353, 354, 355, 356, 357, 358, 359, 360, 134, 361, 362, 363, 364, 365, 366, 367, 368, 369, 135, 370, 371, 372, 373, 374, 375, 376, 377, 378, 379, 380, 381, 382, 383, 384, 385, 386, 387, 388, 389, 390, 391, 392, 393, 394, 395, 396, 397, 398, 399, 400, 401, 402, 403, 404, 405, 406, 407, 408, 409, 410, 411, 412, 413, 414, 415, 416, 417, 418, 419, 420, 421, 422, 423, 424, 19, 425, 61, 426, 62, 63, 64, 65, 66, 67, 68, 427, 428, 429, 430, 431, 432, 433, 434, 435, 436, 437, 2, 438, 28, 32, 439, 440, 441, 442, 27, 443, 94, 93, 1172, 1173, 1174, 1175, 1176, 1177, 1178, 1179, 1180, 1181, 1241, 1242, 1285, 1286, 1287, 1288, 1289, 1290, 1291, 1292, 1293, 1294, 1295, 1296, 1297, 1279, 1280, 1281, 1282, 1283, 1284, 1243, 1244, 1245, 1246, 1247, 1248, 1249, 1250, 1251, 1252, 1253, 1254, 1255, 1256, 1298, 1299, 1300, 1301, 1272, 1273, 1274, 1275, 1266, 1267, 1268, 1269, 1270, 1271] (by decide +kernel) (by decide +kernel)
set_option maxRecDepth 20000 in
theorem gL_law_X10_text : GoodIn wsL_law (wsV RL 25 RX10 yX10_text wsX10_text) := goodIn_app (goodIn_of _ (by decide +kernel)) ggL_law_X10_text
set_option maxRecDepth 20000 in
theorem ggL_law_X11_text : GoodIn wsL_law wsX11_text := goodIn_r _ [447, 448, 449, 450, 177, 146, 171, 147, 451, 215, 167, 168, 169, 5, 170, 172, 173, 174, 175, 176, 452, 453, 454, 455, 456, 457, 458, 459, 460, 461, 462, 463, 464, 465, 151, 225, 226, 227, 466, 467, 468, 469, 470, 471, 472, 473, 474, 475, 476, 477, 478, 479, 480, 481, 482, 483, 484, 485, 486, 487, 488, 143, 489, 490, 491, 492, 493, 494, 495, 496, 497, 498, 499, 500, 501, 502, 148, 503, 504, 505, 506, 507, 508, 509, 510, 511, 512, 513, 514, 515, 516, 517, 149, 518, 519, 520, 521, 522, 523, 524, 525, 526, 527, 528, 529, 144, 145, 530, 531, 532, 533, 150, 178, 179, 180, 181, 182, 183, 184, 185, 140, 141, 142, 186, 187, 188, 189, 190, 191, 192, 193, 194, 195, 196, 197, 152, 153, 154, 155, 156, 157, 198, 199, 200, 201, 1182, 1183, 1184, 1185, 1186, 1187, 1188, 1189, 1190, 1191, 1192, 1193, 1194, 1195, 1196, 1197, 1198, 1199, 1200, 1201, 1202, 1203, 1204, 1205, 1206, 1207, 1208, 1209, 1210, 1211, 1212, 1213, 1214, 1215, 1216, 1217, 1218, 1219, 1220, 1221, 1222, 1223, 1224, 1225, 1226, 1227, 1228, 1229, 1230, 1231, 1232, 1233, 1234, 1235, 1236, 1237, 1238, 1239, 1240] (by decide +kernel) (by decide +kernel)
set_option maxRecDepth 20000 in
theorem gL_law_X11_text : GoodIn wsL_law (wsV RL 29 RX11 yX11_text wsX11_text) := goodIn_app (goodIn_of _ (by decide +kernel)) ggL_law_X11_text
set_option maxRecDepth 20000 in
theorem ggL_law_X10_fault : GoodIn wsL_law wsX10_fault := goodIn_r _ [537, 46, 1172, 1173, 1174, 1175, 1176, 1177, 1178, 1179, 1180, 1181] (by decide +kernel) (by decide +kernel)
set_option maxRecDepth 20000 in
theorem gL_law_X10_fault : GoodIn wsL_law (wsV RL 30 RX10 yX10_fault wsX10_fault) := goodIn_app (goodIn_of _ (by decide +kernel)) ggL_law_X10_fault
set_option maxRecDepth 20000 in
theorem ggL_law_X11_fault : GoodIn wsL_law wsX11_fault := goodIn_r _ [541, 448, 1182, 1183, 1184, 1185, 1186, 1187, 1188, 1189, 1190, 1191, 1192, 1193, 1194, 1195, 1196, 1197, 1198, 1199, 1200, 1201, 1202, 1203, 1204, 1205, 1206, 1207, 1208, 1209, 1210, 1211, 1212, 1213, 1214, 1215, 1216, 1217, 1218, 1219, 1220, 1221, 1222, 1223, 1224, 1225, 1226, 1227, 1228, 1229, 1230, 1231, 1232, 1233, 1234, 1235, 1236, 1237, 1238, 1239, 1240] (by decide +kernel) (by decide +kernel)
set_option maxRecDepth 20000 in
theorem gL_law_X11_fault : GoodIn wsL_law (wsV RL 33 RX11 yX11_fault wsX11_fault) := goodIn_app (goodIn_of _ (by decide +kernel)) ggL_law_X11_fault
set_option maxRecDepth 20000 in
theorem ggL_law_X10_rail : GoodIn wsL_law wsX10_rail := goodIn_r _ [545, 40, 546, 547, 548, 39, 549, 122, 550, 388, 389, 390, 119, 1172, 1173, 1174, 1175, 1176, 1177, 1178, 1179, 1180, 1181, 1279, 1280, 1281, 1282, 1283, 1284] (by decide +kernel) (by decide +kernel)
set_option maxRecDepth 20000 in
theorem gL_law_X10_rail : GoodIn wsL_law (wsV RL 34 RX10 yX10_rail wsX10_rail) := goodIn_app (goodIn_of _ (by decide +kernel)) ggL_law_X10_rail
set_option maxRecDepth 20000 in
theorem ggL_law_X11_rail : GoodIn wsL_law wsX11_rail := goodIn_r _ [554, 480, 141, 555, 556, 557, 5, 558, 182, 225, 226, 227, 198, 199, 200, 201, 140, 1182, 1183, 1184, 1185, 1186, 1187, 1188, 1189, 1190, 1191, 1192, 1193, 1194, 1195, 1196, 1197, 1198, 1199, 1200, 1201, 1202, 1203, 1204, 1205, 1206, 1207, 1208, 1209, 1210, 1211, 1212, 1213, 1214, 1215, 1216, 1217, 1218, 1219, 1220, 1221, 1222, 1223, 1224, 1225, 1226, 1227, 1228, 1229, 1230, 1231, 1232, 1233, 1234, 1235, 1236, 1237, 1238, 1239, 1240] (by decide +kernel) (by decide +kernel)
set_option maxRecDepth 20000 in
theorem gL_law_X11_rail : GoodIn wsL_law (wsV RL 38 RX11 yX11_rail wsX11_rail) := goodIn_app (goodIn_of _ (by decide +kernel)) ggL_law_X11_rail
set_option maxRecDepth 20000 in
theorem ggL_law_X10_rule : GoodIn wsL_law wsX10_rule := goodIn_r _ [562, 40, 563, 564, 565, 566, 1172, 1173, 1174, 1175, 1176, 1177, 1178, 1179, 1180, 1181, 1279, 1280, 1281, 1282, 1283, 1284] (by decide +kernel) (by decide +kernel)
set_option maxRecDepth 20000 in
theorem gL_law_X10_rule : GoodIn wsL_law (wsV RL 39 RX10 yX10_rule wsX10_rule) := goodIn_app (goodIn_of _ (by decide +kernel)) ggL_law_X10_rule
set_option maxRecDepth 20000 in
theorem ggL_law_X11_rule : GoodIn wsL_law wsX11_rule := goodIn_r _ [570, 183, 184, 185, 182, 1182, 1183, 1184, 1185, 1186, 1187, 1188, 1189, 1190, 1191, 1192, 1193, 1194, 1195, 1196, 1197, 1198, 1199, 1200, 1201, 1202, 1203, 1204, 1205, 1206, 1207, 1208, 1209, 1210, 1211, 1212, 1213, 1214, 1215, 1216, 1217, 1218, 1219, 1220, 1221, 1222, 1223, 1224, 1225, 1226, 1227, 1228, 1229, 1230, 1231, 1232, 1233, 1234, 1235, 1236, 1237, 1238, 1239, 1240] (by decide +kernel) (by decide +kernel)
set_option maxRecDepth 20000 in
theorem gL_law_X11_rule : GoodIn wsL_law (wsV RL 42 RX11 yX11_rule wsX11_rule) := goodIn_app (goodIn_of _ (by decide +kernel)) ggL_law_X11_rule
set_option maxRecDepth 20000 in
theorem ggL_law_X10_holds : GoodIn wsL_law wsX10_holds := goodIn_r _ [574, 40, 546, 547, 548, 39, 549, 122, 575, 576, 577, 578, 579, 580, 581, 582, 121, 583, 584, 2, 585, 1172, 1173, 1174, 1175, 1176, 1177, 1178, 1179, 1180, 1181, 1279, 1280, 1281, 1282, 1283, 1284] (by decide +kernel) (by decide +kernel)
set_option maxRecDepth 20000 in
theorem gL_law_X10_holds : GoodIn wsL_law (wsV RL 43 RX10 yX10_holds wsX10_holds) := goodIn_app (goodIn_of _ (by decide +kernel)) ggL_law_X10_holds
set_option maxRecDepth 20000 in
theorem ggL_law_X11_holds : GoodIn wsL_law wsX11_holds := goodIn_r _ [589, 590, 555, 556, 557, 5, 558, 182, 225, 226, 227, 591, 592, 593, 594, 142, 595, 596, 597, 1182, 1183, 1184, 1185, 1186, 1187, 1188, 1189, 1190, 1191, 1192, 1193, 1194, 1195, 1196, 1197, 1198, 1199, 1200, 1201, 1202, 1203, 1204, 1205, 1206, 1207, 1208, 1209, 1210, 1211, 1212, 1213, 1214, 1215, 1216, 1217, 1218, 1219, 1220, 1221, 1222, 1223, 1224, 1225, 1226, 1227, 1228, 1229, 1230, 1231, 1232, 1233, 1234, 1235, 1236, 1237, 1238, 1239, 1240] (by decide +kernel) (by decide +kernel)
set_option maxRecDepth 20000 in
theorem gL_law_X11_holds : GoodIn wsL_law (wsV RL 46 RX11 yX11_holds wsX11_holds) := goodIn_app (goodIn_of _ (by decide +kernel)) ggL_law_X11_holds
set_option maxRecDepth 20000 in
theorem ggL_law_X10_words : GoodIn wsL_law wsX10_words := goodIn_r _ [601, 40, 546, 547, 548, 39, 549, 122, 602, 603, 604, 605, 606, 607, 608, 609, 610, 580, 581, 582, 121, 611, 612, 613, 614, 1172, 1173, 1174, 1175, 1176, 1177, 1178, 1179, 1180, 1181, 1279, 1280, 1281, 1282, 1283, 1284] (by decide +kernel) (by decide +kernel)
set_option maxRecDepth 20000 in
theorem gL_law_X10_words : GoodIn wsL_law (wsV RL 47 RX10 yX10_words wsX10_words) := goodIn_app (goodIn_of _ (by decide +kernel)) ggL_law_X10_words
set_option maxRecDepth 20000 in
theorem ggL_law_X11_words : GoodIn wsL_law wsX11_words := goodIn_r _ [618, 555, 556, 557, 5, 558, 182, 225, 226, 227, 619, 620, 621, 622, 591, 592, 593, 594, 142, 1182, 1183, 1184, 1185, 1186, 1187, 1188, 1189, 1190, 1191, 1192, 1193, 1194, 1195, 1196, 1197, 1198, 1199, 1200, 1201, 1202, 1203, 1204, 1205, 1206, 1207, 1208, 1209, 1210, 1211, 1212, 1213, 1214, 1215, 1216, 1217, 1218, 1219, 1220, 1221, 1222, 1223, 1224, 1225, 1226, 1227, 1228, 1229, 1230, 1231, 1232, 1233, 1234, 1235, 1236, 1237, 1238, 1239, 1240] (by decide +kernel) (by decide +kernel)
set_option maxRecDepth 20000 in
theorem gL_law_X11_words : GoodIn wsL_law (wsV RL 50 RX11 yX11_words wsX11_words) := goodIn_app (goodIn_of _ (by decide +kernel)) ggL_law_X11_words
set_option maxRecDepth 20000 in
theorem ggL_law_X10_key : GoodIn wsL_law wsX10_key := goodIn_r _ [626, 20, 627, 40, 583, 584, 2, 585, 628, 629, 630, 19, 631, 68, 429, 430, 428, 1172, 1173, 1174, 1175, 1176, 1177, 1178, 1179, 1180, 1181, 1243, 1244, 1245, 1246, 1247, 1248, 1249, 1250, 1251, 1252, 1253, 1254, 1255, 1256, 1279, 1280, 1281, 1282, 1283, 1284] (by decide +kernel) (by decide +kernel)
set_option maxRecDepth 20000 in
theorem gL_law_X10_key : GoodIn wsL_law (wsV RL 51 RX10 yX10_key wsX10_key) := goodIn_app (goodIn_of _ (by decide +kernel)) ggL_law_X10_key
set_option maxRecDepth 20000 in
theorem ggL_law_X11_key : GoodIn wsL_law wsX11_key := goodIn_r _ [635, 191, 192, 184, 193, 595, 596, 5, 597, 1182, 1183, 1184, 1185, 1186, 1187, 1188, 1189, 1190, 1191, 1192, 1193, 1194, 1195, 1196, 1197, 1198, 1199, 1200, 1201, 1202, 1203, 1204, 1205, 1206, 1207, 1208, 1209, 1210, 1211, 1212, 1213, 1214, 1215, 1216, 1217, 1218, 1219, 1220, 1221, 1222, 1223, 1224, 1225, 1226, 1227, 1228, 1229, 1230, 1231, 1232, 1233, 1234, 1235, 1236, 1237, 1238, 1239, 1240] (by decide +kernel) (by decide +kernel)
set_option maxRecDepth 20000 in
theorem gL_law_X11_key : GoodIn wsL_law (wsV RL 55 RX11 yX11_key wsX11_key) := goodIn_app (goodIn_of _ (by decide +kernel)) ggL_law_X11_key
set_option maxRecDepth 20000 in
theorem ggL_law_X10_dead : GoodIn wsL_law wsX10_dead := goodIn_r _ [639, 40, 20, 640, 546, 547, 548, 39, 549, 122, 583, 584, 2, 585, 435, 436, 437, 438, 28, 32, 439, 440, 441, 442, 27, 443, 94, 93, 1172, 1173, 1174, 1175, 1176, 1177, 1178, 1179, 1180, 1181, 1243, 1244, 1245, 1246, 1247, 1248, 1249, 1250, 1251, 1252, 1253, 1254, 1255, 1256, 1279, 1280, 1281, 1282, 1283, 1284, 1272, 1273, 1274, 1275, 1266, 1267, 1268, 1269, 1270, 1271] (by decide +kernel) (by decide +kernel)
set_option maxRecDepth 20000 in
theorem gL_law_X10_dead : GoodIn wsL_law (wsV RL 56 RX10 yX10_dead wsX10_dead) := goodIn_app (goodIn_of _ (by decide +kernel)) ggL_law_X10_dead
set_option maxRecDepth 20000 in
theorem ggL_law_X11_dead : GoodIn wsL_law wsX11_dead := goodIn_r _ [644, 155, 555, 556, 557, 5, 558, 182, 225, 226, 227, 595, 596, 597, 1182, 1183, 1184, 1185, 1186, 1187, 1188, 1189, 1190, 1191, 1192, 1193, 1194, 1195, 1196, 1197, 1198, 1199, 1200, 1201, 1202, 1203, 1204, 1205, 1206, 1207, 1208, 1209, 1210, 1211, 1212, 1213, 1214, 1215, 1216, 1217, 1218, 1219, 1220, 1221, 1222, 1223, 1224, 1225, 1226, 1227, 1228, 1229, 1230, 1231, 1232, 1233, 1234, 1235, 1236, 1237, 1238, 1239, 1240] (by decide +kernel) (by decide +kernel)
set_option maxRecDepth 20000 in
theorem gL_law_X11_dead : GoodIn wsL_law (wsV RL 60 RX11 yX11_dead wsX11_dead) := goodIn_app (goodIn_of _ (by decide +kernel)) ggL_law_X11_dead
set_option maxRecDepth 20000 in
theorem ggL_law_X10_time : GoodIn wsL_law wsX10_time := goodIn_r _ [648, 40, 20, 649, 546, 547, 548, 39, 549, 122, 550, 388, 389, 390, 119, 435, 436, 437, 2, 438, 28, 32, 439, 440, 441, 442, 27, 443, 94, 93, 1172, 1173, 1174, 1175, 1176, 1177, 1178, 1179, 1180, 1181, 1243, 1244, 1245, 1246, 1247, 1248, 1249, 1250, 1251, 1252, 1253, 1254, 1255, 1256, 1279, 1280, 1281, 1282, 1283, 1284, 1272, 1273, 1274, 1275, 1266, 1267, 1268, 1269, 1270, 1271] (by decide +kernel) (by decide +kernel)
set_option maxRecDepth 20000 in
theorem gL_law_X10_time : GoodIn wsL_law (wsV RL 61 RX10 yX10_time wsX10_time) := goodIn_app (goodIn_of _ (by decide +kernel)) ggL_law_X10_time
set_option maxRecDepth 20000 in
theorem ggL_law_X11_time : GoodIn wsL_law wsX11_time := goodIn_r _ [653, 156, 555, 556, 557, 5, 558, 182, 225, 226, 227, 198, 199, 200, 201, 140, 1182, 1183, 1184, 1185, 1186, 1187, 1188, 1189, 1190, 1191, 1192, 1193, 1194, 1195, 1196, 1197, 1198, 1199, 1200, 1201, 1202, 1203, 1204, 1205, 1206, 1207, 1208, 1209, 1210, 1211, 1212, 1213, 1214, 1215, 1216, 1217, 1218, 1219, 1220, 1221, 1222, 1223, 1224, 1225, 1226, 1227, 1228, 1229, 1230, 1231, 1232, 1233, 1234, 1235, 1236, 1237, 1238, 1239, 1240] (by decide +kernel) (by decide +kernel)
set_option maxRecDepth 20000 in
theorem gL_law_X11_time : GoodIn wsL_law (wsV RL 64 RX11 yX11_time wsX11_time) := goodIn_app (goodIn_of _ (by decide +kernel)) ggL_law_X11_time
set_option maxRecDepth 20000 in
theorem ggL_law_X10_go : GoodIn wsL_law wsX10_go := goodIn_r _ [657, 20, 658, 40, 659, 660, 661, 19, 662, 432, 433, 663, 664, 420, 665, 666, 667, 668, 669, 670, 671, 672, 673, 428, 68, 674, 675, 676, 677, 678, 62, 679, 580, 581, 39, 582, 121, 680, 681, 682, 683, 684, 685, 686, 687, 67, 63, 65, 434, 388, 389, 390, 119, 688, 689, 690, 691, 64, 66, 61, 427, 692, 693, 694, 60, 695, 76, 73, 74, 75, 696, 697, 698, 699, 700, 701, 702, 703, 704, 705, 706, 707, 708, 431, 430, 709, 710, 711, 712, 713, 1172, 1173, 1174, 1175, 1176, 1177, 1178, 1179, 1180, 1181, 1243, 1244, 1245, 1246, 1247, 1248, 1249, 1250, 1251, 1252, 1253, 1254, 1255, 1256, 1279, 1280, 1281, 1282, 1283, 1284, 1298, 1299, 1300, 1301] (by decide +kernel) (by decide +kernel)
set_option maxRecDepth 20000 in
theorem gL_law_X10_go : GoodIn wsL_law (wsV RL 65 RX10 yX10_go wsX10_go) := goodIn_app (goodIn_of _ (by decide +kernel)) ggL_law_X10_go
set_option maxRecDepth 20000 in
theorem ggL_law_X11_go : GoodIn wsL_law wsX11_go := goodIn_r _ [717, 718, 196, 225, 226, 5, 227, 719, 720, 721, 722, 194, 195, 193, 185, 192, 182, 153, 154, 190, 723, 724, 725, 726, 727, 728, 729, 730, 191, 152, 157, 731, 732, 733, 734, 591, 592, 593, 594, 142, 735, 736, 737, 738, 155, 156, 198, 199, 200, 201, 140, 739, 740, 741, 742, 197, 158, 743, 744, 745, 746, 747, 748, 749, 750, 183, 1182, 1183, 1184, 1185, 1186, 1187, 1188, 1189, 1190, 1191, 1192, 1193, 1194, 1195, 1196, 1197, 1198, 1199, 1200, 1201, 1202, 1203, 1204, 1205, 1206, 1207, 1208, 1209, 1210, 1211, 1212, 1213, 1214, 1215, 1216, 1217, 1218, 1219, 1220, 1221, 1222, 1223, 1224, 1225, 1226, 1227, 1228, 1229, 1230, 1231, 1232, 1233, 1234, 1235, 1236, 1237, 1238, 1239, 1240] (by decide +kernel) (by decide +kernel)
set_option maxRecDepth 20000 in
theorem gL_law_X11_go : GoodIn wsL_law (wsV RL 68 RX11 yX11_go wsX11_go) := goodIn_app (goodIn_of _ (by decide +kernel)) ggL_law_X11_go
set_option maxRecDepth 20000 in
theorem ggL_law_X10_now : GoodIn wsL_law wsX10_now := goodIn_r _ [754, 20, 755, 756, 757, 758, 759, 627, 658, 760, 676, 677, 19, 678, 62, 583, 584, 2, 585, 1172, 1173, 1174, 1175, 1176, 1177, 1178, 1179, 1180, 1181, 1243, 1244, 1245, 1246, 1247, 1248, 1249, 1250, 1251, 1252, 1253, 1254, 1255, 1256] (by decide +kernel) (by decide +kernel)
set_option maxRecDepth 20000 in
theorem gL_law_X10_now : GoodIn wsL_law (wsV RL 69 RX10 yX10_now wsX10_now) := goodIn_app (goodIn_of _ (by decide +kernel)) ggL_law_X10_now
set_option maxRecDepth 20000 in
theorem ggL_law_X11_now : GoodIn wsL_law wsX11_now := goodIn_r _ [764, 190, 194, 192, 193, 195, 191, 196, 731, 732, 733, 5, 734, 182, 152, 595, 596, 597, 1182, 1183, 1184, 1185, 1186, 1187, 1188, 1189, 1190, 1191, 1192, 1193, 1194, 1195, 1196, 1197, 1198, 1199, 1200, 1201, 1202, 1203, 1204, 1205, 1206, 1207, 1208, 1209, 1210, 1211, 1212, 1213, 1214, 1215, 1216, 1217, 1218, 1219, 1220, 1221, 1222, 1223, 1224, 1225, 1226, 1227, 1228, 1229, 1230, 1231, 1232, 1233, 1234, 1235, 1236, 1237, 1238, 1239, 1240] (by decide +kernel) (by decide +kernel)
set_option maxRecDepth 20000 in
theorem gL_law_X11_now : GoodIn wsL_law (wsV RL 72 RX11 yX11_now wsX11_now) := goodIn_app (goodIn_of _ (by decide +kernel)) ggL_law_X11_now
set_option maxRecDepth 20000 in
theorem ggL_law_X10_is : GoodIn wsL_law wsX10_is := goodIn_r _ [768, 40, 20, 769, 770, 640, 649, 771, 546, 547, 548, 39, 549, 122, 1172, 1173, 1174, 1175, 1176, 1177, 1178, 1179, 1180, 1181, 1243, 1244, 1245, 1246, 1247, 1248, 1249, 1250, 1251, 1252, 1253, 1254, 1255, 1256, 1279, 1280, 1281, 1282, 1283, 1284] (by decide +kernel) (by decide +kernel)
set_option maxRecDepth 20000 in
theorem gL_law_X10_is : GoodIn wsL_law (wsV RL 73 RX10 yX10_is wsX10_is) := goodIn_app (goodIn_of _ (by decide +kernel)) ggL_law_X10_is
set_option maxRecDepth 20000 in
theorem ggL_law_X11_is_ : GoodIn wsL_law wsX11_is_ := goodIn_r _ [775, 776, 152, 153, 155, 156, 157, 555, 556, 557, 5, 558, 182, 225, 226, 227, 595, 596, 597, 1182, 1183, 1184, 1185, 1186, 1187, 1188, 1189, 1190, 1191, 1192, 1193, 1194, 1195, 1196, 1197, 1198, 1199, 1200, 1201, 1202, 1203, 1204, 1205, 1206, 1207, 1208, 1209, 1210, 1211, 1212, 1213, 1214, 1215, 1216, 1217, 1218, 1219, 1220, 1221, 1222, 1223, 1224, 1225, 1226, 1227, 1228, 1229, 1230, 1231, 1232, 1233, 1234, 1235, 1236, 1237, 1238, 1239, 1240] (by decide +kernel) (by decide +kernel)
set_option maxRecDepth 20000 in
theorem gL_law_X11_is_ : GoodIn wsL_law (wsV RL 76 RX11 yX11_is_ wsX11_is_) := goodIn_app (goodIn_of _ (by decide +kernel)) ggL_law_X11_is_
set_option maxRecDepth 20000 in
theorem ggL_law_X10_happened : GoodIn wsL_law wsX10_happened := goodIn_r _ [780, 20, 781, 782, 783, 784, 785, 1172, 1173, 1174, 1175, 1176, 1177, 1178, 1179, 1180, 1181, 1243, 1244, 1245, 1246, 1247, 1248, 1249, 1250, 1251, 1252, 1253, 1254, 1255, 1256, 1298, 1299, 1300, 1301] (by decide +kernel) (by decide +kernel)
set_option maxRecDepth 20000 in
theorem gL_law_X10_happened : GoodIn wsL_law (wsV RL 77 RX10 yX10_happened wsX10_happened) := goodIn_app (goodIn_of _ (by decide +kernel)) ggL_law_X10_happened
set_option maxRecDepth 20000 in
theorem ggL_law_X11_happened : GoodIn wsL_law wsX11_happened := goodIn_r _ [789, 197, 790, 158, 225, 226, 5, 227, 1182, 1183, 1184, 1185, 1186, 1187, 1188, 1189, 1190, 1191, 1192, 1193, 1194, 1195, 1196, 1197, 1198, 1199, 1200, 1201, 1202, 1203, 1204, 1205, 1206, 1207, 1208, 1209, 1210, 1211, 1212, 1213, 1214, 1215, 1216, 1217, 1218, 1219, 1220, 1221, 1222, 1223, 1224, 1225, 1226, 1227, 1228, 1229, 1230, 1231, 1232, 1233, 1234, 1235, 1236, 1237, 1238, 1239, 1240] (by decide +kernel) (by decide +kernel)
set_option maxRecDepth 20000 in
theorem gL_law_X11_happened : GoodIn wsL_law (wsV RL 80 RX11 yX11_happened wsX11_happened) := goodIn_app (goodIn_of _ (by decide +kernel)) ggL_law_X11_happened
set_option maxRecDepth 20000 in
theorem ggL_law_X10_up : GoodIn wsL_law wsX10_up := goodIn_r _ [794, 40, 20, 640, 575, 576, 577, 39, 578, 122, 795, 796, 797, 798, 610, 580, 581, 582, 121, 1172, 1173, 1174, 1175, 1176, 1177, 1178, 1179, 1180, 1181, 1243, 1244, 1245, 1246, 1247, 1248, 1249, 1250, 1251, 1252, 1253, 1254, 1255, 1256, 1279, 1280, 1281, 1282, 1283, 1284] (by decide +kernel) (by decide +kernel)
set_option maxRecDepth 20000 in
theorem gL_law_X10_up : GoodIn wsL_law (wsV RL 81 RX10 yX10_up wsX10_up) := goodIn_app (goodIn_of _ (by decide +kernel)) ggL_law_X10_up
set_option maxRecDepth 20000 in
theorem ggL_law_X11_up : GoodIn wsL_law wsX11_up := goodIn_r _ [802, 790, 182, 225, 226, 5, 227, 803, 804, 805, 806, 155, 807, 808, 809, 810, 591, 592, 593, 594, 142, 1182, 1183, 1184, 1185, 1186, 1187, 1188, 1189, 1190, 1191, 1192, 1193, 1194, 1195, 1196, 1197, 1198, 1199, 1200, 1201, 1202, 1203, 1204, 1205, 1206, 1207, 1208, 1209, 1210, 1211, 1212, 1213, 1214, 1215, 1216, 1217, 1218, 1219, 1220, 1221, 1222, 1223, 1224, 1225, 1226, 1227, 1228, 1229, 1230, 1231, 1232, 1233, 1234, 1235, 1236, 1237, 1238, 1239, 1240] (by decide +kernel) (by decide +kernel)
set_option maxRecDepth 20000 in
theorem gL_law_X11_up : GoodIn wsL_law (wsV RL 84 RX11 yX11_up wsX11_up) := goodIn_app (goodIn_of _ (by decide +kernel)) ggL_law_X11_up
set_option maxRecDepth 20000 in
theorem ggL_law_X10_when : GoodIn wsL_law wsX10_when := goodIn_r _ [814, 40, 24, 815, 546, 547, 548, 39, 549, 122, 816, 817, 818, 2, 819, 20, 649, 820, 821, 822, 23, 823, 824, 81, 825, 388, 389, 390, 119, 826, 827, 828, 829, 82, 830, 363, 364, 365, 831, 832, 833, 834, 640, 575, 576, 577, 578, 835, 836, 837, 838, 839, 840, 84, 841, 842, 843, 844, 83, 845, 580, 581, 582, 121, 846, 847, 848, 849, 850, 419, 420, 421, 851, 852, 853, 854, 855, 856, 857, 858, 1172, 1173, 1174, 1175, 1176, 1177, 1178, 1179, 1180, 1181, 1257, 1258, 1259, 1260, 1261, 1262, 1263, 1264, 1265, 1279, 1280, 1281, 1282, 1283, 1284, 1243, 1244, 1245, 1246, 1247, 1248, 1249, 1250, 1251, 1252, 1253, 1254, 1255, 1256] (by decide +kernel) (by decide +kernel)
set_option maxRecDepth 20000 in
theorem gL_law_X10_when : GoodIn wsL_law (wsV RL 85 RX10 yX10_when wsX10_when) := goodIn_app (goodIn_of _ (by decide +kernel)) ggL_law_X10_when
set_option maxRecDepth 20000 in
theorem ggL_law_X11_when : GoodIn wsL_law wsX11_when := goodIn_r _ [862, 790, 863, 160, 555, 556, 557, 5, 558, 182, 225, 226, 227, 864, 865, 866, 867, 162, 198, 199, 200, 201, 140, 868, 869, 870, 871, 161, 156, 872, 873, 874, 875, 159, 876, 803, 804, 805, 806, 155, 807, 808, 809, 810, 591, 592, 593, 594, 142, 1182, 1183, 1184, 1185, 1186, 1187, 1188, 1189, 1190, 1191, 1192, 1193, 1194, 1195, 1196, 1197, 1198, 1199, 1200, 1201, 1202, 1203, 1204, 1205, 1206, 1207, 1208, 1209, 1210, 1211, 1212, 1213, 1214, 1215, 1216, 1217, 1218, 1219, 1220, 1221, 1222, 1223, 1224, 1225, 1226, 1227, 1228, 1229, 1230, 1231, 1232, 1233, 1234, 1235, 1236, 1237, 1238, 1239, 1240] (by decide +kernel) (by decide +kernel)
set_option maxRecDepth 20000 in
theorem gL_law_X11_when : GoodIn wsL_law (wsV RL 88 RX11 yX11_when wsX11_when) := goodIn_app (goodIn_of _ (by decide +kernel)) ggL_law_X11_when
set_option maxRecDepth 20000 in
theorem ggL_law_X10_ahead : GoodIn wsL_law wsX10_ahead := goodIn_r _ [880, 40, 28, 546, 547, 548, 39, 549, 122, 881, 882, 883, 884, 885, 388, 389, 390, 119, 831, 832, 833, 2, 834, 20, 640, 575, 576, 577, 578, 795, 796, 797, 798, 610, 580, 581, 582, 121, 886, 887, 888, 27, 889, 93, 91, 90, 890, 891, 664, 420, 665, 892, 893, 894, 895, 896, 897, 898, 899, 900, 901, 902, 821, 822, 23, 823, 824, 81, 825, 903, 852, 853, 854, 82, 904, 836, 837, 838, 839, 840, 84, 841, 842, 843, 844, 83, 845, 846, 847, 848, 849, 850, 419, 421, 905, 906, 907, 908, 909, 910, 911, 1172, 1173, 1174, 1175, 1176, 1177, 1178, 1179, 1180, 1181, 1279, 1280, 1281, 1282, 1283, 1284, 1243, 1244, 1245, 1246, 1247, 1248, 1249, 1250, 1251, 1252, 1253, 1254, 1255, 1256, 1266, 1267, 1268, 1269, 1270, 1271, 1257, 1258, 1259, 1260, 1261, 1262, 1263, 1264, 1265] (by decide +kernel) (by decide +kernel)
set_option maxRecDepth 20000 in
theorem gL_law_X10_ahead : GoodIn wsL_law (wsV RL 89 RX10 yX10_ahead wsX10_ahead) := goodIn_app (goodIn_of _ (by decide +kernel)) ggL_law_X10_ahead
set_option maxRecDepth 20000 in
theorem ggL_law_X11_ahead : GoodIn wsL_law wsX11_ahead := goodIn_r _ [915, 916, 160, 555, 556, 557, 5, 558, 182, 225, 226, 227, 917, 918, 919, 920, 198, 199, 200, 201, 140, 803, 804, 805, 806, 155, 807, 808, 809, 810, 591, 592, 593, 594, 142, 864, 865, 866, 867, 162, 868, 869, 870, 871, 161, 156, 872, 873, 874, 875, 863, 159, 876, 921, 922, 923, 924, 1182, 1183, 1184, 1185, 1186, 1187, 1188, 1189, 1190, 1191, 1192, 1193, 1194, 1195, 1196, 1197, 1198, 1199, 1200, 1201, 1202, 1203, 1204, 1205, 1206, 1207, 1208, 1209, 1210, 1211, 1212, 1213, 1214, 1215, 1216, 1217, 1218, 1219, 1220, 1221, 1222, 1223, 1224, 1225, 1226, 1227, 1228, 1229, 1230, 1231, 1232, 1233, 1234, 1235, 1236, 1237, 1238, 1239, 1240] (by decide +kernel) (by decide +kernel)
set_option maxRecDepth 20000 in
theorem gL_law_X11_ahead : GoodIn wsL_law (wsV RL 93 RX11 yX11_ahead wsX11_ahead) := goodIn_app (goodIn_of _ (by decide +kernel)) ggL_law_X11_ahead
set_option maxRecDepth 20000 in
theorem ggL_law_X10_drawn : GoodIn wsL_law wsX10_drawn := goodIn_r _ [928, 24, 40, 816, 817, 818, 2, 819, 20, 649, 820, 821, 822, 23, 823, 824, 81, 825, 388, 389, 39, 390, 119, 826, 827, 828, 829, 82, 830, 363, 364, 365, 831, 832, 833, 834, 640, 575, 576, 577, 578, 122, 835, 836, 837, 838, 839, 840, 84, 841, 842, 843, 844, 83, 845, 580, 581, 582, 121, 846, 847, 848, 849, 850, 419, 420, 421, 929, 930, 931, 932, 933, 856, 857, 858, 1172, 1173, 1174, 1175, 1176, 1177, 1178, 1179, 1180, 1181, 1243, 1244, 1245, 1246, 1247, 1248, 1249, 1250, 1251, 1252, 1253, 1254, 1255, 1256, 1279, 1280, 1281, 1282, 1283, 1284, 1257, 1258, 1259, 1260, 1261, 1262, 1263, 1264, 1265] (by decide +kernel) (by decide +kernel)
set_option maxRecDepth 20000 in
theorem gL_law_X10_drawn : GoodIn wsL_law (wsV RL 94 RX10 yX10_drawn wsX10_drawn) := goodIn_app (goodIn_of _ (by decide +kernel)) ggL_law_X10_drawn
set_option maxRecDepth 20000 in
theorem ggL_law_X11_drawn : GoodIn wsL_law wsX11_drawn := goodIn_r _ [937, 718, 225, 226, 5, 227, 864, 865, 866, 867, 182, 162, 198, 199, 200, 201, 140, 868, 869, 870, 871, 161, 156, 872, 873, 874, 875, 863, 159, 876, 160, 803, 804, 805, 806, 155, 807, 808, 809, 810, 591, 592, 593, 594, 142, 938, 939, 940, 941, 743, 744, 745, 746, 1182, 1183, 1184, 1185, 1186, 1187, 1188, 1189, 1190, 1191, 1192, 1193, 1194, 1195, 1196, 1197, 1198, 1199, 1200, 1201, 1202, 1203, 1204, 1205, 1206, 1207, 1208, 1209, 1210, 1211, 1212, 1213, 1214, 1215, 1216, 1217, 1218, 1219, 1220, 1221, 1222, 1223, 1224, 1225, 1226, 1227, 1228, 1229, 1230, 1231, 1232, 1233, 1234, 1235, 1236, 1237, 1238, 1239, 1240] (by decide +kernel) (by decide +kernel)
set_option maxRecDepth 20000 in
theorem gL_law_X11_drawn : GoodIn wsL_law (wsV RL 97 RX11 yX11_drawn wsX11_drawn) := goodIn_app (goodIn_of _ (by decide +kernel)) ggL_law_X11_drawn
set_option maxRecDepth 20000 in
theorem ggL_law_X10_peak : GoodIn wsL_law wsX10_peak := goodIn_r _ [945, 40, 28, 946, 947, 24, 948, 949, 881, 882, 883, 39, 884, 122, 885, 388, 389, 390, 119, 831, 832, 833, 2, 834, 20, 640, 575, 576, 577, 578, 795, 796, 797, 798, 610, 580, 581, 582, 121, 950, 951, 952, 27, 953, 94, 90, 954, 955, 956, 891, 664, 420, 665, 957, 419, 421, 897, 898, 899, 900, 901, 902, 821, 822, 23, 823, 824, 81, 825, 903, 852, 853, 854, 82, 904, 836, 837, 838, 839, 840, 84, 841, 842, 843, 844, 83, 845, 846, 847, 848, 849, 850, 958, 959, 960, 961, 85, 962, 963, 933, 856, 857, 858, 905, 906, 907, 908, 909, 910, 911, 816, 817, 818, 819, 649, 820, 826, 827, 828, 829, 830, 363, 364, 365, 835, 964, 1172, 1173, 1174, 1175, 1176, 1177, 1178, 1179, 1180, 1181, 1266, 1267, 1268, 1269, 1270, 1271, 1257, 1258, 1259, 1260, 1261, 1262, 1263, 1264, 1265, 1279, 1280, 1281, 1282, 1283, 1284, 1243, 1244, 1245, 1246, 1247, 1248, 1249, 1250, 1251, 1252, 1253, 1254, 1255, 1256] (by decide +kernel) (by decide +kernel)
set_option maxRecDepth 20000 in
theorem gL_law_X10_peak : GoodIn wsL_law (wsV RL 98 RX10 yX10_peak wsX10_peak) := goodIn_app (goodIn_of _ (by decide +kernel)) ggL_law_X10_peak
set_option maxRecDepth 20000 in
theorem ggL_law_X11_peak : GoodIn wsL_law wsX11_peak := goodIn_r _ [968, 969, 970, 225, 226, 5, 227, 917, 918, 919, 920, 182, 198, 199, 200, 201, 140, 803, 804, 805, 806, 155, 807, 808, 809, 810, 591, 592, 593, 594, 142, 864, 865, 866, 867, 162, 868, 869, 870, 871, 161, 156, 872, 873, 874, 875, 863, 159, 876, 160, 971, 972, 973, 974, 938, 939, 940, 941, 743, 744, 745, 746, 921, 922, 923, 924, 1182, 1183, 1184, 1185, 1186, 1187, 1188, 1189, 1190, 1191, 1192, 1193, 1194, 1195, 1196, 1197, 1198, 1199, 1200, 1201, 1202, 1203, 1204, 1205, 1206, 1207, 1208, 1209, 1210, 1211, 1212, 1213, 1214, 1215, 1216, 1217, 1218, 1219, 1220, 1221, 1222, 1223, 1224, 1225, 1226, 1227, 1228, 1229, 1230, 1231, 1232, 1233, 1234, 1235, 1236, 1237, 1238, 1239, 1240] (by decide +kernel) (by decide +kernel)
set_option maxRecDepth 20000 in
theorem gL_law_X11_peak : GoodIn wsL_law (wsV RL 101 RX11 yX11_peak wsX11_peak) := goodIn_app (goodIn_of _ (by decide +kernel)) ggL_law_X11_peak
set_option maxRecDepth 20000 in
theorem ggL_law_X10_stagger : GoodIn wsL_law wsX10_stagger := goodIn_r _ [978, 40, 566, 32, 20, 649, 979, 980, 831, 832, 833, 2, 834, 640, 575, 576, 577, 39, 578, 122, 981, 982, 983, 31, 984, 101, 102, 100, 99, 985, 986, 987, 988, 112, 113, 114, 989, 827, 828, 23, 829, 82, 830, 363, 364, 365, 990, 836, 837, 838, 839, 840, 84, 841, 842, 843, 844, 824, 83, 81, 845, 580, 581, 582, 121, 846, 847, 848, 849, 850, 419, 420, 421, 991, 992, 993, 994, 995, 996, 997, 998, 959, 960, 961, 85, 962, 963, 933, 856, 857, 858, 825, 388, 389, 390, 119, 999, 1000, 1001, 1002, 1172, 1173, 1174, 1175, 1176, 1177, 1178, 1179, 1180, 1181, 1279, 1280, 1281, 1282, 1283, 1284, 1243, 1244, 1245, 1246, 1247, 1248, 1249, 1250, 1251, 1252, 1253, 1254, 1255, 1256, 1272, 1273, 1274, 1275, 1257, 1258, 1259, 1260, 1261, 1262, 1263, 1264, 1265] (by decide +kernel) (by decide +kernel)
set_option maxRecDepth 20000 in
theorem gL_law_X10_stagger : GoodIn wsL_law (wsV RL 102 RX10 yX10_stagger wsX10_stagger) := goodIn_app (goodIn_of _ (by decide +kernel)) ggL_law_X10_stagger
set_option maxRecDepth 20000 in
theorem ggL_law_X11_stagger : GoodIn wsL_law wsX11_stagger := goodIn_r _ [1006, 1007, 182, 1008, 163, 225, 226, 5, 227, 1009, 1010, 1011, 1012, 162, 183, 868, 869, 870, 871, 161, 156, 198, 199, 200, 201, 140, 872, 873, 874, 875, 863, 159, 876, 160, 803, 804, 805, 806, 155, 807, 808, 809, 810, 591, 592, 593, 594, 142, 1013, 1014, 1015, 1016, 971, 972, 973, 974, 970, 938, 939, 940, 941, 743, 744, 745, 746, 1182, 1183, 1184, 1185, 1186, 1187, 1188, 1189, 1190, 1191, 1192, 1193, 1194, 1195, 1196, 1197, 1198, 1199, 1200, 1201, 1202, 1203, 1204, 1205, 1206, 1207, 1208, 1209, 1210, 1211, 1212, 1213, 1214, 1215, 1216, 1217, 1218, 1219, 1220, 1221, 1222, 1223, 1224, 1225, 1226, 1227, 1228, 1229, 1230, 1231, 1232, 1233, 1234, 1235, 1236, 1237, 1238, 1239, 1240] (by decide +kernel) (by decide +kernel)
set_option maxRecDepth 20000 in
theorem gL_law_X11_stagger : GoodIn wsL_law (wsV RL 105 RX11 yX11_stagger wsX11_stagger) := goodIn_app (goodIn_of _ (by decide +kernel)) ggL_law_X11_stagger
set_option maxRecDepth 20000 in
theorem ggL_law_X10_adopt : GoodIn wsL_law wsX10_adopt := goodIn_r _ [1020, 40, 566, 32, 20, 649, 979, 980, 831, 832, 833, 2, 834, 640, 575, 576, 577, 39, 578, 122, 981, 982, 983, 31, 984, 101, 102, 100, 99, 985, 986, 987, 988, 112, 113, 114, 989, 827, 828, 23, 829, 82, 830, 363, 364, 365, 990, 836, 837, 838, 839, 840, 84, 841, 842, 843, 844, 824, 83, 81, 845, 580, 581, 582, 121, 846, 847, 848, 849, 850, 419, 420, 421, 991, 992, 993, 994, 995, 996, 997, 998, 959, 960, 961, 85, 962, 963, 933, 856, 857, 858, 825, 388, 389, 390, 119, 999, 1000, 1001, 1002, 1021, 1022, 1023, 1024, 331, 332, 333, 334, 435, 436, 437, 438, 28, 439, 440, 441, 442, 27, 443, 94, 93, 1172, 1173, 1174, 1175, 1176, 1177, 1178, 1179, 1180, 1181, 1279, 1280, 1281, 1282, 1283, 1284, 1243, 1244, 1245, 1246, 1247, 1248, 1249, 1250, 1251, 1252, 1253, 1254, 1255, 1256, 1272, 1273, 1274, 1275, 1257, 1258, 1259, 1260, 1261, 1262, 1263, 1264, 1265, 1266, 1267, 1268, 1269, 1270, 1271] (by decide +kernel) (by decide +kernel)
set_option maxRecDepth 20000 in
theorem gL_law_X10_adopt : GoodIn wsL_law (wsV RL 106 RX10 yX10_adopt wsX10_adopt) := goodIn_app (goodIn_of _ (by decide +kernel)) ggL_law_X10_adopt
set_option maxRecDepth 20000 in
theorem ggL_law_X11_adopt : GoodIn wsL_law wsX11_adopt := goodIn_r _ [1028, 182, 1008, 140, 163, 1009, 1010, 1011, 5, 1012, 162, 183, 868, 869, 870, 871, 161, 156, 198, 199, 200, 201, 872, 873, 874, 875, 863, 159, 876, 160, 803, 804, 805, 806, 155, 807, 808, 809, 810, 591, 592, 593, 594, 142, 1013, 1014, 1015, 1016, 971, 972, 973, 974, 970, 938, 939, 940, 941, 743, 744, 745, 746, 1182, 1183, 1184, 1185, 1186, 1187, 1188, 1189, 1190, 1191, 1192, 1193, 1194, 1195, 1196, 1197, 1198, 1199, 1200, 1201, 1202, 1203, 1204, 1205, 1206, 1207, 1208, 1209, 1210, 1211, 1212, 1213, 1214, 1215, 1216, 1217, 1218, 1219, 1220, 1221, 1222, 1223, 1224, 1225, 1226, 1227, 1228, 1229, 1230, 1231, 1232, 1233, 1234, 1235, 1236, 1237, 1238, 1239, 1240] (by decide +kernel) (by decide +kernel)
set_option maxRecDepth 20000 in
theorem gL_law_X11_adopt : GoodIn wsL_law (wsV RL 109 RX11 yX11_adopt wsX11_adopt) := goodIn_app (goodIn_of _ (by decide +kernel)) ggL_law_X11_adopt
set_option maxRecDepth 20000 in
theorem ggL_law_X10_down : GoodIn wsL_law wsX10_down := goodIn_r _ [1032, 40, 575, 576, 577, 39, 578, 122, 831, 832, 833, 2, 834, 20, 640, 795, 796, 797, 798, 610, 580, 581, 582, 121, 1172, 1173, 1174, 1175, 1176, 1177, 1178, 1179, 1180, 1181, 1279, 1280, 1281, 1282, 1283, 1284, 1243, 1244, 1245, 1246, 1247, 1248, 1249, 1250, 1251, 1252, 1253, 1254, 1255, 1256] (by decide +kernel) (by decide +kernel)
set_option maxRecDepth 20000 in
theorem gL_law_X10_down : GoodIn wsL_law (wsV RL 110 RX10 yX10_down wsX10_down) := goodIn_app (goodIn_of _ (by decide +kernel)) ggL_law_X10_down
set_option maxRecDepth 20000 in
theorem ggL_law_X11_down : GoodIn wsL_law wsX11_down := goodIn_r _ [1036, 1037, 1038, 1039, 5, 1040, 182, 225, 226, 227, 803, 804, 805, 806, 155, 807, 808, 809, 810, 591, 592, 593, 594, 142, 1182, 1183, 1184, 1185, 1186, 1187, 1188, 1189, 1190, 1191, 1192, 1193, 1194, 1195, 1196, 1197, 1198, 1199, 1200, 1201, 1202, 1203, 1204, 1205, 1206, 1207, 1208, 1209, 1210, 1211, 1212, 1213, 1214, 1215, 1216, 1217, 1218, 1219, 1220, 1221, 1222, 1223, 1224, 1225, 1226, 1227, 1228, 1229, 1230, 1231, 1232, 1233, 1234, 1235, 1236, 1237, 1238, 1239, 1240] (by decide +kernel) (by decide +kernel)
set_option maxRecDepth 20000 in
theorem gL_law_X11_down : GoodIn wsL_law (wsV RL 113 RX11 yX11_down wsX11_down) := goodIn_app (goodIn_of _ (by decide +kernel)) ggL_law_X11_down
set_option maxRecDepth 20000 in
theorem ggL_law_X10_cut : GoodIn wsL_law wsX10_cut := goodIn_r _ [1044, 40, 546, 547, 548, 39, 549, 122, 1045, 1046, 1047, 2, 1048, 831, 832, 833, 834, 20, 640, 575, 576, 577, 578, 795, 796, 797, 798, 610, 580, 581, 582, 121, 1049, 1050, 1051, 1052, 1053, 1054, 1055, 1056, 1057, 1058, 1059, 1060, 1061, 1062, 1063, 1064, 1065, 1172, 1173, 1174, 1175, 1176, 1177, 1178, 1179, 1180, 1181, 1279, 1280, 1281, 1282, 1283, 1284, 1243, 1244, 1245, 1246, 1247, 1248, 1249, 1250, 1251, 1252, 1253, 1254, 1255, 1256] (by decide +kernel) (by decide +kernel)
set_option maxRecDepth 20000 in
theorem gL_law_X10_cut : GoodIn wsL_law (wsV RL 114 RX10 yX10_cut wsX10_cut) := goodIn_app (goodIn_of _ (by decide +kernel)) ggL_law_X10_cut
set_option maxRecDepth 20000 in
theorem ggL_law_X11_cut : GoodIn wsL_law wsX11_cut := goodIn_r _ [1069, 182, 555, 556, 557, 5, 558, 225, 226, 227, 803, 804, 805, 806, 155, 1070, 1071, 1072, 1073, 807, 808, 809, 810, 591, 592, 593, 594, 142, 1074, 1075, 1076, 1182, 1183, 1184, 1185, 1186, 1187, 1188, 1189, 1190, 1191, 1192, 1193, 1194, 1195, 1196, 1197, 1198, 1199, 1200, 1201, 1202, 1203, 1204, 1205, 1206, 1207, 1208, 1209, 1210, 1211, 1212, 1213, 1214, 1215, 1216, 1217, 1218, 1219, 1220, 1221, 1222, 1223, 1224, 1225, 1226, 1227, 1228, 1229, 1230, 1231, 1232, 1233, 1234, 1235, 1236, 1237, 1238, 1239, 1240] (by decide +kernel) (by decide +kernel)
set_option maxRecDepth 20000 in
theorem gL_law_X11_cut : GoodIn wsL_law (wsV RL 117 RX11 yX11_cut wsX11_cut) := goodIn_app (goodIn_of _ (by decide +kernel)) ggL_law_X11_cut
set_option maxRecDepth 20000 in
theorem ggL_law_X10_need : GoodIn wsL_law wsX10_need := goodIn_r _ [1080, 40, 546, 547, 548, 39, 549, 122, 1045, 1046, 1047, 2, 1048, 831, 832, 833, 834, 20, 640, 575, 576, 577, 578, 795, 796, 797, 798, 610, 580, 581, 582, 121, 1081, 1082, 1051, 1083, 1053, 1054, 1055, 1056, 1057, 1058, 1059, 1060, 1061, 1062, 1063, 1064, 1065, 1172, 1173, 1174, 1175, 1176, 1177, 1178, 1179, 1180, 1181, 1279, 1280, 1281, 1282, 1283, 1284, 1243, 1244, 1245, 1246, 1247, 1248, 1249, 1250, 1251, 1252, 1253, 1254, 1255, 1256] (by decide +kernel) (by decide +kernel)
set_option maxRecDepth 20000 in
theorem gL_law_X10_need : GoodIn wsL_law (wsV RL 118 RX10 yX10_need wsX10_need) := goodIn_app (goodIn_of _ (by decide +kernel)) ggL_law_X10_need
set_option maxRecDepth 20000 in
theorem ggL_law_X11_need : GoodIn wsL_law wsX11_need := goodIn_r _ [1087, 182, 555, 556, 557, 5, 558, 225, 226, 227, 803, 804, 805, 806, 155, 1070, 1071, 1072, 1073, 807, 808, 809, 810, 591, 592, 593, 594, 142, 1074, 1075, 1076, 1182, 1183, 1184, 1185, 1186, 1187, 1188, 1189, 1190, 1191, 1192, 1193, 1194, 1195, 1196, 1197, 1198, 1199, 1200, 1201, 1202, 1203, 1204, 1205, 1206, 1207, 1208, 1209, 1210, 1211, 1212, 1213, 1214, 1215, 1216, 1217, 1218, 1219, 1220, 1221, 1222, 1223, 1224, 1225, 1226, 1227, 1228, 1229, 1230, 1231, 1232, 1233, 1234, 1235, 1236, 1237, 1238, 1239, 1240] (by decide +kernel) (by decide +kernel)
set_option maxRecDepth 20000 in
theorem gL_law_X11_need : GoodIn wsL_law (wsV RL 121 RX11 yX11_need wsX11_need) := goodIn_app (goodIn_of _ (by decide +kernel)) ggL_law_X11_need
set_option maxRecDepth 20000 in
theorem ggL_law_X10_must : GoodIn wsL_law wsX10_must := goodIn_r _ [1091, 40, 546, 547, 548, 39, 549, 122, 1045, 1046, 1047, 2, 1048, 831, 832, 833, 834, 20, 640, 575, 576, 577, 578, 795, 796, 797, 798, 610, 580, 581, 582, 121, 1092, 1093, 1051, 1094, 1095, 1061, 1062, 1063, 1064, 1172, 1173, 1174, 1175, 1176, 1177, 1178, 1179, 1180, 1181, 1279, 1280, 1281, 1282, 1283, 1284, 1243, 1244, 1245, 1246, 1247, 1248, 1249, 1250, 1251, 1252, 1253, 1254, 1255, 1256] (by decide +kernel) (by decide +kernel)
set_option maxRecDepth 20000 in
theorem gL_law_X10_must : GoodIn wsL_law (wsV RL 122 RX10 yX10_must wsX10_must) := goodIn_app (goodIn_of _ (by decide +kernel)) ggL_law_X10_must
set_option maxRecDepth 20000 in
theorem ggL_law_X11_must : GoodIn wsL_law wsX11_must := goodIn_r _ [1099, 182, 555, 556, 557, 5, 558, 225, 226, 227, 803, 804, 805, 806, 155, 1070, 1071, 1072, 1073, 807, 808, 809, 810, 591, 592, 593, 594, 142, 1182, 1183, 1184, 1185, 1186, 1187, 1188, 1189, 1190, 1191, 1192, 1193, 1194, 1195, 1196, 1197, 1198, 1199, 1200, 1201, 1202, 1203, 1204, 1205, 1206, 1207, 1208, 1209, 1210, 1211, 1212, 1213, 1214, 1215, 1216, 1217, 1218, 1219, 1220, 1221, 1222, 1223, 1224, 1225, 1226, 1227, 1228, 1229, 1230, 1231, 1232, 1233, 1234, 1235, 1236, 1237, 1238, 1239, 1240] (by decide +kernel) (by decide +kernel)
set_option maxRecDepth 20000 in
theorem gL_law_X11_must : GoodIn wsL_law (wsV RL 125 RX11 yX11_must wsX11_must) := goodIn_app (goodIn_of _ (by decide +kernel)) ggL_law_X11_must
set_option maxRecDepth 20000 in
theorem ggL_law_X10_seen : GoodIn wsL_law wsX10_seen := goodIn_r _ [1103, 40, 575, 576, 577, 39, 578, 122, 1104, 1105, 1051, 1106, 1095, 1053, 1064, 796, 797, 798, 610, 580, 581, 582, 121, 1172, 1173, 1174, 1175, 1176, 1177, 1178, 1179, 1180, 1181, 1279, 1280, 1281, 1282, 1283, 1284] (by decide +kernel) (by decide +kernel)
set_option maxRecDepth 20000 in
theorem gL_law_X10_seen : GoodIn wsL_law (wsV RL 126 RX10 yX10_seen wsX10_seen) := goodIn_app (goodIn_of _ (by decide +kernel)) ggL_law_X10_seen
set_option maxRecDepth 20000 in
theorem ggL_law_X11_seen : GoodIn wsL_law wsX11_seen := goodIn_r _ [1110, 182, 1037, 1038, 1039, 5, 1040, 225, 226, 227, 807, 808, 809, 810, 591, 592, 593, 594, 142, 1182, 1183, 1184, 1185, 1186, 1187, 1188, 1189, 1190, 1191, 1192, 1193, 1194, 1195, 1196, 1197, 1198, 1199, 1200, 1201, 1202, 1203, 1204, 1205, 1206, 1207, 1208, 1209, 1210, 1211, 1212, 1213, 1214, 1215, 1216, 1217, 1218, 1219, 1220, 1221, 1222, 1223, 1224, 1225, 1226, 1227, 1228, 1229, 1230, 1231, 1232, 1233, 1234, 1235, 1236, 1237, 1238, 1239, 1240] (by decide +kernel) (by decide +kernel)
set_option maxRecDepth 20000 in
theorem gL_law_X11_seen : GoodIn wsL_law (wsV RL 129 RX11 yX11_seen wsX11_seen) := goodIn_app (goodIn_of _ (by decide +kernel)) ggL_law_X11_seen
set_option maxRecDepth 20000 in
theorem ggL_law_X10_sheet : GoodIn wsL_law wsX10_sheet := goodIn_r _ [1114, 36, 1115, 1116, 35, 1117, 1118, 1119, 1120, 1121, 1122, 1123, 1124, 109, 110, 108, 111, 112, 113, 114, 1172, 1173, 1174, 1175, 1176, 1177, 1178, 1179, 1180, 1181, 1276, 1277, 1278] (by decide +kernel) (by decide +kernel)
set_option maxRecDepth 20000 in
theorem gL_law_X10_sheet : GoodIn wsL_law (wsV RL 130 RX10 yX10_sheet wsX10_sheet) := goodIn_app (goodIn_of _ (by decide +kernel)) ggL_law_X10_sheet
set_option maxRecDepth 20000 in
theorem ggL_law_X11_sheet : GoodIn wsL_law wsX11_sheet := goodIn_r _ [1128, 164, 165, 166, 1129, 1130, 5, 1131, 969, 790, 225, 226, 227, 1182, 1183, 1184, 1185, 1186, 1187, 1188, 1189, 1190, 1191, 1192, 1193, 1194, 1195, 1196, 1197, 1198, 1199, 1200, 1201, 1202, 1203, 1204, 1205, 1206, 1207, 1208, 1209, 1210, 1211, 1212, 1213, 1214, 1215, 1216, 1217, 1218, 1219, 1220, 1221, 1222, 1223, 1224, 1225, 1226, 1227, 1228, 1229, 1230, 1231, 1232, 1233, 1234, 1235, 1236, 1237, 1238, 1239, 1240] (by decide +kernel) (by decide +kernel)
set_option maxRecDepth 20000 in
theorem gL_law_X11_sheet : GoodIn wsL_law (wsV RL 133 RX11 yX11_sheet wsX11_sheet) := goodIn_app (goodIn_of _ (by decide +kernel)) ggL_law_X11_sheet
set_option maxRecDepth 20000 in
theorem ggL_law_X10_lay : GoodIn wsL_law wsX10_lay := goodIn_r _ [1135, 36, 1136, 1115, 1116, 35, 1117, 1137, 1138, 1139, 1140, 109, 108, 1172, 1173, 1174, 1175, 1176, 1177, 1178, 1179, 1180, 1181, 1276, 1277, 1278] (by decide +kernel) (by decide +kernel)
set_option maxRecDepth 20000 in
theorem gL_law_X10_lay : GoodIn wsL_law (wsV RL 134 RX10 yX10_lay wsX10_lay) := goodIn_app (goodIn_of _ (by decide +kernel)) ggL_law_X10_lay
set_option maxRecDepth 20000 in
theorem ggL_law_X11_lay : GoodIn wsL_law wsX11_lay := goodIn_r _ [1144, 164, 165, 166, 1129, 1130, 5, 1131, 969, 790, 225, 226, 227, 1182, 1183, 1184, 1185, 1186, 1187, 1188, 1189, 1190, 1191, 1192, 1193, 1194, 1195, 1196, 1197, 1198, 1199, 1200, 1201, 1202, 1203, 1204, 1205, 1206, 1207, 1208, 1209, 1210, 1211, 1212, 1213, 1214, 1215, 1216, 1217, 1218, 1219, 1220, 1221, 1222, 1223, 1224, 1225, 1226, 1227, 1228, 1229, 1230, 1231, 1232, 1233, 1234, 1235, 1236, 1237, 1238, 1239, 1240] (by decide +kernel) (by decide +kernel)
set_option maxRecDepth 20000 in
theorem gL_law_X11_lay : GoodIn wsL_law (wsV RL 137 RX11 yX11_lay wsX11_lay) := goodIn_app (goodIn_of _ (by decide +kernel)) ggL_law_X11_lay
set_option maxRecDepth 20000 in
theorem ggL_law_X10_measured : GoodIn wsL_law wsX10_measured := goodIn_r _ [1148, 36, 1136, 1149, 1115, 1116, 35, 1117, 1118, 1119, 1120, 816, 817, 818, 2, 819, 24, 40, 20, 649, 820, 821, 822, 23, 823, 824, 81, 825, 388, 389, 39, 390, 119, 826, 827, 828, 829, 82, 830, 363, 364, 365, 831, 832, 833, 834, 640, 575, 576, 577, 578, 122, 835, 836, 837, 838, 839, 840, 84, 841, 842, 843, 844, 83, 845, 580, 581, 582, 121, 846, 847, 848, 849, 850, 419, 420, 421, 1150, 1151, 1152, 1153, 1154, 1155, 1156, 1157, 929, 930, 931, 932, 933, 856, 857, 858, 1172, 1173, 1174, 1175, 1176, 1177, 1178, 1179, 1180, 1181, 1276, 1277, 1278, 1243, 1244, 1245, 1246, 1247, 1248, 1249, 1250, 1251, 1252, 1253, 1254, 1255, 1256, 1279, 1280, 1281, 1282, 1283, 1284, 1257, 1258, 1259, 1260, 1261, 1262, 1263, 1264, 1265] (by decide +kernel) (by decide +kernel)
set_option maxRecDepth 20000 in
theorem gL_law_X10_measured : GoodIn wsL_law (wsV RL 138 RX10 yX10_measured wsX10_measured) := goodIn_app (goodIn_of _ (by decide +kernel)) ggL_law_X10_measured
set_option maxRecDepth 20000 in
theorem ggL_law_X11_measured : GoodIn wsL_law wsX11_measured := goodIn_r _ [1161, 1162, 790, 164, 165, 166, 1163, 1129, 1130, 5, 1131, 969, 225, 226, 227, 864, 865, 866, 867, 182, 162, 198, 199, 200, 201, 140, 868, 869, 870, 871, 161, 156, 872, 873, 874, 875, 863, 159, 876, 160, 803, 804, 805, 806, 155, 807, 808, 809, 810, 591, 592, 593, 594, 142, 938, 939, 940, 941, 743, 744, 745, 746, 1182, 1183, 1184, 1185, 1186, 1187, 1188, 1189, 1190, 1191, 1192, 1193, 1194, 1195, 1196, 1197, 1198, 1199, 1200, 1201, 1202, 1203, 1204, 1205, 1206, 1207, 1208, 1209, 1210, 1211, 1212, 1213, 1214, 1215, 1216, 1217, 1218, 1219, 1220, 1221, 1222, 1223, 1224, 1225, 1226, 1227, 1228, 1229, 1230, 1231, 1232, 1233, 1234, 1235, 1236, 1237, 1238, 1239, 1240] (by decide +kernel) (by decide +kernel)
set_option maxRecDepth 20000 in
theorem gL_law_X11_measured : GoodIn wsL_law (wsV RL 142 RX11 yX11_measured wsX11_measured) := goodIn_app (goodIn_of _ (by decide +kernel)) ggL_law_X11_measured
set_option maxRecDepth 20000 in
theorem ggL_law_X10_count : GoodIn wsL_law wsX10_count := goodIn_r _ [1167, 40, 566, 20, 640, 781, 782, 16, 206, 36, 1136, 1065, 1055, 1056, 1057, 1058, 1059, 1060, 881, 882, 883, 39, 884, 122, 885, 388, 389, 390, 119, 1172, 1173, 1174, 1175, 1176, 1177, 1178, 1179, 1180, 1181, 1279, 1280, 1281, 1282, 1283, 1284, 1243, 1244, 1245, 1246, 1247, 1248, 1249, 1250, 1251, 1252, 1253, 1254, 1255, 1256, 1298, 1299, 1300, 1301, 1241, 1242, 1276, 1277, 1278] (by decide +kernel) (by decide +kernel)
set_option maxRecDepth 20000 in
theorem gL_law_X10_count : GoodIn wsL_law (wsV RL 143 RX10 yX10_count wsX10_count) := goodIn_app (goodIn_of _ (by decide +kernel)) ggL_law_X10_count
set_option maxRecDepth 20000 in
theorem ggL_law_X11_count : GoodIn wsL_law wsX11_count := goodIn_r _ [1171, 182, 197, 215, 164, 165, 803, 804, 805, 5, 806, 155, 1074, 1075, 1076, 917, 918, 919, 920, 198, 199, 200, 201, 140, 1182, 1183, 1184, 1185, 1186, 1187, 1188, 1189, 1190, 1191, 1192, 1193, 1194, 1195, 1196, 1197, 1198, 1199, 1200, 1201, 1202, 1203, 1204, 1205, 1206, 1207, 1208, 1209, 1210, 1211, 1212, 1213, 1214, 1215, 1216, 1217, 1218, 1219, 1220, 1221, 1222, 1223, 1224, 1225, 1226, 1227, 1228, 1229, 1230, 1231, 1232, 1233, 1234, 1235, 1236, 1237, 1238, 1239, 1240] (by decide +kernel) (by decide +kernel)
set_option maxRecDepth 20000 in
theorem gL_law_X11_count : GoodIn wsL_law (wsV RL 146 RX11 yX11_count wsX11_count) := goodIn_app (goodIn_of _ (by decide +kernel)) ggL_law_X11_count
theorem dL_law_0 : decode cL_law 0 = .ok (.new 7, 3) := by decide +kernel
theorem dL_law_3 : decode cL_law 3 = .ok (.dup, 1) := by decide +kernel
theorem dL_law_4 : decode cL_law 4 = .ok (.invokespecial 9, 3) := by decide +kernel
theorem dL_law_7 : decode cL_law 7 = .ok (.astore_n 1, 1) := by decide +kernel
theorem dL_law_8 : decode cL_law 8 = .ok (.new 10, 3) := by decide +kernel
theorem dL_law_11 : decode cL_law 11 = .ok (.dup, 1) := by decide +kernel
theorem dL_law_12 : decode cL_law 12 = .ok (.invokespecial 12, 3) := by decide +kernel
theorem dL_law_15 : decode cL_law 15 = .ok (.astore_n 2, 1) := by decide +kernel
theorem dL_law_16 : decode cL_law 16 = .ok (.iconst 0, 1) := by decide +kernel
theorem dL_law_17 : decode cL_law 17 = .ok (.istore_n 3, 1) := by decide +kernel
theorem dL_law_18 : decode cL_law 18 = .ok (.iload_n 3, 1) := by decide +kernel
theorem dL_law_19 : decode cL_law 19 = .ok (.aload_n 0, 1) := by decide +kernel
theorem dL_law_20 : decode cL_law 20 = .ok (.arraylength, 1) := by decide +kernel
theorem dL_law_21 : decode cL_law 21 = .ok (.bipush 6, 2) := by decide +kernel
theorem dL_law_23 : decode cL_law 23 = .ok (.isub, 1) := by decide +kernel
theorem dL_law_24 : decode cL_law 24 = .ok (.if_icmp .gt 1099, 3) := by decide +kernel
theorem dL_law_27 : decode cL_law 27 = .ok (.aload_n 0, 1) := by decide +kernel
theorem dL_law_28 : decode cL_law 28 = .ok (.iload_n 3, 1) := by decide +kernel
theorem dL_law_29 : decode cL_law 29 = .ok (.iaload, 1) := by decide +kernel
theorem dL_law_30 : decode cL_law 30 = .ok (.bipush 31, 2) := by decide +kernel
theorem dL_law_32 : decode cL_law 32 = .ok (.iand, 1) := by decide +kernel
theorem dL_law_33 : decode cL_law 33 = .ok (.tableswitch 1084 0 30 #[139, 192, 215, 228, 241, 274, 297, 330, 363, 402, 451, 484, 507, 530, 563, 596, 619, 652, 695, 718, 741, 764, 777, 800, 833, 866, 889, 912, 955, 998, 1061], 139) := by decide +kernel
theorem dL_law_172 : decode cL_law 172 = .ok (.aload_n 1, 1) := by decide +kernel
theorem dL_law_173 : decode cL_law 173 = .ok (.aload_n 0, 1) := by decide +kernel
theorem dL_law_174 : decode cL_law 174 = .ok (.iload_n 3, 1) := by decide +kernel
theorem dL_law_175 : decode cL_law 175 = .ok (.iconst 1, 1) := by decide +kernel
theorem dL_law_176 : decode cL_law 176 = .ok (.iadd, 1) := by decide +kernel
theorem dL_law_177 : decode cL_law 177 = .ok (.iaload, 1) := by decide +kernel
theorem dL_law_178 : decode cL_law 178 = .ok (.i2l, 1) := by decide +kernel
theorem dL_law_179 : decode cL_law 179 = .ok (.bipush 32, 2) := by decide +kernel
theorem dL_law_181 : decode cL_law 181 = .ok (.lshl, 1) := by decide +kernel
theorem dL_law_182 : decode cL_law 182 = .ok (.aload_n 0, 1) := by decide +kernel
theorem dL_law_183 : decode cL_law 183 = .ok (.iload_n 3, 1) := by decide +kernel
theorem dL_law_184 : decode cL_law 184 = .ok (.iconst 2, 1) := by decide +kernel
theorem dL_law_185 : decode cL_law 185 = .ok (.iadd, 1) := by decide +kernel
theorem dL_law_186 : decode cL_law 186 = .ok (.iaload, 1) := by decide +kernel
theorem dL_law_187 : decode cL_law 187 = .ok (.i2l, 1) := by decide +kernel
theorem dL_law_188 : decode cL_law 188 = .ok (.ldc2_w 13, 3) := by decide +kernel
theorem dL_law_191 : decode cL_law 191 = .ok (.land, 1) := by decide +kernel
theorem dL_law_192 : decode cL_law 192 = .ok (.lor, 1) := by decide +kernel
theorem dL_law_193 : decode cL_law 193 = .ok (.invokevirtual 15, 3) := by decide +kernel
theorem dL_law_196 : decode cL_law 196 = .ok (.aload_n 2, 1) := by decide +kernel
theorem dL_law_197 : decode cL_law 197 = .ok (.aload_n 0, 1) := by decide +kernel
theorem dL_law_198 : decode cL_law 198 = .ok (.iload_n 3, 1) := by decide +kernel
theorem dL_law_199 : decode cL_law 199 = .ok (.iconst 1, 1) := by decide +kernel
theorem dL_law_200 : decode cL_law 200 = .ok (.iadd, 1) := by decide +kernel
theorem dL_law_201 : decode cL_law 201 = .ok (.iaload, 1) := by decide +kernel
theorem dL_law_202 : decode cL_law 202 = .ok (.i2l, 1) := by decide +kernel
theorem dL_law_203 : decode cL_law 203 = .ok (.bipush 32, 2) := by decide +kernel
theorem dL_law_205 : decode cL_law 205 = .ok (.lshl, 1) := by decide +kernel
theorem dL_law_206 : decode cL_law 206 = .ok (.aload_n 0, 1) := by decide +kernel
theorem dL_law_207 : decode cL_law 207 = .ok (.iload_n 3, 1) := by decide +kernel
theorem dL_law_208 : decode cL_law 208 = .ok (.iconst 2, 1) := by decide +kernel
theorem dL_law_209 : decode cL_law 209 = .ok (.iadd, 1) := by decide +kernel
theorem dL_law_210 : decode cL_law 210 = .ok (.iaload, 1) := by decide +kernel
theorem dL_law_211 : decode cL_law 211 = .ok (.i2l, 1) := by decide +kernel
theorem dL_law_212 : decode cL_law 212 = .ok (.ldc2_w 13, 3) := by decide +kernel
theorem dL_law_215 : decode cL_law 215 = .ok (.land, 1) := by decide +kernel
theorem dL_law_216 : decode cL_law 216 = .ok (.lor, 1) := by decide +kernel
theorem dL_law_217 : decode cL_law 217 = .ok (.invokevirtual 19, 3) := by decide +kernel
theorem dL_law_220 : decode cL_law 220 = .ok (.if_icmp .eq 897, 3) := by decide +kernel
theorem dL_law_223 : decode cL_law 223 = .ok (.iconst 0, 1) := by decide +kernel
theorem dL_law_224 : decode cL_law 224 = .ok (.ireturn, 1) := by decide +kernel
theorem dL_law_225 : decode cL_law 225 = .ok (.aload_n 1, 1) := by decide +kernel
theorem dL_law_226 : decode cL_law 226 = .ok (.aload_n 0, 1) := by decide +kernel
theorem dL_law_227 : decode cL_law 227 = .ok (.iload_n 3, 1) := by decide +kernel
theorem dL_law_228 : decode cL_law 228 = .ok (.iconst 1, 1) := by decide +kernel
theorem dL_law_229 : decode cL_law 229 = .ok (.iadd, 1) := by decide +kernel
theorem dL_law_230 : decode cL_law 230 = .ok (.iaload, 1) := by decide +kernel
theorem dL_law_231 : decode cL_law 231 = .ok (.invokevirtual 20, 3) := by decide +kernel
theorem dL_law_234 : decode cL_law 234 = .ok (.aload_n 2, 1) := by decide +kernel
theorem dL_law_235 : decode cL_law 235 = .ok (.aload_n 0, 1) := by decide +kernel
theorem dL_law_236 : decode cL_law 236 = .ok (.iload_n 3, 1) := by decide +kernel
theorem dL_law_237 : decode cL_law 237 = .ok (.iconst 1, 1) := by decide +kernel
theorem dL_law_238 : decode cL_law 238 = .ok (.iadd, 1) := by decide +kernel
theorem dL_law_239 : decode cL_law 239 = .ok (.iaload, 1) := by decide +kernel
theorem dL_law_240 : decode cL_law 240 = .ok (.invokevirtual 24, 3) := by decide +kernel
theorem dL_law_243 : decode cL_law 243 = .ok (.if_icmp .eq 874, 3) := by decide +kernel
theorem dL_law_246 : decode cL_law 246 = .ok (.iconst 0, 1) := by decide +kernel
theorem dL_law_247 : decode cL_law 247 = .ok (.ireturn, 1) := by decide +kernel
theorem dL_law_248 : decode cL_law 248 = .ok (.aload_n 1, 1) := by decide +kernel
theorem dL_law_249 : decode cL_law 249 = .ok (.invokevirtual 25, 3) := by decide +kernel
theorem dL_law_252 : decode cL_law 252 = .ok (.aload_n 2, 1) := by decide +kernel
theorem dL_law_253 : decode cL_law 253 = .ok (.invokevirtual 29, 3) := by decide +kernel
theorem dL_law_256 : decode cL_law 256 = .ok (.if_icmp .eq 861, 3) := by decide +kernel
theorem dL_law_259 : decode cL_law 259 = .ok (.iconst 0, 1) := by decide +kernel
theorem dL_law_260 : decode cL_law 260 = .ok (.ireturn, 1) := by decide +kernel
theorem dL_law_261 : decode cL_law 261 = .ok (.aload_n 1, 1) := by decide +kernel
theorem dL_law_262 : decode cL_law 262 = .ok (.invokevirtual 30, 3) := by decide +kernel
theorem dL_law_265 : decode cL_law 265 = .ok (.aload_n 2, 1) := by decide +kernel
theorem dL_law_266 : decode cL_law 266 = .ok (.invokevirtual 33, 3) := by decide +kernel
theorem dL_law_269 : decode cL_law 269 = .ok (.if_icmp .eq 848, 3) := by decide +kernel
theorem dL_law_272 : decode cL_law 272 = .ok (.iconst 0, 1) := by decide +kernel
theorem dL_law_273 : decode cL_law 273 = .ok (.ireturn, 1) := by decide +kernel
theorem dL_law_274 : decode cL_law 274 = .ok (.aload_n 1, 1) := by decide +kernel
theorem dL_law_275 : decode cL_law 275 = .ok (.aload_n 0, 1) := by decide +kernel
theorem dL_law_276 : decode cL_law 276 = .ok (.iload_n 3, 1) := by decide +kernel
theorem dL_law_277 : decode cL_law 277 = .ok (.iconst 1, 1) := by decide +kernel
theorem dL_law_278 : decode cL_law 278 = .ok (.iadd, 1) := by decide +kernel
theorem dL_law_279 : decode cL_law 279 = .ok (.iaload, 1) := by decide +kernel
theorem dL_law_280 : decode cL_law 280 = .ok (.aload_n 0, 1) := by decide +kernel
theorem dL_law_281 : decode cL_law 281 = .ok (.iload_n 3, 1) := by decide +kernel
theorem dL_law_282 : decode cL_law 282 = .ok (.iconst 2, 1) := by decide +kernel
theorem dL_law_283 : decode cL_law 283 = .ok (.iadd, 1) := by decide +kernel
theorem dL_law_284 : decode cL_law 284 = .ok (.iaload, 1) := by decide +kernel
theorem dL_law_285 : decode cL_law 285 = .ok (.invokevirtual 34, 3) := by decide +kernel
theorem dL_law_288 : decode cL_law 288 = .ok (.aload_n 2, 1) := by decide +kernel
theorem dL_law_289 : decode cL_law 289 = .ok (.aload_n 0, 1) := by decide +kernel
theorem dL_law_290 : decode cL_law 290 = .ok (.iload_n 3, 1) := by decide +kernel
theorem dL_law_291 : decode cL_law 291 = .ok (.iconst 1, 1) := by decide +kernel
theorem dL_law_292 : decode cL_law 292 = .ok (.iadd, 1) := by decide +kernel
theorem dL_law_293 : decode cL_law 293 = .ok (.iaload, 1) := by decide +kernel
theorem dL_law_294 : decode cL_law 294 = .ok (.aload_n 0, 1) := by decide +kernel
theorem dL_law_295 : decode cL_law 295 = .ok (.iload_n 3, 1) := by decide +kernel
theorem dL_law_296 : decode cL_law 296 = .ok (.iconst 2, 1) := by decide +kernel
theorem dL_law_297 : decode cL_law 297 = .ok (.iadd, 1) := by decide +kernel
theorem dL_law_298 : decode cL_law 298 = .ok (.iaload, 1) := by decide +kernel
theorem dL_law_299 : decode cL_law 299 = .ok (.invokevirtual 38, 3) := by decide +kernel
theorem dL_law_302 : decode cL_law 302 = .ok (.if_icmp .eq 815, 3) := by decide +kernel
theorem dL_law_305 : decode cL_law 305 = .ok (.iconst 0, 1) := by decide +kernel
theorem dL_law_306 : decode cL_law 306 = .ok (.ireturn, 1) := by decide +kernel
theorem dL_law_307 : decode cL_law 307 = .ok (.aload_n 1, 1) := by decide +kernel
theorem dL_law_308 : decode cL_law 308 = .ok (.aload_n 0, 1) := by decide +kernel
theorem dL_law_309 : decode cL_law 309 = .ok (.iload_n 3, 1) := by decide +kernel
theorem dL_law_310 : decode cL_law 310 = .ok (.iconst 1, 1) := by decide +kernel
theorem dL_law_311 : decode cL_law 311 = .ok (.iadd, 1) := by decide +kernel
theorem dL_law_312 : decode cL_law 312 = .ok (.iaload, 1) := by decide +kernel
theorem dL_law_313 : decode cL_law 313 = .ok (.invokevirtual 39, 3) := by decide +kernel
theorem dL_law_316 : decode cL_law 316 = .ok (.aload_n 2, 1) := by decide +kernel
theorem dL_law_317 : decode cL_law 317 = .ok (.aload_n 0, 1) := by decide +kernel
theorem dL_law_318 : decode cL_law 318 = .ok (.iload_n 3, 1) := by decide +kernel
theorem dL_law_319 : decode cL_law 319 = .ok (.iconst 1, 1) := by decide +kernel
theorem dL_law_320 : decode cL_law 320 = .ok (.iadd, 1) := by decide +kernel
theorem dL_law_321 : decode cL_law 321 = .ok (.iaload, 1) := by decide +kernel
theorem dL_law_322 : decode cL_law 322 = .ok (.invokevirtual 42, 3) := by decide +kernel
theorem dL_law_325 : decode cL_law 325 = .ok (.if_icmp .eq 792, 3) := by decide +kernel
theorem dL_law_328 : decode cL_law 328 = .ok (.iconst 0, 1) := by decide +kernel
theorem dL_law_329 : decode cL_law 329 = .ok (.ireturn, 1) := by decide +kernel
theorem dL_law_330 : decode cL_law 330 = .ok (.aload_n 1, 1) := by decide +kernel
theorem dL_law_331 : decode cL_law 331 = .ok (.aload_n 0, 1) := by decide +kernel
theorem dL_law_332 : decode cL_law 332 = .ok (.iload_n 3, 1) := by decide +kernel
theorem dL_law_333 : decode cL_law 333 = .ok (.iconst 1, 1) := by decide +kernel
theorem dL_law_334 : decode cL_law 334 = .ok (.iadd, 1) := by decide +kernel
theorem dL_law_335 : decode cL_law 335 = .ok (.iaload, 1) := by decide +kernel
theorem dL_law_336 : decode cL_law 336 = .ok (.aload_n 0, 1) := by decide +kernel
theorem dL_law_337 : decode cL_law 337 = .ok (.iload_n 3, 1) := by decide +kernel
theorem dL_law_338 : decode cL_law 338 = .ok (.iconst 2, 1) := by decide +kernel
theorem dL_law_339 : decode cL_law 339 = .ok (.iadd, 1) := by decide +kernel
theorem dL_law_340 : decode cL_law 340 = .ok (.iaload, 1) := by decide +kernel
theorem dL_law_341 : decode cL_law 341 = .ok (.invokevirtual 43, 3) := by decide +kernel
theorem dL_law_344 : decode cL_law 344 = .ok (.aload_n 2, 1) := by decide +kernel
theorem dL_law_345 : decode cL_law 345 = .ok (.aload_n 0, 1) := by decide +kernel
theorem dL_law_346 : decode cL_law 346 = .ok (.iload_n 3, 1) := by decide +kernel
theorem dL_law_347 : decode cL_law 347 = .ok (.iconst 1, 1) := by decide +kernel
theorem dL_law_348 : decode cL_law 348 = .ok (.iadd, 1) := by decide +kernel
theorem dL_law_349 : decode cL_law 349 = .ok (.iaload, 1) := by decide +kernel
theorem dL_law_350 : decode cL_law 350 = .ok (.aload_n 0, 1) := by decide +kernel
theorem dL_law_351 : decode cL_law 351 = .ok (.iload_n 3, 1) := by decide +kernel
theorem dL_law_352 : decode cL_law 352 = .ok (.iconst 2, 1) := by decide +kernel
theorem dL_law_353 : decode cL_law 353 = .ok (.iadd, 1) := by decide +kernel
theorem dL_law_354 : decode cL_law 354 = .ok (.iaload, 1) := by decide +kernel
theorem dL_law_355 : decode cL_law 355 = .ok (.invokevirtual 46, 3) := by decide +kernel
theorem dL_law_358 : decode cL_law 358 = .ok (.if_icmp .eq 759, 3) := by decide +kernel
theorem dL_law_361 : decode cL_law 361 = .ok (.iconst 0, 1) := by decide +kernel
theorem dL_law_362 : decode cL_law 362 = .ok (.ireturn, 1) := by decide +kernel
theorem dL_law_363 : decode cL_law 363 = .ok (.aload_n 1, 1) := by decide +kernel
theorem dL_law_364 : decode cL_law 364 = .ok (.aload_n 0, 1) := by decide +kernel
theorem dL_law_365 : decode cL_law 365 = .ok (.iload_n 3, 1) := by decide +kernel
theorem dL_law_366 : decode cL_law 366 = .ok (.iconst 1, 1) := by decide +kernel
theorem dL_law_367 : decode cL_law 367 = .ok (.iadd, 1) := by decide +kernel
theorem dL_law_368 : decode cL_law 368 = .ok (.iaload, 1) := by decide +kernel
theorem dL_law_369 : decode cL_law 369 = .ok (.aload_n 0, 1) := by decide +kernel
theorem dL_law_370 : decode cL_law 370 = .ok (.iload_n 3, 1) := by decide +kernel
theorem dL_law_371 : decode cL_law 371 = .ok (.iconst 2, 1) := by decide +kernel
theorem dL_law_372 : decode cL_law 372 = .ok (.iadd, 1) := by decide +kernel
theorem dL_law_373 : decode cL_law 373 = .ok (.iaload, 1) := by decide +kernel
theorem dL_law_374 : decode cL_law 374 = .ok (.invokevirtual 47, 3) := by decide +kernel
theorem dL_law_377 : decode cL_law 377 = .ok (.aload_n 2, 1) := by decide +kernel
theorem dL_law_378 : decode cL_law 378 = .ok (.aload_n 0, 1) := by decide +kernel
theorem dL_law_379 : decode cL_law 379 = .ok (.iload_n 3, 1) := by decide +kernel
theorem dL_law_380 : decode cL_law 380 = .ok (.iconst 1, 1) := by decide +kernel
theorem dL_law_381 : decode cL_law 381 = .ok (.iadd, 1) := by decide +kernel
theorem dL_law_382 : decode cL_law 382 = .ok (.iaload, 1) := by decide +kernel
theorem dL_law_383 : decode cL_law 383 = .ok (.aload_n 0, 1) := by decide +kernel
theorem dL_law_384 : decode cL_law 384 = .ok (.iload_n 3, 1) := by decide +kernel
theorem dL_law_385 : decode cL_law 385 = .ok (.iconst 2, 1) := by decide +kernel
theorem dL_law_386 : decode cL_law 386 = .ok (.iadd, 1) := by decide +kernel
theorem dL_law_387 : decode cL_law 387 = .ok (.iaload, 1) := by decide +kernel
theorem dL_law_388 : decode cL_law 388 = .ok (.invokevirtual 50, 3) := by decide +kernel
theorem dL_law_391 : decode cL_law 391 = .ok (.if_icmp .eq 726, 3) := by decide +kernel
theorem dL_law_394 : decode cL_law 394 = .ok (.iconst 0, 1) := by decide +kernel
theorem dL_law_395 : decode cL_law 395 = .ok (.ireturn, 1) := by decide +kernel
theorem dL_law_396 : decode cL_law 396 = .ok (.aload_n 1, 1) := by decide +kernel
theorem dL_law_397 : decode cL_law 397 = .ok (.aload_n 0, 1) := by decide +kernel
theorem dL_law_398 : decode cL_law 398 = .ok (.iload_n 3, 1) := by decide +kernel
theorem dL_law_399 : decode cL_law 399 = .ok (.iconst 1, 1) := by decide +kernel
theorem dL_law_400 : decode cL_law 400 = .ok (.iadd, 1) := by decide +kernel
theorem dL_law_401 : decode cL_law 401 = .ok (.iaload, 1) := by decide +kernel
theorem dL_law_402 : decode cL_law 402 = .ok (.ifCond .eq 7, 3) := by decide +kernel
theorem dL_law_405 : decode cL_law 405 = .ok (.iconst 1, 1) := by decide +kernel
theorem dL_law_406 : decode cL_law 406 = .ok (.goto 4, 3) := by decide +kernel
theorem dL_law_409 : decode cL_law 409 = .ok (.iconst 0, 1) := by decide +kernel
theorem dL_law_410 : decode cL_law 410 = .ok (.invokevirtual 51, 3) := by decide +kernel
theorem dL_law_413 : decode cL_law 413 = .ok (.aload_n 2, 1) := by decide +kernel
theorem dL_law_414 : decode cL_law 414 = .ok (.aload_n 0, 1) := by decide +kernel
theorem dL_law_415 : decode cL_law 415 = .ok (.iload_n 3, 1) := by decide +kernel
theorem dL_law_416 : decode cL_law 416 = .ok (.iconst 1, 1) := by decide +kernel
theorem dL_law_417 : decode cL_law 417 = .ok (.iadd, 1) := by decide +kernel
theorem dL_law_418 : decode cL_law 418 = .ok (.iaload, 1) := by decide +kernel
theorem dL_law_419 : decode cL_law 419 = .ok (.ifCond .eq 7, 3) := by decide +kernel
theorem dL_law_422 : decode cL_law 422 = .ok (.iconst 1, 1) := by decide +kernel
theorem dL_law_423 : decode cL_law 423 = .ok (.goto 4, 3) := by decide +kernel
theorem dL_law_426 : decode cL_law 426 = .ok (.iconst 0, 1) := by decide +kernel
theorem dL_law_427 : decode cL_law 427 = .ok (.invokevirtual 55, 3) := by decide +kernel
theorem dL_law_430 : decode cL_law 430 = .ok (.if_icmp .eq 687, 3) := by decide +kernel
theorem dL_law_433 : decode cL_law 433 = .ok (.iconst 0, 1) := by decide +kernel
theorem dL_law_434 : decode cL_law 434 = .ok (.ireturn, 1) := by decide +kernel
theorem dL_law_435 : decode cL_law 435 = .ok (.aload_n 1, 1) := by decide +kernel
theorem dL_law_436 : decode cL_law 436 = .ok (.aload_n 0, 1) := by decide +kernel
theorem dL_law_437 : decode cL_law 437 = .ok (.iload_n 3, 1) := by decide +kernel
theorem dL_law_438 : decode cL_law 438 = .ok (.iconst 1, 1) := by decide +kernel
theorem dL_law_439 : decode cL_law 439 = .ok (.iadd, 1) := by decide +kernel
theorem dL_law_440 : decode cL_law 440 = .ok (.iaload, 1) := by decide +kernel
theorem dL_law_441 : decode cL_law 441 = .ok (.aload_n 0, 1) := by decide +kernel
theorem dL_law_442 : decode cL_law 442 = .ok (.iload_n 3, 1) := by decide +kernel
theorem dL_law_443 : decode cL_law 443 = .ok (.iconst 2, 1) := by decide +kernel
theorem dL_law_444 : decode cL_law 444 = .ok (.iadd, 1) := by decide +kernel
theorem dL_law_445 : decode cL_law 445 = .ok (.iaload, 1) := by decide +kernel
theorem dL_law_446 : decode cL_law 446 = .ok (.ifCond .eq 7, 3) := by decide +kernel
theorem dL_law_449 : decode cL_law 449 = .ok (.iconst 1, 1) := by decide +kernel
theorem dL_law_450 : decode cL_law 450 = .ok (.goto 4, 3) := by decide +kernel
theorem dL_law_453 : decode cL_law 453 = .ok (.iconst 0, 1) := by decide +kernel
theorem dL_law_454 : decode cL_law 454 = .ok (.invokevirtual 56, 3) := by decide +kernel
theorem dL_law_457 : decode cL_law 457 = .ok (.aload_n 2, 1) := by decide +kernel
theorem dL_law_458 : decode cL_law 458 = .ok (.aload_n 0, 1) := by decide +kernel
theorem dL_law_459 : decode cL_law 459 = .ok (.iload_n 3, 1) := by decide +kernel
theorem dL_law_460 : decode cL_law 460 = .ok (.iconst 1, 1) := by decide +kernel
theorem dL_law_461 : decode cL_law 461 = .ok (.iadd, 1) := by decide +kernel
theorem dL_law_462 : decode cL_law 462 = .ok (.iaload, 1) := by decide +kernel
theorem dL_law_463 : decode cL_law 463 = .ok (.aload_n 0, 1) := by decide +kernel
theorem dL_law_464 : decode cL_law 464 = .ok (.iload_n 3, 1) := by decide +kernel
theorem dL_law_465 : decode cL_law 465 = .ok (.iconst 2, 1) := by decide +kernel
theorem dL_law_466 : decode cL_law 466 = .ok (.iadd, 1) := by decide +kernel
theorem dL_law_467 : decode cL_law 467 = .ok (.iaload, 1) := by decide +kernel
theorem dL_law_468 : decode cL_law 468 = .ok (.ifCond .eq 7, 3) := by decide +kernel
theorem dL_law_471 : decode cL_law 471 = .ok (.iconst 1, 1) := by decide +kernel
theorem dL_law_472 : decode cL_law 472 = .ok (.goto 4, 3) := by decide +kernel
theorem dL_law_475 : decode cL_law 475 = .ok (.iconst 0, 1) := by decide +kernel
theorem dL_law_476 : decode cL_law 476 = .ok (.invokevirtual 60, 3) := by decide +kernel
theorem dL_law_479 : decode cL_law 479 = .ok (.if_icmp .eq 638, 3) := by decide +kernel
theorem dL_law_482 : decode cL_law 482 = .ok (.iconst 0, 1) := by decide +kernel
theorem dL_law_483 : decode cL_law 483 = .ok (.ireturn, 1) := by decide +kernel
theorem dL_law_484 : decode cL_law 484 = .ok (.aload_n 1, 1) := by decide +kernel
theorem dL_law_485 : decode cL_law 485 = .ok (.aload_n 0, 1) := by decide +kernel
theorem dL_law_486 : decode cL_law 486 = .ok (.iload_n 3, 1) := by decide +kernel
theorem dL_law_487 : decode cL_law 487 = .ok (.iconst 1, 1) := by decide +kernel
theorem dL_law_488 : decode cL_law 488 = .ok (.iadd, 1) := by decide +kernel
theorem dL_law_489 : decode cL_law 489 = .ok (.iaload, 1) := by decide +kernel
theorem dL_law_490 : decode cL_law 490 = .ok (.aload_n 0, 1) := by decide +kernel
theorem dL_law_491 : decode cL_law 491 = .ok (.iload_n 3, 1) := by decide +kernel
theorem dL_law_492 : decode cL_law 492 = .ok (.iconst 2, 1) := by decide +kernel
theorem dL_law_493 : decode cL_law 493 = .ok (.iadd, 1) := by decide +kernel
theorem dL_law_494 : decode cL_law 494 = .ok (.iaload, 1) := by decide +kernel
theorem dL_law_495 : decode cL_law 495 = .ok (.invokevirtual 61, 3) := by decide +kernel
theorem dL_law_498 : decode cL_law 498 = .ok (.aload_n 2, 1) := by decide +kernel
theorem dL_law_499 : decode cL_law 499 = .ok (.aload_n 0, 1) := by decide +kernel
theorem dL_law_500 : decode cL_law 500 = .ok (.iload_n 3, 1) := by decide +kernel
theorem dL_law_501 : decode cL_law 501 = .ok (.iconst 1, 1) := by decide +kernel
theorem dL_law_502 : decode cL_law 502 = .ok (.iadd, 1) := by decide +kernel
theorem dL_law_503 : decode cL_law 503 = .ok (.iaload, 1) := by decide +kernel
theorem dL_law_504 : decode cL_law 504 = .ok (.aload_n 0, 1) := by decide +kernel
theorem dL_law_505 : decode cL_law 505 = .ok (.iload_n 3, 1) := by decide +kernel
theorem dL_law_506 : decode cL_law 506 = .ok (.iconst 2, 1) := by decide +kernel
theorem dL_law_507 : decode cL_law 507 = .ok (.iadd, 1) := by decide +kernel
theorem dL_law_508 : decode cL_law 508 = .ok (.iaload, 1) := by decide +kernel
theorem dL_law_509 : decode cL_law 509 = .ok (.invokevirtual 64, 3) := by decide +kernel
theorem dL_law_512 : decode cL_law 512 = .ok (.if_icmp .eq 605, 3) := by decide +kernel
theorem dL_law_515 : decode cL_law 515 = .ok (.iconst 0, 1) := by decide +kernel
theorem dL_law_516 : decode cL_law 516 = .ok (.ireturn, 1) := by decide +kernel
theorem dL_law_517 : decode cL_law 517 = .ok (.aload_n 1, 1) := by decide +kernel
theorem dL_law_518 : decode cL_law 518 = .ok (.aload_n 0, 1) := by decide +kernel
theorem dL_law_519 : decode cL_law 519 = .ok (.iload_n 3, 1) := by decide +kernel
theorem dL_law_520 : decode cL_law 520 = .ok (.iconst 1, 1) := by decide +kernel
theorem dL_law_521 : decode cL_law 521 = .ok (.iadd, 1) := by decide +kernel
theorem dL_law_522 : decode cL_law 522 = .ok (.iaload, 1) := by decide +kernel
theorem dL_law_523 : decode cL_law 523 = .ok (.invokevirtual 65, 3) := by decide +kernel
theorem dL_law_526 : decode cL_law 526 = .ok (.aload_n 2, 1) := by decide +kernel
theorem dL_law_527 : decode cL_law 527 = .ok (.aload_n 0, 1) := by decide +kernel
theorem dL_law_528 : decode cL_law 528 = .ok (.iload_n 3, 1) := by decide +kernel
theorem dL_law_529 : decode cL_law 529 = .ok (.iconst 1, 1) := by decide +kernel
theorem dL_law_530 : decode cL_law 530 = .ok (.iadd, 1) := by decide +kernel
theorem dL_law_531 : decode cL_law 531 = .ok (.iaload, 1) := by decide +kernel
theorem dL_law_532 : decode cL_law 532 = .ok (.invokevirtual 68, 3) := by decide +kernel
theorem dL_law_535 : decode cL_law 535 = .ok (.if_icmp .eq 582, 3) := by decide +kernel
theorem dL_law_538 : decode cL_law 538 = .ok (.iconst 0, 1) := by decide +kernel
theorem dL_law_539 : decode cL_law 539 = .ok (.ireturn, 1) := by decide +kernel
theorem dL_law_540 : decode cL_law 540 = .ok (.aload_n 1, 1) := by decide +kernel
theorem dL_law_541 : decode cL_law 541 = .ok (.aload_n 0, 1) := by decide +kernel
theorem dL_law_542 : decode cL_law 542 = .ok (.iload_n 3, 1) := by decide +kernel
theorem dL_law_543 : decode cL_law 543 = .ok (.iconst 1, 1) := by decide +kernel
theorem dL_law_544 : decode cL_law 544 = .ok (.iadd, 1) := by decide +kernel
theorem dL_law_545 : decode cL_law 545 = .ok (.iaload, 1) := by decide +kernel
theorem dL_law_546 : decode cL_law 546 = .ok (.invokevirtual 69, 3) := by decide +kernel
theorem dL_law_549 : decode cL_law 549 = .ok (.aload_n 2, 1) := by decide +kernel
theorem dL_law_550 : decode cL_law 550 = .ok (.aload_n 0, 1) := by decide +kernel
theorem dL_law_551 : decode cL_law 551 = .ok (.iload_n 3, 1) := by decide +kernel
theorem dL_law_552 : decode cL_law 552 = .ok (.iconst 1, 1) := by decide +kernel
theorem dL_law_553 : decode cL_law 553 = .ok (.iadd, 1) := by decide +kernel
theorem dL_law_554 : decode cL_law 554 = .ok (.iaload, 1) := by decide +kernel
theorem dL_law_555 : decode cL_law 555 = .ok (.invokevirtual 72, 3) := by decide +kernel
theorem dL_law_558 : decode cL_law 558 = .ok (.if_icmp .eq 559, 3) := by decide +kernel
theorem dL_law_561 : decode cL_law 561 = .ok (.iconst 0, 1) := by decide +kernel
theorem dL_law_562 : decode cL_law 562 = .ok (.ireturn, 1) := by decide +kernel
theorem dL_law_563 : decode cL_law 563 = .ok (.aload_n 1, 1) := by decide +kernel
theorem dL_law_564 : decode cL_law 564 = .ok (.aload_n 0, 1) := by decide +kernel
theorem dL_law_565 : decode cL_law 565 = .ok (.iload_n 3, 1) := by decide +kernel
theorem dL_law_566 : decode cL_law 566 = .ok (.iconst 1, 1) := by decide +kernel
theorem dL_law_567 : decode cL_law 567 = .ok (.iadd, 1) := by decide +kernel
theorem dL_law_568 : decode cL_law 568 = .ok (.iaload, 1) := by decide +kernel
theorem dL_law_569 : decode cL_law 569 = .ok (.aload_n 0, 1) := by decide +kernel
theorem dL_law_570 : decode cL_law 570 = .ok (.iload_n 3, 1) := by decide +kernel
theorem dL_law_571 : decode cL_law 571 = .ok (.iconst 2, 1) := by decide +kernel
theorem dL_law_572 : decode cL_law 572 = .ok (.iadd, 1) := by decide +kernel
theorem dL_law_573 : decode cL_law 573 = .ok (.iaload, 1) := by decide +kernel
theorem dL_law_574 : decode cL_law 574 = .ok (.invokevirtual 73, 3) := by decide +kernel
theorem dL_law_577 : decode cL_law 577 = .ok (.aload_n 2, 1) := by decide +kernel
theorem dL_law_578 : decode cL_law 578 = .ok (.aload_n 0, 1) := by decide +kernel
theorem dL_law_579 : decode cL_law 579 = .ok (.iload_n 3, 1) := by decide +kernel
theorem dL_law_580 : decode cL_law 580 = .ok (.iconst 1, 1) := by decide +kernel
theorem dL_law_581 : decode cL_law 581 = .ok (.iadd, 1) := by decide +kernel
theorem dL_law_582 : decode cL_law 582 = .ok (.iaload, 1) := by decide +kernel
theorem dL_law_583 : decode cL_law 583 = .ok (.aload_n 0, 1) := by decide +kernel
theorem dL_law_584 : decode cL_law 584 = .ok (.iload_n 3, 1) := by decide +kernel
theorem dL_law_585 : decode cL_law 585 = .ok (.iconst 2, 1) := by decide +kernel
theorem dL_law_586 : decode cL_law 586 = .ok (.iadd, 1) := by decide +kernel
theorem dL_law_587 : decode cL_law 587 = .ok (.iaload, 1) := by decide +kernel
theorem dL_law_588 : decode cL_law 588 = .ok (.invokevirtual 76, 3) := by decide +kernel
theorem dL_law_591 : decode cL_law 591 = .ok (.if_icmp .eq 526, 3) := by decide +kernel
theorem dL_law_594 : decode cL_law 594 = .ok (.iconst 0, 1) := by decide +kernel
theorem dL_law_595 : decode cL_law 595 = .ok (.ireturn, 1) := by decide +kernel
theorem dL_law_596 : decode cL_law 596 = .ok (.aload_n 1, 1) := by decide +kernel
theorem dL_law_597 : decode cL_law 597 = .ok (.aload_n 0, 1) := by decide +kernel
theorem dL_law_598 : decode cL_law 598 = .ok (.iload_n 3, 1) := by decide +kernel
theorem dL_law_599 : decode cL_law 599 = .ok (.iconst 1, 1) := by decide +kernel
theorem dL_law_600 : decode cL_law 600 = .ok (.iadd, 1) := by decide +kernel
theorem dL_law_601 : decode cL_law 601 = .ok (.iaload, 1) := by decide +kernel
theorem dL_law_602 : decode cL_law 602 = .ok (.aload_n 0, 1) := by decide +kernel
theorem dL_law_603 : decode cL_law 603 = .ok (.iload_n 3, 1) := by decide +kernel
theorem dL_law_604 : decode cL_law 604 = .ok (.iconst 2, 1) := by decide +kernel
theorem dL_law_605 : decode cL_law 605 = .ok (.iadd, 1) := by decide +kernel
theorem dL_law_606 : decode cL_law 606 = .ok (.iaload, 1) := by decide +kernel
theorem dL_law_607 : decode cL_law 607 = .ok (.invokevirtual 77, 3) := by decide +kernel
theorem dL_law_610 : decode cL_law 610 = .ok (.aload_n 2, 1) := by decide +kernel
theorem dL_law_611 : decode cL_law 611 = .ok (.aload_n 0, 1) := by decide +kernel
theorem dL_law_612 : decode cL_law 612 = .ok (.iload_n 3, 1) := by decide +kernel
theorem dL_law_613 : decode cL_law 613 = .ok (.iconst 1, 1) := by decide +kernel
theorem dL_law_614 : decode cL_law 614 = .ok (.iadd, 1) := by decide +kernel
theorem dL_law_615 : decode cL_law 615 = .ok (.iaload, 1) := by decide +kernel
theorem dL_law_616 : decode cL_law 616 = .ok (.aload_n 0, 1) := by decide +kernel
theorem dL_law_617 : decode cL_law 617 = .ok (.iload_n 3, 1) := by decide +kernel
theorem dL_law_618 : decode cL_law 618 = .ok (.iconst 2, 1) := by decide +kernel
theorem dL_law_619 : decode cL_law 619 = .ok (.iadd, 1) := by decide +kernel
theorem dL_law_620 : decode cL_law 620 = .ok (.iaload, 1) := by decide +kernel
theorem dL_law_621 : decode cL_law 621 = .ok (.invokevirtual 80, 3) := by decide +kernel
theorem dL_law_624 : decode cL_law 624 = .ok (.if_icmp .eq 493, 3) := by decide +kernel
theorem dL_law_627 : decode cL_law 627 = .ok (.iconst 0, 1) := by decide +kernel
theorem dL_law_628 : decode cL_law 628 = .ok (.ireturn, 1) := by decide +kernel
theorem dL_law_629 : decode cL_law 629 = .ok (.aload_n 1, 1) := by decide +kernel
theorem dL_law_630 : decode cL_law 630 = .ok (.aload_n 0, 1) := by decide +kernel
theorem dL_law_631 : decode cL_law 631 = .ok (.iload_n 3, 1) := by decide +kernel
theorem dL_law_632 : decode cL_law 632 = .ok (.iconst 1, 1) := by decide +kernel
theorem dL_law_633 : decode cL_law 633 = .ok (.iadd, 1) := by decide +kernel
theorem dL_law_634 : decode cL_law 634 = .ok (.iaload, 1) := by decide +kernel
theorem dL_law_635 : decode cL_law 635 = .ok (.invokevirtual 81, 3) := by decide +kernel
theorem dL_law_638 : decode cL_law 638 = .ok (.aload_n 2, 1) := by decide +kernel
theorem dL_law_639 : decode cL_law 639 = .ok (.aload_n 0, 1) := by decide +kernel
theorem dL_law_640 : decode cL_law 640 = .ok (.iload_n 3, 1) := by decide +kernel
theorem dL_law_641 : decode cL_law 641 = .ok (.iconst 1, 1) := by decide +kernel
theorem dL_law_642 : decode cL_law 642 = .ok (.iadd, 1) := by decide +kernel
theorem dL_law_643 : decode cL_law 643 = .ok (.iaload, 1) := by decide +kernel
theorem dL_law_644 : decode cL_law 644 = .ok (.invokevirtual 84, 3) := by decide +kernel
theorem dL_law_647 : decode cL_law 647 = .ok (.if_icmp .eq 470, 3) := by decide +kernel
theorem dL_law_650 : decode cL_law 650 = .ok (.iconst 0, 1) := by decide +kernel
theorem dL_law_651 : decode cL_law 651 = .ok (.ireturn, 1) := by decide +kernel
theorem dL_law_652 : decode cL_law 652 = .ok (.aload_n 1, 1) := by decide +kernel
theorem dL_law_653 : decode cL_law 653 = .ok (.aload_n 0, 1) := by decide +kernel
theorem dL_law_654 : decode cL_law 654 = .ok (.iload_n 3, 1) := by decide +kernel
theorem dL_law_655 : decode cL_law 655 = .ok (.iconst 1, 1) := by decide +kernel
theorem dL_law_656 : decode cL_law 656 = .ok (.iadd, 1) := by decide +kernel
theorem dL_law_657 : decode cL_law 657 = .ok (.iaload, 1) := by decide +kernel
theorem dL_law_658 : decode cL_law 658 = .ok (.aload_n 0, 1) := by decide +kernel
theorem dL_law_659 : decode cL_law 659 = .ok (.iload_n 3, 1) := by decide +kernel
theorem dL_law_660 : decode cL_law 660 = .ok (.iconst 2, 1) := by decide +kernel
theorem dL_law_661 : decode cL_law 661 = .ok (.iadd, 1) := by decide +kernel
theorem dL_law_662 : decode cL_law 662 = .ok (.iaload, 1) := by decide +kernel
theorem dL_law_663 : decode cL_law 663 = .ok (.invokevirtual 85, 3) := by decide +kernel
theorem dL_law_666 : decode cL_law 666 = .ok (.aload_n 2, 1) := by decide +kernel
theorem dL_law_667 : decode cL_law 667 = .ok (.aload_n 0, 1) := by decide +kernel
theorem dL_law_668 : decode cL_law 668 = .ok (.iload_n 3, 1) := by decide +kernel
theorem dL_law_669 : decode cL_law 669 = .ok (.iconst 1, 1) := by decide +kernel
theorem dL_law_670 : decode cL_law 670 = .ok (.iadd, 1) := by decide +kernel
theorem dL_law_671 : decode cL_law 671 = .ok (.iaload, 1) := by decide +kernel
theorem dL_law_672 : decode cL_law 672 = .ok (.aload_n 0, 1) := by decide +kernel
theorem dL_law_673 : decode cL_law 673 = .ok (.iload_n 3, 1) := by decide +kernel
theorem dL_law_674 : decode cL_law 674 = .ok (.iconst 2, 1) := by decide +kernel
theorem dL_law_675 : decode cL_law 675 = .ok (.iadd, 1) := by decide +kernel
theorem dL_law_676 : decode cL_law 676 = .ok (.iaload, 1) := by decide +kernel
theorem dL_law_677 : decode cL_law 677 = .ok (.invokevirtual 88, 3) := by decide +kernel
theorem dL_law_680 : decode cL_law 680 = .ok (.if_icmp .eq 437, 3) := by decide +kernel
theorem dL_law_683 : decode cL_law 683 = .ok (.iconst 0, 1) := by decide +kernel
theorem dL_law_684 : decode cL_law 684 = .ok (.ireturn, 1) := by decide +kernel
theorem dL_law_685 : decode cL_law 685 = .ok (.aload_n 1, 1) := by decide +kernel
theorem dL_law_686 : decode cL_law 686 = .ok (.aload_n 0, 1) := by decide +kernel
theorem dL_law_687 : decode cL_law 687 = .ok (.iload_n 3, 1) := by decide +kernel
theorem dL_law_688 : decode cL_law 688 = .ok (.iconst 1, 1) := by decide +kernel
theorem dL_law_689 : decode cL_law 689 = .ok (.iadd, 1) := by decide +kernel
theorem dL_law_690 : decode cL_law 690 = .ok (.iaload, 1) := by decide +kernel
theorem dL_law_691 : decode cL_law 691 = .ok (.aload_n 0, 1) := by decide +kernel
theorem dL_law_692 : decode cL_law 692 = .ok (.iload_n 3, 1) := by decide +kernel
theorem dL_law_693 : decode cL_law 693 = .ok (.iconst 2, 1) := by decide +kernel
theorem dL_law_694 : decode cL_law 694 = .ok (.iadd, 1) := by decide +kernel
theorem dL_law_695 : decode cL_law 695 = .ok (.iaload, 1) := by decide +kernel
theorem dL_law_696 : decode cL_law 696 = .ok (.aload_n 0, 1) := by decide +kernel
theorem dL_law_697 : decode cL_law 697 = .ok (.iload_n 3, 1) := by decide +kernel
theorem dL_law_698 : decode cL_law 698 = .ok (.iconst 3, 1) := by decide +kernel
theorem dL_law_699 : decode cL_law 699 = .ok (.iadd, 1) := by decide +kernel
theorem dL_law_700 : decode cL_law 700 = .ok (.iaload, 1) := by decide +kernel
theorem dL_law_701 : decode cL_law 701 = .ok (.invokevirtual 89, 3) := by decide +kernel
theorem dL_law_704 : decode cL_law 704 = .ok (.aload_n 2, 1) := by decide +kernel
theorem dL_law_705 : decode cL_law 705 = .ok (.aload_n 0, 1) := by decide +kernel
theorem dL_law_706 : decode cL_law 706 = .ok (.iload_n 3, 1) := by decide +kernel
theorem dL_law_707 : decode cL_law 707 = .ok (.iconst 1, 1) := by decide +kernel
theorem dL_law_708 : decode cL_law 708 = .ok (.iadd, 1) := by decide +kernel
theorem dL_law_709 : decode cL_law 709 = .ok (.iaload, 1) := by decide +kernel
theorem dL_law_710 : decode cL_law 710 = .ok (.aload_n 0, 1) := by decide +kernel
theorem dL_law_711 : decode cL_law 711 = .ok (.iload_n 3, 1) := by decide +kernel
theorem dL_law_712 : decode cL_law 712 = .ok (.iconst 2, 1) := by decide +kernel
theorem dL_law_713 : decode cL_law 713 = .ok (.iadd, 1) := by decide +kernel
theorem dL_law_714 : decode cL_law 714 = .ok (.iaload, 1) := by decide +kernel
theorem dL_law_715 : decode cL_law 715 = .ok (.aload_n 0, 1) := by decide +kernel
theorem dL_law_716 : decode cL_law 716 = .ok (.iload_n 3, 1) := by decide +kernel
theorem dL_law_717 : decode cL_law 717 = .ok (.iconst 3, 1) := by decide +kernel
theorem dL_law_718 : decode cL_law 718 = .ok (.iadd, 1) := by decide +kernel
theorem dL_law_719 : decode cL_law 719 = .ok (.iaload, 1) := by decide +kernel
theorem dL_law_720 : decode cL_law 720 = .ok (.invokevirtual 93, 3) := by decide +kernel
theorem dL_law_723 : decode cL_law 723 = .ok (.if_icmp .eq 394, 3) := by decide +kernel
theorem dL_law_726 : decode cL_law 726 = .ok (.iconst 0, 1) := by decide +kernel
theorem dL_law_727 : decode cL_law 727 = .ok (.ireturn, 1) := by decide +kernel
theorem dL_law_728 : decode cL_law 728 = .ok (.aload_n 1, 1) := by decide +kernel
theorem dL_law_729 : decode cL_law 729 = .ok (.aload_n 0, 1) := by decide +kernel
theorem dL_law_730 : decode cL_law 730 = .ok (.iload_n 3, 1) := by decide +kernel
theorem dL_law_731 : decode cL_law 731 = .ok (.iconst 1, 1) := by decide +kernel
theorem dL_law_732 : decode cL_law 732 = .ok (.iadd, 1) := by decide +kernel
theorem dL_law_733 : decode cL_law 733 = .ok (.iaload, 1) := by decide +kernel
theorem dL_law_734 : decode cL_law 734 = .ok (.invokevirtual 94, 3) := by decide +kernel
theorem dL_law_737 : decode cL_law 737 = .ok (.aload_n 2, 1) := by decide +kernel
theorem dL_law_738 : decode cL_law 738 = .ok (.aload_n 0, 1) := by decide +kernel
theorem dL_law_739 : decode cL_law 739 = .ok (.iload_n 3, 1) := by decide +kernel
theorem dL_law_740 : decode cL_law 740 = .ok (.iconst 1, 1) := by decide +kernel
theorem dL_law_741 : decode cL_law 741 = .ok (.iadd, 1) := by decide +kernel
theorem dL_law_742 : decode cL_law 742 = .ok (.iaload, 1) := by decide +kernel
theorem dL_law_743 : decode cL_law 743 = .ok (.invokevirtual 97, 3) := by decide +kernel
theorem dL_law_746 : decode cL_law 746 = .ok (.if_icmp .eq 371, 3) := by decide +kernel
theorem dL_law_749 : decode cL_law 749 = .ok (.iconst 0, 1) := by decide +kernel
theorem dL_law_750 : decode cL_law 750 = .ok (.ireturn, 1) := by decide +kernel
theorem dL_law_751 : decode cL_law 751 = .ok (.aload_n 1, 1) := by decide +kernel
theorem dL_law_752 : decode cL_law 752 = .ok (.aload_n 0, 1) := by decide +kernel
theorem dL_law_753 : decode cL_law 753 = .ok (.iload_n 3, 1) := by decide +kernel
theorem dL_law_754 : decode cL_law 754 = .ok (.iconst 1, 1) := by decide +kernel
theorem dL_law_755 : decode cL_law 755 = .ok (.iadd, 1) := by decide +kernel
theorem dL_law_756 : decode cL_law 756 = .ok (.iaload, 1) := by decide +kernel
theorem dL_law_757 : decode cL_law 757 = .ok (.invokevirtual 98, 3) := by decide +kernel
theorem dL_law_760 : decode cL_law 760 = .ok (.aload_n 2, 1) := by decide +kernel
theorem dL_law_761 : decode cL_law 761 = .ok (.aload_n 0, 1) := by decide +kernel
theorem dL_law_762 : decode cL_law 762 = .ok (.iload_n 3, 1) := by decide +kernel
theorem dL_law_763 : decode cL_law 763 = .ok (.iconst 1, 1) := by decide +kernel
theorem dL_law_764 : decode cL_law 764 = .ok (.iadd, 1) := by decide +kernel
theorem dL_law_765 : decode cL_law 765 = .ok (.iaload, 1) := by decide +kernel
theorem dL_law_766 : decode cL_law 766 = .ok (.invokevirtual 101, 3) := by decide +kernel
theorem dL_law_769 : decode cL_law 769 = .ok (.if_icmp .eq 348, 3) := by decide +kernel
theorem dL_law_772 : decode cL_law 772 = .ok (.iconst 0, 1) := by decide +kernel
theorem dL_law_773 : decode cL_law 773 = .ok (.ireturn, 1) := by decide +kernel
theorem dL_law_774 : decode cL_law 774 = .ok (.aload_n 1, 1) := by decide +kernel
theorem dL_law_775 : decode cL_law 775 = .ok (.aload_n 0, 1) := by decide +kernel
theorem dL_law_776 : decode cL_law 776 = .ok (.iload_n 3, 1) := by decide +kernel
theorem dL_law_777 : decode cL_law 777 = .ok (.iconst 1, 1) := by decide +kernel
theorem dL_law_778 : decode cL_law 778 = .ok (.iadd, 1) := by decide +kernel
theorem dL_law_779 : decode cL_law 779 = .ok (.iaload, 1) := by decide +kernel
theorem dL_law_780 : decode cL_law 780 = .ok (.invokevirtual 102, 3) := by decide +kernel
theorem dL_law_783 : decode cL_law 783 = .ok (.aload_n 2, 1) := by decide +kernel
theorem dL_law_784 : decode cL_law 784 = .ok (.aload_n 0, 1) := by decide +kernel
theorem dL_law_785 : decode cL_law 785 = .ok (.iload_n 3, 1) := by decide +kernel
theorem dL_law_786 : decode cL_law 786 = .ok (.iconst 1, 1) := by decide +kernel
theorem dL_law_787 : decode cL_law 787 = .ok (.iadd, 1) := by decide +kernel
theorem dL_law_788 : decode cL_law 788 = .ok (.iaload, 1) := by decide +kernel
theorem dL_law_789 : decode cL_law 789 = .ok (.invokevirtual 105, 3) := by decide +kernel
theorem dL_law_792 : decode cL_law 792 = .ok (.if_icmp .eq 325, 3) := by decide +kernel
theorem dL_law_795 : decode cL_law 795 = .ok (.iconst 0, 1) := by decide +kernel
theorem dL_law_796 : decode cL_law 796 = .ok (.ireturn, 1) := by decide +kernel
theorem dL_law_797 : decode cL_law 797 = .ok (.aload_n 1, 1) := by decide +kernel
theorem dL_law_798 : decode cL_law 798 = .ok (.invokevirtual 106, 3) := by decide +kernel
theorem dL_law_801 : decode cL_law 801 = .ok (.aload_n 2, 1) := by decide +kernel
theorem dL_law_802 : decode cL_law 802 = .ok (.invokevirtual 109, 3) := by decide +kernel
theorem dL_law_805 : decode cL_law 805 = .ok (.if_icmp .eq 312, 3) := by decide +kernel
theorem dL_law_808 : decode cL_law 808 = .ok (.iconst 0, 1) := by decide +kernel
theorem dL_law_809 : decode cL_law 809 = .ok (.ireturn, 1) := by decide +kernel
theorem dL_law_810 : decode cL_law 810 = .ok (.aload_n 1, 1) := by decide +kernel
theorem dL_law_811 : decode cL_law 811 = .ok (.aload_n 0, 1) := by decide +kernel
theorem dL_law_812 : decode cL_law 812 = .ok (.iload_n 3, 1) := by decide +kernel
theorem dL_law_813 : decode cL_law 813 = .ok (.iconst 1, 1) := by decide +kernel
theorem dL_law_814 : decode cL_law 814 = .ok (.iadd, 1) := by decide +kernel
theorem dL_law_815 : decode cL_law 815 = .ok (.iaload, 1) := by decide +kernel
theorem dL_law_816 : decode cL_law 816 = .ok (.invokevirtual 110, 3) := by decide +kernel
theorem dL_law_819 : decode cL_law 819 = .ok (.aload_n 2, 1) := by decide +kernel
theorem dL_law_820 : decode cL_law 820 = .ok (.aload_n 0, 1) := by decide +kernel
theorem dL_law_821 : decode cL_law 821 = .ok (.iload_n 3, 1) := by decide +kernel
theorem dL_law_822 : decode cL_law 822 = .ok (.iconst 1, 1) := by decide +kernel
theorem dL_law_823 : decode cL_law 823 = .ok (.iadd, 1) := by decide +kernel
theorem dL_law_824 : decode cL_law 824 = .ok (.iaload, 1) := by decide +kernel
theorem dL_law_825 : decode cL_law 825 = .ok (.invokevirtual 113, 3) := by decide +kernel
theorem dL_law_828 : decode cL_law 828 = .ok (.if_icmp .eq 289, 3) := by decide +kernel
theorem dL_law_831 : decode cL_law 831 = .ok (.iconst 0, 1) := by decide +kernel
theorem dL_law_832 : decode cL_law 832 = .ok (.ireturn, 1) := by decide +kernel
theorem dL_law_833 : decode cL_law 833 = .ok (.aload_n 1, 1) := by decide +kernel
theorem dL_law_834 : decode cL_law 834 = .ok (.aload_n 0, 1) := by decide +kernel
theorem dL_law_835 : decode cL_law 835 = .ok (.iload_n 3, 1) := by decide +kernel
theorem dL_law_836 : decode cL_law 836 = .ok (.iconst 1, 1) := by decide +kernel
theorem dL_law_837 : decode cL_law 837 = .ok (.iadd, 1) := by decide +kernel
theorem dL_law_838 : decode cL_law 838 = .ok (.iaload, 1) := by decide +kernel
theorem dL_law_839 : decode cL_law 839 = .ok (.aload_n 0, 1) := by decide +kernel
theorem dL_law_840 : decode cL_law 840 = .ok (.iload_n 3, 1) := by decide +kernel
theorem dL_law_841 : decode cL_law 841 = .ok (.iconst 2, 1) := by decide +kernel
theorem dL_law_842 : decode cL_law 842 = .ok (.iadd, 1) := by decide +kernel
theorem dL_law_843 : decode cL_law 843 = .ok (.iaload, 1) := by decide +kernel
theorem dL_law_844 : decode cL_law 844 = .ok (.invokevirtual 114, 3) := by decide +kernel
theorem dL_law_847 : decode cL_law 847 = .ok (.aload_n 2, 1) := by decide +kernel
theorem dL_law_848 : decode cL_law 848 = .ok (.aload_n 0, 1) := by decide +kernel
theorem dL_law_849 : decode cL_law 849 = .ok (.iload_n 3, 1) := by decide +kernel
theorem dL_law_850 : decode cL_law 850 = .ok (.iconst 1, 1) := by decide +kernel
theorem dL_law_851 : decode cL_law 851 = .ok (.iadd, 1) := by decide +kernel
theorem dL_law_852 : decode cL_law 852 = .ok (.iaload, 1) := by decide +kernel
theorem dL_law_853 : decode cL_law 853 = .ok (.aload_n 0, 1) := by decide +kernel
theorem dL_law_854 : decode cL_law 854 = .ok (.iload_n 3, 1) := by decide +kernel
theorem dL_law_855 : decode cL_law 855 = .ok (.iconst 2, 1) := by decide +kernel
theorem dL_law_856 : decode cL_law 856 = .ok (.iadd, 1) := by decide +kernel
theorem dL_law_857 : decode cL_law 857 = .ok (.iaload, 1) := by decide +kernel
theorem dL_law_858 : decode cL_law 858 = .ok (.invokevirtual 117, 3) := by decide +kernel
theorem dL_law_861 : decode cL_law 861 = .ok (.if_icmp .eq 256, 3) := by decide +kernel
theorem dL_law_864 : decode cL_law 864 = .ok (.iconst 0, 1) := by decide +kernel
theorem dL_law_865 : decode cL_law 865 = .ok (.ireturn, 1) := by decide +kernel
theorem dL_law_866 : decode cL_law 866 = .ok (.aload_n 1, 1) := by decide +kernel
theorem dL_law_867 : decode cL_law 867 = .ok (.aload_n 0, 1) := by decide +kernel
theorem dL_law_868 : decode cL_law 868 = .ok (.iload_n 3, 1) := by decide +kernel
theorem dL_law_869 : decode cL_law 869 = .ok (.iconst 1, 1) := by decide +kernel
theorem dL_law_870 : decode cL_law 870 = .ok (.iadd, 1) := by decide +kernel
theorem dL_law_871 : decode cL_law 871 = .ok (.iaload, 1) := by decide +kernel
theorem dL_law_872 : decode cL_law 872 = .ok (.aload_n 0, 1) := by decide +kernel
theorem dL_law_873 : decode cL_law 873 = .ok (.iload_n 3, 1) := by decide +kernel
theorem dL_law_874 : decode cL_law 874 = .ok (.iconst 2, 1) := by decide +kernel
theorem dL_law_875 : decode cL_law 875 = .ok (.iadd, 1) := by decide +kernel
theorem dL_law_876 : decode cL_law 876 = .ok (.iaload, 1) := by decide +kernel
theorem dL_law_877 : decode cL_law 877 = .ok (.invokevirtual 118, 3) := by decide +kernel
theorem dL_law_880 : decode cL_law 880 = .ok (.aload_n 2, 1) := by decide +kernel
theorem dL_law_881 : decode cL_law 881 = .ok (.aload_n 0, 1) := by decide +kernel
theorem dL_law_882 : decode cL_law 882 = .ok (.iload_n 3, 1) := by decide +kernel
theorem dL_law_883 : decode cL_law 883 = .ok (.iconst 1, 1) := by decide +kernel
theorem dL_law_884 : decode cL_law 884 = .ok (.iadd, 1) := by decide +kernel
theorem dL_law_885 : decode cL_law 885 = .ok (.iaload, 1) := by decide +kernel
theorem dL_law_886 : decode cL_law 886 = .ok (.aload_n 0, 1) := by decide +kernel
theorem dL_law_887 : decode cL_law 887 = .ok (.iload_n 3, 1) := by decide +kernel
theorem dL_law_888 : decode cL_law 888 = .ok (.iconst 2, 1) := by decide +kernel
theorem dL_law_889 : decode cL_law 889 = .ok (.iadd, 1) := by decide +kernel
theorem dL_law_890 : decode cL_law 890 = .ok (.iaload, 1) := by decide +kernel
theorem dL_law_891 : decode cL_law 891 = .ok (.invokevirtual 121, 3) := by decide +kernel
theorem dL_law_894 : decode cL_law 894 = .ok (.if_icmp .eq 223, 3) := by decide +kernel
theorem dL_law_897 : decode cL_law 897 = .ok (.iconst 0, 1) := by decide +kernel
theorem dL_law_898 : decode cL_law 898 = .ok (.ireturn, 1) := by decide +kernel
theorem dL_law_899 : decode cL_law 899 = .ok (.aload_n 1, 1) := by decide +kernel
theorem dL_law_900 : decode cL_law 900 = .ok (.aload_n 0, 1) := by decide +kernel
theorem dL_law_901 : decode cL_law 901 = .ok (.iload_n 3, 1) := by decide +kernel
theorem dL_law_902 : decode cL_law 902 = .ok (.iconst 1, 1) := by decide +kernel
theorem dL_law_903 : decode cL_law 903 = .ok (.iadd, 1) := by decide +kernel
theorem dL_law_904 : decode cL_law 904 = .ok (.iaload, 1) := by decide +kernel
theorem dL_law_905 : decode cL_law 905 = .ok (.invokevirtual 122, 3) := by decide +kernel
theorem dL_law_908 : decode cL_law 908 = .ok (.aload_n 2, 1) := by decide +kernel
theorem dL_law_909 : decode cL_law 909 = .ok (.aload_n 0, 1) := by decide +kernel
theorem dL_law_910 : decode cL_law 910 = .ok (.iload_n 3, 1) := by decide +kernel
theorem dL_law_911 : decode cL_law 911 = .ok (.iconst 1, 1) := by decide +kernel
theorem dL_law_912 : decode cL_law 912 = .ok (.iadd, 1) := by decide +kernel
theorem dL_law_913 : decode cL_law 913 = .ok (.iaload, 1) := by decide +kernel
theorem dL_law_914 : decode cL_law 914 = .ok (.invokevirtual 125, 3) := by decide +kernel
theorem dL_law_917 : decode cL_law 917 = .ok (.if_icmp .eq 200, 3) := by decide +kernel
theorem dL_law_920 : decode cL_law 920 = .ok (.iconst 0, 1) := by decide +kernel
theorem dL_law_921 : decode cL_law 921 = .ok (.ireturn, 1) := by decide +kernel
theorem dL_law_922 : decode cL_law 922 = .ok (.aload_n 1, 1) := by decide +kernel
theorem dL_law_923 : decode cL_law 923 = .ok (.aload_n 0, 1) := by decide +kernel
theorem dL_law_924 : decode cL_law 924 = .ok (.iload_n 3, 1) := by decide +kernel
theorem dL_law_925 : decode cL_law 925 = .ok (.iconst 1, 1) := by decide +kernel
theorem dL_law_926 : decode cL_law 926 = .ok (.iadd, 1) := by decide +kernel
theorem dL_law_927 : decode cL_law 927 = .ok (.iaload, 1) := by decide +kernel
theorem dL_law_928 : decode cL_law 928 = .ok (.invokevirtual 126, 3) := by decide +kernel
theorem dL_law_931 : decode cL_law 931 = .ok (.aload_n 2, 1) := by decide +kernel
theorem dL_law_932 : decode cL_law 932 = .ok (.aload_n 0, 1) := by decide +kernel
theorem dL_law_933 : decode cL_law 933 = .ok (.iload_n 3, 1) := by decide +kernel
theorem dL_law_934 : decode cL_law 934 = .ok (.iconst 1, 1) := by decide +kernel
theorem dL_law_935 : decode cL_law 935 = .ok (.iadd, 1) := by decide +kernel
theorem dL_law_936 : decode cL_law 936 = .ok (.iaload, 1) := by decide +kernel
theorem dL_law_937 : decode cL_law 937 = .ok (.invokevirtual 129, 3) := by decide +kernel
theorem dL_law_940 : decode cL_law 940 = .ok (.if_icmp .eq 177, 3) := by decide +kernel
theorem dL_law_943 : decode cL_law 943 = .ok (.iconst 0, 1) := by decide +kernel
theorem dL_law_944 : decode cL_law 944 = .ok (.ireturn, 1) := by decide +kernel
theorem dL_law_945 : decode cL_law 945 = .ok (.aload_n 1, 1) := by decide +kernel
theorem dL_law_946 : decode cL_law 946 = .ok (.aload_n 0, 1) := by decide +kernel
theorem dL_law_947 : decode cL_law 947 = .ok (.iload_n 3, 1) := by decide +kernel
theorem dL_law_948 : decode cL_law 948 = .ok (.iconst 1, 1) := by decide +kernel
theorem dL_law_949 : decode cL_law 949 = .ok (.iadd, 1) := by decide +kernel
theorem dL_law_950 : decode cL_law 950 = .ok (.iaload, 1) := by decide +kernel
theorem dL_law_951 : decode cL_law 951 = .ok (.aload_n 0, 1) := by decide +kernel
theorem dL_law_952 : decode cL_law 952 = .ok (.iload_n 3, 1) := by decide +kernel
theorem dL_law_953 : decode cL_law 953 = .ok (.iconst 2, 1) := by decide +kernel
theorem dL_law_954 : decode cL_law 954 = .ok (.iadd, 1) := by decide +kernel
theorem dL_law_955 : decode cL_law 955 = .ok (.iaload, 1) := by decide +kernel
theorem dL_law_956 : decode cL_law 956 = .ok (.aload_n 0, 1) := by decide +kernel
theorem dL_law_957 : decode cL_law 957 = .ok (.iload_n 3, 1) := by decide +kernel
theorem dL_law_958 : decode cL_law 958 = .ok (.iconst 3, 1) := by decide +kernel
theorem dL_law_959 : decode cL_law 959 = .ok (.iadd, 1) := by decide +kernel
theorem dL_law_960 : decode cL_law 960 = .ok (.iaload, 1) := by decide +kernel
theorem dL_law_961 : decode cL_law 961 = .ok (.invokevirtual 130, 3) := by decide +kernel
theorem dL_law_964 : decode cL_law 964 = .ok (.aload_n 2, 1) := by decide +kernel
theorem dL_law_965 : decode cL_law 965 = .ok (.aload_n 0, 1) := by decide +kernel
theorem dL_law_966 : decode cL_law 966 = .ok (.iload_n 3, 1) := by decide +kernel
theorem dL_law_967 : decode cL_law 967 = .ok (.iconst 1, 1) := by decide +kernel
theorem dL_law_968 : decode cL_law 968 = .ok (.iadd, 1) := by decide +kernel
theorem dL_law_969 : decode cL_law 969 = .ok (.iaload, 1) := by decide +kernel
theorem dL_law_970 : decode cL_law 970 = .ok (.aload_n 0, 1) := by decide +kernel
theorem dL_law_971 : decode cL_law 971 = .ok (.iload_n 3, 1) := by decide +kernel
theorem dL_law_972 : decode cL_law 972 = .ok (.iconst 2, 1) := by decide +kernel
theorem dL_law_973 : decode cL_law 973 = .ok (.iadd, 1) := by decide +kernel
theorem dL_law_974 : decode cL_law 974 = .ok (.iaload, 1) := by decide +kernel
theorem dL_law_975 : decode cL_law 975 = .ok (.aload_n 0, 1) := by decide +kernel
theorem dL_law_976 : decode cL_law 976 = .ok (.iload_n 3, 1) := by decide +kernel
theorem dL_law_977 : decode cL_law 977 = .ok (.iconst 3, 1) := by decide +kernel
theorem dL_law_978 : decode cL_law 978 = .ok (.iadd, 1) := by decide +kernel
theorem dL_law_979 : decode cL_law 979 = .ok (.iaload, 1) := by decide +kernel
theorem dL_law_980 : decode cL_law 980 = .ok (.invokevirtual 133, 3) := by decide +kernel
theorem dL_law_983 : decode cL_law 983 = .ok (.if_icmp .eq 134, 3) := by decide +kernel
theorem dL_law_986 : decode cL_law 986 = .ok (.iconst 0, 1) := by decide +kernel
theorem dL_law_987 : decode cL_law 987 = .ok (.ireturn, 1) := by decide +kernel
theorem dL_law_988 : decode cL_law 988 = .ok (.aload_n 1, 1) := by decide +kernel
theorem dL_law_989 : decode cL_law 989 = .ok (.aload_n 0, 1) := by decide +kernel
theorem dL_law_990 : decode cL_law 990 = .ok (.iload_n 3, 1) := by decide +kernel
theorem dL_law_991 : decode cL_law 991 = .ok (.iconst 1, 1) := by decide +kernel
theorem dL_law_992 : decode cL_law 992 = .ok (.iadd, 1) := by decide +kernel
theorem dL_law_993 : decode cL_law 993 = .ok (.iaload, 1) := by decide +kernel
theorem dL_law_994 : decode cL_law 994 = .ok (.aload_n 0, 1) := by decide +kernel
theorem dL_law_995 : decode cL_law 995 = .ok (.iload_n 3, 1) := by decide +kernel
theorem dL_law_996 : decode cL_law 996 = .ok (.iconst 2, 1) := by decide +kernel
theorem dL_law_997 : decode cL_law 997 = .ok (.iadd, 1) := by decide +kernel
theorem dL_law_998 : decode cL_law 998 = .ok (.iaload, 1) := by decide +kernel
theorem dL_law_999 : decode cL_law 999 = .ok (.aload_n 0, 1) := by decide +kernel
theorem dL_law_1000 : decode cL_law 1000 = .ok (.iload_n 3, 1) := by decide +kernel
theorem dL_law_1001 : decode cL_law 1001 = .ok (.iconst 3, 1) := by decide +kernel
theorem dL_law_1002 : decode cL_law 1002 = .ok (.iadd, 1) := by decide +kernel
theorem dL_law_1003 : decode cL_law 1003 = .ok (.iaload, 1) := by decide +kernel
theorem dL_law_1004 : decode cL_law 1004 = .ok (.invokevirtual 134, 3) := by decide +kernel
theorem dL_law_1007 : decode cL_law 1007 = .ok (.aload_n 2, 1) := by decide +kernel
theorem dL_law_1008 : decode cL_law 1008 = .ok (.aload_n 0, 1) := by decide +kernel
theorem dL_law_1009 : decode cL_law 1009 = .ok (.iload_n 3, 1) := by decide +kernel
theorem dL_law_1010 : decode cL_law 1010 = .ok (.iconst 1, 1) := by decide +kernel
theorem dL_law_1011 : decode cL_law 1011 = .ok (.iadd, 1) := by decide +kernel
theorem dL_law_1012 : decode cL_law 1012 = .ok (.iaload, 1) := by decide +kernel
theorem dL_law_1013 : decode cL_law 1013 = .ok (.aload_n 0, 1) := by decide +kernel
theorem dL_law_1014 : decode cL_law 1014 = .ok (.iload_n 3, 1) := by decide +kernel
theorem dL_law_1015 : decode cL_law 1015 = .ok (.iconst 2, 1) := by decide +kernel
theorem dL_law_1016 : decode cL_law 1016 = .ok (.iadd, 1) := by decide +kernel
theorem dL_law_1017 : decode cL_law 1017 = .ok (.iaload, 1) := by decide +kernel
theorem dL_law_1018 : decode cL_law 1018 = .ok (.aload_n 0, 1) := by decide +kernel
theorem dL_law_1019 : decode cL_law 1019 = .ok (.iload_n 3, 1) := by decide +kernel
theorem dL_law_1020 : decode cL_law 1020 = .ok (.iconst 3, 1) := by decide +kernel
theorem dL_law_1021 : decode cL_law 1021 = .ok (.iadd, 1) := by decide +kernel
theorem dL_law_1022 : decode cL_law 1022 = .ok (.iaload, 1) := by decide +kernel
theorem dL_law_1023 : decode cL_law 1023 = .ok (.invokevirtual 137, 3) := by decide +kernel
theorem dL_law_1026 : decode cL_law 1026 = .ok (.if_icmp .eq 91, 3) := by decide +kernel
theorem dL_law_1029 : decode cL_law 1029 = .ok (.iconst 0, 1) := by decide +kernel
theorem dL_law_1030 : decode cL_law 1030 = .ok (.ireturn, 1) := by decide +kernel
theorem dL_law_1031 : decode cL_law 1031 = .ok (.aload_n 1, 1) := by decide +kernel
theorem dL_law_1032 : decode cL_law 1032 = .ok (.aload_n 0, 1) := by decide +kernel
theorem dL_law_1033 : decode cL_law 1033 = .ok (.iload_n 3, 1) := by decide +kernel
theorem dL_law_1034 : decode cL_law 1034 = .ok (.iconst 1, 1) := by decide +kernel
theorem dL_law_1035 : decode cL_law 1035 = .ok (.iadd, 1) := by decide +kernel
theorem dL_law_1036 : decode cL_law 1036 = .ok (.iaload, 1) := by decide +kernel
theorem dL_law_1037 : decode cL_law 1037 = .ok (.aload_n 0, 1) := by decide +kernel
theorem dL_law_1038 : decode cL_law 1038 = .ok (.iload_n 3, 1) := by decide +kernel
theorem dL_law_1039 : decode cL_law 1039 = .ok (.iconst 2, 1) := by decide +kernel
theorem dL_law_1040 : decode cL_law 1040 = .ok (.iadd, 1) := by decide +kernel
theorem dL_law_1041 : decode cL_law 1041 = .ok (.iaload, 1) := by decide +kernel
theorem dL_law_1042 : decode cL_law 1042 = .ok (.aload_n 0, 1) := by decide +kernel
theorem dL_law_1043 : decode cL_law 1043 = .ok (.iload_n 3, 1) := by decide +kernel
theorem dL_law_1044 : decode cL_law 1044 = .ok (.iconst 3, 1) := by decide +kernel
theorem dL_law_1045 : decode cL_law 1045 = .ok (.iadd, 1) := by decide +kernel
theorem dL_law_1046 : decode cL_law 1046 = .ok (.iaload, 1) := by decide +kernel
theorem dL_law_1047 : decode cL_law 1047 = .ok (.aload_n 0, 1) := by decide +kernel
theorem dL_law_1048 : decode cL_law 1048 = .ok (.iload_n 3, 1) := by decide +kernel
theorem dL_law_1049 : decode cL_law 1049 = .ok (.iconst 4, 1) := by decide +kernel
theorem dL_law_1050 : decode cL_law 1050 = .ok (.iadd, 1) := by decide +kernel
theorem dL_law_1051 : decode cL_law 1051 = .ok (.iaload, 1) := by decide +kernel
theorem dL_law_1052 : decode cL_law 1052 = .ok (.aload_n 0, 1) := by decide +kernel
theorem dL_law_1053 : decode cL_law 1053 = .ok (.iload_n 3, 1) := by decide +kernel
theorem dL_law_1054 : decode cL_law 1054 = .ok (.iconst 5, 1) := by decide +kernel
theorem dL_law_1055 : decode cL_law 1055 = .ok (.iadd, 1) := by decide +kernel
theorem dL_law_1056 : decode cL_law 1056 = .ok (.iaload, 1) := by decide +kernel
theorem dL_law_1057 : decode cL_law 1057 = .ok (.invokevirtual 138, 3) := by decide +kernel
theorem dL_law_1060 : decode cL_law 1060 = .ok (.aload_n 2, 1) := by decide +kernel
theorem dL_law_1061 : decode cL_law 1061 = .ok (.aload_n 0, 1) := by decide +kernel
theorem dL_law_1062 : decode cL_law 1062 = .ok (.iload_n 3, 1) := by decide +kernel
theorem dL_law_1063 : decode cL_law 1063 = .ok (.iconst 1, 1) := by decide +kernel
theorem dL_law_1064 : decode cL_law 1064 = .ok (.iadd, 1) := by decide +kernel
theorem dL_law_1065 : decode cL_law 1065 = .ok (.iaload, 1) := by decide +kernel
theorem dL_law_1066 : decode cL_law 1066 = .ok (.aload_n 0, 1) := by decide +kernel
theorem dL_law_1067 : decode cL_law 1067 = .ok (.iload_n 3, 1) := by decide +kernel
theorem dL_law_1068 : decode cL_law 1068 = .ok (.iconst 2, 1) := by decide +kernel
theorem dL_law_1069 : decode cL_law 1069 = .ok (.iadd, 1) := by decide +kernel
theorem dL_law_1070 : decode cL_law 1070 = .ok (.iaload, 1) := by decide +kernel
theorem dL_law_1071 : decode cL_law 1071 = .ok (.aload_n 0, 1) := by decide +kernel
theorem dL_law_1072 : decode cL_law 1072 = .ok (.iload_n 3, 1) := by decide +kernel
theorem dL_law_1073 : decode cL_law 1073 = .ok (.iconst 3, 1) := by decide +kernel
theorem dL_law_1074 : decode cL_law 1074 = .ok (.iadd, 1) := by decide +kernel
theorem dL_law_1075 : decode cL_law 1075 = .ok (.iaload, 1) := by decide +kernel
theorem dL_law_1076 : decode cL_law 1076 = .ok (.aload_n 0, 1) := by decide +kernel
theorem dL_law_1077 : decode cL_law 1077 = .ok (.iload_n 3, 1) := by decide +kernel
theorem dL_law_1078 : decode cL_law 1078 = .ok (.iconst 4, 1) := by decide +kernel
theorem dL_law_1079 : decode cL_law 1079 = .ok (.iadd, 1) := by decide +kernel
theorem dL_law_1080 : decode cL_law 1080 = .ok (.iaload, 1) := by decide +kernel
theorem dL_law_1081 : decode cL_law 1081 = .ok (.aload_n 0, 1) := by decide +kernel
theorem dL_law_1082 : decode cL_law 1082 = .ok (.iload_n 3, 1) := by decide +kernel
theorem dL_law_1083 : decode cL_law 1083 = .ok (.iconst 5, 1) := by decide +kernel
theorem dL_law_1084 : decode cL_law 1084 = .ok (.iadd, 1) := by decide +kernel
theorem dL_law_1085 : decode cL_law 1085 = .ok (.iaload, 1) := by decide +kernel
theorem dL_law_1086 : decode cL_law 1086 = .ok (.invokevirtual 142, 3) := by decide +kernel
theorem dL_law_1089 : decode cL_law 1089 = .ok (.if_icmp .eq 28, 3) := by decide +kernel
theorem dL_law_1092 : decode cL_law 1092 = .ok (.iconst 0, 1) := by decide +kernel
theorem dL_law_1093 : decode cL_law 1093 = .ok (.ireturn, 1) := by decide +kernel
theorem dL_law_1094 : decode cL_law 1094 = .ok (.aload_n 1, 1) := by decide +kernel
theorem dL_law_1095 : decode cL_law 1095 = .ok (.aload_n 0, 1) := by decide +kernel
theorem dL_law_1096 : decode cL_law 1096 = .ok (.iload_n 3, 1) := by decide +kernel
theorem dL_law_1097 : decode cL_law 1097 = .ok (.iconst 1, 1) := by decide +kernel
theorem dL_law_1098 : decode cL_law 1098 = .ok (.iadd, 1) := by decide +kernel
theorem dL_law_1099 : decode cL_law 1099 = .ok (.iaload, 1) := by decide +kernel
theorem dL_law_1100 : decode cL_law 1100 = .ok (.invokevirtual 143, 3) := by decide +kernel
theorem dL_law_1103 : decode cL_law 1103 = .ok (.aload_n 2, 1) := by decide +kernel
theorem dL_law_1104 : decode cL_law 1104 = .ok (.aload_n 0, 1) := by decide +kernel
theorem dL_law_1105 : decode cL_law 1105 = .ok (.iload_n 3, 1) := by decide +kernel
theorem dL_law_1106 : decode cL_law 1106 = .ok (.iconst 1, 1) := by decide +kernel
theorem dL_law_1107 : decode cL_law 1107 = .ok (.iadd, 1) := by decide +kernel
theorem dL_law_1108 : decode cL_law 1108 = .ok (.iaload, 1) := by decide +kernel
theorem dL_law_1109 : decode cL_law 1109 = .ok (.invokevirtual 146, 3) := by decide +kernel
theorem dL_law_1112 : decode cL_law 1112 = .ok (.if_icmp .eq 5, 3) := by decide +kernel
theorem dL_law_1115 : decode cL_law 1115 = .ok (.iconst 0, 1) := by decide +kernel
theorem dL_law_1116 : decode cL_law 1116 = .ok (.ireturn, 1) := by decide +kernel
theorem dL_law_1117 : decode cL_law 1117 = .ok (.iinc 3 6, 3) := by decide +kernel
theorem dL_law_1120 : decode cL_law 1120 = .ok (.goto (-1102), 3) := by decide +kernel
theorem dL_law_1123 : decode cL_law 1123 = .ok (.iconst 1, 1) := by decide +kernel
theorem dL_law_1124 : decode cL_law 1124 = .ok (.ireturn, 1) := by decide +kernel
