def dX10_init_l0 : List (Nat × Instr × Nat) := [(0, .aload_n 0, 1), (1, .invokespecial 1, 3), (4, .aload_n 0, 1), (5, .new 7, 3), (8, .dup, 1), (9, .invokespecial 9, 3), (12, .putfield 10, 3), (15, .aload_n 0, 1), (16, .new 16, 3), (19, .dup, 1), (20, .invokespecial 18, 3), (23, .putfield 19, 3), (26, .aload_n 0, 1), (27, .new 23, 3), (30, .dup, 1), (31, .invokespecial 25, 3), (34, .putfield 26, 3), (37, .aload_n 0, 1), (38, .new 30, 3), (41, .dup, 1), (42, .aload_n 0, 1), (43, .getfield 26, 3), (46, .invokespecial 32, 3), (49, .putfield 35, 3)]
theorem gdX10_init_l0 : dok cX10_init dX10_init_l0 = true := by decide +kernel
theorem dX10_init_0 : decode cX10_init 0 = .ok (.aload_n 0, 1) := dok_at gdX10_init_l0 0 rfl
theorem dX10_init_1 : decode cX10_init 1 = .ok (.invokespecial 1, 3) := dok_at gdX10_init_l0 1 rfl
theorem dX10_init_4 : decode cX10_init 4 = .ok (.aload_n 0, 1) := dok_at gdX10_init_l0 2 rfl
theorem dX10_init_5 : decode cX10_init 5 = .ok (.new 7, 3) := dok_at gdX10_init_l0 3 rfl
theorem dX10_init_8 : decode cX10_init 8 = .ok (.dup, 1) := dok_at gdX10_init_l0 4 rfl
theorem dX10_init_9 : decode cX10_init 9 = .ok (.invokespecial 9, 3) := dok_at gdX10_init_l0 5 rfl
theorem dX10_init_12 : decode cX10_init 12 = .ok (.putfield 10, 3) := dok_at gdX10_init_l0 6 rfl
theorem dX10_init_15 : decode cX10_init 15 = .ok (.aload_n 0, 1) := dok_at gdX10_init_l0 7 rfl
theorem dX10_init_16 : decode cX10_init 16 = .ok (.new 16, 3) := dok_at gdX10_init_l0 8 rfl
theorem dX10_init_19 : decode cX10_init 19 = .ok (.dup, 1) := dok_at gdX10_init_l0 9 rfl
theorem dX10_init_20 : decode cX10_init 20 = .ok (.invokespecial 18, 3) := dok_at gdX10_init_l0 10 rfl
theorem dX10_init_23 : decode cX10_init 23 = .ok (.putfield 19, 3) := dok_at gdX10_init_l0 11 rfl
theorem dX10_init_26 : decode cX10_init 26 = .ok (.aload_n 0, 1) := dok_at gdX10_init_l0 12 rfl
theorem dX10_init_27 : decode cX10_init 27 = .ok (.new 23, 3) := dok_at gdX10_init_l0 13 rfl
theorem dX10_init_30 : decode cX10_init 30 = .ok (.dup, 1) := dok_at gdX10_init_l0 14 rfl
theorem dX10_init_31 : decode cX10_init 31 = .ok (.invokespecial 25, 3) := dok_at gdX10_init_l0 15 rfl
theorem dX10_init_34 : decode cX10_init 34 = .ok (.putfield 26, 3) := dok_at gdX10_init_l0 16 rfl
theorem dX10_init_37 : decode cX10_init 37 = .ok (.aload_n 0, 1) := dok_at gdX10_init_l0 17 rfl
theorem dX10_init_38 : decode cX10_init 38 = .ok (.new 30, 3) := dok_at gdX10_init_l0 18 rfl
theorem dX10_init_41 : decode cX10_init 41 = .ok (.dup, 1) := dok_at gdX10_init_l0 19 rfl
theorem dX10_init_42 : decode cX10_init 42 = .ok (.aload_n 0, 1) := dok_at gdX10_init_l0 20 rfl
theorem dX10_init_43 : decode cX10_init 43 = .ok (.getfield 26, 3) := dok_at gdX10_init_l0 21 rfl
theorem dX10_init_46 : decode cX10_init 46 = .ok (.invokespecial 32, 3) := dok_at gdX10_init_l0 22 rfl
theorem dX10_init_49 : decode cX10_init 49 = .ok (.putfield 35, 3) := dok_at gdX10_init_l0 23 rfl
def dX10_init_l52 : List (Nat × Instr × Nat) := [(52, .aload_n 0, 1), (53, .new 39, 3), (56, .dup, 1), (57, .aload_n 0, 1), (58, .getfield 26, 3), (61, .invokespecial 41, 3), (64, .putfield 42, 3), (67, .aload_n 0, 1), (68, .new 46, 3), (71, .dup, 1), (72, .invokespecial 48, 3), (75, .putfield 49, 3), (78, .aload_n 0, 1), (79, .new 53, 3), (82, .dup, 1), (83, .invokespecial 55, 3), (86, .putfield 56, 3), (89, .aload_n 0, 1), (90, .new 53, 3), (93, .dup, 1), (94, .invokespecial 55, 3), (97, .putfield 60, 3), (100, .aload_n 0, 1), (101, .new 63, 3)]
theorem gdX10_init_l52 : dok cX10_init dX10_init_l52 = true := by decide +kernel
theorem dX10_init_52 : decode cX10_init 52 = .ok (.aload_n 0, 1) := dok_at gdX10_init_l52 0 rfl
theorem dX10_init_53 : decode cX10_init 53 = .ok (.new 39, 3) := dok_at gdX10_init_l52 1 rfl
theorem dX10_init_56 : decode cX10_init 56 = .ok (.dup, 1) := dok_at gdX10_init_l52 2 rfl
theorem dX10_init_57 : decode cX10_init 57 = .ok (.aload_n 0, 1) := dok_at gdX10_init_l52 3 rfl
theorem dX10_init_58 : decode cX10_init 58 = .ok (.getfield 26, 3) := dok_at gdX10_init_l52 4 rfl
theorem dX10_init_61 : decode cX10_init 61 = .ok (.invokespecial 41, 3) := dok_at gdX10_init_l52 5 rfl
theorem dX10_init_64 : decode cX10_init 64 = .ok (.putfield 42, 3) := dok_at gdX10_init_l52 6 rfl
theorem dX10_init_67 : decode cX10_init 67 = .ok (.aload_n 0, 1) := dok_at gdX10_init_l52 7 rfl
theorem dX10_init_68 : decode cX10_init 68 = .ok (.new 46, 3) := dok_at gdX10_init_l52 8 rfl
theorem dX10_init_71 : decode cX10_init 71 = .ok (.dup, 1) := dok_at gdX10_init_l52 9 rfl
theorem dX10_init_72 : decode cX10_init 72 = .ok (.invokespecial 48, 3) := dok_at gdX10_init_l52 10 rfl
theorem dX10_init_75 : decode cX10_init 75 = .ok (.putfield 49, 3) := dok_at gdX10_init_l52 11 rfl
theorem dX10_init_78 : decode cX10_init 78 = .ok (.aload_n 0, 1) := dok_at gdX10_init_l52 12 rfl
theorem dX10_init_79 : decode cX10_init 79 = .ok (.new 53, 3) := dok_at gdX10_init_l52 13 rfl
theorem dX10_init_82 : decode cX10_init 82 = .ok (.dup, 1) := dok_at gdX10_init_l52 14 rfl
theorem dX10_init_83 : decode cX10_init 83 = .ok (.invokespecial 55, 3) := dok_at gdX10_init_l52 15 rfl
theorem dX10_init_86 : decode cX10_init 86 = .ok (.putfield 56, 3) := dok_at gdX10_init_l52 16 rfl
theorem dX10_init_89 : decode cX10_init 89 = .ok (.aload_n 0, 1) := dok_at gdX10_init_l52 17 rfl
theorem dX10_init_90 : decode cX10_init 90 = .ok (.new 53, 3) := dok_at gdX10_init_l52 18 rfl
theorem dX10_init_93 : decode cX10_init 93 = .ok (.dup, 1) := dok_at gdX10_init_l52 19 rfl
theorem dX10_init_94 : decode cX10_init 94 = .ok (.invokespecial 55, 3) := dok_at gdX10_init_l52 20 rfl
theorem dX10_init_97 : decode cX10_init 97 = .ok (.putfield 60, 3) := dok_at gdX10_init_l52 21 rfl
theorem dX10_init_100 : decode cX10_init 100 = .ok (.aload_n 0, 1) := dok_at gdX10_init_l52 22 rfl
theorem dX10_init_101 : decode cX10_init 101 = .ok (.new 63, 3) := dok_at gdX10_init_l52 23 rfl
def dX10_init_l104 : List (Nat × Instr × Nat) := [(104, .dup, 1), (105, .aload_n 0, 1), (106, .getfield 10, 3), (109, .aload_n 0, 1), (110, .getfield 60, 3), (113, .invokespecial 65, 3), (116, .putfield 68, 3), (119, .aload_n 0, 1), (120, .iconst 0, 1), (121, .putfield 72, 3), (124, .return_, 1)]
theorem gdX10_init_l104 : dok cX10_init dX10_init_l104 = true := by decide +kernel
theorem dX10_init_104 : decode cX10_init 104 = .ok (.dup, 1) := dok_at gdX10_init_l104 0 rfl
theorem dX10_init_105 : decode cX10_init 105 = .ok (.aload_n 0, 1) := dok_at gdX10_init_l104 1 rfl
theorem dX10_init_106 : decode cX10_init 106 = .ok (.getfield 10, 3) := dok_at gdX10_init_l104 2 rfl
theorem dX10_init_109 : decode cX10_init 109 = .ok (.aload_n 0, 1) := dok_at gdX10_init_l104 3 rfl
theorem dX10_init_110 : decode cX10_init 110 = .ok (.getfield 60, 3) := dok_at gdX10_init_l104 4 rfl
theorem dX10_init_113 : decode cX10_init 113 = .ok (.invokespecial 65, 3) := dok_at gdX10_init_l104 5 rfl
theorem dX10_init_116 : decode cX10_init 116 = .ok (.putfield 68, 3) := dok_at gdX10_init_l104 6 rfl
theorem dX10_init_119 : decode cX10_init 119 = .ok (.aload_n 0, 1) := dok_at gdX10_init_l104 7 rfl
theorem dX10_init_120 : decode cX10_init 120 = .ok (.iconst 0, 1) := dok_at gdX10_init_l104 8 rfl
theorem dX10_init_121 : decode cX10_init 121 = .ok (.putfield 72, 3) := dok_at gdX10_init_l104 9 rfl
theorem dX10_init_124 : decode cX10_init 124 = .ok (.return_, 1) := dok_at gdX10_init_l104 10 rfl
def dX10_feed_l0 : List (Nat × Instr × Nat) := [(0, .aload_n 0, 1), (1, .getfield 10, 3), (4, .lload_n 1, 1), (5, .invokevirtual 76, 3), (8, .ifCond .eq 13, 3), (11, .aload_n 0, 1), (12, .getfield 10, 3), (15, .getfield 80, 3), (18, .goto 5, 3), (21, .bipush (-3), 2), (23, .ireturn, 1)]
theorem gdX10_feed_l0 : dok cX10_feed dX10_feed_l0 = true := by decide +kernel
theorem dX10_feed_0 : decode cX10_feed 0 = .ok (.aload_n 0, 1) := dok_at gdX10_feed_l0 0 rfl
theorem dX10_feed_1 : decode cX10_feed 1 = .ok (.getfield 10, 3) := dok_at gdX10_feed_l0 1 rfl
theorem dX10_feed_4 : decode cX10_feed 4 = .ok (.lload_n 1, 1) := dok_at gdX10_feed_l0 2 rfl
theorem dX10_feed_5 : decode cX10_feed 5 = .ok (.invokevirtual 76, 3) := dok_at gdX10_feed_l0 3 rfl
theorem dX10_feed_8 : decode cX10_feed 8 = .ok (.ifCond .eq 13, 3) := dok_at gdX10_feed_l0 4 rfl
theorem dX10_feed_11 : decode cX10_feed 11 = .ok (.aload_n 0, 1) := dok_at gdX10_feed_l0 5 rfl
theorem dX10_feed_12 : decode cX10_feed 12 = .ok (.getfield 10, 3) := dok_at gdX10_feed_l0 6 rfl
theorem dX10_feed_15 : decode cX10_feed 15 = .ok (.getfield 80, 3) := dok_at gdX10_feed_l0 7 rfl
theorem dX10_feed_18 : decode cX10_feed 18 = .ok (.goto 5, 3) := dok_at gdX10_feed_l0 8 rfl
theorem dX10_feed_21 : decode cX10_feed 21 = .ok (.bipush (-3), 2) := dok_at gdX10_feed_l0 9 rfl
theorem dX10_feed_23 : decode cX10_feed 23 = .ok (.ireturn, 1) := dok_at gdX10_feed_l0 10 rfl
def dX10_end_l0 : List (Nat × Instr × Nat) := [(0, .iload_n 1, 1), (1, .ifCond .lt 14, 3), (4, .iload_n 1, 1), (5, .aload_n 0, 1), (6, .getfield 10, 3), (9, .getfield 80, 3), (12, .if_icmp .le 5, 3), (15, .iconst (-1), 1), (16, .ireturn, 1), (17, .aload_n 0, 1), (18, .getfield 10, 3), (21, .getfield 80, 3), (24, .istore_n 2, 1), (25, .aload_n 0, 1), (26, .getfield 10, 3), (29, .iload_n 1, 1), (30, .putfield 80, 3), (33, .iload_n 2, 1), (34, .ireturn, 1)]
theorem gdX10_end_l0 : dok cX10_end dX10_end_l0 = true := by decide +kernel
theorem dX10_end_0 : decode cX10_end 0 = .ok (.iload_n 1, 1) := dok_at gdX10_end_l0 0 rfl
theorem dX10_end_1 : decode cX10_end 1 = .ok (.ifCond .lt 14, 3) := dok_at gdX10_end_l0 1 rfl
theorem dX10_end_4 : decode cX10_end 4 = .ok (.iload_n 1, 1) := dok_at gdX10_end_l0 2 rfl
theorem dX10_end_5 : decode cX10_end 5 = .ok (.aload_n 0, 1) := dok_at gdX10_end_l0 3 rfl
theorem dX10_end_6 : decode cX10_end 6 = .ok (.getfield 10, 3) := dok_at gdX10_end_l0 4 rfl
theorem dX10_end_9 : decode cX10_end 9 = .ok (.getfield 80, 3) := dok_at gdX10_end_l0 5 rfl
theorem dX10_end_12 : decode cX10_end 12 = .ok (.if_icmp .le 5, 3) := dok_at gdX10_end_l0 6 rfl
theorem dX10_end_15 : decode cX10_end 15 = .ok (.iconst (-1), 1) := dok_at gdX10_end_l0 7 rfl
theorem dX10_end_16 : decode cX10_end 16 = .ok (.ireturn, 1) := dok_at gdX10_end_l0 8 rfl
theorem dX10_end_17 : decode cX10_end 17 = .ok (.aload_n 0, 1) := dok_at gdX10_end_l0 9 rfl
theorem dX10_end_18 : decode cX10_end 18 = .ok (.getfield 10, 3) := dok_at gdX10_end_l0 10 rfl
theorem dX10_end_21 : decode cX10_end 21 = .ok (.getfield 80, 3) := dok_at gdX10_end_l0 11 rfl
theorem dX10_end_24 : decode cX10_end 24 = .ok (.istore_n 2, 1) := dok_at gdX10_end_l0 12 rfl
theorem dX10_end_25 : decode cX10_end 25 = .ok (.aload_n 0, 1) := dok_at gdX10_end_l0 13 rfl
theorem dX10_end_26 : decode cX10_end 26 = .ok (.getfield 10, 3) := dok_at gdX10_end_l0 14 rfl
theorem dX10_end_29 : decode cX10_end 29 = .ok (.iload_n 1, 1) := dok_at gdX10_end_l0 15 rfl
theorem dX10_end_30 : decode cX10_end 30 = .ok (.putfield 80, 3) := dok_at gdX10_end_l0 16 rfl
theorem dX10_end_33 : decode cX10_end 33 = .ok (.iload_n 2, 1) := dok_at gdX10_end_l0 17 rfl
theorem dX10_end_34 : decode cX10_end 34 = .ok (.ireturn, 1) := dok_at gdX10_end_l0 18 rfl
def dX10_text_l0 : List (Nat × Instr × Nat) := [(0, .aload_n 0, 1), (1, .getfield 68, 3), (4, .aload_n 0, 1), (5, .getfield 60, 3), (8, .invokevirtual 83, 3), (11, .istore_n 1, 1), (12, .aload_n 0, 1), (13, .getfield 10, 3), (16, .iconst 0, 1), (17, .putfield 80, 3), (20, .aload_n 0, 1), (21, .aload_n 0, 1), (22, .getfield 68, 3), (25, .getfield 87, 3), (28, .putfield 72, 3), (31, .aload_n 0, 1), (32, .getfield 68, 3), (35, .getfield 87, 3), (38, .ifCond .eq 14, 3), (41, .bipush (-10), 2), (43, .aload_n 0, 1), (44, .getfield 68, 3), (47, .getfield 90, 3), (50, .isub, 1)]
theorem gdX10_text_l0 : dok cX10_text dX10_text_l0 = true := by decide +kernel
theorem dX10_text_0 : decode cX10_text 0 = .ok (.aload_n 0, 1) := dok_at gdX10_text_l0 0 rfl
theorem dX10_text_1 : decode cX10_text 1 = .ok (.getfield 68, 3) := dok_at gdX10_text_l0 1 rfl
theorem dX10_text_4 : decode cX10_text 4 = .ok (.aload_n 0, 1) := dok_at gdX10_text_l0 2 rfl
theorem dX10_text_5 : decode cX10_text 5 = .ok (.getfield 60, 3) := dok_at gdX10_text_l0 3 rfl
theorem dX10_text_8 : decode cX10_text 8 = .ok (.invokevirtual 83, 3) := dok_at gdX10_text_l0 4 rfl
theorem dX10_text_11 : decode cX10_text 11 = .ok (.istore_n 1, 1) := dok_at gdX10_text_l0 5 rfl
theorem dX10_text_12 : decode cX10_text 12 = .ok (.aload_n 0, 1) := dok_at gdX10_text_l0 6 rfl
theorem dX10_text_13 : decode cX10_text 13 = .ok (.getfield 10, 3) := dok_at gdX10_text_l0 7 rfl
theorem dX10_text_16 : decode cX10_text 16 = .ok (.iconst 0, 1) := dok_at gdX10_text_l0 8 rfl
theorem dX10_text_17 : decode cX10_text 17 = .ok (.putfield 80, 3) := dok_at gdX10_text_l0 9 rfl
theorem dX10_text_20 : decode cX10_text 20 = .ok (.aload_n 0, 1) := dok_at gdX10_text_l0 10 rfl
theorem dX10_text_21 : decode cX10_text 21 = .ok (.aload_n 0, 1) := dok_at gdX10_text_l0 11 rfl
theorem dX10_text_22 : decode cX10_text 22 = .ok (.getfield 68, 3) := dok_at gdX10_text_l0 12 rfl
theorem dX10_text_25 : decode cX10_text 25 = .ok (.getfield 87, 3) := dok_at gdX10_text_l0 13 rfl
theorem dX10_text_28 : decode cX10_text 28 = .ok (.putfield 72, 3) := dok_at gdX10_text_l0 14 rfl
theorem dX10_text_31 : decode cX10_text 31 = .ok (.aload_n 0, 1) := dok_at gdX10_text_l0 15 rfl
theorem dX10_text_32 : decode cX10_text 32 = .ok (.getfield 68, 3) := dok_at gdX10_text_l0 16 rfl
theorem dX10_text_35 : decode cX10_text 35 = .ok (.getfield 87, 3) := dok_at gdX10_text_l0 17 rfl
theorem dX10_text_38 : decode cX10_text 38 = .ok (.ifCond .eq 14, 3) := dok_at gdX10_text_l0 18 rfl
theorem dX10_text_41 : decode cX10_text 41 = .ok (.bipush (-10), 2) := dok_at gdX10_text_l0 19 rfl
theorem dX10_text_43 : decode cX10_text 43 = .ok (.aload_n 0, 1) := dok_at gdX10_text_l0 20 rfl
theorem dX10_text_44 : decode cX10_text 44 = .ok (.getfield 68, 3) := dok_at gdX10_text_l0 21 rfl
theorem dX10_text_47 : decode cX10_text 47 = .ok (.getfield 90, 3) := dok_at gdX10_text_l0 22 rfl
theorem dX10_text_50 : decode cX10_text 50 = .ok (.isub, 1) := dok_at gdX10_text_l0 23 rfl
def dX10_text_l51 : List (Nat × Instr × Nat) := [(51, .ireturn, 1), (52, .aload_n 0, 1), (53, .getfield 56, 3), (56, .astore_n 2, 1), (57, .aload_n 0, 1), (58, .aload_n 0, 1), (59, .getfield 60, 3), (62, .putfield 56, 3), (65, .aload_n 0, 1), (66, .aload_n 2, 1), (67, .putfield 60, 3), (70, .aload_n 0, 1), (71, .getfield 19, 3), (74, .aload_n 0, 1), (75, .getfield 56, 3), (78, .invokevirtual 93, 3), (81, .aload_n 0, 1), (82, .invokevirtual 97, 3), (85, .iload_n 1, 1), (86, .ireturn, 1)]
theorem gdX10_text_l51 : dok cX10_text dX10_text_l51 = true := by decide +kernel
theorem dX10_text_51 : decode cX10_text 51 = .ok (.ireturn, 1) := dok_at gdX10_text_l51 0 rfl
theorem dX10_text_52 : decode cX10_text 52 = .ok (.aload_n 0, 1) := dok_at gdX10_text_l51 1 rfl
theorem dX10_text_53 : decode cX10_text 53 = .ok (.getfield 56, 3) := dok_at gdX10_text_l51 2 rfl
theorem dX10_text_56 : decode cX10_text 56 = .ok (.astore_n 2, 1) := dok_at gdX10_text_l51 3 rfl
theorem dX10_text_57 : decode cX10_text 57 = .ok (.aload_n 0, 1) := dok_at gdX10_text_l51 4 rfl
theorem dX10_text_58 : decode cX10_text 58 = .ok (.aload_n 0, 1) := dok_at gdX10_text_l51 5 rfl
theorem dX10_text_59 : decode cX10_text 59 = .ok (.getfield 60, 3) := dok_at gdX10_text_l51 6 rfl
theorem dX10_text_62 : decode cX10_text 62 = .ok (.putfield 56, 3) := dok_at gdX10_text_l51 7 rfl
theorem dX10_text_65 : decode cX10_text 65 = .ok (.aload_n 0, 1) := dok_at gdX10_text_l51 8 rfl
theorem dX10_text_66 : decode cX10_text 66 = .ok (.aload_n 2, 1) := dok_at gdX10_text_l51 9 rfl
theorem dX10_text_67 : decode cX10_text 67 = .ok (.putfield 60, 3) := dok_at gdX10_text_l51 10 rfl
theorem dX10_text_70 : decode cX10_text 70 = .ok (.aload_n 0, 1) := dok_at gdX10_text_l51 11 rfl
theorem dX10_text_71 : decode cX10_text 71 = .ok (.getfield 19, 3) := dok_at gdX10_text_l51 12 rfl
theorem dX10_text_74 : decode cX10_text 74 = .ok (.aload_n 0, 1) := dok_at gdX10_text_l51 13 rfl
theorem dX10_text_75 : decode cX10_text 75 = .ok (.getfield 56, 3) := dok_at gdX10_text_l51 14 rfl
theorem dX10_text_78 : decode cX10_text 78 = .ok (.invokevirtual 93, 3) := dok_at gdX10_text_l51 15 rfl
theorem dX10_text_81 : decode cX10_text 81 = .ok (.aload_n 0, 1) := dok_at gdX10_text_l51 16 rfl
theorem dX10_text_82 : decode cX10_text 82 = .ok (.invokevirtual 97, 3) := dok_at gdX10_text_l51 17 rfl
theorem dX10_text_85 : decode cX10_text 85 = .ok (.iload_n 1, 1) := dok_at gdX10_text_l51 18 rfl
theorem dX10_text_86 : decode cX10_text 86 = .ok (.ireturn, 1) := dok_at gdX10_text_l51 19 rfl
def dX10_fault_l0 : List (Nat × Instr × Nat) := [(0, .aload_n 0, 1), (1, .getfield 72, 3), (4, .ireturn, 1)]
theorem gdX10_fault_l0 : dok cX10_fault dX10_fault_l0 = true := by decide +kernel
theorem dX10_fault_0 : decode cX10_fault 0 = .ok (.aload_n 0, 1) := dok_at gdX10_fault_l0 0 rfl
theorem dX10_fault_1 : decode cX10_fault 1 = .ok (.getfield 72, 3) := dok_at gdX10_fault_l0 1 rfl
theorem dX10_fault_4 : decode cX10_fault 4 = .ok (.ireturn, 1) := dok_at gdX10_fault_l0 2 rfl
def dX10_rail_l0 : List (Nat × Instr × Nat) := [(0, .aload_n 0, 1), (1, .getfield 56, 3), (4, .iload_n 1, 1), (5, .invokevirtual 100, 3), (8, .ifCond .eq 13, 3), (11, .iload_n 2, 1), (12, .ifCond .lt 9, 3), (15, .iload_n 2, 1), (16, .bipush 7, 2), (18, .if_icmp .le 5, 3), (21, .iconst (-1), 1), (22, .ireturn, 1), (23, .aload_n 0, 1), (24, .getfield 56, 3), (27, .iload_n 1, 1), (28, .iload_n 2, 1), (29, .invokevirtual 104, 3), (32, .ireturn, 1)]
theorem gdX10_rail_l0 : dok cX10_rail dX10_rail_l0 = true := by decide +kernel
theorem dX10_rail_0 : decode cX10_rail 0 = .ok (.aload_n 0, 1) := dok_at gdX10_rail_l0 0 rfl
theorem dX10_rail_1 : decode cX10_rail 1 = .ok (.getfield 56, 3) := dok_at gdX10_rail_l0 1 rfl
theorem dX10_rail_4 : decode cX10_rail 4 = .ok (.iload_n 1, 1) := dok_at gdX10_rail_l0 2 rfl
theorem dX10_rail_5 : decode cX10_rail 5 = .ok (.invokevirtual 100, 3) := dok_at gdX10_rail_l0 3 rfl
theorem dX10_rail_8 : decode cX10_rail 8 = .ok (.ifCond .eq 13, 3) := dok_at gdX10_rail_l0 4 rfl
theorem dX10_rail_11 : decode cX10_rail 11 = .ok (.iload_n 2, 1) := dok_at gdX10_rail_l0 5 rfl
theorem dX10_rail_12 : decode cX10_rail 12 = .ok (.ifCond .lt 9, 3) := dok_at gdX10_rail_l0 6 rfl
theorem dX10_rail_15 : decode cX10_rail 15 = .ok (.iload_n 2, 1) := dok_at gdX10_rail_l0 7 rfl
theorem dX10_rail_16 : decode cX10_rail 16 = .ok (.bipush 7, 2) := dok_at gdX10_rail_l0 8 rfl
theorem dX10_rail_18 : decode cX10_rail 18 = .ok (.if_icmp .le 5, 3) := dok_at gdX10_rail_l0 9 rfl
theorem dX10_rail_21 : decode cX10_rail 21 = .ok (.iconst (-1), 1) := dok_at gdX10_rail_l0 10 rfl
theorem dX10_rail_22 : decode cX10_rail 22 = .ok (.ireturn, 1) := dok_at gdX10_rail_l0 11 rfl
theorem dX10_rail_23 : decode cX10_rail 23 = .ok (.aload_n 0, 1) := dok_at gdX10_rail_l0 12 rfl
theorem dX10_rail_24 : decode cX10_rail 24 = .ok (.getfield 56, 3) := dok_at gdX10_rail_l0 13 rfl
theorem dX10_rail_27 : decode cX10_rail 27 = .ok (.iload_n 1, 1) := dok_at gdX10_rail_l0 14 rfl
theorem dX10_rail_28 : decode cX10_rail 28 = .ok (.iload_n 2, 1) := dok_at gdX10_rail_l0 15 rfl
theorem dX10_rail_29 : decode cX10_rail 29 = .ok (.invokevirtual 104, 3) := dok_at gdX10_rail_l0 16 rfl
theorem dX10_rail_32 : decode cX10_rail 32 = .ok (.ireturn, 1) := dok_at gdX10_rail_l0 17 rfl
def dX10_rule_l0 : List (Nat × Instr × Nat) := [(0, .iload_n 1, 1), (1, .tableswitch 63 0 3 #[31, 39, 47, 55], 31), (32, .aload_n 0, 1), (33, .getfield 56, 3), (36, .getfield 108, 3), (39, .ireturn, 1), (40, .aload_n 0, 1), (41, .getfield 56, 3), (44, .getfield 111, 3), (47, .ireturn, 1), (48, .aload_n 0, 1), (49, .getfield 56, 3), (52, .getfield 114, 3), (55, .ireturn, 1), (56, .aload_n 0, 1), (57, .getfield 56, 3), (60, .getfield 117, 3), (63, .ireturn, 1), (64, .iconst (-1), 1), (65, .ireturn, 1)]
theorem gdX10_rule_l0 : dok cX10_rule dX10_rule_l0 = true := by decide +kernel
theorem dX10_rule_0 : decode cX10_rule 0 = .ok (.iload_n 1, 1) := dok_at gdX10_rule_l0 0 rfl
theorem dX10_rule_1 : decode cX10_rule 1 = .ok (.tableswitch 63 0 3 #[31, 39, 47, 55], 31) := dok_at gdX10_rule_l0 1 rfl
theorem dX10_rule_32 : decode cX10_rule 32 = .ok (.aload_n 0, 1) := dok_at gdX10_rule_l0 2 rfl
theorem dX10_rule_33 : decode cX10_rule 33 = .ok (.getfield 56, 3) := dok_at gdX10_rule_l0 3 rfl
theorem dX10_rule_36 : decode cX10_rule 36 = .ok (.getfield 108, 3) := dok_at gdX10_rule_l0 4 rfl
theorem dX10_rule_39 : decode cX10_rule 39 = .ok (.ireturn, 1) := dok_at gdX10_rule_l0 5 rfl
theorem dX10_rule_40 : decode cX10_rule 40 = .ok (.aload_n 0, 1) := dok_at gdX10_rule_l0 6 rfl
theorem dX10_rule_41 : decode cX10_rule 41 = .ok (.getfield 56, 3) := dok_at gdX10_rule_l0 7 rfl
theorem dX10_rule_44 : decode cX10_rule 44 = .ok (.getfield 111, 3) := dok_at gdX10_rule_l0 8 rfl
theorem dX10_rule_47 : decode cX10_rule 47 = .ok (.ireturn, 1) := dok_at gdX10_rule_l0 9 rfl
theorem dX10_rule_48 : decode cX10_rule 48 = .ok (.aload_n 0, 1) := dok_at gdX10_rule_l0 10 rfl
theorem dX10_rule_49 : decode cX10_rule 49 = .ok (.getfield 56, 3) := dok_at gdX10_rule_l0 11 rfl
theorem dX10_rule_52 : decode cX10_rule 52 = .ok (.getfield 114, 3) := dok_at gdX10_rule_l0 12 rfl
theorem dX10_rule_55 : decode cX10_rule 55 = .ok (.ireturn, 1) := dok_at gdX10_rule_l0 13 rfl
theorem dX10_rule_56 : decode cX10_rule 56 = .ok (.aload_n 0, 1) := dok_at gdX10_rule_l0 14 rfl
theorem dX10_rule_57 : decode cX10_rule 57 = .ok (.getfield 56, 3) := dok_at gdX10_rule_l0 15 rfl
theorem dX10_rule_60 : decode cX10_rule 60 = .ok (.getfield 117, 3) := dok_at gdX10_rule_l0 16 rfl
theorem dX10_rule_63 : decode cX10_rule 63 = .ok (.ireturn, 1) := dok_at gdX10_rule_l0 17 rfl
theorem dX10_rule_64 : decode cX10_rule 64 = .ok (.iconst (-1), 1) := dok_at gdX10_rule_l0 18 rfl
theorem dX10_rule_65 : decode cX10_rule 65 = .ok (.ireturn, 1) := dok_at gdX10_rule_l0 19 rfl
def dX10_holds_l0 : List (Nat × Instr × Nat) := [(0, .aload_n 0, 1), (1, .getfield 56, 3), (4, .iload_n 1, 1), (5, .invokevirtual 100, 3), (8, .ifCond .eq 21, 3), (11, .iload_n 2, 1), (12, .aload_n 0, 1), (13, .getfield 56, 3), (16, .invokevirtual 120, 3), (19, .sipush 256, 3), (22, .ior, 1), (23, .iconst (-1), 1), (24, .ixor, 1), (25, .iand, 1), (26, .ifCond .eq 5, 3), (29, .iconst (-1), 1), (30, .ireturn, 1), (31, .aload_n 0, 1), (32, .getfield 56, 3), (35, .iload_n 1, 1), (36, .iload_n 2, 1), (37, .invokevirtual 124, 3), (40, .invokestatic 128, 3), (43, .ireturn, 1)]
theorem gdX10_holds_l0 : dok cX10_holds dX10_holds_l0 = true := by decide +kernel
theorem dX10_holds_0 : decode cX10_holds 0 = .ok (.aload_n 0, 1) := dok_at gdX10_holds_l0 0 rfl
theorem dX10_holds_1 : decode cX10_holds 1 = .ok (.getfield 56, 3) := dok_at gdX10_holds_l0 1 rfl
theorem dX10_holds_4 : decode cX10_holds 4 = .ok (.iload_n 1, 1) := dok_at gdX10_holds_l0 2 rfl
theorem dX10_holds_5 : decode cX10_holds 5 = .ok (.invokevirtual 100, 3) := dok_at gdX10_holds_l0 3 rfl
theorem dX10_holds_8 : decode cX10_holds 8 = .ok (.ifCond .eq 21, 3) := dok_at gdX10_holds_l0 4 rfl
theorem dX10_holds_11 : decode cX10_holds 11 = .ok (.iload_n 2, 1) := dok_at gdX10_holds_l0 5 rfl
theorem dX10_holds_12 : decode cX10_holds 12 = .ok (.aload_n 0, 1) := dok_at gdX10_holds_l0 6 rfl
theorem dX10_holds_13 : decode cX10_holds 13 = .ok (.getfield 56, 3) := dok_at gdX10_holds_l0 7 rfl
theorem dX10_holds_16 : decode cX10_holds 16 = .ok (.invokevirtual 120, 3) := dok_at gdX10_holds_l0 8 rfl
theorem dX10_holds_19 : decode cX10_holds 19 = .ok (.sipush 256, 3) := dok_at gdX10_holds_l0 9 rfl
theorem dX10_holds_22 : decode cX10_holds 22 = .ok (.ior, 1) := dok_at gdX10_holds_l0 10 rfl
theorem dX10_holds_23 : decode cX10_holds 23 = .ok (.iconst (-1), 1) := dok_at gdX10_holds_l0 11 rfl
theorem dX10_holds_24 : decode cX10_holds 24 = .ok (.ixor, 1) := dok_at gdX10_holds_l0 12 rfl
theorem dX10_holds_25 : decode cX10_holds 25 = .ok (.iand, 1) := dok_at gdX10_holds_l0 13 rfl
theorem dX10_holds_26 : decode cX10_holds 26 = .ok (.ifCond .eq 5, 3) := dok_at gdX10_holds_l0 14 rfl
theorem dX10_holds_29 : decode cX10_holds 29 = .ok (.iconst (-1), 1) := dok_at gdX10_holds_l0 15 rfl
theorem dX10_holds_30 : decode cX10_holds 30 = .ok (.ireturn, 1) := dok_at gdX10_holds_l0 16 rfl
theorem dX10_holds_31 : decode cX10_holds 31 = .ok (.aload_n 0, 1) := dok_at gdX10_holds_l0 17 rfl
theorem dX10_holds_32 : decode cX10_holds 32 = .ok (.getfield 56, 3) := dok_at gdX10_holds_l0 18 rfl
theorem dX10_holds_35 : decode cX10_holds 35 = .ok (.iload_n 1, 1) := dok_at gdX10_holds_l0 19 rfl
theorem dX10_holds_36 : decode cX10_holds 36 = .ok (.iload_n 2, 1) := dok_at gdX10_holds_l0 20 rfl
theorem dX10_holds_37 : decode cX10_holds 37 = .ok (.invokevirtual 124, 3) := dok_at gdX10_holds_l0 21 rfl
theorem dX10_holds_40 : decode cX10_holds 40 = .ok (.invokestatic 128, 3) := dok_at gdX10_holds_l0 22 rfl
theorem dX10_holds_43 : decode cX10_holds 43 = .ok (.ireturn, 1) := dok_at gdX10_holds_l0 23 rfl
def dX10_words_l0 : List (Nat × Instr × Nat) := [(0, .aload_n 0, 1), (1, .getfield 56, 3), (4, .iload_n 1, 1), (5, .invokevirtual 100, 3), (8, .ifCond .eq 13, 3), (11, .iload_n 2, 1), (12, .ifCond .eq 11, 3), (15, .iload_n 2, 1), (16, .bipush 10, 2), (18, .if_icmp .ge 5, 3), (21, .iconst (-1), 1), (22, .ireturn, 1), (23, .iload_n 2, 1), (24, .ifCond .ne 12, 3), (27, .aload_n 0, 1), (28, .getfield 56, 3), (31, .iload_n 1, 1), (32, .invokevirtual 132, 3), (35, .ireturn, 1), (36, .aload_n 0, 1), (37, .getfield 56, 3), (40, .iload_n 1, 1), (41, .iload_n 2, 1), (42, .bipush 10, 2)]
theorem gdX10_words_l0 : dok cX10_words dX10_words_l0 = true := by decide +kernel
theorem dX10_words_0 : decode cX10_words 0 = .ok (.aload_n 0, 1) := dok_at gdX10_words_l0 0 rfl
theorem dX10_words_1 : decode cX10_words 1 = .ok (.getfield 56, 3) := dok_at gdX10_words_l0 1 rfl
theorem dX10_words_4 : decode cX10_words 4 = .ok (.iload_n 1, 1) := dok_at gdX10_words_l0 2 rfl
theorem dX10_words_5 : decode cX10_words 5 = .ok (.invokevirtual 100, 3) := dok_at gdX10_words_l0 3 rfl
theorem dX10_words_8 : decode cX10_words 8 = .ok (.ifCond .eq 13, 3) := dok_at gdX10_words_l0 4 rfl
theorem dX10_words_11 : decode cX10_words 11 = .ok (.iload_n 2, 1) := dok_at gdX10_words_l0 5 rfl
theorem dX10_words_12 : decode cX10_words 12 = .ok (.ifCond .eq 11, 3) := dok_at gdX10_words_l0 6 rfl
theorem dX10_words_15 : decode cX10_words 15 = .ok (.iload_n 2, 1) := dok_at gdX10_words_l0 7 rfl
theorem dX10_words_16 : decode cX10_words 16 = .ok (.bipush 10, 2) := dok_at gdX10_words_l0 8 rfl
theorem dX10_words_18 : decode cX10_words 18 = .ok (.if_icmp .ge 5, 3) := dok_at gdX10_words_l0 9 rfl
theorem dX10_words_21 : decode cX10_words 21 = .ok (.iconst (-1), 1) := dok_at gdX10_words_l0 10 rfl
theorem dX10_words_22 : decode cX10_words 22 = .ok (.ireturn, 1) := dok_at gdX10_words_l0 11 rfl
theorem dX10_words_23 : decode cX10_words 23 = .ok (.iload_n 2, 1) := dok_at gdX10_words_l0 12 rfl
theorem dX10_words_24 : decode cX10_words 24 = .ok (.ifCond .ne 12, 3) := dok_at gdX10_words_l0 13 rfl
theorem dX10_words_27 : decode cX10_words 27 = .ok (.aload_n 0, 1) := dok_at gdX10_words_l0 14 rfl
theorem dX10_words_28 : decode cX10_words 28 = .ok (.getfield 56, 3) := dok_at gdX10_words_l0 15 rfl
theorem dX10_words_31 : decode cX10_words 31 = .ok (.iload_n 1, 1) := dok_at gdX10_words_l0 16 rfl
theorem dX10_words_32 : decode cX10_words 32 = .ok (.invokevirtual 132, 3) := dok_at gdX10_words_l0 17 rfl
theorem dX10_words_35 : decode cX10_words 35 = .ok (.ireturn, 1) := dok_at gdX10_words_l0 18 rfl
theorem dX10_words_36 : decode cX10_words 36 = .ok (.aload_n 0, 1) := dok_at gdX10_words_l0 19 rfl
theorem dX10_words_37 : decode cX10_words 37 = .ok (.getfield 56, 3) := dok_at gdX10_words_l0 20 rfl
theorem dX10_words_40 : decode cX10_words 40 = .ok (.iload_n 1, 1) := dok_at gdX10_words_l0 21 rfl
theorem dX10_words_41 : decode cX10_words 41 = .ok (.iload_n 2, 1) := dok_at gdX10_words_l0 22 rfl
theorem dX10_words_42 : decode cX10_words 42 = .ok (.bipush 10, 2) := dok_at gdX10_words_l0 23 rfl
def dX10_words_l44 : List (Nat × Instr × Nat) := [(44, .isub, 1), (45, .invokevirtual 136, 3), (48, .ireturn, 1)]
theorem gdX10_words_l44 : dok cX10_words dX10_words_l44 = true := by decide +kernel
theorem dX10_words_44 : decode cX10_words 44 = .ok (.isub, 1) := dok_at gdX10_words_l44 0 rfl
theorem dX10_words_45 : decode cX10_words 45 = .ok (.invokevirtual 136, 3) := dok_at gdX10_words_l44 1 rfl
theorem dX10_words_48 : decode cX10_words 48 = .ok (.ireturn, 1) := dok_at gdX10_words_l44 2 rfl
def dX10_key_l0 : List (Nat × Instr × Nat) := [(0, .aload_n 0, 1), (1, .getfield 19, 3), (4, .getfield 139, 3), (7, .invokestatic 128, 3), (10, .istore_n 2, 1), (11, .aload_n 0, 1), (12, .getfield 19, 3), (15, .aload_n 0, 1), (16, .getfield 56, 3), (19, .iload_n 1, 1), (20, .invokevirtual 143, 3), (23, .iload_n 2, 1), (24, .ireturn, 1)]
theorem gdX10_key_l0 : dok cX10_key dX10_key_l0 = true := by decide +kernel
theorem dX10_key_0 : decode cX10_key 0 = .ok (.aload_n 0, 1) := dok_at gdX10_key_l0 0 rfl
theorem dX10_key_1 : decode cX10_key 1 = .ok (.getfield 19, 3) := dok_at gdX10_key_l0 1 rfl
theorem dX10_key_4 : decode cX10_key 4 = .ok (.getfield 139, 3) := dok_at gdX10_key_l0 2 rfl
theorem dX10_key_7 : decode cX10_key 7 = .ok (.invokestatic 128, 3) := dok_at gdX10_key_l0 3 rfl
theorem dX10_key_10 : decode cX10_key 10 = .ok (.istore_n 2, 1) := dok_at gdX10_key_l0 4 rfl
theorem dX10_key_11 : decode cX10_key 11 = .ok (.aload_n 0, 1) := dok_at gdX10_key_l0 5 rfl
theorem dX10_key_12 : decode cX10_key 12 = .ok (.getfield 19, 3) := dok_at gdX10_key_l0 6 rfl
theorem dX10_key_15 : decode cX10_key 15 = .ok (.aload_n 0, 1) := dok_at gdX10_key_l0 7 rfl
theorem dX10_key_16 : decode cX10_key 16 = .ok (.getfield 56, 3) := dok_at gdX10_key_l0 8 rfl
theorem dX10_key_19 : decode cX10_key 19 = .ok (.iload_n 1, 1) := dok_at gdX10_key_l0 9 rfl
theorem dX10_key_20 : decode cX10_key 20 = .ok (.invokevirtual 143, 3) := dok_at gdX10_key_l0 10 rfl
theorem dX10_key_23 : decode cX10_key 23 = .ok (.iload_n 2, 1) := dok_at gdX10_key_l0 11 rfl
theorem dX10_key_24 : decode cX10_key 24 = .ok (.ireturn, 1) := dok_at gdX10_key_l0 12 rfl
def dX10_dead_l0 : List (Nat × Instr × Nat) := [(0, .aload_n 0, 1), (1, .getfield 56, 3), (4, .iload_n 1, 1), (5, .invokevirtual 100, 3), (8, .ifCond .ne 5, 3), (11, .iconst (-1), 1), (12, .ireturn, 1), (13, .iconst 1, 1), (14, .iload_n 1, 1), (15, .ishl, 1), (16, .istore_n 3, 1), (17, .aload_n 0, 1), (18, .getfield 19, 3), (21, .getfield 147, 3), (24, .iload_n 3, 1), (25, .iand, 1), (26, .ifCond .eq 7, 3), (29, .iconst 1, 1), (30, .goto 4, 3), (33, .iconst 0, 1), (34, .invokestatic 128, 3), (37, .istore 4, 2), (39, .aload_n 0, 1), (40, .getfield 19, 3)]
theorem gdX10_dead_l0 : dok cX10_dead dX10_dead_l0 = true := by decide +kernel
theorem dX10_dead_0 : decode cX10_dead 0 = .ok (.aload_n 0, 1) := dok_at gdX10_dead_l0 0 rfl
theorem dX10_dead_1 : decode cX10_dead 1 = .ok (.getfield 56, 3) := dok_at gdX10_dead_l0 1 rfl
theorem dX10_dead_4 : decode cX10_dead 4 = .ok (.iload_n 1, 1) := dok_at gdX10_dead_l0 2 rfl
theorem dX10_dead_5 : decode cX10_dead 5 = .ok (.invokevirtual 100, 3) := dok_at gdX10_dead_l0 3 rfl
theorem dX10_dead_8 : decode cX10_dead 8 = .ok (.ifCond .ne 5, 3) := dok_at gdX10_dead_l0 4 rfl
theorem dX10_dead_11 : decode cX10_dead 11 = .ok (.iconst (-1), 1) := dok_at gdX10_dead_l0 5 rfl
theorem dX10_dead_12 : decode cX10_dead 12 = .ok (.ireturn, 1) := dok_at gdX10_dead_l0 6 rfl
theorem dX10_dead_13 : decode cX10_dead 13 = .ok (.iconst 1, 1) := dok_at gdX10_dead_l0 7 rfl
theorem dX10_dead_14 : decode cX10_dead 14 = .ok (.iload_n 1, 1) := dok_at gdX10_dead_l0 8 rfl
theorem dX10_dead_15 : decode cX10_dead 15 = .ok (.ishl, 1) := dok_at gdX10_dead_l0 9 rfl
theorem dX10_dead_16 : decode cX10_dead 16 = .ok (.istore_n 3, 1) := dok_at gdX10_dead_l0 10 rfl
theorem dX10_dead_17 : decode cX10_dead 17 = .ok (.aload_n 0, 1) := dok_at gdX10_dead_l0 11 rfl
theorem dX10_dead_18 : decode cX10_dead 18 = .ok (.getfield 19, 3) := dok_at gdX10_dead_l0 12 rfl
theorem dX10_dead_21 : decode cX10_dead 21 = .ok (.getfield 147, 3) := dok_at gdX10_dead_l0 13 rfl
theorem dX10_dead_24 : decode cX10_dead 24 = .ok (.iload_n 3, 1) := dok_at gdX10_dead_l0 14 rfl
theorem dX10_dead_25 : decode cX10_dead 25 = .ok (.iand, 1) := dok_at gdX10_dead_l0 15 rfl
theorem dX10_dead_26 : decode cX10_dead 26 = .ok (.ifCond .eq 7, 3) := dok_at gdX10_dead_l0 16 rfl
theorem dX10_dead_29 : decode cX10_dead 29 = .ok (.iconst 1, 1) := dok_at gdX10_dead_l0 17 rfl
theorem dX10_dead_30 : decode cX10_dead 30 = .ok (.goto 4, 3) := dok_at gdX10_dead_l0 18 rfl
theorem dX10_dead_33 : decode cX10_dead 33 = .ok (.iconst 0, 1) := dok_at gdX10_dead_l0 19 rfl
theorem dX10_dead_34 : decode cX10_dead 34 = .ok (.invokestatic 128, 3) := dok_at gdX10_dead_l0 20 rfl
theorem dX10_dead_37 : decode cX10_dead 37 = .ok (.istore 4, 2) := dok_at gdX10_dead_l0 21 rfl
theorem dX10_dead_39 : decode cX10_dead 39 = .ok (.aload_n 0, 1) := dok_at gdX10_dead_l0 22 rfl
theorem dX10_dead_40 : decode cX10_dead 40 = .ok (.getfield 19, 3) := dok_at gdX10_dead_l0 23 rfl
def dX10_dead_l43 : List (Nat × Instr × Nat) := [(43, .iload_n 2, 1), (44, .ifCond .eq 15, 3), (47, .aload_n 0, 1), (48, .getfield 19, 3), (51, .getfield 147, 3), (54, .iload_n 3, 1), (55, .ior, 1), (56, .goto 14, 3), (59, .aload_n 0, 1), (60, .getfield 19, 3), (63, .getfield 147, 3), (66, .iload_n 3, 1), (67, .iconst (-1), 1), (68, .ixor, 1), (69, .iand, 1), (70, .putfield 147, 3), (73, .aload_n 0, 1), (74, .invokevirtual 97, 3), (77, .iload 4, 2), (79, .ireturn, 1)]
theorem gdX10_dead_l43 : dok cX10_dead dX10_dead_l43 = true := by decide +kernel
theorem dX10_dead_43 : decode cX10_dead 43 = .ok (.iload_n 2, 1) := dok_at gdX10_dead_l43 0 rfl
theorem dX10_dead_44 : decode cX10_dead 44 = .ok (.ifCond .eq 15, 3) := dok_at gdX10_dead_l43 1 rfl
theorem dX10_dead_47 : decode cX10_dead 47 = .ok (.aload_n 0, 1) := dok_at gdX10_dead_l43 2 rfl
theorem dX10_dead_48 : decode cX10_dead 48 = .ok (.getfield 19, 3) := dok_at gdX10_dead_l43 3 rfl
theorem dX10_dead_51 : decode cX10_dead 51 = .ok (.getfield 147, 3) := dok_at gdX10_dead_l43 4 rfl
theorem dX10_dead_54 : decode cX10_dead 54 = .ok (.iload_n 3, 1) := dok_at gdX10_dead_l43 5 rfl
theorem dX10_dead_55 : decode cX10_dead 55 = .ok (.ior, 1) := dok_at gdX10_dead_l43 6 rfl
theorem dX10_dead_56 : decode cX10_dead 56 = .ok (.goto 14, 3) := dok_at gdX10_dead_l43 7 rfl
theorem dX10_dead_59 : decode cX10_dead 59 = .ok (.aload_n 0, 1) := dok_at gdX10_dead_l43 8 rfl
theorem dX10_dead_60 : decode cX10_dead 60 = .ok (.getfield 19, 3) := dok_at gdX10_dead_l43 9 rfl
theorem dX10_dead_63 : decode cX10_dead 63 = .ok (.getfield 147, 3) := dok_at gdX10_dead_l43 10 rfl
theorem dX10_dead_66 : decode cX10_dead 66 = .ok (.iload_n 3, 1) := dok_at gdX10_dead_l43 11 rfl
theorem dX10_dead_67 : decode cX10_dead 67 = .ok (.iconst (-1), 1) := dok_at gdX10_dead_l43 12 rfl
theorem dX10_dead_68 : decode cX10_dead 68 = .ok (.ixor, 1) := dok_at gdX10_dead_l43 13 rfl
theorem dX10_dead_69 : decode cX10_dead 69 = .ok (.iand, 1) := dok_at gdX10_dead_l43 14 rfl
theorem dX10_dead_70 : decode cX10_dead 70 = .ok (.putfield 147, 3) := dok_at gdX10_dead_l43 15 rfl
theorem dX10_dead_73 : decode cX10_dead 73 = .ok (.aload_n 0, 1) := dok_at gdX10_dead_l43 16 rfl
theorem dX10_dead_74 : decode cX10_dead 74 = .ok (.invokevirtual 97, 3) := dok_at gdX10_dead_l43 17 rfl
theorem dX10_dead_77 : decode cX10_dead 77 = .ok (.iload 4, 2) := dok_at gdX10_dead_l43 18 rfl
theorem dX10_dead_79 : decode cX10_dead 79 = .ok (.ireturn, 1) := dok_at gdX10_dead_l43 19 rfl
def dX10_time_l0 : List (Nat × Instr × Nat) := [(0, .aload_n 0, 1), (1, .getfield 56, 3), (4, .iload_n 1, 1), (5, .invokevirtual 100, 3), (8, .ifCond .eq 29, 3), (11, .iload_n 2, 1), (12, .aload_n 0, 1), (13, .getfield 56, 3), (16, .iload_n 1, 1), (17, .iconst 0, 1), (18, .invokevirtual 104, 3), (21, .if_icmp .lt 16, 3), (24, .iload_n 2, 1), (25, .aload_n 0, 1), (26, .getfield 56, 3), (29, .iload_n 1, 1), (30, .iconst 1, 1), (31, .invokevirtual 104, 3), (34, .if_icmp .le 5, 3), (37, .iconst (-1), 1), (38, .ireturn, 1), (39, .aload_n 0, 1), (40, .getfield 19, 3), (43, .getfield 150, 3)]
theorem gdX10_time_l0 : dok cX10_time dX10_time_l0 = true := by decide +kernel
theorem dX10_time_0 : decode cX10_time 0 = .ok (.aload_n 0, 1) := dok_at gdX10_time_l0 0 rfl
theorem dX10_time_1 : decode cX10_time 1 = .ok (.getfield 56, 3) := dok_at gdX10_time_l0 1 rfl
theorem dX10_time_4 : decode cX10_time 4 = .ok (.iload_n 1, 1) := dok_at gdX10_time_l0 2 rfl
theorem dX10_time_5 : decode cX10_time 5 = .ok (.invokevirtual 100, 3) := dok_at gdX10_time_l0 3 rfl
theorem dX10_time_8 : decode cX10_time 8 = .ok (.ifCond .eq 29, 3) := dok_at gdX10_time_l0 4 rfl
theorem dX10_time_11 : decode cX10_time 11 = .ok (.iload_n 2, 1) := dok_at gdX10_time_l0 5 rfl
theorem dX10_time_12 : decode cX10_time 12 = .ok (.aload_n 0, 1) := dok_at gdX10_time_l0 6 rfl
theorem dX10_time_13 : decode cX10_time 13 = .ok (.getfield 56, 3) := dok_at gdX10_time_l0 7 rfl
theorem dX10_time_16 : decode cX10_time 16 = .ok (.iload_n 1, 1) := dok_at gdX10_time_l0 8 rfl
theorem dX10_time_17 : decode cX10_time 17 = .ok (.iconst 0, 1) := dok_at gdX10_time_l0 9 rfl
theorem dX10_time_18 : decode cX10_time 18 = .ok (.invokevirtual 104, 3) := dok_at gdX10_time_l0 10 rfl
theorem dX10_time_21 : decode cX10_time 21 = .ok (.if_icmp .lt 16, 3) := dok_at gdX10_time_l0 11 rfl
theorem dX10_time_24 : decode cX10_time 24 = .ok (.iload_n 2, 1) := dok_at gdX10_time_l0 12 rfl
theorem dX10_time_25 : decode cX10_time 25 = .ok (.aload_n 0, 1) := dok_at gdX10_time_l0 13 rfl
theorem dX10_time_26 : decode cX10_time 26 = .ok (.getfield 56, 3) := dok_at gdX10_time_l0 14 rfl
theorem dX10_time_29 : decode cX10_time 29 = .ok (.iload_n 1, 1) := dok_at gdX10_time_l0 15 rfl
theorem dX10_time_30 : decode cX10_time 30 = .ok (.iconst 1, 1) := dok_at gdX10_time_l0 16 rfl
theorem dX10_time_31 : decode cX10_time 31 = .ok (.invokevirtual 104, 3) := dok_at gdX10_time_l0 17 rfl
theorem dX10_time_34 : decode cX10_time 34 = .ok (.if_icmp .le 5, 3) := dok_at gdX10_time_l0 18 rfl
theorem dX10_time_37 : decode cX10_time 37 = .ok (.iconst (-1), 1) := dok_at gdX10_time_l0 19 rfl
theorem dX10_time_38 : decode cX10_time 38 = .ok (.ireturn, 1) := dok_at gdX10_time_l0 20 rfl
theorem dX10_time_39 : decode cX10_time 39 = .ok (.aload_n 0, 1) := dok_at gdX10_time_l0 21 rfl
theorem dX10_time_40 : decode cX10_time 40 = .ok (.getfield 19, 3) := dok_at gdX10_time_l0 22 rfl
theorem dX10_time_43 : decode cX10_time 43 = .ok (.getfield 150, 3) := dok_at gdX10_time_l0 23 rfl
def dX10_time_l46 : List (Nat × Instr × Nat) := [(46, .iload_n 1, 1), (47, .iaload, 1), (48, .istore_n 3, 1), (49, .aload_n 0, 1), (50, .getfield 19, 3), (53, .getfield 150, 3), (56, .iload_n 1, 1), (57, .iload_n 2, 1), (58, .iastore, 1), (59, .aload_n 0, 1), (60, .invokevirtual 97, 3), (63, .iload_n 3, 1), (64, .ireturn, 1)]
theorem gdX10_time_l46 : dok cX10_time dX10_time_l46 = true := by decide +kernel
theorem dX10_time_46 : decode cX10_time 46 = .ok (.iload_n 1, 1) := dok_at gdX10_time_l46 0 rfl
theorem dX10_time_47 : decode cX10_time 47 = .ok (.iaload, 1) := dok_at gdX10_time_l46 1 rfl
theorem dX10_time_48 : decode cX10_time 48 = .ok (.istore_n 3, 1) := dok_at gdX10_time_l46 2 rfl
theorem dX10_time_49 : decode cX10_time 49 = .ok (.aload_n 0, 1) := dok_at gdX10_time_l46 3 rfl
theorem dX10_time_50 : decode cX10_time 50 = .ok (.getfield 19, 3) := dok_at gdX10_time_l46 4 rfl
theorem dX10_time_53 : decode cX10_time 53 = .ok (.getfield 150, 3) := dok_at gdX10_time_l46 5 rfl
theorem dX10_time_56 : decode cX10_time 56 = .ok (.iload_n 1, 1) := dok_at gdX10_time_l46 6 rfl
theorem dX10_time_57 : decode cX10_time 57 = .ok (.iload_n 2, 1) := dok_at gdX10_time_l46 7 rfl
theorem dX10_time_58 : decode cX10_time 58 = .ok (.iastore, 1) := dok_at gdX10_time_l46 8 rfl
theorem dX10_time_59 : decode cX10_time 59 = .ok (.aload_n 0, 1) := dok_at gdX10_time_l46 9 rfl
theorem dX10_time_60 : decode cX10_time 60 = .ok (.invokevirtual 97, 3) := dok_at gdX10_time_l46 10 rfl
theorem dX10_time_63 : decode cX10_time 63 = .ok (.iload_n 3, 1) := dok_at gdX10_time_l46 11 rfl
theorem dX10_time_64 : decode cX10_time 64 = .ok (.ireturn, 1) := dok_at gdX10_time_l46 12 rfl
def dX10_go_l0 : List (Nat × Instr × Nat) := [(0, .iload_n 1, 1), (1, .iconst 1, 1), (2, .if_icmp .lt 10, 3), (5, .iload_n 1, 1), (6, .sipush 999, 3), (9, .if_icmp .le 5, 3), (12, .iconst (-1), 1), (13, .ireturn, 1), (14, .aload_n 0, 1), (15, .getfield 19, 3), (18, .getfield 154, 3), (21, .istore_n 2, 1), (22, .iconst 0, 1), (23, .istore_n 3, 1), (24, .iload_n 3, 1), (25, .iload_n 1, 1), (26, .if_icmp .ge 20, 3), (29, .aload_n 0, 1), (30, .getfield 19, 3), (33, .aload_n 0, 1), (34, .getfield 56, 3), (37, .invokevirtual 157, 3), (40, .iinc 3 1, 3), (43, .goto (-19), 3)]
theorem gdX10_go_l0 : dok cX10_go dX10_go_l0 = true := by decide +kernel
theorem dX10_go_0 : decode cX10_go 0 = .ok (.iload_n 1, 1) := dok_at gdX10_go_l0 0 rfl
theorem dX10_go_1 : decode cX10_go 1 = .ok (.iconst 1, 1) := dok_at gdX10_go_l0 1 rfl
theorem dX10_go_2 : decode cX10_go 2 = .ok (.if_icmp .lt 10, 3) := dok_at gdX10_go_l0 2 rfl
theorem dX10_go_5 : decode cX10_go 5 = .ok (.iload_n 1, 1) := dok_at gdX10_go_l0 3 rfl
theorem dX10_go_6 : decode cX10_go 6 = .ok (.sipush 999, 3) := dok_at gdX10_go_l0 4 rfl
theorem dX10_go_9 : decode cX10_go 9 = .ok (.if_icmp .le 5, 3) := dok_at gdX10_go_l0 5 rfl
theorem dX10_go_12 : decode cX10_go 12 = .ok (.iconst (-1), 1) := dok_at gdX10_go_l0 6 rfl
theorem dX10_go_13 : decode cX10_go 13 = .ok (.ireturn, 1) := dok_at gdX10_go_l0 7 rfl
theorem dX10_go_14 : decode cX10_go 14 = .ok (.aload_n 0, 1) := dok_at gdX10_go_l0 8 rfl
theorem dX10_go_15 : decode cX10_go 15 = .ok (.getfield 19, 3) := dok_at gdX10_go_l0 9 rfl
theorem dX10_go_18 : decode cX10_go 18 = .ok (.getfield 154, 3) := dok_at gdX10_go_l0 10 rfl
theorem dX10_go_21 : decode cX10_go 21 = .ok (.istore_n 2, 1) := dok_at gdX10_go_l0 11 rfl
theorem dX10_go_22 : decode cX10_go 22 = .ok (.iconst 0, 1) := dok_at gdX10_go_l0 12 rfl
theorem dX10_go_23 : decode cX10_go 23 = .ok (.istore_n 3, 1) := dok_at gdX10_go_l0 13 rfl
theorem dX10_go_24 : decode cX10_go 24 = .ok (.iload_n 3, 1) := dok_at gdX10_go_l0 14 rfl
theorem dX10_go_25 : decode cX10_go 25 = .ok (.iload_n 1, 1) := dok_at gdX10_go_l0 15 rfl
theorem dX10_go_26 : decode cX10_go 26 = .ok (.if_icmp .ge 20, 3) := dok_at gdX10_go_l0 16 rfl
theorem dX10_go_29 : decode cX10_go 29 = .ok (.aload_n 0, 1) := dok_at gdX10_go_l0 17 rfl
theorem dX10_go_30 : decode cX10_go 30 = .ok (.getfield 19, 3) := dok_at gdX10_go_l0 18 rfl
theorem dX10_go_33 : decode cX10_go 33 = .ok (.aload_n 0, 1) := dok_at gdX10_go_l0 19 rfl
theorem dX10_go_34 : decode cX10_go 34 = .ok (.getfield 56, 3) := dok_at gdX10_go_l0 20 rfl
theorem dX10_go_37 : decode cX10_go 37 = .ok (.invokevirtual 157, 3) := dok_at gdX10_go_l0 21 rfl
theorem dX10_go_40 : decode cX10_go 40 = .ok (.iinc 3 1, 3) := dok_at gdX10_go_l0 22 rfl
theorem dX10_go_43 : decode cX10_go 43 = .ok (.goto (-19), 3) := dok_at gdX10_go_l0 23 rfl
def dX10_go_l46 : List (Nat × Instr × Nat) := [(46, .aload_n 0, 1), (47, .getfield 19, 3), (50, .getfield 154, 3), (53, .iload_n 2, 1), (54, .isub, 1), (55, .ireturn, 1)]
theorem gdX10_go_l46 : dok cX10_go dX10_go_l46 = true := by decide +kernel
theorem dX10_go_46 : decode cX10_go 46 = .ok (.aload_n 0, 1) := dok_at gdX10_go_l46 0 rfl
theorem dX10_go_47 : decode cX10_go 47 = .ok (.getfield 19, 3) := dok_at gdX10_go_l46 1 rfl
theorem dX10_go_50 : decode cX10_go 50 = .ok (.getfield 154, 3) := dok_at gdX10_go_l46 2 rfl
theorem dX10_go_53 : decode cX10_go 53 = .ok (.iload_n 2, 1) := dok_at gdX10_go_l46 3 rfl
theorem dX10_go_54 : decode cX10_go 54 = .ok (.isub, 1) := dok_at gdX10_go_l46 4 rfl
theorem dX10_go_55 : decode cX10_go 55 = .ok (.ireturn, 1) := dok_at gdX10_go_l46 5 rfl
def dX10_now_l0 : List (Nat × Instr × Nat) := [(0, .iload_n 1, 1), (1, .tableswitch 128 0 8 #[51, 59, 68, 77, 85, 93, 101, 109, 120], 51), (52, .aload_n 0, 1), (53, .getfield 19, 3), (56, .getfield 160, 3), (59, .ireturn, 1), (60, .aload_n 0, 1), (61, .getfield 19, 3), (64, .iconst 3, 1), (65, .invokevirtual 163, 3), (68, .ireturn, 1), (69, .aload_n 0, 1), (70, .getfield 19, 3), (73, .iconst 2, 1), (74, .invokevirtual 163, 3), (77, .ireturn, 1), (78, .aload_n 0, 1), (79, .getfield 19, 3), (82, .getfield 166, 3), (85, .ireturn, 1), (86, .aload_n 0, 1), (87, .getfield 19, 3), (90, .getfield 169, 3), (93, .ireturn, 1)]
theorem gdX10_now_l0 : dok cX10_now dX10_now_l0 = true := by decide +kernel
theorem dX10_now_0 : decode cX10_now 0 = .ok (.iload_n 1, 1) := dok_at gdX10_now_l0 0 rfl
theorem dX10_now_1 : decode cX10_now 1 = .ok (.tableswitch 128 0 8 #[51, 59, 68, 77, 85, 93, 101, 109, 120], 51) := dok_at gdX10_now_l0 1 rfl
theorem dX10_now_52 : decode cX10_now 52 = .ok (.aload_n 0, 1) := dok_at gdX10_now_l0 2 rfl
theorem dX10_now_53 : decode cX10_now 53 = .ok (.getfield 19, 3) := dok_at gdX10_now_l0 3 rfl
theorem dX10_now_56 : decode cX10_now 56 = .ok (.getfield 160, 3) := dok_at gdX10_now_l0 4 rfl
theorem dX10_now_59 : decode cX10_now 59 = .ok (.ireturn, 1) := dok_at gdX10_now_l0 5 rfl
theorem dX10_now_60 : decode cX10_now 60 = .ok (.aload_n 0, 1) := dok_at gdX10_now_l0 6 rfl
theorem dX10_now_61 : decode cX10_now 61 = .ok (.getfield 19, 3) := dok_at gdX10_now_l0 7 rfl
theorem dX10_now_64 : decode cX10_now 64 = .ok (.iconst 3, 1) := dok_at gdX10_now_l0 8 rfl
theorem dX10_now_65 : decode cX10_now 65 = .ok (.invokevirtual 163, 3) := dok_at gdX10_now_l0 9 rfl
theorem dX10_now_68 : decode cX10_now 68 = .ok (.ireturn, 1) := dok_at gdX10_now_l0 10 rfl
theorem dX10_now_69 : decode cX10_now 69 = .ok (.aload_n 0, 1) := dok_at gdX10_now_l0 11 rfl
theorem dX10_now_70 : decode cX10_now 70 = .ok (.getfield 19, 3) := dok_at gdX10_now_l0 12 rfl
theorem dX10_now_73 : decode cX10_now 73 = .ok (.iconst 2, 1) := dok_at gdX10_now_l0 13 rfl
theorem dX10_now_74 : decode cX10_now 74 = .ok (.invokevirtual 163, 3) := dok_at gdX10_now_l0 14 rfl
theorem dX10_now_77 : decode cX10_now 77 = .ok (.ireturn, 1) := dok_at gdX10_now_l0 15 rfl
theorem dX10_now_78 : decode cX10_now 78 = .ok (.aload_n 0, 1) := dok_at gdX10_now_l0 16 rfl
theorem dX10_now_79 : decode cX10_now 79 = .ok (.getfield 19, 3) := dok_at gdX10_now_l0 17 rfl
theorem dX10_now_82 : decode cX10_now 82 = .ok (.getfield 166, 3) := dok_at gdX10_now_l0 18 rfl
theorem dX10_now_85 : decode cX10_now 85 = .ok (.ireturn, 1) := dok_at gdX10_now_l0 19 rfl
theorem dX10_now_86 : decode cX10_now 86 = .ok (.aload_n 0, 1) := dok_at gdX10_now_l0 20 rfl
theorem dX10_now_87 : decode cX10_now 87 = .ok (.getfield 19, 3) := dok_at gdX10_now_l0 21 rfl
theorem dX10_now_90 : decode cX10_now 90 = .ok (.getfield 169, 3) := dok_at gdX10_now_l0 22 rfl
theorem dX10_now_93 : decode cX10_now 93 = .ok (.ireturn, 1) := dok_at gdX10_now_l0 23 rfl
def dX10_now_l94 : List (Nat × Instr × Nat) := [(94, .aload_n 0, 1), (95, .getfield 19, 3), (98, .getfield 172, 3), (101, .ireturn, 1), (102, .aload_n 0, 1), (103, .getfield 19, 3), (106, .getfield 175, 3), (109, .ireturn, 1), (110, .aload_n 0, 1), (111, .getfield 19, 3), (114, .getfield 139, 3), (117, .invokestatic 128, 3), (120, .ireturn, 1), (121, .aload_n 0, 1), (122, .getfield 19, 3), (125, .getfield 154, 3), (128, .ireturn, 1), (129, .bipush (-9), 2), (131, .ireturn, 1)]
theorem gdX10_now_l94 : dok cX10_now dX10_now_l94 = true := by decide +kernel
theorem dX10_now_94 : decode cX10_now 94 = .ok (.aload_n 0, 1) := dok_at gdX10_now_l94 0 rfl
theorem dX10_now_95 : decode cX10_now 95 = .ok (.getfield 19, 3) := dok_at gdX10_now_l94 1 rfl
theorem dX10_now_98 : decode cX10_now 98 = .ok (.getfield 172, 3) := dok_at gdX10_now_l94 2 rfl
theorem dX10_now_101 : decode cX10_now 101 = .ok (.ireturn, 1) := dok_at gdX10_now_l94 3 rfl
theorem dX10_now_102 : decode cX10_now 102 = .ok (.aload_n 0, 1) := dok_at gdX10_now_l94 4 rfl
theorem dX10_now_103 : decode cX10_now 103 = .ok (.getfield 19, 3) := dok_at gdX10_now_l94 5 rfl
theorem dX10_now_106 : decode cX10_now 106 = .ok (.getfield 175, 3) := dok_at gdX10_now_l94 6 rfl
theorem dX10_now_109 : decode cX10_now 109 = .ok (.ireturn, 1) := dok_at gdX10_now_l94 7 rfl
theorem dX10_now_110 : decode cX10_now 110 = .ok (.aload_n 0, 1) := dok_at gdX10_now_l94 8 rfl
theorem dX10_now_111 : decode cX10_now 111 = .ok (.getfield 19, 3) := dok_at gdX10_now_l94 9 rfl
theorem dX10_now_114 : decode cX10_now 114 = .ok (.getfield 139, 3) := dok_at gdX10_now_l94 10 rfl
theorem dX10_now_117 : decode cX10_now 117 = .ok (.invokestatic 128, 3) := dok_at gdX10_now_l94 11 rfl
theorem dX10_now_120 : decode cX10_now 120 = .ok (.ireturn, 1) := dok_at gdX10_now_l94 12 rfl
theorem dX10_now_121 : decode cX10_now 121 = .ok (.aload_n 0, 1) := dok_at gdX10_now_l94 13 rfl
theorem dX10_now_122 : decode cX10_now 122 = .ok (.getfield 19, 3) := dok_at gdX10_now_l94 14 rfl
theorem dX10_now_125 : decode cX10_now 125 = .ok (.getfield 154, 3) := dok_at gdX10_now_l94 15 rfl
theorem dX10_now_128 : decode cX10_now 128 = .ok (.ireturn, 1) := dok_at gdX10_now_l94 16 rfl
theorem dX10_now_129 : decode cX10_now 129 = .ok (.bipush (-9), 2) := dok_at gdX10_now_l94 17 rfl
theorem dX10_now_131 : decode cX10_now 131 = .ok (.ireturn, 1) := dok_at gdX10_now_l94 18 rfl
def dX10_is_l0 : List (Nat × Instr × Nat) := [(0, .aload_n 0, 1), (1, .getfield 56, 3), (4, .iload_n 1, 1), (5, .invokevirtual 100, 3), (8, .ifCond .ne 5, 3), (11, .iconst (-1), 1), (12, .ireturn, 1), (13, .iload_n 2, 1), (14, .tableswitch 86 0 4 #[34, 44, 54, 66, 76], 34), (48, .aload_n 0, 1), (49, .getfield 19, 3), (52, .getfield 178, 3), (55, .iload_n 1, 1), (56, .iaload, 1), (57, .ireturn, 1), (58, .aload_n 0, 1), (59, .getfield 19, 3), (62, .getfield 181, 3), (65, .iload_n 1, 1), (66, .iaload, 1), (67, .ireturn, 1), (68, .aload_n 0, 1), (69, .getfield 19, 3), (72, .getfield 147, 3)]
theorem gdX10_is_l0 : dok cX10_is dX10_is_l0 = true := by decide +kernel
theorem dX10_is_0 : decode cX10_is 0 = .ok (.aload_n 0, 1) := dok_at gdX10_is_l0 0 rfl
theorem dX10_is_1 : decode cX10_is 1 = .ok (.getfield 56, 3) := dok_at gdX10_is_l0 1 rfl
theorem dX10_is_4 : decode cX10_is 4 = .ok (.iload_n 1, 1) := dok_at gdX10_is_l0 2 rfl
theorem dX10_is_5 : decode cX10_is 5 = .ok (.invokevirtual 100, 3) := dok_at gdX10_is_l0 3 rfl
theorem dX10_is_8 : decode cX10_is 8 = .ok (.ifCond .ne 5, 3) := dok_at gdX10_is_l0 4 rfl
theorem dX10_is_11 : decode cX10_is 11 = .ok (.iconst (-1), 1) := dok_at gdX10_is_l0 5 rfl
theorem dX10_is_12 : decode cX10_is 12 = .ok (.ireturn, 1) := dok_at gdX10_is_l0 6 rfl
theorem dX10_is_13 : decode cX10_is 13 = .ok (.iload_n 2, 1) := dok_at gdX10_is_l0 7 rfl
theorem dX10_is_14 : decode cX10_is 14 = .ok (.tableswitch 86 0 4 #[34, 44, 54, 66, 76], 34) := dok_at gdX10_is_l0 8 rfl
theorem dX10_is_48 : decode cX10_is 48 = .ok (.aload_n 0, 1) := dok_at gdX10_is_l0 9 rfl
theorem dX10_is_49 : decode cX10_is 49 = .ok (.getfield 19, 3) := dok_at gdX10_is_l0 10 rfl
theorem dX10_is_52 : decode cX10_is 52 = .ok (.getfield 178, 3) := dok_at gdX10_is_l0 11 rfl
theorem dX10_is_55 : decode cX10_is 55 = .ok (.iload_n 1, 1) := dok_at gdX10_is_l0 12 rfl
theorem dX10_is_56 : decode cX10_is 56 = .ok (.iaload, 1) := dok_at gdX10_is_l0 13 rfl
theorem dX10_is_57 : decode cX10_is 57 = .ok (.ireturn, 1) := dok_at gdX10_is_l0 14 rfl
theorem dX10_is_58 : decode cX10_is 58 = .ok (.aload_n 0, 1) := dok_at gdX10_is_l0 15 rfl
theorem dX10_is_59 : decode cX10_is 59 = .ok (.getfield 19, 3) := dok_at gdX10_is_l0 16 rfl
theorem dX10_is_62 : decode cX10_is 62 = .ok (.getfield 181, 3) := dok_at gdX10_is_l0 17 rfl
theorem dX10_is_65 : decode cX10_is 65 = .ok (.iload_n 1, 1) := dok_at gdX10_is_l0 18 rfl
theorem dX10_is_66 : decode cX10_is 66 = .ok (.iaload, 1) := dok_at gdX10_is_l0 19 rfl
theorem dX10_is_67 : decode cX10_is 67 = .ok (.ireturn, 1) := dok_at gdX10_is_l0 20 rfl
theorem dX10_is_68 : decode cX10_is 68 = .ok (.aload_n 0, 1) := dok_at gdX10_is_l0 21 rfl
theorem dX10_is_69 : decode cX10_is 69 = .ok (.getfield 19, 3) := dok_at gdX10_is_l0 22 rfl
theorem dX10_is_72 : decode cX10_is 72 = .ok (.getfield 147, 3) := dok_at gdX10_is_l0 23 rfl
def dX10_is_l75 : List (Nat × Instr × Nat) := [(75, .iload_n 1, 1), (76, .ishr, 1), (77, .iconst 1, 1), (78, .iand, 1), (79, .ireturn, 1), (80, .aload_n 0, 1), (81, .getfield 19, 3), (84, .getfield 150, 3), (87, .iload_n 1, 1), (88, .iaload, 1), (89, .ireturn, 1), (90, .aload_n 0, 1), (91, .getfield 19, 3), (94, .getfield 184, 3), (97, .iload_n 1, 1), (98, .iaload, 1), (99, .ireturn, 1), (100, .iconst (-1), 1), (101, .ireturn, 1)]
theorem gdX10_is_l75 : dok cX10_is dX10_is_l75 = true := by decide +kernel
theorem dX10_is_75 : decode cX10_is 75 = .ok (.iload_n 1, 1) := dok_at gdX10_is_l75 0 rfl
theorem dX10_is_76 : decode cX10_is 76 = .ok (.ishr, 1) := dok_at gdX10_is_l75 1 rfl
theorem dX10_is_77 : decode cX10_is 77 = .ok (.iconst 1, 1) := dok_at gdX10_is_l75 2 rfl
theorem dX10_is_78 : decode cX10_is 78 = .ok (.iand, 1) := dok_at gdX10_is_l75 3 rfl
theorem dX10_is_79 : decode cX10_is 79 = .ok (.ireturn, 1) := dok_at gdX10_is_l75 4 rfl
theorem dX10_is_80 : decode cX10_is 80 = .ok (.aload_n 0, 1) := dok_at gdX10_is_l75 5 rfl
theorem dX10_is_81 : decode cX10_is 81 = .ok (.getfield 19, 3) := dok_at gdX10_is_l75 6 rfl
theorem dX10_is_84 : decode cX10_is 84 = .ok (.getfield 150, 3) := dok_at gdX10_is_l75 7 rfl
theorem dX10_is_87 : decode cX10_is 87 = .ok (.iload_n 1, 1) := dok_at gdX10_is_l75 8 rfl
theorem dX10_is_88 : decode cX10_is 88 = .ok (.iaload, 1) := dok_at gdX10_is_l75 9 rfl
theorem dX10_is_89 : decode cX10_is 89 = .ok (.ireturn, 1) := dok_at gdX10_is_l75 10 rfl
theorem dX10_is_90 : decode cX10_is 90 = .ok (.aload_n 0, 1) := dok_at gdX10_is_l75 11 rfl
theorem dX10_is_91 : decode cX10_is 91 = .ok (.getfield 19, 3) := dok_at gdX10_is_l75 12 rfl
theorem dX10_is_94 : decode cX10_is 94 = .ok (.getfield 184, 3) := dok_at gdX10_is_l75 13 rfl
theorem dX10_is_97 : decode cX10_is 97 = .ok (.iload_n 1, 1) := dok_at gdX10_is_l75 14 rfl
theorem dX10_is_98 : decode cX10_is 98 = .ok (.iaload, 1) := dok_at gdX10_is_l75 15 rfl
theorem dX10_is_99 : decode cX10_is 99 = .ok (.ireturn, 1) := dok_at gdX10_is_l75 16 rfl
theorem dX10_is_100 : decode cX10_is 100 = .ok (.iconst (-1), 1) := dok_at gdX10_is_l75 17 rfl
theorem dX10_is_101 : decode cX10_is 101 = .ok (.ireturn, 1) := dok_at gdX10_is_l75 18 rfl
def dX10_happened_l0 : List (Nat × Instr × Nat) := [(0, .iload_n 1, 1), (1, .ifCond .lt 17, 3), (4, .iload_n 1, 1), (5, .aload_n 0, 1), (6, .getfield 19, 3), (9, .getfield 187, 3), (12, .getfield 191, 3), (15, .if_icmp .lt 5, 3), (18, .iconst (-1), 1), (19, .ireturn, 1), (20, .iload_n 2, 1), (21, .tableswitch 66 0 2 #[27, 40, 53], 27), (48, .aload_n 0, 1), (49, .getfield 19, 3), (52, .getfield 187, 3), (55, .getfield 196, 3), (58, .iload_n 1, 1), (59, .iaload, 1), (60, .ireturn, 1), (61, .aload_n 0, 1), (62, .getfield 19, 3), (65, .getfield 187, 3), (68, .getfield 199, 3), (71, .iload_n 1, 1)]
theorem gdX10_happened_l0 : dok cX10_happened dX10_happened_l0 = true := by decide +kernel
theorem dX10_happened_0 : decode cX10_happened 0 = .ok (.iload_n 1, 1) := dok_at gdX10_happened_l0 0 rfl
theorem dX10_happened_1 : decode cX10_happened 1 = .ok (.ifCond .lt 17, 3) := dok_at gdX10_happened_l0 1 rfl
theorem dX10_happened_4 : decode cX10_happened 4 = .ok (.iload_n 1, 1) := dok_at gdX10_happened_l0 2 rfl
theorem dX10_happened_5 : decode cX10_happened 5 = .ok (.aload_n 0, 1) := dok_at gdX10_happened_l0 3 rfl
theorem dX10_happened_6 : decode cX10_happened 6 = .ok (.getfield 19, 3) := dok_at gdX10_happened_l0 4 rfl
theorem dX10_happened_9 : decode cX10_happened 9 = .ok (.getfield 187, 3) := dok_at gdX10_happened_l0 5 rfl
theorem dX10_happened_12 : decode cX10_happened 12 = .ok (.getfield 191, 3) := dok_at gdX10_happened_l0 6 rfl
theorem dX10_happened_15 : decode cX10_happened 15 = .ok (.if_icmp .lt 5, 3) := dok_at gdX10_happened_l0 7 rfl
theorem dX10_happened_18 : decode cX10_happened 18 = .ok (.iconst (-1), 1) := dok_at gdX10_happened_l0 8 rfl
theorem dX10_happened_19 : decode cX10_happened 19 = .ok (.ireturn, 1) := dok_at gdX10_happened_l0 9 rfl
theorem dX10_happened_20 : decode cX10_happened 20 = .ok (.iload_n 2, 1) := dok_at gdX10_happened_l0 10 rfl
theorem dX10_happened_21 : decode cX10_happened 21 = .ok (.tableswitch 66 0 2 #[27, 40, 53], 27) := dok_at gdX10_happened_l0 11 rfl
theorem dX10_happened_48 : decode cX10_happened 48 = .ok (.aload_n 0, 1) := dok_at gdX10_happened_l0 12 rfl
theorem dX10_happened_49 : decode cX10_happened 49 = .ok (.getfield 19, 3) := dok_at gdX10_happened_l0 13 rfl
theorem dX10_happened_52 : decode cX10_happened 52 = .ok (.getfield 187, 3) := dok_at gdX10_happened_l0 14 rfl
theorem dX10_happened_55 : decode cX10_happened 55 = .ok (.getfield 196, 3) := dok_at gdX10_happened_l0 15 rfl
theorem dX10_happened_58 : decode cX10_happened 58 = .ok (.iload_n 1, 1) := dok_at gdX10_happened_l0 16 rfl
theorem dX10_happened_59 : decode cX10_happened 59 = .ok (.iaload, 1) := dok_at gdX10_happened_l0 17 rfl
theorem dX10_happened_60 : decode cX10_happened 60 = .ok (.ireturn, 1) := dok_at gdX10_happened_l0 18 rfl
theorem dX10_happened_61 : decode cX10_happened 61 = .ok (.aload_n 0, 1) := dok_at gdX10_happened_l0 19 rfl
theorem dX10_happened_62 : decode cX10_happened 62 = .ok (.getfield 19, 3) := dok_at gdX10_happened_l0 20 rfl
theorem dX10_happened_65 : decode cX10_happened 65 = .ok (.getfield 187, 3) := dok_at gdX10_happened_l0 21 rfl
theorem dX10_happened_68 : decode cX10_happened 68 = .ok (.getfield 199, 3) := dok_at gdX10_happened_l0 22 rfl
theorem dX10_happened_71 : decode cX10_happened 71 = .ok (.iload_n 1, 1) := dok_at gdX10_happened_l0 23 rfl
def dX10_happened_l72 : List (Nat × Instr × Nat) := [(72, .iaload, 1), (73, .ireturn, 1), (74, .aload_n 0, 1), (75, .getfield 19, 3), (78, .getfield 187, 3), (81, .getfield 202, 3), (84, .iload_n 1, 1), (85, .iaload, 1), (86, .ireturn, 1), (87, .iconst (-1), 1), (88, .ireturn, 1)]
theorem gdX10_happened_l72 : dok cX10_happened dX10_happened_l72 = true := by decide +kernel
theorem dX10_happened_72 : decode cX10_happened 72 = .ok (.iaload, 1) := dok_at gdX10_happened_l72 0 rfl
theorem dX10_happened_73 : decode cX10_happened 73 = .ok (.ireturn, 1) := dok_at gdX10_happened_l72 1 rfl
theorem dX10_happened_74 : decode cX10_happened 74 = .ok (.aload_n 0, 1) := dok_at gdX10_happened_l72 2 rfl
theorem dX10_happened_75 : decode cX10_happened 75 = .ok (.getfield 19, 3) := dok_at gdX10_happened_l72 3 rfl
theorem dX10_happened_78 : decode cX10_happened 78 = .ok (.getfield 187, 3) := dok_at gdX10_happened_l72 4 rfl
theorem dX10_happened_81 : decode cX10_happened 81 = .ok (.getfield 202, 3) := dok_at gdX10_happened_l72 5 rfl
theorem dX10_happened_84 : decode cX10_happened 84 = .ok (.iload_n 1, 1) := dok_at gdX10_happened_l72 6 rfl
theorem dX10_happened_85 : decode cX10_happened 85 = .ok (.iaload, 1) := dok_at gdX10_happened_l72 7 rfl
theorem dX10_happened_86 : decode cX10_happened 86 = .ok (.ireturn, 1) := dok_at gdX10_happened_l72 8 rfl
theorem dX10_happened_87 : decode cX10_happened 87 = .ok (.iconst (-1), 1) := dok_at gdX10_happened_l72 9 rfl
theorem dX10_happened_88 : decode cX10_happened 88 = .ok (.ireturn, 1) := dok_at gdX10_happened_l72 10 rfl
def dX10_up_l0 : List (Nat × Instr × Nat) := [(0, .aload_n 0, 1), (1, .getfield 56, 3), (4, .invokevirtual 120, 3), (7, .istore_n 2, 1), (8, .iload_n 2, 1), (9, .aload_n 0, 1), (10, .getfield 19, 3), (13, .getfield 147, 3), (16, .iconst (-1), 1), (17, .ixor, 1), (18, .iand, 1), (19, .istore_n 3, 1), (20, .iload_n 1, 1), (21, .tableswitch 62 0 2 #[27, 36, 49], 27), (48, .aload_n 0, 1), (49, .getfield 56, 3), (52, .iload_n 3, 1), (53, .invokevirtual 205, 3), (56, .ireturn, 1), (57, .iload_n 3, 1), (58, .aload_n 0, 1), (59, .getfield 56, 3), (62, .iload_n 3, 1), (63, .invokevirtual 205, 3)]
theorem gdX10_up_l0 : dok cX10_up dX10_up_l0 = true := by decide +kernel
theorem dX10_up_0 : decode cX10_up 0 = .ok (.aload_n 0, 1) := dok_at gdX10_up_l0 0 rfl
theorem dX10_up_1 : decode cX10_up 1 = .ok (.getfield 56, 3) := dok_at gdX10_up_l0 1 rfl
theorem dX10_up_4 : decode cX10_up 4 = .ok (.invokevirtual 120, 3) := dok_at gdX10_up_l0 2 rfl
theorem dX10_up_7 : decode cX10_up 7 = .ok (.istore_n 2, 1) := dok_at gdX10_up_l0 3 rfl
theorem dX10_up_8 : decode cX10_up 8 = .ok (.iload_n 2, 1) := dok_at gdX10_up_l0 4 rfl
theorem dX10_up_9 : decode cX10_up 9 = .ok (.aload_n 0, 1) := dok_at gdX10_up_l0 5 rfl
theorem dX10_up_10 : decode cX10_up 10 = .ok (.getfield 19, 3) := dok_at gdX10_up_l0 6 rfl
theorem dX10_up_13 : decode cX10_up 13 = .ok (.getfield 147, 3) := dok_at gdX10_up_l0 7 rfl
theorem dX10_up_16 : decode cX10_up 16 = .ok (.iconst (-1), 1) := dok_at gdX10_up_l0 8 rfl
theorem dX10_up_17 : decode cX10_up 17 = .ok (.ixor, 1) := dok_at gdX10_up_l0 9 rfl
theorem dX10_up_18 : decode cX10_up 18 = .ok (.iand, 1) := dok_at gdX10_up_l0 10 rfl
theorem dX10_up_19 : decode cX10_up 19 = .ok (.istore_n 3, 1) := dok_at gdX10_up_l0 11 rfl
theorem dX10_up_20 : decode cX10_up 20 = .ok (.iload_n 1, 1) := dok_at gdX10_up_l0 12 rfl
theorem dX10_up_21 : decode cX10_up 21 = .ok (.tableswitch 62 0 2 #[27, 36, 49], 27) := dok_at gdX10_up_l0 13 rfl
theorem dX10_up_48 : decode cX10_up 48 = .ok (.aload_n 0, 1) := dok_at gdX10_up_l0 14 rfl
theorem dX10_up_49 : decode cX10_up 49 = .ok (.getfield 56, 3) := dok_at gdX10_up_l0 15 rfl
theorem dX10_up_52 : decode cX10_up 52 = .ok (.iload_n 3, 1) := dok_at gdX10_up_l0 16 rfl
theorem dX10_up_53 : decode cX10_up 53 = .ok (.invokevirtual 205, 3) := dok_at gdX10_up_l0 17 rfl
theorem dX10_up_56 : decode cX10_up 56 = .ok (.ireturn, 1) := dok_at gdX10_up_l0 18 rfl
theorem dX10_up_57 : decode cX10_up 57 = .ok (.iload_n 3, 1) := dok_at gdX10_up_l0 19 rfl
theorem dX10_up_58 : decode cX10_up 58 = .ok (.aload_n 0, 1) := dok_at gdX10_up_l0 20 rfl
theorem dX10_up_59 : decode cX10_up 59 = .ok (.getfield 56, 3) := dok_at gdX10_up_l0 21 rfl
theorem dX10_up_62 : decode cX10_up 62 = .ok (.iload_n 3, 1) := dok_at gdX10_up_l0 22 rfl
theorem dX10_up_63 : decode cX10_up 63 = .ok (.invokevirtual 205, 3) := dok_at gdX10_up_l0 23 rfl
def dX10_up_l66 : List (Nat × Instr × Nat) := [(66, .iconst (-1), 1), (67, .ixor, 1), (68, .iand, 1), (69, .ireturn, 1), (70, .iload_n 2, 1), (71, .aload_n 0, 1), (72, .getfield 56, 3), (75, .iload_n 2, 1), (76, .invokevirtual 205, 3), (79, .iconst (-1), 1), (80, .ixor, 1), (81, .iand, 1), (82, .ireturn, 1), (83, .iconst (-1), 1), (84, .ireturn, 1)]
theorem gdX10_up_l66 : dok cX10_up dX10_up_l66 = true := by decide +kernel
theorem dX10_up_66 : decode cX10_up 66 = .ok (.iconst (-1), 1) := dok_at gdX10_up_l66 0 rfl
theorem dX10_up_67 : decode cX10_up 67 = .ok (.ixor, 1) := dok_at gdX10_up_l66 1 rfl
theorem dX10_up_68 : decode cX10_up 68 = .ok (.iand, 1) := dok_at gdX10_up_l66 2 rfl
theorem dX10_up_69 : decode cX10_up 69 = .ok (.ireturn, 1) := dok_at gdX10_up_l66 3 rfl
theorem dX10_up_70 : decode cX10_up 70 = .ok (.iload_n 2, 1) := dok_at gdX10_up_l66 4 rfl
theorem dX10_up_71 : decode cX10_up 71 = .ok (.aload_n 0, 1) := dok_at gdX10_up_l66 5 rfl
theorem dX10_up_72 : decode cX10_up 72 = .ok (.getfield 56, 3) := dok_at gdX10_up_l66 6 rfl
theorem dX10_up_75 : decode cX10_up 75 = .ok (.iload_n 2, 1) := dok_at gdX10_up_l66 7 rfl
theorem dX10_up_76 : decode cX10_up 76 = .ok (.invokevirtual 205, 3) := dok_at gdX10_up_l66 8 rfl
theorem dX10_up_79 : decode cX10_up 79 = .ok (.iconst (-1), 1) := dok_at gdX10_up_l66 9 rfl
theorem dX10_up_80 : decode cX10_up 80 = .ok (.ixor, 1) := dok_at gdX10_up_l66 10 rfl
theorem dX10_up_81 : decode cX10_up 81 = .ok (.iand, 1) := dok_at gdX10_up_l66 11 rfl
theorem dX10_up_82 : decode cX10_up 82 = .ok (.ireturn, 1) := dok_at gdX10_up_l66 12 rfl
theorem dX10_up_83 : decode cX10_up 83 = .ok (.iconst (-1), 1) := dok_at gdX10_up_l66 13 rfl
theorem dX10_up_84 : decode cX10_up 84 = .ok (.ireturn, 1) := dok_at gdX10_up_l66 14 rfl
def dX10_when_l0 : List (Nat × Instr × Nat) := [(0, .aload_n 0, 1), (1, .getfield 56, 3), (4, .iload_n 1, 1), (5, .invokevirtual 100, 3), (8, .ifCond .eq 12, 3), (11, .iload_n 2, 1), (12, .ifCond .lt 8, 3), (15, .iload_n 2, 1), (16, .iconst 2, 1), (17, .if_icmp .le 5, 3), (20, .iconst (-1), 1), (21, .ireturn, 1), (22, .iload_n 2, 1), (23, .ifCond .ne 10, 3), (26, .aload_n 0, 1), (27, .invokevirtual 208, 3), (30, .goto 50, 3), (33, .aload_n 0, 1), (34, .getfield 26, 3), (37, .aload_n 0, 1), (38, .getfield 56, 3), (41, .invokevirtual 211, 3), (44, .aload_n 0, 1), (45, .getfield 26, 3)]
theorem gdX10_when_l0 : dok cX10_when dX10_when_l0 = true := by decide +kernel
theorem dX10_when_0 : decode cX10_when 0 = .ok (.aload_n 0, 1) := dok_at gdX10_when_l0 0 rfl
theorem dX10_when_1 : decode cX10_when 1 = .ok (.getfield 56, 3) := dok_at gdX10_when_l0 1 rfl
theorem dX10_when_4 : decode cX10_when 4 = .ok (.iload_n 1, 1) := dok_at gdX10_when_l0 2 rfl
theorem dX10_when_5 : decode cX10_when 5 = .ok (.invokevirtual 100, 3) := dok_at gdX10_when_l0 3 rfl
theorem dX10_when_8 : decode cX10_when 8 = .ok (.ifCond .eq 12, 3) := dok_at gdX10_when_l0 4 rfl
theorem dX10_when_11 : decode cX10_when 11 = .ok (.iload_n 2, 1) := dok_at gdX10_when_l0 5 rfl
theorem dX10_when_12 : decode cX10_when 12 = .ok (.ifCond .lt 8, 3) := dok_at gdX10_when_l0 6 rfl
theorem dX10_when_15 : decode cX10_when 15 = .ok (.iload_n 2, 1) := dok_at gdX10_when_l0 7 rfl
theorem dX10_when_16 : decode cX10_when 16 = .ok (.iconst 2, 1) := dok_at gdX10_when_l0 8 rfl
theorem dX10_when_17 : decode cX10_when 17 = .ok (.if_icmp .le 5, 3) := dok_at gdX10_when_l0 9 rfl
theorem dX10_when_20 : decode cX10_when 20 = .ok (.iconst (-1), 1) := dok_at gdX10_when_l0 10 rfl
theorem dX10_when_21 : decode cX10_when 21 = .ok (.ireturn, 1) := dok_at gdX10_when_l0 11 rfl
theorem dX10_when_22 : decode cX10_when 22 = .ok (.iload_n 2, 1) := dok_at gdX10_when_l0 12 rfl
theorem dX10_when_23 : decode cX10_when 23 = .ok (.ifCond .ne 10, 3) := dok_at gdX10_when_l0 13 rfl
theorem dX10_when_26 : decode cX10_when 26 = .ok (.aload_n 0, 1) := dok_at gdX10_when_l0 14 rfl
theorem dX10_when_27 : decode cX10_when 27 = .ok (.invokevirtual 208, 3) := dok_at gdX10_when_l0 15 rfl
theorem dX10_when_30 : decode cX10_when 30 = .ok (.goto 50, 3) := dok_at gdX10_when_l0 16 rfl
theorem dX10_when_33 : decode cX10_when 33 = .ok (.aload_n 0, 1) := dok_at gdX10_when_l0 17 rfl
theorem dX10_when_34 : decode cX10_when 34 = .ok (.getfield 26, 3) := dok_at gdX10_when_l0 18 rfl
theorem dX10_when_37 : decode cX10_when 37 = .ok (.aload_n 0, 1) := dok_at gdX10_when_l0 19 rfl
theorem dX10_when_38 : decode cX10_when 38 = .ok (.getfield 56, 3) := dok_at gdX10_when_l0 20 rfl
theorem dX10_when_41 : decode cX10_when 41 = .ok (.invokevirtual 211, 3) := dok_at gdX10_when_l0 21 rfl
theorem dX10_when_44 : decode cX10_when 44 = .ok (.aload_n 0, 1) := dok_at gdX10_when_l0 22 rfl
theorem dX10_when_45 : decode cX10_when 45 = .ok (.getfield 26, 3) := dok_at gdX10_when_l0 23 rfl
def dX10_when_l48 : List (Nat × Instr × Nat) := [(48, .aload_n 0, 1), (49, .getfield 56, 3), (52, .iload_n 2, 1), (53, .iconst 1, 1), (54, .if_icmp .ne 7, 3), (57, .iconst 0, 1), (58, .goto 4, 3), (61, .iconst 1, 1), (62, .invokevirtual 214, 3), (65, .aload_n 0, 1), (66, .getfield 26, 3), (69, .aload_n 0, 1), (70, .getfield 56, 3), (73, .aload_n 0, 1), (74, .invokevirtual 218, 3), (77, .invokevirtual 221, 3), (80, .aload_n 0, 1), (81, .getfield 26, 3), (84, .iload_n 1, 1), (85, .invokevirtual 224, 3), (88, .ifCond .eq 15, 3), (91, .aload_n 0, 1), (92, .getfield 26, 3), (95, .getfield 227, 3)]
theorem gdX10_when_l48 : dok cX10_when dX10_when_l48 = true := by decide +kernel
theorem dX10_when_48 : decode cX10_when 48 = .ok (.aload_n 0, 1) := dok_at gdX10_when_l48 0 rfl
theorem dX10_when_49 : decode cX10_when 49 = .ok (.getfield 56, 3) := dok_at gdX10_when_l48 1 rfl
theorem dX10_when_52 : decode cX10_when 52 = .ok (.iload_n 2, 1) := dok_at gdX10_when_l48 2 rfl
theorem dX10_when_53 : decode cX10_when 53 = .ok (.iconst 1, 1) := dok_at gdX10_when_l48 3 rfl
theorem dX10_when_54 : decode cX10_when 54 = .ok (.if_icmp .ne 7, 3) := dok_at gdX10_when_l48 4 rfl
theorem dX10_when_57 : decode cX10_when 57 = .ok (.iconst 0, 1) := dok_at gdX10_when_l48 5 rfl
theorem dX10_when_58 : decode cX10_when 58 = .ok (.goto 4, 3) := dok_at gdX10_when_l48 6 rfl
theorem dX10_when_61 : decode cX10_when 61 = .ok (.iconst 1, 1) := dok_at gdX10_when_l48 7 rfl
theorem dX10_when_62 : decode cX10_when 62 = .ok (.invokevirtual 214, 3) := dok_at gdX10_when_l48 8 rfl
theorem dX10_when_65 : decode cX10_when 65 = .ok (.aload_n 0, 1) := dok_at gdX10_when_l48 9 rfl
theorem dX10_when_66 : decode cX10_when 66 = .ok (.getfield 26, 3) := dok_at gdX10_when_l48 10 rfl
theorem dX10_when_69 : decode cX10_when 69 = .ok (.aload_n 0, 1) := dok_at gdX10_when_l48 11 rfl
theorem dX10_when_70 : decode cX10_when 70 = .ok (.getfield 56, 3) := dok_at gdX10_when_l48 12 rfl
theorem dX10_when_73 : decode cX10_when 73 = .ok (.aload_n 0, 1) := dok_at gdX10_when_l48 13 rfl
theorem dX10_when_74 : decode cX10_when 74 = .ok (.invokevirtual 218, 3) := dok_at gdX10_when_l48 14 rfl
theorem dX10_when_77 : decode cX10_when 77 = .ok (.invokevirtual 221, 3) := dok_at gdX10_when_l48 15 rfl
theorem dX10_when_80 : decode cX10_when 80 = .ok (.aload_n 0, 1) := dok_at gdX10_when_l48 16 rfl
theorem dX10_when_81 : decode cX10_when 81 = .ok (.getfield 26, 3) := dok_at gdX10_when_l48 17 rfl
theorem dX10_when_84 : decode cX10_when 84 = .ok (.iload_n 1, 1) := dok_at gdX10_when_l48 18 rfl
theorem dX10_when_85 : decode cX10_when 85 = .ok (.invokevirtual 224, 3) := dok_at gdX10_when_l48 19 rfl
theorem dX10_when_88 : decode cX10_when 88 = .ok (.ifCond .eq 15, 3) := dok_at gdX10_when_l48 20 rfl
theorem dX10_when_91 : decode cX10_when 91 = .ok (.aload_n 0, 1) := dok_at gdX10_when_l48 21 rfl
theorem dX10_when_92 : decode cX10_when 92 = .ok (.getfield 26, 3) := dok_at gdX10_when_l48 22 rfl
theorem dX10_when_95 : decode cX10_when 95 = .ok (.getfield 227, 3) := dok_at gdX10_when_l48 23 rfl
def dX10_when_l98 : List (Nat × Instr × Nat) := [(98, .iload_n 1, 1), (99, .iaload, 1), (100, .goto 5, 3), (103, .bipush (-4), 2), (105, .ireturn, 1)]
theorem gdX10_when_l98 : dok cX10_when dX10_when_l98 = true := by decide +kernel
theorem dX10_when_98 : decode cX10_when 98 = .ok (.iload_n 1, 1) := dok_at gdX10_when_l98 0 rfl
theorem dX10_when_99 : decode cX10_when 99 = .ok (.iaload, 1) := dok_at gdX10_when_l98 1 rfl
theorem dX10_when_100 : decode cX10_when 100 = .ok (.goto 5, 3) := dok_at gdX10_when_l98 2 rfl
theorem dX10_when_103 : decode cX10_when 103 = .ok (.bipush (-4), 2) := dok_at gdX10_when_l98 3 rfl
theorem dX10_when_105 : decode cX10_when 105 = .ok (.ireturn, 1) := dok_at gdX10_when_l98 4 rfl
def dX10_ahead_l0 : List (Nat × Instr × Nat) := [(0, .aload_n 0, 1), (1, .getfield 56, 3), (4, .iload_n 1, 1), (5, .invokevirtual 100, 3), (8, .ifCond .eq 28, 3), (11, .aload_n 0, 1), (12, .getfield 56, 3), (15, .iload_n 2, 1), (16, .invokevirtual 100, 3), (19, .ifCond .eq 17, 3), (22, .iload_n 1, 1), (23, .iload_n 2, 1), (24, .if_icmp .eq 12, 3), (27, .iload_n 3, 1), (28, .ifCond .lt 8, 3), (31, .iload_n 3, 1), (32, .iconst 1, 1), (33, .if_icmp .le 7, 3), (36, .sipush (-1000), 3), (39, .ireturn, 1), (40, .aload_n 0, 1), (41, .getfield 56, 3), (44, .invokevirtual 230, 3), (47, .sipush 20000, 3)]
theorem gdX10_ahead_l0 : dok cX10_ahead dX10_ahead_l0 = true := by decide +kernel
theorem dX10_ahead_0 : decode cX10_ahead 0 = .ok (.aload_n 0, 1) := dok_at gdX10_ahead_l0 0 rfl
theorem dX10_ahead_1 : decode cX10_ahead 1 = .ok (.getfield 56, 3) := dok_at gdX10_ahead_l0 1 rfl
theorem dX10_ahead_4 : decode cX10_ahead 4 = .ok (.iload_n 1, 1) := dok_at gdX10_ahead_l0 2 rfl
theorem dX10_ahead_5 : decode cX10_ahead 5 = .ok (.invokevirtual 100, 3) := dok_at gdX10_ahead_l0 3 rfl
theorem dX10_ahead_8 : decode cX10_ahead 8 = .ok (.ifCond .eq 28, 3) := dok_at gdX10_ahead_l0 4 rfl
theorem dX10_ahead_11 : decode cX10_ahead 11 = .ok (.aload_n 0, 1) := dok_at gdX10_ahead_l0 5 rfl
theorem dX10_ahead_12 : decode cX10_ahead 12 = .ok (.getfield 56, 3) := dok_at gdX10_ahead_l0 6 rfl
theorem dX10_ahead_15 : decode cX10_ahead 15 = .ok (.iload_n 2, 1) := dok_at gdX10_ahead_l0 7 rfl
theorem dX10_ahead_16 : decode cX10_ahead 16 = .ok (.invokevirtual 100, 3) := dok_at gdX10_ahead_l0 8 rfl
theorem dX10_ahead_19 : decode cX10_ahead 19 = .ok (.ifCond .eq 17, 3) := dok_at gdX10_ahead_l0 9 rfl
theorem dX10_ahead_22 : decode cX10_ahead 22 = .ok (.iload_n 1, 1) := dok_at gdX10_ahead_l0 10 rfl
theorem dX10_ahead_23 : decode cX10_ahead 23 = .ok (.iload_n 2, 1) := dok_at gdX10_ahead_l0 11 rfl
theorem dX10_ahead_24 : decode cX10_ahead 24 = .ok (.if_icmp .eq 12, 3) := dok_at gdX10_ahead_l0 12 rfl
theorem dX10_ahead_27 : decode cX10_ahead 27 = .ok (.iload_n 3, 1) := dok_at gdX10_ahead_l0 13 rfl
theorem dX10_ahead_28 : decode cX10_ahead 28 = .ok (.ifCond .lt 8, 3) := dok_at gdX10_ahead_l0 14 rfl
theorem dX10_ahead_31 : decode cX10_ahead 31 = .ok (.iload_n 3, 1) := dok_at gdX10_ahead_l0 15 rfl
theorem dX10_ahead_32 : decode cX10_ahead 32 = .ok (.iconst 1, 1) := dok_at gdX10_ahead_l0 16 rfl
theorem dX10_ahead_33 : decode cX10_ahead 33 = .ok (.if_icmp .le 7, 3) := dok_at gdX10_ahead_l0 17 rfl
theorem dX10_ahead_36 : decode cX10_ahead 36 = .ok (.sipush (-1000), 3) := dok_at gdX10_ahead_l0 18 rfl
theorem dX10_ahead_39 : decode cX10_ahead 39 = .ok (.ireturn, 1) := dok_at gdX10_ahead_l0 19 rfl
theorem dX10_ahead_40 : decode cX10_ahead 40 = .ok (.aload_n 0, 1) := dok_at gdX10_ahead_l0 20 rfl
theorem dX10_ahead_41 : decode cX10_ahead 41 = .ok (.getfield 56, 3) := dok_at gdX10_ahead_l0 21 rfl
theorem dX10_ahead_44 : decode cX10_ahead 44 = .ok (.invokevirtual 230, 3) := dok_at gdX10_ahead_l0 22 rfl
theorem dX10_ahead_47 : decode cX10_ahead 47 = .ok (.sipush 20000, 3) := dok_at gdX10_ahead_l0 23 rfl
def dX10_ahead_l50 : List (Nat × Instr × Nat) := [(50, .if_icmp .le 7, 3), (53, .sipush (-1002), 3), (56, .ireturn, 1), (57, .iconst 1, 1), (58, .iload_n 1, 1), (59, .ishl, 1), (60, .iconst 1, 1), (61, .iload_n 2, 1), (62, .ishl, 1), (63, .ior, 1), (64, .istore 4, 2), (66, .aload_n 0, 1), (67, .getfield 56, 3), (70, .aload_n 0, 1), (71, .invokevirtual 218, 3), (74, .invokevirtual 205, 3), (77, .iload 4, 2), (79, .iand, 1), (80, .iload 4, 2), (82, .if_icmp .eq 7, 3), (85, .sipush (-1004), 3), (88, .ireturn, 1), (89, .aload_n 0, 1), (90, .getfield 35, 3)]
theorem gdX10_ahead_l50 : dok cX10_ahead dX10_ahead_l50 = true := by decide +kernel
theorem dX10_ahead_50 : decode cX10_ahead 50 = .ok (.if_icmp .le 7, 3) := dok_at gdX10_ahead_l50 0 rfl
theorem dX10_ahead_53 : decode cX10_ahead 53 = .ok (.sipush (-1002), 3) := dok_at gdX10_ahead_l50 1 rfl
theorem dX10_ahead_56 : decode cX10_ahead 56 = .ok (.ireturn, 1) := dok_at gdX10_ahead_l50 2 rfl
theorem dX10_ahead_57 : decode cX10_ahead 57 = .ok (.iconst 1, 1) := dok_at gdX10_ahead_l50 3 rfl
theorem dX10_ahead_58 : decode cX10_ahead 58 = .ok (.iload_n 1, 1) := dok_at gdX10_ahead_l50 4 rfl
theorem dX10_ahead_59 : decode cX10_ahead 59 = .ok (.ishl, 1) := dok_at gdX10_ahead_l50 5 rfl
theorem dX10_ahead_60 : decode cX10_ahead 60 = .ok (.iconst 1, 1) := dok_at gdX10_ahead_l50 6 rfl
theorem dX10_ahead_61 : decode cX10_ahead 61 = .ok (.iload_n 2, 1) := dok_at gdX10_ahead_l50 7 rfl
theorem dX10_ahead_62 : decode cX10_ahead 62 = .ok (.ishl, 1) := dok_at gdX10_ahead_l50 8 rfl
theorem dX10_ahead_63 : decode cX10_ahead 63 = .ok (.ior, 1) := dok_at gdX10_ahead_l50 9 rfl
theorem dX10_ahead_64 : decode cX10_ahead 64 = .ok (.istore 4, 2) := dok_at gdX10_ahead_l50 10 rfl
theorem dX10_ahead_66 : decode cX10_ahead 66 = .ok (.aload_n 0, 1) := dok_at gdX10_ahead_l50 11 rfl
theorem dX10_ahead_67 : decode cX10_ahead 67 = .ok (.getfield 56, 3) := dok_at gdX10_ahead_l50 12 rfl
theorem dX10_ahead_70 : decode cX10_ahead 70 = .ok (.aload_n 0, 1) := dok_at gdX10_ahead_l50 13 rfl
theorem dX10_ahead_71 : decode cX10_ahead 71 = .ok (.invokevirtual 218, 3) := dok_at gdX10_ahead_l50 14 rfl
theorem dX10_ahead_74 : decode cX10_ahead 74 = .ok (.invokevirtual 205, 3) := dok_at gdX10_ahead_l50 15 rfl
theorem dX10_ahead_77 : decode cX10_ahead 77 = .ok (.iload 4, 2) := dok_at gdX10_ahead_l50 16 rfl
theorem dX10_ahead_79 : decode cX10_ahead 79 = .ok (.iand, 1) := dok_at gdX10_ahead_l50 17 rfl
theorem dX10_ahead_80 : decode cX10_ahead 80 = .ok (.iload 4, 2) := dok_at gdX10_ahead_l50 18 rfl
theorem dX10_ahead_82 : decode cX10_ahead 82 = .ok (.if_icmp .eq 7, 3) := dok_at gdX10_ahead_l50 19 rfl
theorem dX10_ahead_85 : decode cX10_ahead 85 = .ok (.sipush (-1004), 3) := dok_at gdX10_ahead_l50 20 rfl
theorem dX10_ahead_88 : decode cX10_ahead 88 = .ok (.ireturn, 1) := dok_at gdX10_ahead_l50 21 rfl
theorem dX10_ahead_89 : decode cX10_ahead 89 = .ok (.aload_n 0, 1) := dok_at gdX10_ahead_l50 22 rfl
theorem dX10_ahead_90 : decode cX10_ahead 90 = .ok (.getfield 35, 3) := dok_at gdX10_ahead_l50 23 rfl
def dX10_ahead_l93 : List (Nat × Instr × Nat) := [(93, .aload_n 0, 1), (94, .getfield 56, 3), (97, .aload_n 0, 1), (98, .invokevirtual 218, 3), (101, .iload_n 1, 1), (102, .iload_n 2, 1), (103, .invokevirtual 233, 3), (106, .istore 5, 2), (108, .iload_n 3, 1), (109, .iconst 1, 1), (110, .if_icmp .ne 6, 3), (113, .iload 5, 2), (115, .ireturn, 1), (116, .iload 5, 2), (118, .ifCond .ge 7, 3), (121, .iconst 2, 1), (122, .goto 13, 3), (125, .iload 5, 2), (127, .ifCond .ne 7, 3), (130, .iconst 1, 1), (131, .goto 4, 3), (134, .iconst 0, 1), (135, .ireturn, 1)]
theorem gdX10_ahead_l93 : dok cX10_ahead dX10_ahead_l93 = true := by decide +kernel
theorem dX10_ahead_93 : decode cX10_ahead 93 = .ok (.aload_n 0, 1) := dok_at gdX10_ahead_l93 0 rfl
theorem dX10_ahead_94 : decode cX10_ahead 94 = .ok (.getfield 56, 3) := dok_at gdX10_ahead_l93 1 rfl
theorem dX10_ahead_97 : decode cX10_ahead 97 = .ok (.aload_n 0, 1) := dok_at gdX10_ahead_l93 2 rfl
theorem dX10_ahead_98 : decode cX10_ahead 98 = .ok (.invokevirtual 218, 3) := dok_at gdX10_ahead_l93 3 rfl
theorem dX10_ahead_101 : decode cX10_ahead 101 = .ok (.iload_n 1, 1) := dok_at gdX10_ahead_l93 4 rfl
theorem dX10_ahead_102 : decode cX10_ahead 102 = .ok (.iload_n 2, 1) := dok_at gdX10_ahead_l93 5 rfl
theorem dX10_ahead_103 : decode cX10_ahead 103 = .ok (.invokevirtual 233, 3) := dok_at gdX10_ahead_l93 6 rfl
theorem dX10_ahead_106 : decode cX10_ahead 106 = .ok (.istore 5, 2) := dok_at gdX10_ahead_l93 7 rfl
theorem dX10_ahead_108 : decode cX10_ahead 108 = .ok (.iload_n 3, 1) := dok_at gdX10_ahead_l93 8 rfl
theorem dX10_ahead_109 : decode cX10_ahead 109 = .ok (.iconst 1, 1) := dok_at gdX10_ahead_l93 9 rfl
theorem dX10_ahead_110 : decode cX10_ahead 110 = .ok (.if_icmp .ne 6, 3) := dok_at gdX10_ahead_l93 10 rfl
theorem dX10_ahead_113 : decode cX10_ahead 113 = .ok (.iload 5, 2) := dok_at gdX10_ahead_l93 11 rfl
theorem dX10_ahead_115 : decode cX10_ahead 115 = .ok (.ireturn, 1) := dok_at gdX10_ahead_l93 12 rfl
theorem dX10_ahead_116 : decode cX10_ahead 116 = .ok (.iload 5, 2) := dok_at gdX10_ahead_l93 13 rfl
theorem dX10_ahead_118 : decode cX10_ahead 118 = .ok (.ifCond .ge 7, 3) := dok_at gdX10_ahead_l93 14 rfl
theorem dX10_ahead_121 : decode cX10_ahead 121 = .ok (.iconst 2, 1) := dok_at gdX10_ahead_l93 15 rfl
theorem dX10_ahead_122 : decode cX10_ahead 122 = .ok (.goto 13, 3) := dok_at gdX10_ahead_l93 16 rfl
theorem dX10_ahead_125 : decode cX10_ahead 125 = .ok (.iload 5, 2) := dok_at gdX10_ahead_l93 17 rfl
theorem dX10_ahead_127 : decode cX10_ahead 127 = .ok (.ifCond .ne 7, 3) := dok_at gdX10_ahead_l93 18 rfl
theorem dX10_ahead_130 : decode cX10_ahead 130 = .ok (.iconst 1, 1) := dok_at gdX10_ahead_l93 19 rfl
theorem dX10_ahead_131 : decode cX10_ahead 131 = .ok (.goto 4, 3) := dok_at gdX10_ahead_l93 20 rfl
theorem dX10_ahead_134 : decode cX10_ahead 134 = .ok (.iconst 0, 1) := dok_at gdX10_ahead_l93 21 rfl
theorem dX10_ahead_135 : decode cX10_ahead 135 = .ok (.ireturn, 1) := dok_at gdX10_ahead_l93 22 rfl
def dX10_drawn_l0 : List (Nat × Instr × Nat) := [(0, .iload_n 1, 1), (1, .ifCond .lt 10, 3), (4, .iload_n 1, 1), (5, .sipush 999, 3), (8, .if_icmp .le 5, 3), (11, .iconst (-1), 1), (12, .ireturn, 1), (13, .aload_n 0, 1), (14, .invokevirtual 208, 3), (17, .aload_n 0, 1), (18, .getfield 26, 3), (21, .aload_n 0, 1), (22, .getfield 56, 3), (25, .iload_n 1, 1), (26, .invokevirtual 237, 3), (29, .ireturn, 1)]
theorem gdX10_drawn_l0 : dok cX10_drawn dX10_drawn_l0 = true := by decide +kernel
theorem dX10_drawn_0 : decode cX10_drawn 0 = .ok (.iload_n 1, 1) := dok_at gdX10_drawn_l0 0 rfl
theorem dX10_drawn_1 : decode cX10_drawn 1 = .ok (.ifCond .lt 10, 3) := dok_at gdX10_drawn_l0 1 rfl
theorem dX10_drawn_4 : decode cX10_drawn 4 = .ok (.iload_n 1, 1) := dok_at gdX10_drawn_l0 2 rfl
theorem dX10_drawn_5 : decode cX10_drawn 5 = .ok (.sipush 999, 3) := dok_at gdX10_drawn_l0 3 rfl
theorem dX10_drawn_8 : decode cX10_drawn 8 = .ok (.if_icmp .le 5, 3) := dok_at gdX10_drawn_l0 4 rfl
theorem dX10_drawn_11 : decode cX10_drawn 11 = .ok (.iconst (-1), 1) := dok_at gdX10_drawn_l0 5 rfl
theorem dX10_drawn_12 : decode cX10_drawn 12 = .ok (.ireturn, 1) := dok_at gdX10_drawn_l0 6 rfl
theorem dX10_drawn_13 : decode cX10_drawn 13 = .ok (.aload_n 0, 1) := dok_at gdX10_drawn_l0 7 rfl
theorem dX10_drawn_14 : decode cX10_drawn 14 = .ok (.invokevirtual 208, 3) := dok_at gdX10_drawn_l0 8 rfl
theorem dX10_drawn_17 : decode cX10_drawn 17 = .ok (.aload_n 0, 1) := dok_at gdX10_drawn_l0 9 rfl
theorem dX10_drawn_18 : decode cX10_drawn 18 = .ok (.getfield 26, 3) := dok_at gdX10_drawn_l0 10 rfl
theorem dX10_drawn_21 : decode cX10_drawn 21 = .ok (.aload_n 0, 1) := dok_at gdX10_drawn_l0 11 rfl
theorem dX10_drawn_22 : decode cX10_drawn 22 = .ok (.getfield 56, 3) := dok_at gdX10_drawn_l0 12 rfl
theorem dX10_drawn_25 : decode cX10_drawn 25 = .ok (.iload_n 1, 1) := dok_at gdX10_drawn_l0 13 rfl
theorem dX10_drawn_26 : decode cX10_drawn 26 = .ok (.invokevirtual 237, 3) := dok_at gdX10_drawn_l0 14 rfl
theorem dX10_drawn_29 : decode cX10_drawn 29 = .ok (.ireturn, 1) := dok_at gdX10_drawn_l0 15 rfl
def dX10_peak_l0 : List (Nat × Instr × Nat) := [(0, .iload_n 1, 1), (1, .ifCond .lt 8, 3), (4, .iload_n 1, 1), (5, .iconst 3, 1), (6, .if_icmp .le 5, 3), (9, .iconst (-1), 1), (10, .ireturn, 1), (11, .iload_n 1, 1), (12, .iconst 2, 1), (13, .if_icmp .lt 19, 3), (16, .aload_n 0, 1), (17, .getfield 56, 3), (20, .invokevirtual 230, 3), (23, .sipush 20000, 3), (26, .if_icmp .le 6, 3), (29, .bipush (-2), 2), (31, .ireturn, 1), (32, .aload_n 0, 1), (33, .getfield 56, 3), (36, .aload_n 0, 1), (37, .invokevirtual 218, 3), (40, .invokevirtual 205, 3), (43, .ifCond .ne 6, 3), (46, .bipush (-4), 2)]
theorem gdX10_peak_l0 : dok cX10_peak dX10_peak_l0 = true := by decide +kernel
theorem dX10_peak_0 : decode cX10_peak 0 = .ok (.iload_n 1, 1) := dok_at gdX10_peak_l0 0 rfl
theorem dX10_peak_1 : decode cX10_peak 1 = .ok (.ifCond .lt 8, 3) := dok_at gdX10_peak_l0 1 rfl
theorem dX10_peak_4 : decode cX10_peak 4 = .ok (.iload_n 1, 1) := dok_at gdX10_peak_l0 2 rfl
theorem dX10_peak_5 : decode cX10_peak 5 = .ok (.iconst 3, 1) := dok_at gdX10_peak_l0 3 rfl
theorem dX10_peak_6 : decode cX10_peak 6 = .ok (.if_icmp .le 5, 3) := dok_at gdX10_peak_l0 4 rfl
theorem dX10_peak_9 : decode cX10_peak 9 = .ok (.iconst (-1), 1) := dok_at gdX10_peak_l0 5 rfl
theorem dX10_peak_10 : decode cX10_peak 10 = .ok (.ireturn, 1) := dok_at gdX10_peak_l0 6 rfl
theorem dX10_peak_11 : decode cX10_peak 11 = .ok (.iload_n 1, 1) := dok_at gdX10_peak_l0 7 rfl
theorem dX10_peak_12 : decode cX10_peak 12 = .ok (.iconst 2, 1) := dok_at gdX10_peak_l0 8 rfl
theorem dX10_peak_13 : decode cX10_peak 13 = .ok (.if_icmp .lt 19, 3) := dok_at gdX10_peak_l0 9 rfl
theorem dX10_peak_16 : decode cX10_peak 16 = .ok (.aload_n 0, 1) := dok_at gdX10_peak_l0 10 rfl
theorem dX10_peak_17 : decode cX10_peak 17 = .ok (.getfield 56, 3) := dok_at gdX10_peak_l0 11 rfl
theorem dX10_peak_20 : decode cX10_peak 20 = .ok (.invokevirtual 230, 3) := dok_at gdX10_peak_l0 12 rfl
theorem dX10_peak_23 : decode cX10_peak 23 = .ok (.sipush 20000, 3) := dok_at gdX10_peak_l0 13 rfl
theorem dX10_peak_26 : decode cX10_peak 26 = .ok (.if_icmp .le 6, 3) := dok_at gdX10_peak_l0 14 rfl
theorem dX10_peak_29 : decode cX10_peak 29 = .ok (.bipush (-2), 2) := dok_at gdX10_peak_l0 15 rfl
theorem dX10_peak_31 : decode cX10_peak 31 = .ok (.ireturn, 1) := dok_at gdX10_peak_l0 16 rfl
theorem dX10_peak_32 : decode cX10_peak 32 = .ok (.aload_n 0, 1) := dok_at gdX10_peak_l0 17 rfl
theorem dX10_peak_33 : decode cX10_peak 33 = .ok (.getfield 56, 3) := dok_at gdX10_peak_l0 18 rfl
theorem dX10_peak_36 : decode cX10_peak 36 = .ok (.aload_n 0, 1) := dok_at gdX10_peak_l0 19 rfl
theorem dX10_peak_37 : decode cX10_peak 37 = .ok (.invokevirtual 218, 3) := dok_at gdX10_peak_l0 20 rfl
theorem dX10_peak_40 : decode cX10_peak 40 = .ok (.invokevirtual 205, 3) := dok_at gdX10_peak_l0 21 rfl
theorem dX10_peak_43 : decode cX10_peak 43 = .ok (.ifCond .ne 6, 3) := dok_at gdX10_peak_l0 22 rfl
theorem dX10_peak_46 : decode cX10_peak 46 = .ok (.bipush (-4), 2) := dok_at gdX10_peak_l0 23 rfl
def dX10_peak_l48 : List (Nat × Instr × Nat) := [(48, .ireturn, 1), (49, .iload_n 1, 1), (50, .iconst 2, 1), (51, .if_icmp .lt 41, 3), (54, .aload_n 0, 1), (55, .getfield 35, 3), (58, .aload_n 0, 1), (59, .getfield 56, 3), (62, .aload_n 0, 1), (63, .invokevirtual 218, 3), (66, .invokevirtual 241, 3), (69, .iload_n 1, 1), (70, .iconst 2, 1), (71, .if_icmp .ne 13, 3), (74, .aload_n 0, 1), (75, .getfield 35, 3), (78, .getfield 244, 3), (81, .goto 10, 3), (84, .aload_n 0, 1), (85, .getfield 35, 3), (88, .getfield 247, 3), (91, .ireturn, 1), (92, .aload_n 0, 1), (93, .invokevirtual 208, 3)]
theorem gdX10_peak_l48 : dok cX10_peak dX10_peak_l48 = true := by decide +kernel
theorem dX10_peak_48 : decode cX10_peak 48 = .ok (.ireturn, 1) := dok_at gdX10_peak_l48 0 rfl
theorem dX10_peak_49 : decode cX10_peak 49 = .ok (.iload_n 1, 1) := dok_at gdX10_peak_l48 1 rfl
theorem dX10_peak_50 : decode cX10_peak 50 = .ok (.iconst 2, 1) := dok_at gdX10_peak_l48 2 rfl
theorem dX10_peak_51 : decode cX10_peak 51 = .ok (.if_icmp .lt 41, 3) := dok_at gdX10_peak_l48 3 rfl
theorem dX10_peak_54 : decode cX10_peak 54 = .ok (.aload_n 0, 1) := dok_at gdX10_peak_l48 4 rfl
theorem dX10_peak_55 : decode cX10_peak 55 = .ok (.getfield 35, 3) := dok_at gdX10_peak_l48 5 rfl
theorem dX10_peak_58 : decode cX10_peak 58 = .ok (.aload_n 0, 1) := dok_at gdX10_peak_l48 6 rfl
theorem dX10_peak_59 : decode cX10_peak 59 = .ok (.getfield 56, 3) := dok_at gdX10_peak_l48 7 rfl
theorem dX10_peak_62 : decode cX10_peak 62 = .ok (.aload_n 0, 1) := dok_at gdX10_peak_l48 8 rfl
theorem dX10_peak_63 : decode cX10_peak 63 = .ok (.invokevirtual 218, 3) := dok_at gdX10_peak_l48 9 rfl
theorem dX10_peak_66 : decode cX10_peak 66 = .ok (.invokevirtual 241, 3) := dok_at gdX10_peak_l48 10 rfl
theorem dX10_peak_69 : decode cX10_peak 69 = .ok (.iload_n 1, 1) := dok_at gdX10_peak_l48 11 rfl
theorem dX10_peak_70 : decode cX10_peak 70 = .ok (.iconst 2, 1) := dok_at gdX10_peak_l48 12 rfl
theorem dX10_peak_71 : decode cX10_peak 71 = .ok (.if_icmp .ne 13, 3) := dok_at gdX10_peak_l48 13 rfl
theorem dX10_peak_74 : decode cX10_peak 74 = .ok (.aload_n 0, 1) := dok_at gdX10_peak_l48 14 rfl
theorem dX10_peak_75 : decode cX10_peak 75 = .ok (.getfield 35, 3) := dok_at gdX10_peak_l48 15 rfl
theorem dX10_peak_78 : decode cX10_peak 78 = .ok (.getfield 244, 3) := dok_at gdX10_peak_l48 16 rfl
theorem dX10_peak_81 : decode cX10_peak 81 = .ok (.goto 10, 3) := dok_at gdX10_peak_l48 17 rfl
theorem dX10_peak_84 : decode cX10_peak 84 = .ok (.aload_n 0, 1) := dok_at gdX10_peak_l48 18 rfl
theorem dX10_peak_85 : decode cX10_peak 85 = .ok (.getfield 35, 3) := dok_at gdX10_peak_l48 19 rfl
theorem dX10_peak_88 : decode cX10_peak 88 = .ok (.getfield 247, 3) := dok_at gdX10_peak_l48 20 rfl
theorem dX10_peak_91 : decode cX10_peak 91 = .ok (.ireturn, 1) := dok_at gdX10_peak_l48 21 rfl
theorem dX10_peak_92 : decode cX10_peak 92 = .ok (.aload_n 0, 1) := dok_at gdX10_peak_l48 22 rfl
theorem dX10_peak_93 : decode cX10_peak 93 = .ok (.invokevirtual 208, 3) := dok_at gdX10_peak_l48 23 rfl
def dX10_peak_l96 : List (Nat × Instr × Nat) := [(96, .aload_n 0, 1), (97, .getfield 26, 3), (100, .aload_n 0, 1), (101, .getfield 56, 3), (104, .invokevirtual 250, 3), (107, .iload_n 1, 1), (108, .ifCond .ne 13, 3), (111, .aload_n 0, 1), (112, .getfield 26, 3), (115, .getfield 253, 3), (118, .goto 10, 3), (121, .aload_n 0, 1), (122, .getfield 26, 3), (125, .getfield 256, 3), (128, .ireturn, 1)]
theorem gdX10_peak_l96 : dok cX10_peak dX10_peak_l96 = true := by decide +kernel
theorem dX10_peak_96 : decode cX10_peak 96 = .ok (.aload_n 0, 1) := dok_at gdX10_peak_l96 0 rfl
theorem dX10_peak_97 : decode cX10_peak 97 = .ok (.getfield 26, 3) := dok_at gdX10_peak_l96 1 rfl
theorem dX10_peak_100 : decode cX10_peak 100 = .ok (.aload_n 0, 1) := dok_at gdX10_peak_l96 2 rfl
theorem dX10_peak_101 : decode cX10_peak 101 = .ok (.getfield 56, 3) := dok_at gdX10_peak_l96 3 rfl
theorem dX10_peak_104 : decode cX10_peak 104 = .ok (.invokevirtual 250, 3) := dok_at gdX10_peak_l96 4 rfl
theorem dX10_peak_107 : decode cX10_peak 107 = .ok (.iload_n 1, 1) := dok_at gdX10_peak_l96 5 rfl
theorem dX10_peak_108 : decode cX10_peak 108 = .ok (.ifCond .ne 13, 3) := dok_at gdX10_peak_l96 6 rfl
theorem dX10_peak_111 : decode cX10_peak 111 = .ok (.aload_n 0, 1) := dok_at gdX10_peak_l96 7 rfl
theorem dX10_peak_112 : decode cX10_peak 112 = .ok (.getfield 26, 3) := dok_at gdX10_peak_l96 8 rfl
theorem dX10_peak_115 : decode cX10_peak 115 = .ok (.getfield 253, 3) := dok_at gdX10_peak_l96 9 rfl
theorem dX10_peak_118 : decode cX10_peak 118 = .ok (.goto 10, 3) := dok_at gdX10_peak_l96 10 rfl
theorem dX10_peak_121 : decode cX10_peak 121 = .ok (.aload_n 0, 1) := dok_at gdX10_peak_l96 11 rfl
theorem dX10_peak_122 : decode cX10_peak 122 = .ok (.getfield 26, 3) := dok_at gdX10_peak_l96 12 rfl
theorem dX10_peak_125 : decode cX10_peak 125 = .ok (.getfield 256, 3) := dok_at gdX10_peak_l96 13 rfl
theorem dX10_peak_128 : decode cX10_peak 128 = .ok (.ireturn, 1) := dok_at gdX10_peak_l96 14 rfl
def dX10_stagger_l0 : List (Nat × Instr × Nat) := [(0, .iload_n 1, 1), (1, .ifCond .eq 25, 3), (4, .iload_n 1, 1), (5, .bipush 10, 2), (7, .if_icmp .lt 17, 3), (10, .iload_n 1, 1), (11, .bipush 10, 2), (13, .aload_n 0, 1), (14, .getfield 56, 3), (17, .getfield 117, 3), (20, .iadd, 1), (21, .if_icmp .lt 5, 3), (24, .iconst (-1), 1), (25, .ireturn, 1), (26, .aload_n 0, 1), (27, .getfield 56, 3), (30, .getfield 117, 3), (33, .bipush 6, 2), (35, .if_icmp .le 6, 3), (38, .bipush (-2), 2), (40, .ireturn, 1), (41, .aload_n 0, 1), (42, .getfield 42, 3), (45, .aload_n 0, 1)]
theorem gdX10_stagger_l0 : dok cX10_stagger dX10_stagger_l0 = true := by decide +kernel
theorem dX10_stagger_0 : decode cX10_stagger 0 = .ok (.iload_n 1, 1) := dok_at gdX10_stagger_l0 0 rfl
theorem dX10_stagger_1 : decode cX10_stagger 1 = .ok (.ifCond .eq 25, 3) := dok_at gdX10_stagger_l0 1 rfl
theorem dX10_stagger_4 : decode cX10_stagger 4 = .ok (.iload_n 1, 1) := dok_at gdX10_stagger_l0 2 rfl
theorem dX10_stagger_5 : decode cX10_stagger 5 = .ok (.bipush 10, 2) := dok_at gdX10_stagger_l0 3 rfl
theorem dX10_stagger_7 : decode cX10_stagger 7 = .ok (.if_icmp .lt 17, 3) := dok_at gdX10_stagger_l0 4 rfl
theorem dX10_stagger_10 : decode cX10_stagger 10 = .ok (.iload_n 1, 1) := dok_at gdX10_stagger_l0 5 rfl
theorem dX10_stagger_11 : decode cX10_stagger 11 = .ok (.bipush 10, 2) := dok_at gdX10_stagger_l0 6 rfl
theorem dX10_stagger_13 : decode cX10_stagger 13 = .ok (.aload_n 0, 1) := dok_at gdX10_stagger_l0 7 rfl
theorem dX10_stagger_14 : decode cX10_stagger 14 = .ok (.getfield 56, 3) := dok_at gdX10_stagger_l0 8 rfl
theorem dX10_stagger_17 : decode cX10_stagger 17 = .ok (.getfield 117, 3) := dok_at gdX10_stagger_l0 9 rfl
theorem dX10_stagger_20 : decode cX10_stagger 20 = .ok (.iadd, 1) := dok_at gdX10_stagger_l0 10 rfl
theorem dX10_stagger_21 : decode cX10_stagger 21 = .ok (.if_icmp .lt 5, 3) := dok_at gdX10_stagger_l0 11 rfl
theorem dX10_stagger_24 : decode cX10_stagger 24 = .ok (.iconst (-1), 1) := dok_at gdX10_stagger_l0 12 rfl
theorem dX10_stagger_25 : decode cX10_stagger 25 = .ok (.ireturn, 1) := dok_at gdX10_stagger_l0 13 rfl
theorem dX10_stagger_26 : decode cX10_stagger 26 = .ok (.aload_n 0, 1) := dok_at gdX10_stagger_l0 14 rfl
theorem dX10_stagger_27 : decode cX10_stagger 27 = .ok (.getfield 56, 3) := dok_at gdX10_stagger_l0 15 rfl
theorem dX10_stagger_30 : decode cX10_stagger 30 = .ok (.getfield 117, 3) := dok_at gdX10_stagger_l0 16 rfl
theorem dX10_stagger_33 : decode cX10_stagger 33 = .ok (.bipush 6, 2) := dok_at gdX10_stagger_l0 17 rfl
theorem dX10_stagger_35 : decode cX10_stagger 35 = .ok (.if_icmp .le 6, 3) := dok_at gdX10_stagger_l0 18 rfl
theorem dX10_stagger_38 : decode cX10_stagger 38 = .ok (.bipush (-2), 2) := dok_at gdX10_stagger_l0 19 rfl
theorem dX10_stagger_40 : decode cX10_stagger 40 = .ok (.ireturn, 1) := dok_at gdX10_stagger_l0 20 rfl
theorem dX10_stagger_41 : decode cX10_stagger 41 = .ok (.aload_n 0, 1) := dok_at gdX10_stagger_l0 21 rfl
theorem dX10_stagger_42 : decode cX10_stagger 42 = .ok (.getfield 42, 3) := dok_at gdX10_stagger_l0 22 rfl
theorem dX10_stagger_45 : decode cX10_stagger 45 = .ok (.aload_n 0, 1) := dok_at gdX10_stagger_l0 23 rfl
def dX10_stagger_l46 : List (Nat × Instr × Nat) := [(46, .getfield 56, 3), (49, .aload_n 0, 1), (50, .invokevirtual 218, 3), (53, .aload_n 0, 1), (54, .getfield 19, 3), (57, .getfield 150, 3), (60, .invokevirtual 259, 3), (63, .iload_n 1, 1), (64, .ifCond .eq 15, 3), (67, .aload_n 0, 1), (68, .getfield 42, 3), (71, .getfield 263, 3), (74, .bipush (-4), 2), (76, .if_icmp .ne 11, 3), (79, .aload_n 0, 1), (80, .getfield 42, 3), (83, .getfield 263, 3), (86, .ireturn, 1), (87, .aload_n 0, 1), (88, .getfield 42, 3), (91, .getfield 266, 3), (94, .iload_n 1, 1), (95, .bipush 10, 2), (97, .isub, 1)]
theorem gdX10_stagger_l46 : dok cX10_stagger dX10_stagger_l46 = true := by decide +kernel
theorem dX10_stagger_46 : decode cX10_stagger 46 = .ok (.getfield 56, 3) := dok_at gdX10_stagger_l46 0 rfl
theorem dX10_stagger_49 : decode cX10_stagger 49 = .ok (.aload_n 0, 1) := dok_at gdX10_stagger_l46 1 rfl
theorem dX10_stagger_50 : decode cX10_stagger 50 = .ok (.invokevirtual 218, 3) := dok_at gdX10_stagger_l46 2 rfl
theorem dX10_stagger_53 : decode cX10_stagger 53 = .ok (.aload_n 0, 1) := dok_at gdX10_stagger_l46 3 rfl
theorem dX10_stagger_54 : decode cX10_stagger 54 = .ok (.getfield 19, 3) := dok_at gdX10_stagger_l46 4 rfl
theorem dX10_stagger_57 : decode cX10_stagger 57 = .ok (.getfield 150, 3) := dok_at gdX10_stagger_l46 5 rfl
theorem dX10_stagger_60 : decode cX10_stagger 60 = .ok (.invokevirtual 259, 3) := dok_at gdX10_stagger_l46 6 rfl
theorem dX10_stagger_63 : decode cX10_stagger 63 = .ok (.iload_n 1, 1) := dok_at gdX10_stagger_l46 7 rfl
theorem dX10_stagger_64 : decode cX10_stagger 64 = .ok (.ifCond .eq 15, 3) := dok_at gdX10_stagger_l46 8 rfl
theorem dX10_stagger_67 : decode cX10_stagger 67 = .ok (.aload_n 0, 1) := dok_at gdX10_stagger_l46 9 rfl
theorem dX10_stagger_68 : decode cX10_stagger 68 = .ok (.getfield 42, 3) := dok_at gdX10_stagger_l46 10 rfl
theorem dX10_stagger_71 : decode cX10_stagger 71 = .ok (.getfield 263, 3) := dok_at gdX10_stagger_l46 11 rfl
theorem dX10_stagger_74 : decode cX10_stagger 74 = .ok (.bipush (-4), 2) := dok_at gdX10_stagger_l46 12 rfl
theorem dX10_stagger_76 : decode cX10_stagger 76 = .ok (.if_icmp .ne 11, 3) := dok_at gdX10_stagger_l46 13 rfl
theorem dX10_stagger_79 : decode cX10_stagger 79 = .ok (.aload_n 0, 1) := dok_at gdX10_stagger_l46 14 rfl
theorem dX10_stagger_80 : decode cX10_stagger 80 = .ok (.getfield 42, 3) := dok_at gdX10_stagger_l46 15 rfl
theorem dX10_stagger_83 : decode cX10_stagger 83 = .ok (.getfield 263, 3) := dok_at gdX10_stagger_l46 16 rfl
theorem dX10_stagger_86 : decode cX10_stagger 86 = .ok (.ireturn, 1) := dok_at gdX10_stagger_l46 17 rfl
theorem dX10_stagger_87 : decode cX10_stagger 87 = .ok (.aload_n 0, 1) := dok_at gdX10_stagger_l46 18 rfl
theorem dX10_stagger_88 : decode cX10_stagger 88 = .ok (.getfield 42, 3) := dok_at gdX10_stagger_l46 19 rfl
theorem dX10_stagger_91 : decode cX10_stagger 91 = .ok (.getfield 266, 3) := dok_at gdX10_stagger_l46 20 rfl
theorem dX10_stagger_94 : decode cX10_stagger 94 = .ok (.iload_n 1, 1) := dok_at gdX10_stagger_l46 21 rfl
theorem dX10_stagger_95 : decode cX10_stagger 95 = .ok (.bipush 10, 2) := dok_at gdX10_stagger_l46 22 rfl
theorem dX10_stagger_97 : decode cX10_stagger 97 = .ok (.isub, 1) := dok_at gdX10_stagger_l46 23 rfl
def dX10_stagger_l98 : List (Nat × Instr × Nat) := [(98, .iaload, 1), (99, .ireturn, 1)]
theorem gdX10_stagger_l98 : dok cX10_stagger dX10_stagger_l98 = true := by decide +kernel
theorem dX10_stagger_98 : decode cX10_stagger 98 = .ok (.iaload, 1) := dok_at gdX10_stagger_l98 0 rfl
theorem dX10_stagger_99 : decode cX10_stagger 99 = .ok (.ireturn, 1) := dok_at gdX10_stagger_l98 1 rfl
def dX10_adopt_l0 : List (Nat × Instr × Nat) := [(0, .aload_n 0, 1), (1, .getfield 56, 3), (4, .getfield 117, 3), (7, .bipush 6, 2), (9, .if_icmp .le 6, 3), (12, .bipush (-2), 2), (14, .ireturn, 1), (15, .aload_n 0, 1), (16, .getfield 42, 3), (19, .aload_n 0, 1), (20, .getfield 56, 3), (23, .aload_n 0, 1), (24, .invokevirtual 218, 3), (27, .aload_n 0, 1), (28, .getfield 19, 3), (31, .getfield 150, 3), (34, .invokevirtual 259, 3), (37, .aload_n 0, 1), (38, .getfield 42, 3), (41, .getfield 263, 3), (44, .istore_n 1, 1), (45, .iload_n 1, 1), (46, .bipush (-4), 2), (48, .if_icmp .eq 21, 3)]
theorem gdX10_adopt_l0 : dok cX10_adopt dX10_adopt_l0 = true := by decide +kernel
theorem dX10_adopt_0 : decode cX10_adopt 0 = .ok (.aload_n 0, 1) := dok_at gdX10_adopt_l0 0 rfl
theorem dX10_adopt_1 : decode cX10_adopt 1 = .ok (.getfield 56, 3) := dok_at gdX10_adopt_l0 1 rfl
theorem dX10_adopt_4 : decode cX10_adopt 4 = .ok (.getfield 117, 3) := dok_at gdX10_adopt_l0 2 rfl
theorem dX10_adopt_7 : decode cX10_adopt 7 = .ok (.bipush 6, 2) := dok_at gdX10_adopt_l0 3 rfl
theorem dX10_adopt_9 : decode cX10_adopt 9 = .ok (.if_icmp .le 6, 3) := dok_at gdX10_adopt_l0 4 rfl
theorem dX10_adopt_12 : decode cX10_adopt 12 = .ok (.bipush (-2), 2) := dok_at gdX10_adopt_l0 5 rfl
theorem dX10_adopt_14 : decode cX10_adopt 14 = .ok (.ireturn, 1) := dok_at gdX10_adopt_l0 6 rfl
theorem dX10_adopt_15 : decode cX10_adopt 15 = .ok (.aload_n 0, 1) := dok_at gdX10_adopt_l0 7 rfl
theorem dX10_adopt_16 : decode cX10_adopt 16 = .ok (.getfield 42, 3) := dok_at gdX10_adopt_l0 8 rfl
theorem dX10_adopt_19 : decode cX10_adopt 19 = .ok (.aload_n 0, 1) := dok_at gdX10_adopt_l0 9 rfl
theorem dX10_adopt_20 : decode cX10_adopt 20 = .ok (.getfield 56, 3) := dok_at gdX10_adopt_l0 10 rfl
theorem dX10_adopt_23 : decode cX10_adopt 23 = .ok (.aload_n 0, 1) := dok_at gdX10_adopt_l0 11 rfl
theorem dX10_adopt_24 : decode cX10_adopt 24 = .ok (.invokevirtual 218, 3) := dok_at gdX10_adopt_l0 12 rfl
theorem dX10_adopt_27 : decode cX10_adopt 27 = .ok (.aload_n 0, 1) := dok_at gdX10_adopt_l0 13 rfl
theorem dX10_adopt_28 : decode cX10_adopt 28 = .ok (.getfield 19, 3) := dok_at gdX10_adopt_l0 14 rfl
theorem dX10_adopt_31 : decode cX10_adopt 31 = .ok (.getfield 150, 3) := dok_at gdX10_adopt_l0 15 rfl
theorem dX10_adopt_34 : decode cX10_adopt 34 = .ok (.invokevirtual 259, 3) := dok_at gdX10_adopt_l0 16 rfl
theorem dX10_adopt_37 : decode cX10_adopt 37 = .ok (.aload_n 0, 1) := dok_at gdX10_adopt_l0 17 rfl
theorem dX10_adopt_38 : decode cX10_adopt 38 = .ok (.getfield 42, 3) := dok_at gdX10_adopt_l0 18 rfl
theorem dX10_adopt_41 : decode cX10_adopt 41 = .ok (.getfield 263, 3) := dok_at gdX10_adopt_l0 19 rfl
theorem dX10_adopt_44 : decode cX10_adopt 44 = .ok (.istore_n 1, 1) := dok_at gdX10_adopt_l0 20 rfl
theorem dX10_adopt_45 : decode cX10_adopt 45 = .ok (.iload_n 1, 1) := dok_at gdX10_adopt_l0 21 rfl
theorem dX10_adopt_46 : decode cX10_adopt 46 = .ok (.bipush (-4), 2) := dok_at gdX10_adopt_l0 22 rfl
theorem dX10_adopt_48 : decode cX10_adopt 48 = .ok (.if_icmp .eq 21, 3) := dok_at gdX10_adopt_l0 23 rfl
def dX10_adopt_l51 : List (Nat × Instr × Nat) := [(51, .aload_n 0, 1), (52, .getfield 56, 3), (55, .aload_n 0, 1), (56, .getfield 42, 3), (59, .getfield 266, 3), (62, .invokevirtual 269, 3), (65, .aload_n 0, 1), (66, .invokevirtual 97, 3), (69, .iload_n 1, 1), (70, .ireturn, 1)]
theorem gdX10_adopt_l51 : dok cX10_adopt dX10_adopt_l51 = true := by decide +kernel
theorem dX10_adopt_51 : decode cX10_adopt 51 = .ok (.aload_n 0, 1) := dok_at gdX10_adopt_l51 0 rfl
theorem dX10_adopt_52 : decode cX10_adopt 52 = .ok (.getfield 56, 3) := dok_at gdX10_adopt_l51 1 rfl
theorem dX10_adopt_55 : decode cX10_adopt 55 = .ok (.aload_n 0, 1) := dok_at gdX10_adopt_l51 2 rfl
theorem dX10_adopt_56 : decode cX10_adopt 56 = .ok (.getfield 42, 3) := dok_at gdX10_adopt_l51 3 rfl
theorem dX10_adopt_59 : decode cX10_adopt 59 = .ok (.getfield 266, 3) := dok_at gdX10_adopt_l51 4 rfl
theorem dX10_adopt_62 : decode cX10_adopt 62 = .ok (.invokevirtual 269, 3) := dok_at gdX10_adopt_l51 5 rfl
theorem dX10_adopt_65 : decode cX10_adopt 65 = .ok (.aload_n 0, 1) := dok_at gdX10_adopt_l51 6 rfl
theorem dX10_adopt_66 : decode cX10_adopt 66 = .ok (.invokevirtual 97, 3) := dok_at gdX10_adopt_l51 7 rfl
theorem dX10_adopt_69 : decode cX10_adopt 69 = .ok (.iload_n 1, 1) := dok_at gdX10_adopt_l51 8 rfl
theorem dX10_adopt_70 : decode cX10_adopt 70 = .ok (.ireturn, 1) := dok_at gdX10_adopt_l51 9 rfl
def dX10_down_l0 : List (Nat × Instr × Nat) := [(0, .iload_n 1, 1), (1, .aload_n 0, 1), (2, .getfield 56, 3), (5, .invokevirtual 120, 3), (8, .iconst (-1), 1), (9, .ixor, 1), (10, .iand, 1), (11, .ifCond .eq 5, 3), (14, .iconst (-1), 1), (15, .ireturn, 1), (16, .aload_n 0, 1), (17, .getfield 56, 3), (20, .aload_n 0, 1), (21, .invokevirtual 218, 3), (24, .invokevirtual 205, 3), (27, .aload_n 0, 1), (28, .getfield 56, 3), (31, .aload_n 0, 1), (32, .invokevirtual 218, 3), (35, .iload_n 1, 1), (36, .iconst (-1), 1), (37, .ixor, 1), (38, .iand, 1), (39, .invokevirtual 205, 3)]
theorem gdX10_down_l0 : dok cX10_down dX10_down_l0 = true := by decide +kernel
theorem dX10_down_0 : decode cX10_down 0 = .ok (.iload_n 1, 1) := dok_at gdX10_down_l0 0 rfl
theorem dX10_down_1 : decode cX10_down 1 = .ok (.aload_n 0, 1) := dok_at gdX10_down_l0 1 rfl
theorem dX10_down_2 : decode cX10_down 2 = .ok (.getfield 56, 3) := dok_at gdX10_down_l0 2 rfl
theorem dX10_down_5 : decode cX10_down 5 = .ok (.invokevirtual 120, 3) := dok_at gdX10_down_l0 3 rfl
theorem dX10_down_8 : decode cX10_down 8 = .ok (.iconst (-1), 1) := dok_at gdX10_down_l0 4 rfl
theorem dX10_down_9 : decode cX10_down 9 = .ok (.ixor, 1) := dok_at gdX10_down_l0 5 rfl
theorem dX10_down_10 : decode cX10_down 10 = .ok (.iand, 1) := dok_at gdX10_down_l0 6 rfl
theorem dX10_down_11 : decode cX10_down 11 = .ok (.ifCond .eq 5, 3) := dok_at gdX10_down_l0 7 rfl
theorem dX10_down_14 : decode cX10_down 14 = .ok (.iconst (-1), 1) := dok_at gdX10_down_l0 8 rfl
theorem dX10_down_15 : decode cX10_down 15 = .ok (.ireturn, 1) := dok_at gdX10_down_l0 9 rfl
theorem dX10_down_16 : decode cX10_down 16 = .ok (.aload_n 0, 1) := dok_at gdX10_down_l0 10 rfl
theorem dX10_down_17 : decode cX10_down 17 = .ok (.getfield 56, 3) := dok_at gdX10_down_l0 11 rfl
theorem dX10_down_20 : decode cX10_down 20 = .ok (.aload_n 0, 1) := dok_at gdX10_down_l0 12 rfl
theorem dX10_down_21 : decode cX10_down 21 = .ok (.invokevirtual 218, 3) := dok_at gdX10_down_l0 13 rfl
theorem dX10_down_24 : decode cX10_down 24 = .ok (.invokevirtual 205, 3) := dok_at gdX10_down_l0 14 rfl
theorem dX10_down_27 : decode cX10_down 27 = .ok (.aload_n 0, 1) := dok_at gdX10_down_l0 15 rfl
theorem dX10_down_28 : decode cX10_down 28 = .ok (.getfield 56, 3) := dok_at gdX10_down_l0 16 rfl
theorem dX10_down_31 : decode cX10_down 31 = .ok (.aload_n 0, 1) := dok_at gdX10_down_l0 17 rfl
theorem dX10_down_32 : decode cX10_down 32 = .ok (.invokevirtual 218, 3) := dok_at gdX10_down_l0 18 rfl
theorem dX10_down_35 : decode cX10_down 35 = .ok (.iload_n 1, 1) := dok_at gdX10_down_l0 19 rfl
theorem dX10_down_36 : decode cX10_down 36 = .ok (.iconst (-1), 1) := dok_at gdX10_down_l0 20 rfl
theorem dX10_down_37 : decode cX10_down 37 = .ok (.ixor, 1) := dok_at gdX10_down_l0 21 rfl
theorem dX10_down_38 : decode cX10_down 38 = .ok (.iand, 1) := dok_at gdX10_down_l0 22 rfl
theorem dX10_down_39 : decode cX10_down 39 = .ok (.invokevirtual 205, 3) := dok_at gdX10_down_l0 23 rfl
def dX10_down_l42 : List (Nat × Instr × Nat) := [(42, .iconst (-1), 1), (43, .ixor, 1), (44, .iand, 1), (45, .ireturn, 1)]
theorem gdX10_down_l42 : dok cX10_down dX10_down_l42 = true := by decide +kernel
theorem dX10_down_42 : decode cX10_down 42 = .ok (.iconst (-1), 1) := dok_at gdX10_down_l42 0 rfl
theorem dX10_down_43 : decode cX10_down 43 = .ok (.ixor, 1) := dok_at gdX10_down_l42 1 rfl
theorem dX10_down_44 : decode cX10_down 44 = .ok (.iand, 1) := dok_at gdX10_down_l42 2 rfl
theorem dX10_down_45 : decode cX10_down 45 = .ok (.ireturn, 1) := dok_at gdX10_down_l42 3 rfl
def dX10_cut_l0 : List (Nat × Instr × Nat) := [(0, .aload_n 0, 1), (1, .getfield 56, 3), (4, .iload_n 1, 1), (5, .invokevirtual 100, 3), (8, .ifCond .eq 12, 3), (11, .iload_n 2, 1), (12, .ifCond .lt 8, 3), (15, .iload_n 2, 1), (16, .iconst 1, 1), (17, .if_icmp .le 5, 3), (20, .iconst (-1), 1), (21, .ireturn, 1), (22, .aload_n 0, 1), (23, .iload_n 1, 1), (24, .invokevirtual 272, 3), (27, .ifCond .ne 6, 3), (30, .bipush (-2), 2), (32, .ireturn, 1), (33, .aload_n 0, 1), (34, .getfield 56, 3), (37, .aload_n 0, 1), (38, .invokevirtual 218, 3), (41, .iload_n 1, 1), (42, .invokestatic 275, 3)]
theorem gdX10_cut_l0 : dok cX10_cut dX10_cut_l0 = true := by decide +kernel
theorem dX10_cut_0 : decode cX10_cut 0 = .ok (.aload_n 0, 1) := dok_at gdX10_cut_l0 0 rfl
theorem dX10_cut_1 : decode cX10_cut 1 = .ok (.getfield 56, 3) := dok_at gdX10_cut_l0 1 rfl
theorem dX10_cut_4 : decode cX10_cut 4 = .ok (.iload_n 1, 1) := dok_at gdX10_cut_l0 2 rfl
theorem dX10_cut_5 : decode cX10_cut 5 = .ok (.invokevirtual 100, 3) := dok_at gdX10_cut_l0 3 rfl
theorem dX10_cut_8 : decode cX10_cut 8 = .ok (.ifCond .eq 12, 3) := dok_at gdX10_cut_l0 4 rfl
theorem dX10_cut_11 : decode cX10_cut 11 = .ok (.iload_n 2, 1) := dok_at gdX10_cut_l0 5 rfl
theorem dX10_cut_12 : decode cX10_cut 12 = .ok (.ifCond .lt 8, 3) := dok_at gdX10_cut_l0 6 rfl
theorem dX10_cut_15 : decode cX10_cut 15 = .ok (.iload_n 2, 1) := dok_at gdX10_cut_l0 7 rfl
theorem dX10_cut_16 : decode cX10_cut 16 = .ok (.iconst 1, 1) := dok_at gdX10_cut_l0 8 rfl
theorem dX10_cut_17 : decode cX10_cut 17 = .ok (.if_icmp .le 5, 3) := dok_at gdX10_cut_l0 9 rfl
theorem dX10_cut_20 : decode cX10_cut 20 = .ok (.iconst (-1), 1) := dok_at gdX10_cut_l0 10 rfl
theorem dX10_cut_21 : decode cX10_cut 21 = .ok (.ireturn, 1) := dok_at gdX10_cut_l0 11 rfl
theorem dX10_cut_22 : decode cX10_cut 22 = .ok (.aload_n 0, 1) := dok_at gdX10_cut_l0 12 rfl
theorem dX10_cut_23 : decode cX10_cut 23 = .ok (.iload_n 1, 1) := dok_at gdX10_cut_l0 13 rfl
theorem dX10_cut_24 : decode cX10_cut 24 = .ok (.invokevirtual 272, 3) := dok_at gdX10_cut_l0 14 rfl
theorem dX10_cut_27 : decode cX10_cut 27 = .ok (.ifCond .ne 6, 3) := dok_at gdX10_cut_l0 15 rfl
theorem dX10_cut_30 : decode cX10_cut 30 = .ok (.bipush (-2), 2) := dok_at gdX10_cut_l0 16 rfl
theorem dX10_cut_32 : decode cX10_cut 32 = .ok (.ireturn, 1) := dok_at gdX10_cut_l0 17 rfl
theorem dX10_cut_33 : decode cX10_cut 33 = .ok (.aload_n 0, 1) := dok_at gdX10_cut_l0 18 rfl
theorem dX10_cut_34 : decode cX10_cut 34 = .ok (.getfield 56, 3) := dok_at gdX10_cut_l0 19 rfl
theorem dX10_cut_37 : decode cX10_cut 37 = .ok (.aload_n 0, 1) := dok_at gdX10_cut_l0 20 rfl
theorem dX10_cut_38 : decode cX10_cut 38 = .ok (.invokevirtual 218, 3) := dok_at gdX10_cut_l0 21 rfl
theorem dX10_cut_41 : decode cX10_cut 41 = .ok (.iload_n 1, 1) := dok_at gdX10_cut_l0 22 rfl
theorem dX10_cut_42 : decode cX10_cut 42 = .ok (.invokestatic 275, 3) := dok_at gdX10_cut_l0 23 rfl
def dX10_cut_l45 : List (Nat × Instr × Nat) := [(45, .istore_n 3, 1), (46, .iload_n 3, 1), (47, .ifCond .ne 6, 3), (50, .bipush (-4), 2), (52, .ireturn, 1), (53, .iload_n 2, 1), (54, .ifCond .ne 10, 3), (57, .iload_n 3, 1), (58, .invokestatic 281, 3), (61, .goto 4, 3), (64, .iload_n 3, 1), (65, .ireturn, 1)]
theorem gdX10_cut_l45 : dok cX10_cut dX10_cut_l45 = true := by decide +kernel
theorem dX10_cut_45 : decode cX10_cut 45 = .ok (.istore_n 3, 1) := dok_at gdX10_cut_l45 0 rfl
theorem dX10_cut_46 : decode cX10_cut 46 = .ok (.iload_n 3, 1) := dok_at gdX10_cut_l45 1 rfl
theorem dX10_cut_47 : decode cX10_cut 47 = .ok (.ifCond .ne 6, 3) := dok_at gdX10_cut_l45 2 rfl
theorem dX10_cut_50 : decode cX10_cut 50 = .ok (.bipush (-4), 2) := dok_at gdX10_cut_l45 3 rfl
theorem dX10_cut_52 : decode cX10_cut 52 = .ok (.ireturn, 1) := dok_at gdX10_cut_l45 4 rfl
theorem dX10_cut_53 : decode cX10_cut 53 = .ok (.iload_n 2, 1) := dok_at gdX10_cut_l45 5 rfl
theorem dX10_cut_54 : decode cX10_cut 54 = .ok (.ifCond .ne 10, 3) := dok_at gdX10_cut_l45 6 rfl
theorem dX10_cut_57 : decode cX10_cut 57 = .ok (.iload_n 3, 1) := dok_at gdX10_cut_l45 7 rfl
theorem dX10_cut_58 : decode cX10_cut 58 = .ok (.invokestatic 281, 3) := dok_at gdX10_cut_l45 8 rfl
theorem dX10_cut_61 : decode cX10_cut 61 = .ok (.goto 4, 3) := dok_at gdX10_cut_l45 9 rfl
theorem dX10_cut_64 : decode cX10_cut 64 = .ok (.iload_n 3, 1) := dok_at gdX10_cut_l45 10 rfl
theorem dX10_cut_65 : decode cX10_cut 65 = .ok (.ireturn, 1) := dok_at gdX10_cut_l45 11 rfl
def dX10_need_l0 : List (Nat × Instr × Nat) := [(0, .aload_n 0, 1), (1, .getfield 56, 3), (4, .iload_n 1, 1), (5, .invokevirtual 100, 3), (8, .ifCond .eq 12, 3), (11, .iload_n 2, 1), (12, .ifCond .lt 8, 3), (15, .iload_n 2, 1), (16, .iconst 1, 1), (17, .if_icmp .le 5, 3), (20, .iconst (-1), 1), (21, .ireturn, 1), (22, .aload_n 0, 1), (23, .iload_n 1, 1), (24, .invokevirtual 272, 3), (27, .ifCond .ne 6, 3), (30, .bipush (-2), 2), (32, .ireturn, 1), (33, .aload_n 0, 1), (34, .getfield 56, 3), (37, .aload_n 0, 1), (38, .invokevirtual 218, 3), (41, .iload_n 1, 1), (42, .invokestatic 286, 3)]
theorem gdX10_need_l0 : dok cX10_need dX10_need_l0 = true := by decide +kernel
theorem dX10_need_0 : decode cX10_need 0 = .ok (.aload_n 0, 1) := dok_at gdX10_need_l0 0 rfl
theorem dX10_need_1 : decode cX10_need 1 = .ok (.getfield 56, 3) := dok_at gdX10_need_l0 1 rfl
theorem dX10_need_4 : decode cX10_need 4 = .ok (.iload_n 1, 1) := dok_at gdX10_need_l0 2 rfl
theorem dX10_need_5 : decode cX10_need 5 = .ok (.invokevirtual 100, 3) := dok_at gdX10_need_l0 3 rfl
theorem dX10_need_8 : decode cX10_need 8 = .ok (.ifCond .eq 12, 3) := dok_at gdX10_need_l0 4 rfl
theorem dX10_need_11 : decode cX10_need 11 = .ok (.iload_n 2, 1) := dok_at gdX10_need_l0 5 rfl
theorem dX10_need_12 : decode cX10_need 12 = .ok (.ifCond .lt 8, 3) := dok_at gdX10_need_l0 6 rfl
theorem dX10_need_15 : decode cX10_need 15 = .ok (.iload_n 2, 1) := dok_at gdX10_need_l0 7 rfl
theorem dX10_need_16 : decode cX10_need 16 = .ok (.iconst 1, 1) := dok_at gdX10_need_l0 8 rfl
theorem dX10_need_17 : decode cX10_need 17 = .ok (.if_icmp .le 5, 3) := dok_at gdX10_need_l0 9 rfl
theorem dX10_need_20 : decode cX10_need 20 = .ok (.iconst (-1), 1) := dok_at gdX10_need_l0 10 rfl
theorem dX10_need_21 : decode cX10_need 21 = .ok (.ireturn, 1) := dok_at gdX10_need_l0 11 rfl
theorem dX10_need_22 : decode cX10_need 22 = .ok (.aload_n 0, 1) := dok_at gdX10_need_l0 12 rfl
theorem dX10_need_23 : decode cX10_need 23 = .ok (.iload_n 1, 1) := dok_at gdX10_need_l0 13 rfl
theorem dX10_need_24 : decode cX10_need 24 = .ok (.invokevirtual 272, 3) := dok_at gdX10_need_l0 14 rfl
theorem dX10_need_27 : decode cX10_need 27 = .ok (.ifCond .ne 6, 3) := dok_at gdX10_need_l0 15 rfl
theorem dX10_need_30 : decode cX10_need 30 = .ok (.bipush (-2), 2) := dok_at gdX10_need_l0 16 rfl
theorem dX10_need_32 : decode cX10_need 32 = .ok (.ireturn, 1) := dok_at gdX10_need_l0 17 rfl
theorem dX10_need_33 : decode cX10_need 33 = .ok (.aload_n 0, 1) := dok_at gdX10_need_l0 18 rfl
theorem dX10_need_34 : decode cX10_need 34 = .ok (.getfield 56, 3) := dok_at gdX10_need_l0 19 rfl
theorem dX10_need_37 : decode cX10_need 37 = .ok (.aload_n 0, 1) := dok_at gdX10_need_l0 20 rfl
theorem dX10_need_38 : decode cX10_need 38 = .ok (.invokevirtual 218, 3) := dok_at gdX10_need_l0 21 rfl
theorem dX10_need_41 : decode cX10_need 41 = .ok (.iload_n 1, 1) := dok_at gdX10_need_l0 22 rfl
theorem dX10_need_42 : decode cX10_need 42 = .ok (.invokestatic 286, 3) := dok_at gdX10_need_l0 23 rfl
def dX10_need_l45 : List (Nat × Instr × Nat) := [(45, .istore_n 3, 1), (46, .iload_n 2, 1), (47, .ifCond .ne 10, 3), (50, .iload_n 3, 1), (51, .invokestatic 281, 3), (54, .goto 4, 3), (57, .iload_n 3, 1), (58, .ireturn, 1)]
theorem gdX10_need_l45 : dok cX10_need dX10_need_l45 = true := by decide +kernel
theorem dX10_need_45 : decode cX10_need 45 = .ok (.istore_n 3, 1) := dok_at gdX10_need_l45 0 rfl
theorem dX10_need_46 : decode cX10_need 46 = .ok (.iload_n 2, 1) := dok_at gdX10_need_l45 1 rfl
theorem dX10_need_47 : decode cX10_need 47 = .ok (.ifCond .ne 10, 3) := dok_at gdX10_need_l45 2 rfl
theorem dX10_need_50 : decode cX10_need 50 = .ok (.iload_n 3, 1) := dok_at gdX10_need_l45 3 rfl
theorem dX10_need_51 : decode cX10_need 51 = .ok (.invokestatic 281, 3) := dok_at gdX10_need_l45 4 rfl
theorem dX10_need_54 : decode cX10_need 54 = .ok (.goto 4, 3) := dok_at gdX10_need_l45 5 rfl
theorem dX10_need_57 : decode cX10_need 57 = .ok (.iload_n 3, 1) := dok_at gdX10_need_l45 6 rfl
theorem dX10_need_58 : decode cX10_need 58 = .ok (.ireturn, 1) := dok_at gdX10_need_l45 7 rfl
def dX10_must_l0 : List (Nat × Instr × Nat) := [(0, .aload_n 0, 1), (1, .getfield 56, 3), (4, .iload_n 1, 1), (5, .invokevirtual 100, 3), (8, .ifCond .ne 5, 3), (11, .iconst (-1), 1), (12, .ireturn, 1), (13, .aload_n 0, 1), (14, .iload_n 1, 1), (15, .invokevirtual 272, 3), (18, .ifCond .ne 6, 3), (21, .bipush (-2), 2), (23, .ireturn, 1), (24, .aload_n 0, 1), (25, .getfield 56, 3), (28, .aload_n 0, 1), (29, .invokevirtual 218, 3), (32, .iload_n 1, 1), (33, .invokestatic 289, 3), (36, .ireturn, 1)]
theorem gdX10_must_l0 : dok cX10_must dX10_must_l0 = true := by decide +kernel
theorem dX10_must_0 : decode cX10_must 0 = .ok (.aload_n 0, 1) := dok_at gdX10_must_l0 0 rfl
theorem dX10_must_1 : decode cX10_must 1 = .ok (.getfield 56, 3) := dok_at gdX10_must_l0 1 rfl
theorem dX10_must_4 : decode cX10_must 4 = .ok (.iload_n 1, 1) := dok_at gdX10_must_l0 2 rfl
theorem dX10_must_5 : decode cX10_must 5 = .ok (.invokevirtual 100, 3) := dok_at gdX10_must_l0 3 rfl
theorem dX10_must_8 : decode cX10_must 8 = .ok (.ifCond .ne 5, 3) := dok_at gdX10_must_l0 4 rfl
theorem dX10_must_11 : decode cX10_must 11 = .ok (.iconst (-1), 1) := dok_at gdX10_must_l0 5 rfl
theorem dX10_must_12 : decode cX10_must 12 = .ok (.ireturn, 1) := dok_at gdX10_must_l0 6 rfl
theorem dX10_must_13 : decode cX10_must 13 = .ok (.aload_n 0, 1) := dok_at gdX10_must_l0 7 rfl
theorem dX10_must_14 : decode cX10_must 14 = .ok (.iload_n 1, 1) := dok_at gdX10_must_l0 8 rfl
theorem dX10_must_15 : decode cX10_must 15 = .ok (.invokevirtual 272, 3) := dok_at gdX10_must_l0 9 rfl
theorem dX10_must_18 : decode cX10_must 18 = .ok (.ifCond .ne 6, 3) := dok_at gdX10_must_l0 10 rfl
theorem dX10_must_21 : decode cX10_must 21 = .ok (.bipush (-2), 2) := dok_at gdX10_must_l0 11 rfl
theorem dX10_must_23 : decode cX10_must 23 = .ok (.ireturn, 1) := dok_at gdX10_must_l0 12 rfl
theorem dX10_must_24 : decode cX10_must 24 = .ok (.aload_n 0, 1) := dok_at gdX10_must_l0 13 rfl
theorem dX10_must_25 : decode cX10_must 25 = .ok (.getfield 56, 3) := dok_at gdX10_must_l0 14 rfl
theorem dX10_must_28 : decode cX10_must 28 = .ok (.aload_n 0, 1) := dok_at gdX10_must_l0 15 rfl
theorem dX10_must_29 : decode cX10_must 29 = .ok (.invokevirtual 218, 3) := dok_at gdX10_must_l0 16 rfl
theorem dX10_must_32 : decode cX10_must 32 = .ok (.iload_n 1, 1) := dok_at gdX10_must_l0 17 rfl
theorem dX10_must_33 : decode cX10_must 33 = .ok (.invokestatic 289, 3) := dok_at gdX10_must_l0 18 rfl
theorem dX10_must_36 : decode cX10_must 36 = .ok (.ireturn, 1) := dok_at gdX10_must_l0 19 rfl
def dX10_seen_l0 : List (Nat × Instr × Nat) := [(0, .iload_n 1, 1), (1, .aload_n 0, 1), (2, .getfield 56, 3), (5, .invokevirtual 120, 3), (8, .iconst (-1), 1), (9, .ixor, 1), (10, .iand, 1), (11, .ifCond .eq 5, 3), (14, .iconst (-1), 1), (15, .ireturn, 1), (16, .aload_n 0, 1), (17, .getfield 56, 3), (20, .iload_n 1, 1), (21, .invokestatic 292, 3), (24, .ireturn, 1)]
theorem gdX10_seen_l0 : dok cX10_seen dX10_seen_l0 = true := by decide +kernel
theorem dX10_seen_0 : decode cX10_seen 0 = .ok (.iload_n 1, 1) := dok_at gdX10_seen_l0 0 rfl
theorem dX10_seen_1 : decode cX10_seen 1 = .ok (.aload_n 0, 1) := dok_at gdX10_seen_l0 1 rfl
theorem dX10_seen_2 : decode cX10_seen 2 = .ok (.getfield 56, 3) := dok_at gdX10_seen_l0 2 rfl
theorem dX10_seen_5 : decode cX10_seen 5 = .ok (.invokevirtual 120, 3) := dok_at gdX10_seen_l0 3 rfl
theorem dX10_seen_8 : decode cX10_seen 8 = .ok (.iconst (-1), 1) := dok_at gdX10_seen_l0 4 rfl
theorem dX10_seen_9 : decode cX10_seen 9 = .ok (.ixor, 1) := dok_at gdX10_seen_l0 5 rfl
theorem dX10_seen_10 : decode cX10_seen 10 = .ok (.iand, 1) := dok_at gdX10_seen_l0 6 rfl
theorem dX10_seen_11 : decode cX10_seen 11 = .ok (.ifCond .eq 5, 3) := dok_at gdX10_seen_l0 7 rfl
theorem dX10_seen_14 : decode cX10_seen 14 = .ok (.iconst (-1), 1) := dok_at gdX10_seen_l0 8 rfl
theorem dX10_seen_15 : decode cX10_seen 15 = .ok (.ireturn, 1) := dok_at gdX10_seen_l0 9 rfl
theorem dX10_seen_16 : decode cX10_seen 16 = .ok (.aload_n 0, 1) := dok_at gdX10_seen_l0 10 rfl
theorem dX10_seen_17 : decode cX10_seen 17 = .ok (.getfield 56, 3) := dok_at gdX10_seen_l0 11 rfl
theorem dX10_seen_20 : decode cX10_seen 20 = .ok (.iload_n 1, 1) := dok_at gdX10_seen_l0 12 rfl
theorem dX10_seen_21 : decode cX10_seen 21 = .ok (.invokestatic 292, 3) := dok_at gdX10_seen_l0 13 rfl
theorem dX10_seen_24 : decode cX10_seen 24 = .ok (.ireturn, 1) := dok_at gdX10_seen_l0 14 rfl
def dX10_sheet_l0 : List (Nat × Instr × Nat) := [(0, .iload_n 1, 1), (1, .invokestatic 295, 3), (4, .ifCond .eq 16, 3), (7, .iload_n 2, 1), (8, .invokestatic 298, 3), (11, .ifCond .eq 9, 3), (14, .iload_n 3, 1), (15, .bipush 40, 2), (17, .if_icmp .le 5, 3), (20, .iconst (-1), 1), (21, .ireturn, 1), (22, .iload_n 3, 1), (23, .ifCond .ge 6, 3), (26, .bipush (-14), 2), (28, .ireturn, 1), (29, .aload_n 0, 1), (30, .getfield 49, 3), (33, .iload_n 1, 1), (34, .iload_n 2, 1), (35, .iload_n 3, 1), (36, .invokevirtual 301, 3), (39, .iconst 1, 1), (40, .ireturn, 1)]
theorem gdX10_sheet_l0 : dok cX10_sheet dX10_sheet_l0 = true := by decide +kernel
theorem dX10_sheet_0 : decode cX10_sheet 0 = .ok (.iload_n 1, 1) := dok_at gdX10_sheet_l0 0 rfl
theorem dX10_sheet_1 : decode cX10_sheet 1 = .ok (.invokestatic 295, 3) := dok_at gdX10_sheet_l0 1 rfl
theorem dX10_sheet_4 : decode cX10_sheet 4 = .ok (.ifCond .eq 16, 3) := dok_at gdX10_sheet_l0 2 rfl
theorem dX10_sheet_7 : decode cX10_sheet 7 = .ok (.iload_n 2, 1) := dok_at gdX10_sheet_l0 3 rfl
theorem dX10_sheet_8 : decode cX10_sheet 8 = .ok (.invokestatic 298, 3) := dok_at gdX10_sheet_l0 4 rfl
theorem dX10_sheet_11 : decode cX10_sheet 11 = .ok (.ifCond .eq 9, 3) := dok_at gdX10_sheet_l0 5 rfl
theorem dX10_sheet_14 : decode cX10_sheet 14 = .ok (.iload_n 3, 1) := dok_at gdX10_sheet_l0 6 rfl
theorem dX10_sheet_15 : decode cX10_sheet 15 = .ok (.bipush 40, 2) := dok_at gdX10_sheet_l0 7 rfl
theorem dX10_sheet_17 : decode cX10_sheet 17 = .ok (.if_icmp .le 5, 3) := dok_at gdX10_sheet_l0 8 rfl
theorem dX10_sheet_20 : decode cX10_sheet 20 = .ok (.iconst (-1), 1) := dok_at gdX10_sheet_l0 9 rfl
theorem dX10_sheet_21 : decode cX10_sheet 21 = .ok (.ireturn, 1) := dok_at gdX10_sheet_l0 10 rfl
theorem dX10_sheet_22 : decode cX10_sheet 22 = .ok (.iload_n 3, 1) := dok_at gdX10_sheet_l0 11 rfl
theorem dX10_sheet_23 : decode cX10_sheet 23 = .ok (.ifCond .ge 6, 3) := dok_at gdX10_sheet_l0 12 rfl
theorem dX10_sheet_26 : decode cX10_sheet 26 = .ok (.bipush (-14), 2) := dok_at gdX10_sheet_l0 13 rfl
theorem dX10_sheet_28 : decode cX10_sheet 28 = .ok (.ireturn, 1) := dok_at gdX10_sheet_l0 14 rfl
theorem dX10_sheet_29 : decode cX10_sheet 29 = .ok (.aload_n 0, 1) := dok_at gdX10_sheet_l0 15 rfl
theorem dX10_sheet_30 : decode cX10_sheet 30 = .ok (.getfield 49, 3) := dok_at gdX10_sheet_l0 16 rfl
theorem dX10_sheet_33 : decode cX10_sheet 33 = .ok (.iload_n 1, 1) := dok_at gdX10_sheet_l0 17 rfl
theorem dX10_sheet_34 : decode cX10_sheet 34 = .ok (.iload_n 2, 1) := dok_at gdX10_sheet_l0 18 rfl
theorem dX10_sheet_35 : decode cX10_sheet 35 = .ok (.iload_n 3, 1) := dok_at gdX10_sheet_l0 19 rfl
theorem dX10_sheet_36 : decode cX10_sheet 36 = .ok (.invokevirtual 301, 3) := dok_at gdX10_sheet_l0 20 rfl
theorem dX10_sheet_39 : decode cX10_sheet 39 = .ok (.iconst 1, 1) := dok_at gdX10_sheet_l0 21 rfl
theorem dX10_sheet_40 : decode cX10_sheet 40 = .ok (.ireturn, 1) := dok_at gdX10_sheet_l0 22 rfl
def dX10_lay_l0 : List (Nat × Instr × Nat) := [(0, .iload_n 1, 1), (1, .invokestatic 295, 3), (4, .ifCond .ne 5, 3), (7, .iconst (-1), 1), (8, .ireturn, 1), (9, .aload_n 0, 1), (10, .getfield 49, 3), (13, .getfield 305, 3), (16, .iload_n 1, 1), (17, .iaload, 1), (18, .bipush (-4), 2), (20, .if_icmp .ne 6, 3), (23, .bipush (-11), 2), (25, .ireturn, 1), (26, .iload_n 2, 1), (27, .ifCond .lt 16, 3), (30, .iload_n 2, 1), (31, .aload_n 0, 1), (32, .getfield 49, 3), (35, .getfield 305, 3), (38, .iload_n 1, 1), (39, .iaload, 1), (40, .if_icmp .lt 6, 3), (43, .bipush (-12), 2)]
theorem gdX10_lay_l0 : dok cX10_lay dX10_lay_l0 = true := by decide +kernel
theorem dX10_lay_0 : decode cX10_lay 0 = .ok (.iload_n 1, 1) := dok_at gdX10_lay_l0 0 rfl
theorem dX10_lay_1 : decode cX10_lay 1 = .ok (.invokestatic 295, 3) := dok_at gdX10_lay_l0 1 rfl
theorem dX10_lay_4 : decode cX10_lay 4 = .ok (.ifCond .ne 5, 3) := dok_at gdX10_lay_l0 2 rfl
theorem dX10_lay_7 : decode cX10_lay 7 = .ok (.iconst (-1), 1) := dok_at gdX10_lay_l0 3 rfl
theorem dX10_lay_8 : decode cX10_lay 8 = .ok (.ireturn, 1) := dok_at gdX10_lay_l0 4 rfl
theorem dX10_lay_9 : decode cX10_lay 9 = .ok (.aload_n 0, 1) := dok_at gdX10_lay_l0 5 rfl
theorem dX10_lay_10 : decode cX10_lay 10 = .ok (.getfield 49, 3) := dok_at gdX10_lay_l0 6 rfl
theorem dX10_lay_13 : decode cX10_lay 13 = .ok (.getfield 305, 3) := dok_at gdX10_lay_l0 7 rfl
theorem dX10_lay_16 : decode cX10_lay 16 = .ok (.iload_n 1, 1) := dok_at gdX10_lay_l0 8 rfl
theorem dX10_lay_17 : decode cX10_lay 17 = .ok (.iaload, 1) := dok_at gdX10_lay_l0 9 rfl
theorem dX10_lay_18 : decode cX10_lay 18 = .ok (.bipush (-4), 2) := dok_at gdX10_lay_l0 10 rfl
theorem dX10_lay_20 : decode cX10_lay 20 = .ok (.if_icmp .ne 6, 3) := dok_at gdX10_lay_l0 11 rfl
theorem dX10_lay_23 : decode cX10_lay 23 = .ok (.bipush (-11), 2) := dok_at gdX10_lay_l0 12 rfl
theorem dX10_lay_25 : decode cX10_lay 25 = .ok (.ireturn, 1) := dok_at gdX10_lay_l0 13 rfl
theorem dX10_lay_26 : decode cX10_lay 26 = .ok (.iload_n 2, 1) := dok_at gdX10_lay_l0 14 rfl
theorem dX10_lay_27 : decode cX10_lay 27 = .ok (.ifCond .lt 16, 3) := dok_at gdX10_lay_l0 15 rfl
theorem dX10_lay_30 : decode cX10_lay 30 = .ok (.iload_n 2, 1) := dok_at gdX10_lay_l0 16 rfl
theorem dX10_lay_31 : decode cX10_lay 31 = .ok (.aload_n 0, 1) := dok_at gdX10_lay_l0 17 rfl
theorem dX10_lay_32 : decode cX10_lay 32 = .ok (.getfield 49, 3) := dok_at gdX10_lay_l0 18 rfl
theorem dX10_lay_35 : decode cX10_lay 35 = .ok (.getfield 305, 3) := dok_at gdX10_lay_l0 19 rfl
theorem dX10_lay_38 : decode cX10_lay 38 = .ok (.iload_n 1, 1) := dok_at gdX10_lay_l0 20 rfl
theorem dX10_lay_39 : decode cX10_lay 39 = .ok (.iaload, 1) := dok_at gdX10_lay_l0 21 rfl
theorem dX10_lay_40 : decode cX10_lay 40 = .ok (.if_icmp .lt 6, 3) := dok_at gdX10_lay_l0 22 rfl
theorem dX10_lay_43 : decode cX10_lay 43 = .ok (.bipush (-12), 2) := dok_at gdX10_lay_l0 23 rfl
def dX10_lay_l45 : List (Nat × Instr × Nat) := [(45, .ireturn, 1), (46, .aload_n 0, 1), (47, .getfield 49, 3), (50, .iload_n 1, 1), (51, .iload_n 2, 1), (52, .iload_n 3, 1), (53, .invokevirtual 308, 3), (56, .iconst 1, 1), (57, .ireturn, 1)]
theorem gdX10_lay_l45 : dok cX10_lay dX10_lay_l45 = true := by decide +kernel
theorem dX10_lay_45 : decode cX10_lay 45 = .ok (.ireturn, 1) := dok_at gdX10_lay_l45 0 rfl
theorem dX10_lay_46 : decode cX10_lay 46 = .ok (.aload_n 0, 1) := dok_at gdX10_lay_l45 1 rfl
theorem dX10_lay_47 : decode cX10_lay 47 = .ok (.getfield 49, 3) := dok_at gdX10_lay_l45 2 rfl
theorem dX10_lay_50 : decode cX10_lay 50 = .ok (.iload_n 1, 1) := dok_at gdX10_lay_l45 3 rfl
theorem dX10_lay_51 : decode cX10_lay 51 = .ok (.iload_n 2, 1) := dok_at gdX10_lay_l45 4 rfl
theorem dX10_lay_52 : decode cX10_lay 52 = .ok (.iload_n 3, 1) := dok_at gdX10_lay_l45 5 rfl
theorem dX10_lay_53 : decode cX10_lay 53 = .ok (.invokevirtual 308, 3) := dok_at gdX10_lay_l45 6 rfl
theorem dX10_lay_56 : decode cX10_lay 56 = .ok (.iconst 1, 1) := dok_at gdX10_lay_l45 7 rfl
theorem dX10_lay_57 : decode cX10_lay 57 = .ok (.ireturn, 1) := dok_at gdX10_lay_l45 8 rfl
def dX10_measured_l0 : List (Nat × Instr × Nat) := [(0, .iload_n 1, 1), (1, .invokestatic 295, 3), (4, .ifCond .eq 10, 3), (7, .iload_n 2, 1), (8, .invokestatic 298, 3), (11, .ifCond .ne 5, 3), (14, .iconst (-1), 1), (15, .ireturn, 1), (16, .iload 4, 2), (18, .ifCond .lt 21, 3), (21, .iload 4, 2), (23, .bipush 40, 2), (25, .if_icmp .gt 14, 3), (28, .iload 5, 2), (30, .ifCond .lt 9, 3), (33, .iload 5, 2), (35, .iconst 2, 1), (36, .if_icmp .le 5, 3), (39, .iconst (-1), 1), (40, .ireturn, 1), (41, .aload_n 0, 1), (42, .getfield 49, 3), (45, .getfield 305, 3), (48, .iload_n 1, 1)]
theorem gdX10_measured_l0 : dok cX10_measured dX10_measured_l0 = true := by decide +kernel
theorem dX10_measured_0 : decode cX10_measured 0 = .ok (.iload_n 1, 1) := dok_at gdX10_measured_l0 0 rfl
theorem dX10_measured_1 : decode cX10_measured 1 = .ok (.invokestatic 295, 3) := dok_at gdX10_measured_l0 1 rfl
theorem dX10_measured_4 : decode cX10_measured 4 = .ok (.ifCond .eq 10, 3) := dok_at gdX10_measured_l0 2 rfl
theorem dX10_measured_7 : decode cX10_measured 7 = .ok (.iload_n 2, 1) := dok_at gdX10_measured_l0 3 rfl
theorem dX10_measured_8 : decode cX10_measured 8 = .ok (.invokestatic 298, 3) := dok_at gdX10_measured_l0 4 rfl
theorem dX10_measured_11 : decode cX10_measured 11 = .ok (.ifCond .ne 5, 3) := dok_at gdX10_measured_l0 5 rfl
theorem dX10_measured_14 : decode cX10_measured 14 = .ok (.iconst (-1), 1) := dok_at gdX10_measured_l0 6 rfl
theorem dX10_measured_15 : decode cX10_measured 15 = .ok (.ireturn, 1) := dok_at gdX10_measured_l0 7 rfl
theorem dX10_measured_16 : decode cX10_measured 16 = .ok (.iload 4, 2) := dok_at gdX10_measured_l0 8 rfl
theorem dX10_measured_18 : decode cX10_measured 18 = .ok (.ifCond .lt 21, 3) := dok_at gdX10_measured_l0 9 rfl
theorem dX10_measured_21 : decode cX10_measured 21 = .ok (.iload 4, 2) := dok_at gdX10_measured_l0 10 rfl
theorem dX10_measured_23 : decode cX10_measured 23 = .ok (.bipush 40, 2) := dok_at gdX10_measured_l0 11 rfl
theorem dX10_measured_25 : decode cX10_measured 25 = .ok (.if_icmp .gt 14, 3) := dok_at gdX10_measured_l0 12 rfl
theorem dX10_measured_28 : decode cX10_measured 28 = .ok (.iload 5, 2) := dok_at gdX10_measured_l0 13 rfl
theorem dX10_measured_30 : decode cX10_measured 30 = .ok (.ifCond .lt 9, 3) := dok_at gdX10_measured_l0 14 rfl
theorem dX10_measured_33 : decode cX10_measured 33 = .ok (.iload 5, 2) := dok_at gdX10_measured_l0 15 rfl
theorem dX10_measured_35 : decode cX10_measured 35 = .ok (.iconst 2, 1) := dok_at gdX10_measured_l0 16 rfl
theorem dX10_measured_36 : decode cX10_measured 36 = .ok (.if_icmp .le 5, 3) := dok_at gdX10_measured_l0 17 rfl
theorem dX10_measured_39 : decode cX10_measured 39 = .ok (.iconst (-1), 1) := dok_at gdX10_measured_l0 18 rfl
theorem dX10_measured_40 : decode cX10_measured 40 = .ok (.ireturn, 1) := dok_at gdX10_measured_l0 19 rfl
theorem dX10_measured_41 : decode cX10_measured 41 = .ok (.aload_n 0, 1) := dok_at gdX10_measured_l0 20 rfl
theorem dX10_measured_42 : decode cX10_measured 42 = .ok (.getfield 49, 3) := dok_at gdX10_measured_l0 21 rfl
theorem dX10_measured_45 : decode cX10_measured 45 = .ok (.getfield 305, 3) := dok_at gdX10_measured_l0 22 rfl
theorem dX10_measured_48 : decode cX10_measured 48 = .ok (.iload_n 1, 1) := dok_at gdX10_measured_l0 23 rfl
def dX10_measured_l49 : List (Nat × Instr × Nat) := [(49, .iaload, 1), (50, .bipush (-4), 2), (52, .if_icmp .ne 6, 3), (55, .bipush (-11), 2), (57, .ireturn, 1), (58, .aload_n 0, 1), (59, .getfield 49, 3), (62, .getfield 311, 3), (65, .iload_n 1, 1), (66, .iaload, 1), (67, .iload_n 2, 1), (68, .if_icmp .eq 6, 3), (71, .bipush (-13), 2), (73, .ireturn, 1), (74, .aload_n 0, 1), (75, .invokevirtual 208, 3), (78, .aload_n 0, 1), (79, .iload_n 1, 1), (80, .iload_n 3, 1), (81, .iload 4, 2), (83, .iload 5, 2), (85, .invokevirtual 314, 3), (88, .ireturn, 1)]
theorem gdX10_measured_l49 : dok cX10_measured dX10_measured_l49 = true := by decide +kernel
theorem dX10_measured_49 : decode cX10_measured 49 = .ok (.iaload, 1) := dok_at gdX10_measured_l49 0 rfl
theorem dX10_measured_50 : decode cX10_measured 50 = .ok (.bipush (-4), 2) := dok_at gdX10_measured_l49 1 rfl
theorem dX10_measured_52 : decode cX10_measured 52 = .ok (.if_icmp .ne 6, 3) := dok_at gdX10_measured_l49 2 rfl
theorem dX10_measured_55 : decode cX10_measured 55 = .ok (.bipush (-11), 2) := dok_at gdX10_measured_l49 3 rfl
theorem dX10_measured_57 : decode cX10_measured 57 = .ok (.ireturn, 1) := dok_at gdX10_measured_l49 4 rfl
theorem dX10_measured_58 : decode cX10_measured 58 = .ok (.aload_n 0, 1) := dok_at gdX10_measured_l49 5 rfl
theorem dX10_measured_59 : decode cX10_measured 59 = .ok (.getfield 49, 3) := dok_at gdX10_measured_l49 6 rfl
theorem dX10_measured_62 : decode cX10_measured 62 = .ok (.getfield 311, 3) := dok_at gdX10_measured_l49 7 rfl
theorem dX10_measured_65 : decode cX10_measured 65 = .ok (.iload_n 1, 1) := dok_at gdX10_measured_l49 8 rfl
theorem dX10_measured_66 : decode cX10_measured 66 = .ok (.iaload, 1) := dok_at gdX10_measured_l49 9 rfl
theorem dX10_measured_67 : decode cX10_measured 67 = .ok (.iload_n 2, 1) := dok_at gdX10_measured_l49 10 rfl
theorem dX10_measured_68 : decode cX10_measured 68 = .ok (.if_icmp .eq 6, 3) := dok_at gdX10_measured_l49 11 rfl
theorem dX10_measured_71 : decode cX10_measured 71 = .ok (.bipush (-13), 2) := dok_at gdX10_measured_l49 12 rfl
theorem dX10_measured_73 : decode cX10_measured 73 = .ok (.ireturn, 1) := dok_at gdX10_measured_l49 13 rfl
theorem dX10_measured_74 : decode cX10_measured 74 = .ok (.aload_n 0, 1) := dok_at gdX10_measured_l49 14 rfl
theorem dX10_measured_75 : decode cX10_measured 75 = .ok (.invokevirtual 208, 3) := dok_at gdX10_measured_l49 15 rfl
theorem dX10_measured_78 : decode cX10_measured 78 = .ok (.aload_n 0, 1) := dok_at gdX10_measured_l49 16 rfl
theorem dX10_measured_79 : decode cX10_measured 79 = .ok (.iload_n 1, 1) := dok_at gdX10_measured_l49 17 rfl
theorem dX10_measured_80 : decode cX10_measured 80 = .ok (.iload_n 3, 1) := dok_at gdX10_measured_l49 18 rfl
theorem dX10_measured_81 : decode cX10_measured 81 = .ok (.iload 4, 2) := dok_at gdX10_measured_l49 19 rfl
theorem dX10_measured_83 : decode cX10_measured 83 = .ok (.iload 5, 2) := dok_at gdX10_measured_l49 20 rfl
theorem dX10_measured_85 : decode cX10_measured 85 = .ok (.invokevirtual 314, 3) := dok_at gdX10_measured_l49 21 rfl
theorem dX10_measured_88 : decode cX10_measured 88 = .ok (.ireturn, 1) := dok_at gdX10_measured_l49 22 rfl
def dX10_count_l0 : List (Nat × Instr × Nat) := [(0, .iload_n 1, 1), (1, .tableswitch 113 0 5 #[39, 47, 58, 69, 95, 103], 39), (40, .aload_n 0, 1), (41, .getfield 56, 3), (44, .getfield 117, 3), (47, .ireturn, 1), (48, .aload_n 0, 1), (49, .getfield 19, 3), (52, .getfield 147, 3), (55, .invokestatic 281, 3), (58, .ireturn, 1), (59, .aload_n 0, 1), (60, .getfield 19, 3), (63, .getfield 187, 3), (66, .getfield 191, 3), (69, .ireturn, 1), (70, .aload_n 0, 1), (71, .getfield 56, 3), (74, .invokevirtual 230, 3), (77, .sipush 20000, 3), (80, .if_icmp .le 8, 3), (83, .bipush (-6), 2), (85, .goto 10, 3), (88, .aload_n 0, 1)]
theorem gdX10_count_l0 : dok cX10_count dX10_count_l0 = true := by decide +kernel
theorem dX10_count_0 : decode cX10_count 0 = .ok (.iload_n 1, 1) := dok_at gdX10_count_l0 0 rfl
theorem dX10_count_1 : decode cX10_count 1 = .ok (.tableswitch 113 0 5 #[39, 47, 58, 69, 95, 103], 39) := dok_at gdX10_count_l0 1 rfl
theorem dX10_count_40 : decode cX10_count 40 = .ok (.aload_n 0, 1) := dok_at gdX10_count_l0 2 rfl
theorem dX10_count_41 : decode cX10_count 41 = .ok (.getfield 56, 3) := dok_at gdX10_count_l0 3 rfl
theorem dX10_count_44 : decode cX10_count 44 = .ok (.getfield 117, 3) := dok_at gdX10_count_l0 4 rfl
theorem dX10_count_47 : decode cX10_count 47 = .ok (.ireturn, 1) := dok_at gdX10_count_l0 5 rfl
theorem dX10_count_48 : decode cX10_count 48 = .ok (.aload_n 0, 1) := dok_at gdX10_count_l0 6 rfl
theorem dX10_count_49 : decode cX10_count 49 = .ok (.getfield 19, 3) := dok_at gdX10_count_l0 7 rfl
theorem dX10_count_52 : decode cX10_count 52 = .ok (.getfield 147, 3) := dok_at gdX10_count_l0 8 rfl
theorem dX10_count_55 : decode cX10_count 55 = .ok (.invokestatic 281, 3) := dok_at gdX10_count_l0 9 rfl
theorem dX10_count_58 : decode cX10_count 58 = .ok (.ireturn, 1) := dok_at gdX10_count_l0 10 rfl
theorem dX10_count_59 : decode cX10_count 59 = .ok (.aload_n 0, 1) := dok_at gdX10_count_l0 11 rfl
theorem dX10_count_60 : decode cX10_count 60 = .ok (.getfield 19, 3) := dok_at gdX10_count_l0 12 rfl
theorem dX10_count_63 : decode cX10_count 63 = .ok (.getfield 187, 3) := dok_at gdX10_count_l0 13 rfl
theorem dX10_count_66 : decode cX10_count 66 = .ok (.getfield 191, 3) := dok_at gdX10_count_l0 14 rfl
theorem dX10_count_69 : decode cX10_count 69 = .ok (.ireturn, 1) := dok_at gdX10_count_l0 15 rfl
theorem dX10_count_70 : decode cX10_count 70 = .ok (.aload_n 0, 1) := dok_at gdX10_count_l0 16 rfl
theorem dX10_count_71 : decode cX10_count 71 = .ok (.getfield 56, 3) := dok_at gdX10_count_l0 17 rfl
theorem dX10_count_74 : decode cX10_count 74 = .ok (.invokevirtual 230, 3) := dok_at gdX10_count_l0 18 rfl
theorem dX10_count_77 : decode cX10_count 77 = .ok (.sipush 20000, 3) := dok_at gdX10_count_l0 19 rfl
theorem dX10_count_80 : decode cX10_count 80 = .ok (.if_icmp .le 8, 3) := dok_at gdX10_count_l0 20 rfl
theorem dX10_count_83 : decode cX10_count 83 = .ok (.bipush (-6), 2) := dok_at gdX10_count_l0 21 rfl
theorem dX10_count_85 : decode cX10_count 85 = .ok (.goto 10, 3) := dok_at gdX10_count_l0 22 rfl
theorem dX10_count_88 : decode cX10_count 88 = .ok (.aload_n 0, 1) := dok_at gdX10_count_l0 23 rfl
def dX10_count_l89 : List (Nat × Instr × Nat) := [(89, .getfield 56, 3), (92, .invokevirtual 230, 3), (95, .ireturn, 1), (96, .aload_n 0, 1), (97, .getfield 10, 3), (100, .getfield 80, 3), (103, .ireturn, 1), (104, .aload_n 0, 1), (105, .getfield 49, 3), (108, .getfield 305, 3), (111, .iconst 0, 1), (112, .iaload, 1), (113, .ireturn, 1), (114, .iconst (-1), 1), (115, .ireturn, 1)]
theorem gdX10_count_l89 : dok cX10_count dX10_count_l89 = true := by decide +kernel
theorem dX10_count_89 : decode cX10_count 89 = .ok (.getfield 56, 3) := dok_at gdX10_count_l89 0 rfl
theorem dX10_count_92 : decode cX10_count 92 = .ok (.invokevirtual 230, 3) := dok_at gdX10_count_l89 1 rfl
theorem dX10_count_95 : decode cX10_count 95 = .ok (.ireturn, 1) := dok_at gdX10_count_l89 2 rfl
theorem dX10_count_96 : decode cX10_count 96 = .ok (.aload_n 0, 1) := dok_at gdX10_count_l89 3 rfl
theorem dX10_count_97 : decode cX10_count 97 = .ok (.getfield 10, 3) := dok_at gdX10_count_l89 4 rfl
theorem dX10_count_100 : decode cX10_count 100 = .ok (.getfield 80, 3) := dok_at gdX10_count_l89 5 rfl
theorem dX10_count_103 : decode cX10_count 103 = .ok (.ireturn, 1) := dok_at gdX10_count_l89 6 rfl
theorem dX10_count_104 : decode cX10_count 104 = .ok (.aload_n 0, 1) := dok_at gdX10_count_l89 7 rfl
theorem dX10_count_105 : decode cX10_count 105 = .ok (.getfield 49, 3) := dok_at gdX10_count_l89 8 rfl
theorem dX10_count_108 : decode cX10_count 108 = .ok (.getfield 305, 3) := dok_at gdX10_count_l89 9 rfl
theorem dX10_count_111 : decode cX10_count 111 = .ok (.iconst 0, 1) := dok_at gdX10_count_l89 10 rfl
theorem dX10_count_112 : decode cX10_count 112 = .ok (.iaload, 1) := dok_at gdX10_count_l89 11 rfl
theorem dX10_count_113 : decode cX10_count 113 = .ok (.ireturn, 1) := dok_at gdX10_count_l89 12 rfl
theorem dX10_count_114 : decode cX10_count 114 = .ok (.iconst (-1), 1) := dok_at gdX10_count_l89 13 rfl
theorem dX10_count_115 : decode cX10_count 115 = .ok (.ireturn, 1) := dok_at gdX10_count_l89 14 rfl
def dX10_asNumber_l0 : List (Nat × Instr × Nat) := [(0, .iload_n 0, 1), (1, .ifCond .eq 7, 3), (4, .iconst 1, 1), (5, .goto 4, 3), (8, .iconst 0, 1), (9, .ireturn, 1)]
theorem gdX10_asNumber_l0 : dok cX10_asNumber dX10_asNumber_l0 = true := by decide +kernel
theorem dX10_asNumber_0 : decode cX10_asNumber 0 = .ok (.iload_n 0, 1) := dok_at gdX10_asNumber_l0 0 rfl
theorem dX10_asNumber_1 : decode cX10_asNumber 1 = .ok (.ifCond .eq 7, 3) := dok_at gdX10_asNumber_l0 1 rfl
theorem dX10_asNumber_4 : decode cX10_asNumber 4 = .ok (.iconst 1, 1) := dok_at gdX10_asNumber_l0 2 rfl
theorem dX10_asNumber_5 : decode cX10_asNumber 5 = .ok (.goto 4, 3) := dok_at gdX10_asNumber_l0 3 rfl
theorem dX10_asNumber_8 : decode cX10_asNumber 8 = .ok (.iconst 0, 1) := dok_at gdX10_asNumber_l0 4 rfl
theorem dX10_asNumber_9 : decode cX10_asNumber 9 = .ok (.ireturn, 1) := dok_at gdX10_asNumber_l0 5 rfl
def dX10_alive_l0 : List (Nat × Instr × Nat) := [(0, .aload_n 0, 1), (1, .getfield 56, 3), (4, .invokevirtual 120, 3), (7, .aload_n 0, 1), (8, .getfield 19, 3), (11, .getfield 147, 3), (14, .iconst (-1), 1), (15, .ixor, 1), (16, .iand, 1), (17, .ireturn, 1)]
theorem gdX10_alive_l0 : dok cX10_alive dX10_alive_l0 = true := by decide +kernel
theorem dX10_alive_0 : decode cX10_alive 0 = .ok (.aload_n 0, 1) := dok_at gdX10_alive_l0 0 rfl
theorem dX10_alive_1 : decode cX10_alive 1 = .ok (.getfield 56, 3) := dok_at gdX10_alive_l0 1 rfl
theorem dX10_alive_4 : decode cX10_alive 4 = .ok (.invokevirtual 120, 3) := dok_at gdX10_alive_l0 2 rfl
theorem dX10_alive_7 : decode cX10_alive 7 = .ok (.aload_n 0, 1) := dok_at gdX10_alive_l0 3 rfl
theorem dX10_alive_8 : decode cX10_alive 8 = .ok (.getfield 19, 3) := dok_at gdX10_alive_l0 4 rfl
theorem dX10_alive_11 : decode cX10_alive 11 = .ok (.getfield 147, 3) := dok_at gdX10_alive_l0 5 rfl
theorem dX10_alive_14 : decode cX10_alive 14 = .ok (.iconst (-1), 1) := dok_at gdX10_alive_l0 6 rfl
theorem dX10_alive_15 : decode cX10_alive 15 = .ok (.ixor, 1) := dok_at gdX10_alive_l0 7 rfl
theorem dX10_alive_16 : decode cX10_alive 16 = .ok (.iand, 1) := dok_at gdX10_alive_l0 8 rfl
theorem dX10_alive_17 : decode cX10_alive 17 = .ok (.ireturn, 1) := dok_at gdX10_alive_l0 9 rfl
def dX10_canBeUp_l0 : List (Nat × Instr × Nat) := [(0, .aload_n 0, 1), (1, .getfield 56, 3), (4, .aload_n 0, 1), (5, .invokevirtual 218, 3), (8, .invokevirtual 205, 3), (11, .iload_n 1, 1), (12, .ishr, 1), (13, .iconst 1, 1), (14, .iand, 1), (15, .iconst 1, 1), (16, .if_icmp .ne 7, 3), (19, .iconst 1, 1), (20, .goto 4, 3), (23, .iconst 0, 1), (24, .ireturn, 1)]
theorem gdX10_canBeUp_l0 : dok cX10_canBeUp dX10_canBeUp_l0 = true := by decide +kernel
theorem dX10_canBeUp_0 : decode cX10_canBeUp 0 = .ok (.aload_n 0, 1) := dok_at gdX10_canBeUp_l0 0 rfl
theorem dX10_canBeUp_1 : decode cX10_canBeUp 1 = .ok (.getfield 56, 3) := dok_at gdX10_canBeUp_l0 1 rfl
theorem dX10_canBeUp_4 : decode cX10_canBeUp 4 = .ok (.aload_n 0, 1) := dok_at gdX10_canBeUp_l0 2 rfl
theorem dX10_canBeUp_5 : decode cX10_canBeUp 5 = .ok (.invokevirtual 218, 3) := dok_at gdX10_canBeUp_l0 3 rfl
theorem dX10_canBeUp_8 : decode cX10_canBeUp 8 = .ok (.invokevirtual 205, 3) := dok_at gdX10_canBeUp_l0 4 rfl
theorem dX10_canBeUp_11 : decode cX10_canBeUp 11 = .ok (.iload_n 1, 1) := dok_at gdX10_canBeUp_l0 5 rfl
theorem dX10_canBeUp_12 : decode cX10_canBeUp 12 = .ok (.ishr, 1) := dok_at gdX10_canBeUp_l0 6 rfl
theorem dX10_canBeUp_13 : decode cX10_canBeUp 13 = .ok (.iconst 1, 1) := dok_at gdX10_canBeUp_l0 7 rfl
theorem dX10_canBeUp_14 : decode cX10_canBeUp 14 = .ok (.iand, 1) := dok_at gdX10_canBeUp_l0 8 rfl
theorem dX10_canBeUp_15 : decode cX10_canBeUp 15 = .ok (.iconst 1, 1) := dok_at gdX10_canBeUp_l0 9 rfl
theorem dX10_canBeUp_16 : decode cX10_canBeUp 16 = .ok (.if_icmp .ne 7, 3) := dok_at gdX10_canBeUp_l0 10 rfl
theorem dX10_canBeUp_19 : decode cX10_canBeUp 19 = .ok (.iconst 1, 1) := dok_at gdX10_canBeUp_l0 11 rfl
theorem dX10_canBeUp_20 : decode cX10_canBeUp 20 = .ok (.goto 4, 3) := dok_at gdX10_canBeUp_l0 12 rfl
theorem dX10_canBeUp_23 : decode cX10_canBeUp 23 = .ok (.iconst 0, 1) := dok_at gdX10_canBeUp_l0 13 rfl
theorem dX10_canBeUp_24 : decode cX10_canBeUp 24 = .ok (.ireturn, 1) := dok_at gdX10_canBeUp_l0 14 rfl
def dX10_followTimes_l0 : List (Nat × Instr × Nat) := [(0, .aload_n 0, 1), (1, .getfield 26, 3), (4, .aload_n 0, 1), (5, .getfield 56, 3), (8, .invokevirtual 211, 3), (11, .aload_n 0, 1), (12, .getfield 26, 3), (15, .aload_n 0, 1), (16, .getfield 19, 3), (19, .getfield 150, 3), (22, .invokevirtual 318, 3), (25, .aload_n 0, 1), (26, .getfield 26, 3), (29, .aload_n 0, 1), (30, .getfield 56, 3), (33, .aload_n 0, 1), (34, .invokevirtual 218, 3), (37, .invokevirtual 221, 3), (40, .return_, 1)]
theorem gdX10_followTimes_l0 : dok cX10_followTimes dX10_followTimes_l0 = true := by decide +kernel
theorem dX10_followTimes_0 : decode cX10_followTimes 0 = .ok (.aload_n 0, 1) := dok_at gdX10_followTimes_l0 0 rfl
theorem dX10_followTimes_1 : decode cX10_followTimes 1 = .ok (.getfield 26, 3) := dok_at gdX10_followTimes_l0 1 rfl
theorem dX10_followTimes_4 : decode cX10_followTimes 4 = .ok (.aload_n 0, 1) := dok_at gdX10_followTimes_l0 2 rfl
theorem dX10_followTimes_5 : decode cX10_followTimes 5 = .ok (.getfield 56, 3) := dok_at gdX10_followTimes_l0 3 rfl
theorem dX10_followTimes_8 : decode cX10_followTimes 8 = .ok (.invokevirtual 211, 3) := dok_at gdX10_followTimes_l0 4 rfl
theorem dX10_followTimes_11 : decode cX10_followTimes 11 = .ok (.aload_n 0, 1) := dok_at gdX10_followTimes_l0 5 rfl
theorem dX10_followTimes_12 : decode cX10_followTimes 12 = .ok (.getfield 26, 3) := dok_at gdX10_followTimes_l0 6 rfl
theorem dX10_followTimes_15 : decode cX10_followTimes 15 = .ok (.aload_n 0, 1) := dok_at gdX10_followTimes_l0 7 rfl
theorem dX10_followTimes_16 : decode cX10_followTimes 16 = .ok (.getfield 19, 3) := dok_at gdX10_followTimes_l0 8 rfl
theorem dX10_followTimes_19 : decode cX10_followTimes 19 = .ok (.getfield 150, 3) := dok_at gdX10_followTimes_l0 9 rfl
theorem dX10_followTimes_22 : decode cX10_followTimes 22 = .ok (.invokevirtual 318, 3) := dok_at gdX10_followTimes_l0 10 rfl
theorem dX10_followTimes_25 : decode cX10_followTimes 25 = .ok (.aload_n 0, 1) := dok_at gdX10_followTimes_l0 11 rfl
theorem dX10_followTimes_26 : decode cX10_followTimes 26 = .ok (.getfield 26, 3) := dok_at gdX10_followTimes_l0 12 rfl
theorem dX10_followTimes_29 : decode cX10_followTimes 29 = .ok (.aload_n 0, 1) := dok_at gdX10_followTimes_l0 13 rfl
theorem dX10_followTimes_30 : decode cX10_followTimes 30 = .ok (.getfield 56, 3) := dok_at gdX10_followTimes_l0 14 rfl
theorem dX10_followTimes_33 : decode cX10_followTimes 33 = .ok (.aload_n 0, 1) := dok_at gdX10_followTimes_l0 15 rfl
theorem dX10_followTimes_34 : decode cX10_followTimes 34 = .ok (.invokevirtual 218, 3) := dok_at gdX10_followTimes_l0 16 rfl
theorem dX10_followTimes_37 : decode cX10_followTimes 37 = .ok (.invokevirtual 221, 3) := dok_at gdX10_followTimes_l0 17 rfl
theorem dX10_followTimes_40 : decode cX10_followTimes 40 = .ok (.return_, 1) := dok_at gdX10_followTimes_l0 18 rfl
def dX10_forgetReckoned_l0 : List (Nat × Instr × Nat) := [(0, .aload_n 0, 1), (1, .getfield 35, 3), (4, .invokevirtual 321, 3), (7, .aload_n 0, 1), (8, .getfield 42, 3), (11, .iconst 0, 1), (12, .putfield 324, 3), (15, .return_, 1)]
theorem gdX10_forgetReckoned_l0 : dok cX10_forgetReckoned dX10_forgetReckoned_l0 = true := by decide +kernel
theorem dX10_forgetReckoned_0 : decode cX10_forgetReckoned 0 = .ok (.aload_n 0, 1) := dok_at gdX10_forgetReckoned_l0 0 rfl
theorem dX10_forgetReckoned_1 : decode cX10_forgetReckoned 1 = .ok (.getfield 35, 3) := dok_at gdX10_forgetReckoned_l0 1 rfl
theorem dX10_forgetReckoned_4 : decode cX10_forgetReckoned 4 = .ok (.invokevirtual 321, 3) := dok_at gdX10_forgetReckoned_l0 2 rfl
theorem dX10_forgetReckoned_7 : decode cX10_forgetReckoned 7 = .ok (.aload_n 0, 1) := dok_at gdX10_forgetReckoned_l0 3 rfl
theorem dX10_forgetReckoned_8 : decode cX10_forgetReckoned 8 = .ok (.getfield 42, 3) := dok_at gdX10_forgetReckoned_l0 4 rfl
theorem dX10_forgetReckoned_11 : decode cX10_forgetReckoned 11 = .ok (.iconst 0, 1) := dok_at gdX10_forgetReckoned_l0 5 rfl
theorem dX10_forgetReckoned_12 : decode cX10_forgetReckoned 12 = .ok (.putfield 324, 3) := dok_at gdX10_forgetReckoned_l0 6 rfl
theorem dX10_forgetReckoned_15 : decode cX10_forgetReckoned 15 = .ok (.return_, 1) := dok_at gdX10_forgetReckoned_l0 7 rfl
def dX10_compareSheet_l0 : List (Nat × Instr × Nat) := [(0, .iconst 0, 1), (1, .istore 5, 2), (3, .bipush (-4), 2), (5, .istore 6, 2), (7, .iconst 0, 1), (8, .istore 7, 2), (10, .iconst 0, 1), (11, .istore 8, 2), (13, .iload 8, 2), (15, .iload_n 3, 1), (16, .if_icmp .ge 120, 3), (19, .iload_n 2, 1), (20, .iload 8, 2), (22, .iadd, 1), (23, .istore 9, 2), (25, .iload 9, 2), (27, .ifCond .lt 17, 3), (30, .iload 9, 2), (32, .aload_n 0, 1), (33, .getfield 49, 3), (36, .getfield 305, 3), (39, .iload_n 1, 1), (40, .iaload, 1), (41, .if_icmp .lt 6, 3)]
theorem gdX10_compareSheet_l0 : dok cX10_compareSheet dX10_compareSheet_l0 = true := by decide +kernel
theorem dX10_compareSheet_0 : decode cX10_compareSheet 0 = .ok (.iconst 0, 1) := dok_at gdX10_compareSheet_l0 0 rfl
theorem dX10_compareSheet_1 : decode cX10_compareSheet 1 = .ok (.istore 5, 2) := dok_at gdX10_compareSheet_l0 1 rfl
theorem dX10_compareSheet_3 : decode cX10_compareSheet 3 = .ok (.bipush (-4), 2) := dok_at gdX10_compareSheet_l0 2 rfl
theorem dX10_compareSheet_5 : decode cX10_compareSheet 5 = .ok (.istore 6, 2) := dok_at gdX10_compareSheet_l0 3 rfl
theorem dX10_compareSheet_7 : decode cX10_compareSheet 7 = .ok (.iconst 0, 1) := dok_at gdX10_compareSheet_l0 4 rfl
theorem dX10_compareSheet_8 : decode cX10_compareSheet 8 = .ok (.istore 7, 2) := dok_at gdX10_compareSheet_l0 5 rfl
theorem dX10_compareSheet_10 : decode cX10_compareSheet 10 = .ok (.iconst 0, 1) := dok_at gdX10_compareSheet_l0 6 rfl
theorem dX10_compareSheet_11 : decode cX10_compareSheet 11 = .ok (.istore 8, 2) := dok_at gdX10_compareSheet_l0 7 rfl
theorem dX10_compareSheet_13 : decode cX10_compareSheet 13 = .ok (.iload 8, 2) := dok_at gdX10_compareSheet_l0 8 rfl
theorem dX10_compareSheet_15 : decode cX10_compareSheet 15 = .ok (.iload_n 3, 1) := dok_at gdX10_compareSheet_l0 9 rfl
theorem dX10_compareSheet_16 : decode cX10_compareSheet 16 = .ok (.if_icmp .ge 120, 3) := dok_at gdX10_compareSheet_l0 10 rfl
theorem dX10_compareSheet_19 : decode cX10_compareSheet 19 = .ok (.iload_n 2, 1) := dok_at gdX10_compareSheet_l0 11 rfl
theorem dX10_compareSheet_20 : decode cX10_compareSheet 20 = .ok (.iload 8, 2) := dok_at gdX10_compareSheet_l0 12 rfl
theorem dX10_compareSheet_22 : decode cX10_compareSheet 22 = .ok (.iadd, 1) := dok_at gdX10_compareSheet_l0 13 rfl
theorem dX10_compareSheet_23 : decode cX10_compareSheet 23 = .ok (.istore 9, 2) := dok_at gdX10_compareSheet_l0 14 rfl
theorem dX10_compareSheet_25 : decode cX10_compareSheet 25 = .ok (.iload 9, 2) := dok_at gdX10_compareSheet_l0 15 rfl
theorem dX10_compareSheet_27 : decode cX10_compareSheet 27 = .ok (.ifCond .lt 17, 3) := dok_at gdX10_compareSheet_l0 16 rfl
theorem dX10_compareSheet_30 : decode cX10_compareSheet 30 = .ok (.iload 9, 2) := dok_at gdX10_compareSheet_l0 17 rfl
theorem dX10_compareSheet_32 : decode cX10_compareSheet 32 = .ok (.aload_n 0, 1) := dok_at gdX10_compareSheet_l0 18 rfl
theorem dX10_compareSheet_33 : decode cX10_compareSheet 33 = .ok (.getfield 49, 3) := dok_at gdX10_compareSheet_l0 19 rfl
theorem dX10_compareSheet_36 : decode cX10_compareSheet 36 = .ok (.getfield 305, 3) := dok_at gdX10_compareSheet_l0 20 rfl
theorem dX10_compareSheet_39 : decode cX10_compareSheet 39 = .ok (.iload_n 1, 1) := dok_at gdX10_compareSheet_l0 21 rfl
theorem dX10_compareSheet_40 : decode cX10_compareSheet 40 = .ok (.iaload, 1) := dok_at gdX10_compareSheet_l0 22 rfl
theorem dX10_compareSheet_41 : decode cX10_compareSheet 41 = .ok (.if_icmp .lt 6, 3) := dok_at gdX10_compareSheet_l0 23 rfl
def dX10_compareSheet_l44 : List (Nat × Instr × Nat) := [(44, .bipush (-12), 2), (46, .ireturn, 1), (47, .aload_n 0, 1), (48, .getfield 49, 3), (51, .getfield 327, 3), (54, .iload_n 1, 1), (55, .aaload, 1), (56, .iload 9, 2), (58, .iaload, 1), (59, .istore 10, 2), (61, .iload 10, 2), (63, .ifCond .lt 11, 3), (66, .iload 10, 2), (68, .sipush 9999, 3), (71, .if_icmp .le 9, 3), (74, .bipush (-20), 2), (76, .iload 8, 2), (78, .isub, 1), (79, .ireturn, 1), (80, .iload 10, 2), (82, .aload_n 0, 1), (83, .getfield 26, 3), (86, .aload_n 0, 1), (87, .getfield 56, 3)]
theorem gdX10_compareSheet_l44 : dok cX10_compareSheet dX10_compareSheet_l44 = true := by decide +kernel
theorem dX10_compareSheet_44 : decode cX10_compareSheet 44 = .ok (.bipush (-12), 2) := dok_at gdX10_compareSheet_l44 0 rfl
theorem dX10_compareSheet_46 : decode cX10_compareSheet 46 = .ok (.ireturn, 1) := dok_at gdX10_compareSheet_l44 1 rfl
theorem dX10_compareSheet_47 : decode cX10_compareSheet 47 = .ok (.aload_n 0, 1) := dok_at gdX10_compareSheet_l44 2 rfl
theorem dX10_compareSheet_48 : decode cX10_compareSheet 48 = .ok (.getfield 49, 3) := dok_at gdX10_compareSheet_l44 3 rfl
theorem dX10_compareSheet_51 : decode cX10_compareSheet 51 = .ok (.getfield 327, 3) := dok_at gdX10_compareSheet_l44 4 rfl
theorem dX10_compareSheet_54 : decode cX10_compareSheet 54 = .ok (.iload_n 1, 1) := dok_at gdX10_compareSheet_l44 5 rfl
theorem dX10_compareSheet_55 : decode cX10_compareSheet 55 = .ok (.aaload, 1) := dok_at gdX10_compareSheet_l44 6 rfl
theorem dX10_compareSheet_56 : decode cX10_compareSheet 56 = .ok (.iload 9, 2) := dok_at gdX10_compareSheet_l44 7 rfl
theorem dX10_compareSheet_58 : decode cX10_compareSheet 58 = .ok (.iaload, 1) := dok_at gdX10_compareSheet_l44 8 rfl
theorem dX10_compareSheet_59 : decode cX10_compareSheet 59 = .ok (.istore 10, 2) := dok_at gdX10_compareSheet_l44 9 rfl
theorem dX10_compareSheet_61 : decode cX10_compareSheet 61 = .ok (.iload 10, 2) := dok_at gdX10_compareSheet_l44 10 rfl
theorem dX10_compareSheet_63 : decode cX10_compareSheet 63 = .ok (.ifCond .lt 11, 3) := dok_at gdX10_compareSheet_l44 11 rfl
theorem dX10_compareSheet_66 : decode cX10_compareSheet 66 = .ok (.iload 10, 2) := dok_at gdX10_compareSheet_l44 12 rfl
theorem dX10_compareSheet_68 : decode cX10_compareSheet 68 = .ok (.sipush 9999, 3) := dok_at gdX10_compareSheet_l44 13 rfl
theorem dX10_compareSheet_71 : decode cX10_compareSheet 71 = .ok (.if_icmp .le 9, 3) := dok_at gdX10_compareSheet_l44 14 rfl
theorem dX10_compareSheet_74 : decode cX10_compareSheet 74 = .ok (.bipush (-20), 2) := dok_at gdX10_compareSheet_l44 15 rfl
theorem dX10_compareSheet_76 : decode cX10_compareSheet 76 = .ok (.iload 8, 2) := dok_at gdX10_compareSheet_l44 16 rfl
theorem dX10_compareSheet_78 : decode cX10_compareSheet 78 = .ok (.isub, 1) := dok_at gdX10_compareSheet_l44 17 rfl
theorem dX10_compareSheet_79 : decode cX10_compareSheet 79 = .ok (.ireturn, 1) := dok_at gdX10_compareSheet_l44 18 rfl
theorem dX10_compareSheet_80 : decode cX10_compareSheet 80 = .ok (.iload 10, 2) := dok_at gdX10_compareSheet_l44 19 rfl
theorem dX10_compareSheet_82 : decode cX10_compareSheet 82 = .ok (.aload_n 0, 1) := dok_at gdX10_compareSheet_l44 20 rfl
theorem dX10_compareSheet_83 : decode cX10_compareSheet 83 = .ok (.getfield 26, 3) := dok_at gdX10_compareSheet_l44 21 rfl
theorem dX10_compareSheet_86 : decode cX10_compareSheet 86 = .ok (.aload_n 0, 1) := dok_at gdX10_compareSheet_l44 22 rfl
theorem dX10_compareSheet_87 : decode cX10_compareSheet 87 = .ok (.getfield 56, 3) := dok_at gdX10_compareSheet_l44 23 rfl
def dX10_compareSheet_l90 : List (Nat × Instr × Nat) := [(90, .iload 8, 2), (92, .invokevirtual 237, 3), (95, .isub, 1), (96, .invokestatic 331, 3), (99, .istore 11, 2), (101, .iload 7, 2), (103, .iload 11, 2), (105, .iadd, 1), (106, .istore 7, 2), (108, .iload 11, 2), (110, .ifCond .ne 9, 3), (113, .iinc 5 1, 3), (116, .goto 14, 3), (119, .iload 6, 2), (121, .bipush (-4), 2), (123, .if_icmp .ne 7, 3), (126, .iload 8, 2), (128, .istore 6, 2), (130, .iinc 8 1, 3), (133, .goto (-120), 3), (136, .iload 4, 2), (138, .ifCond .ne 8, 3), (141, .iload 5, 2), (143, .goto 16, 3)]
theorem gdX10_compareSheet_l90 : dok cX10_compareSheet dX10_compareSheet_l90 = true := by decide +kernel
theorem dX10_compareSheet_90 : decode cX10_compareSheet 90 = .ok (.iload 8, 2) := dok_at gdX10_compareSheet_l90 0 rfl
theorem dX10_compareSheet_92 : decode cX10_compareSheet 92 = .ok (.invokevirtual 237, 3) := dok_at gdX10_compareSheet_l90 1 rfl
theorem dX10_compareSheet_95 : decode cX10_compareSheet 95 = .ok (.isub, 1) := dok_at gdX10_compareSheet_l90 2 rfl
theorem dX10_compareSheet_96 : decode cX10_compareSheet 96 = .ok (.invokestatic 331, 3) := dok_at gdX10_compareSheet_l90 3 rfl
theorem dX10_compareSheet_99 : decode cX10_compareSheet 99 = .ok (.istore 11, 2) := dok_at gdX10_compareSheet_l90 4 rfl
theorem dX10_compareSheet_101 : decode cX10_compareSheet 101 = .ok (.iload 7, 2) := dok_at gdX10_compareSheet_l90 5 rfl
theorem dX10_compareSheet_103 : decode cX10_compareSheet 103 = .ok (.iload 11, 2) := dok_at gdX10_compareSheet_l90 6 rfl
theorem dX10_compareSheet_105 : decode cX10_compareSheet 105 = .ok (.iadd, 1) := dok_at gdX10_compareSheet_l90 7 rfl
theorem dX10_compareSheet_106 : decode cX10_compareSheet 106 = .ok (.istore 7, 2) := dok_at gdX10_compareSheet_l90 8 rfl
theorem dX10_compareSheet_108 : decode cX10_compareSheet 108 = .ok (.iload 11, 2) := dok_at gdX10_compareSheet_l90 9 rfl
theorem dX10_compareSheet_110 : decode cX10_compareSheet 110 = .ok (.ifCond .ne 9, 3) := dok_at gdX10_compareSheet_l90 10 rfl
theorem dX10_compareSheet_113 : decode cX10_compareSheet 113 = .ok (.iinc 5 1, 3) := dok_at gdX10_compareSheet_l90 11 rfl
theorem dX10_compareSheet_116 : decode cX10_compareSheet 116 = .ok (.goto 14, 3) := dok_at gdX10_compareSheet_l90 12 rfl
theorem dX10_compareSheet_119 : decode cX10_compareSheet 119 = .ok (.iload 6, 2) := dok_at gdX10_compareSheet_l90 13 rfl
theorem dX10_compareSheet_121 : decode cX10_compareSheet 121 = .ok (.bipush (-4), 2) := dok_at gdX10_compareSheet_l90 14 rfl
theorem dX10_compareSheet_123 : decode cX10_compareSheet 123 = .ok (.if_icmp .ne 7, 3) := dok_at gdX10_compareSheet_l90 15 rfl
theorem dX10_compareSheet_126 : decode cX10_compareSheet 126 = .ok (.iload 8, 2) := dok_at gdX10_compareSheet_l90 16 rfl
theorem dX10_compareSheet_128 : decode cX10_compareSheet 128 = .ok (.istore 6, 2) := dok_at gdX10_compareSheet_l90 17 rfl
theorem dX10_compareSheet_130 : decode cX10_compareSheet 130 = .ok (.iinc 8 1, 3) := dok_at gdX10_compareSheet_l90 18 rfl
theorem dX10_compareSheet_133 : decode cX10_compareSheet 133 = .ok (.goto (-120), 3) := dok_at gdX10_compareSheet_l90 19 rfl
theorem dX10_compareSheet_136 : decode cX10_compareSheet 136 = .ok (.iload 4, 2) := dok_at gdX10_compareSheet_l90 20 rfl
theorem dX10_compareSheet_138 : decode cX10_compareSheet 138 = .ok (.ifCond .ne 8, 3) := dok_at gdX10_compareSheet_l90 21 rfl
theorem dX10_compareSheet_141 : decode cX10_compareSheet 141 = .ok (.iload 5, 2) := dok_at gdX10_compareSheet_l90 22 rfl
theorem dX10_compareSheet_143 : decode cX10_compareSheet 143 = .ok (.goto 16, 3) := dok_at gdX10_compareSheet_l90 23 rfl
def dX10_compareSheet_l146 : List (Nat × Instr × Nat) := [(146, .iload 4, 2), (148, .iconst 1, 1), (149, .if_icmp .ne 8, 3), (152, .iload 6, 2), (154, .goto 5, 3), (157, .iload 7, 2), (159, .ireturn, 1)]
theorem gdX10_compareSheet_l146 : dok cX10_compareSheet dX10_compareSheet_l146 = true := by decide +kernel
theorem dX10_compareSheet_146 : decode cX10_compareSheet 146 = .ok (.iload 4, 2) := dok_at gdX10_compareSheet_l146 0 rfl
theorem dX10_compareSheet_148 : decode cX10_compareSheet 148 = .ok (.iconst 1, 1) := dok_at gdX10_compareSheet_l146 1 rfl
theorem dX10_compareSheet_149 : decode cX10_compareSheet 149 = .ok (.if_icmp .ne 8, 3) := dok_at gdX10_compareSheet_l146 2 rfl
theorem dX10_compareSheet_152 : decode cX10_compareSheet 152 = .ok (.iload 6, 2) := dok_at gdX10_compareSheet_l146 3 rfl
theorem dX10_compareSheet_154 : decode cX10_compareSheet 154 = .ok (.goto 5, 3) := dok_at gdX10_compareSheet_l146 4 rfl
theorem dX10_compareSheet_157 : decode cX10_compareSheet 157 = .ok (.iload 7, 2) := dok_at gdX10_compareSheet_l146 5 rfl
theorem dX10_compareSheet_159 : decode cX10_compareSheet 159 = .ok (.ireturn, 1) := dok_at gdX10_compareSheet_l146 6 rfl
def dL_law_l0 : List (Nat × Instr × Nat) := [(0, .new 7, 3), (3, .dup, 1), (4, .invokespecial 9, 3), (7, .astore_n 1, 1), (8, .new 10, 3), (11, .dup, 1), (12, .invokespecial 12, 3), (15, .astore_n 2, 1), (16, .iconst 0, 1), (17, .istore_n 3, 1), (18, .iload_n 3, 1), (19, .aload_n 0, 1), (20, .arraylength, 1), (21, .bipush 6, 2), (23, .isub, 1), (24, .if_icmp .gt 1099, 3), (27, .aload_n 0, 1), (28, .iload_n 3, 1), (29, .iaload, 1), (30, .bipush 31, 2), (32, .iand, 1), (33, .tableswitch 1084 0 30 #[139, 192, 215, 228, 241, 274, 297, 330, 363, 402, 451, 484, 507, 530, 563, 596, 619, 652, 695, 718, 741, 764, 777, 800, 833, 866, 889, 912, 955, 998, 1061], 139), (172, .aload_n 1, 1), (173, .aload_n 0, 1)]
theorem gdL_law_l0 : dok cL_law dL_law_l0 = true := by decide +kernel
theorem dL_law_0 : decode cL_law 0 = .ok (.new 7, 3) := dok_at gdL_law_l0 0 rfl
theorem dL_law_3 : decode cL_law 3 = .ok (.dup, 1) := dok_at gdL_law_l0 1 rfl
theorem dL_law_4 : decode cL_law 4 = .ok (.invokespecial 9, 3) := dok_at gdL_law_l0 2 rfl
theorem dL_law_7 : decode cL_law 7 = .ok (.astore_n 1, 1) := dok_at gdL_law_l0 3 rfl
theorem dL_law_8 : decode cL_law 8 = .ok (.new 10, 3) := dok_at gdL_law_l0 4 rfl
theorem dL_law_11 : decode cL_law 11 = .ok (.dup, 1) := dok_at gdL_law_l0 5 rfl
theorem dL_law_12 : decode cL_law 12 = .ok (.invokespecial 12, 3) := dok_at gdL_law_l0 6 rfl
theorem dL_law_15 : decode cL_law 15 = .ok (.astore_n 2, 1) := dok_at gdL_law_l0 7 rfl
theorem dL_law_16 : decode cL_law 16 = .ok (.iconst 0, 1) := dok_at gdL_law_l0 8 rfl
theorem dL_law_17 : decode cL_law 17 = .ok (.istore_n 3, 1) := dok_at gdL_law_l0 9 rfl
theorem dL_law_18 : decode cL_law 18 = .ok (.iload_n 3, 1) := dok_at gdL_law_l0 10 rfl
theorem dL_law_19 : decode cL_law 19 = .ok (.aload_n 0, 1) := dok_at gdL_law_l0 11 rfl
theorem dL_law_20 : decode cL_law 20 = .ok (.arraylength, 1) := dok_at gdL_law_l0 12 rfl
theorem dL_law_21 : decode cL_law 21 = .ok (.bipush 6, 2) := dok_at gdL_law_l0 13 rfl
theorem dL_law_23 : decode cL_law 23 = .ok (.isub, 1) := dok_at gdL_law_l0 14 rfl
theorem dL_law_24 : decode cL_law 24 = .ok (.if_icmp .gt 1099, 3) := dok_at gdL_law_l0 15 rfl
theorem dL_law_27 : decode cL_law 27 = .ok (.aload_n 0, 1) := dok_at gdL_law_l0 16 rfl
theorem dL_law_28 : decode cL_law 28 = .ok (.iload_n 3, 1) := dok_at gdL_law_l0 17 rfl
theorem dL_law_29 : decode cL_law 29 = .ok (.iaload, 1) := dok_at gdL_law_l0 18 rfl
theorem dL_law_30 : decode cL_law 30 = .ok (.bipush 31, 2) := dok_at gdL_law_l0 19 rfl
theorem dL_law_32 : decode cL_law 32 = .ok (.iand, 1) := dok_at gdL_law_l0 20 rfl
theorem dL_law_33 : decode cL_law 33 = .ok (.tableswitch 1084 0 30 #[139, 192, 215, 228, 241, 274, 297, 330, 363, 402, 451, 484, 507, 530, 563, 596, 619, 652, 695, 718, 741, 764, 777, 800, 833, 866, 889, 912, 955, 998, 1061], 139) := dok_at gdL_law_l0 21 rfl
theorem dL_law_172 : decode cL_law 172 = .ok (.aload_n 1, 1) := dok_at gdL_law_l0 22 rfl
theorem dL_law_173 : decode cL_law 173 = .ok (.aload_n 0, 1) := dok_at gdL_law_l0 23 rfl
def dL_law_l174 : List (Nat × Instr × Nat) := [(174, .iload_n 3, 1), (175, .iconst 1, 1), (176, .iadd, 1), (177, .iaload, 1), (178, .i2l, 1), (179, .bipush 32, 2), (181, .lshl, 1), (182, .aload_n 0, 1), (183, .iload_n 3, 1), (184, .iconst 2, 1), (185, .iadd, 1), (186, .iaload, 1), (187, .i2l, 1), (188, .ldc2_w 13, 3), (191, .land, 1), (192, .lor, 1), (193, .invokevirtual 15, 3), (196, .pop, 1), (197, .aload_n 2, 1), (198, .aload_n 0, 1), (199, .iload_n 3, 1), (200, .iconst 1, 1), (201, .iadd, 1), (202, .iaload, 1)]
theorem gdL_law_l174 : dok cL_law dL_law_l174 = true := by decide +kernel
theorem dL_law_174 : decode cL_law 174 = .ok (.iload_n 3, 1) := dok_at gdL_law_l174 0 rfl
theorem dL_law_175 : decode cL_law 175 = .ok (.iconst 1, 1) := dok_at gdL_law_l174 1 rfl
theorem dL_law_176 : decode cL_law 176 = .ok (.iadd, 1) := dok_at gdL_law_l174 2 rfl
theorem dL_law_177 : decode cL_law 177 = .ok (.iaload, 1) := dok_at gdL_law_l174 3 rfl
theorem dL_law_178 : decode cL_law 178 = .ok (.i2l, 1) := dok_at gdL_law_l174 4 rfl
theorem dL_law_179 : decode cL_law 179 = .ok (.bipush 32, 2) := dok_at gdL_law_l174 5 rfl
theorem dL_law_181 : decode cL_law 181 = .ok (.lshl, 1) := dok_at gdL_law_l174 6 rfl
theorem dL_law_182 : decode cL_law 182 = .ok (.aload_n 0, 1) := dok_at gdL_law_l174 7 rfl
theorem dL_law_183 : decode cL_law 183 = .ok (.iload_n 3, 1) := dok_at gdL_law_l174 8 rfl
theorem dL_law_184 : decode cL_law 184 = .ok (.iconst 2, 1) := dok_at gdL_law_l174 9 rfl
theorem dL_law_185 : decode cL_law 185 = .ok (.iadd, 1) := dok_at gdL_law_l174 10 rfl
theorem dL_law_186 : decode cL_law 186 = .ok (.iaload, 1) := dok_at gdL_law_l174 11 rfl
theorem dL_law_187 : decode cL_law 187 = .ok (.i2l, 1) := dok_at gdL_law_l174 12 rfl
theorem dL_law_188 : decode cL_law 188 = .ok (.ldc2_w 13, 3) := dok_at gdL_law_l174 13 rfl
theorem dL_law_191 : decode cL_law 191 = .ok (.land, 1) := dok_at gdL_law_l174 14 rfl
theorem dL_law_192 : decode cL_law 192 = .ok (.lor, 1) := dok_at gdL_law_l174 15 rfl
theorem dL_law_193 : decode cL_law 193 = .ok (.invokevirtual 15, 3) := dok_at gdL_law_l174 16 rfl
theorem dL_law_196 : decode cL_law 196 = .ok (.pop, 1) := dok_at gdL_law_l174 17 rfl
theorem dL_law_197 : decode cL_law 197 = .ok (.aload_n 2, 1) := dok_at gdL_law_l174 18 rfl
theorem dL_law_198 : decode cL_law 198 = .ok (.aload_n 0, 1) := dok_at gdL_law_l174 19 rfl
theorem dL_law_199 : decode cL_law 199 = .ok (.iload_n 3, 1) := dok_at gdL_law_l174 20 rfl
theorem dL_law_200 : decode cL_law 200 = .ok (.iconst 1, 1) := dok_at gdL_law_l174 21 rfl
theorem dL_law_201 : decode cL_law 201 = .ok (.iadd, 1) := dok_at gdL_law_l174 22 rfl
theorem dL_law_202 : decode cL_law 202 = .ok (.iaload, 1) := dok_at gdL_law_l174 23 rfl
def dL_law_l203 : List (Nat × Instr × Nat) := [(203, .i2l, 1), (204, .bipush 32, 2), (206, .lshl, 1), (207, .aload_n 0, 1), (208, .iload_n 3, 1), (209, .iconst 2, 1), (210, .iadd, 1), (211, .iaload, 1), (212, .i2l, 1), (213, .ldc2_w 13, 3), (216, .land, 1), (217, .lor, 1), (218, .invokevirtual 19, 3), (221, .pop, 1), (222, .goto 895, 3), (225, .aload_n 1, 1), (226, .aload_n 0, 1), (227, .iload_n 3, 1), (228, .iconst 1, 1), (229, .iadd, 1), (230, .iaload, 1), (231, .invokevirtual 20, 3), (234, .pop, 1), (235, .aload_n 2, 1)]
theorem gdL_law_l203 : dok cL_law dL_law_l203 = true := by decide +kernel
theorem dL_law_203 : decode cL_law 203 = .ok (.i2l, 1) := dok_at gdL_law_l203 0 rfl
theorem dL_law_204 : decode cL_law 204 = .ok (.bipush 32, 2) := dok_at gdL_law_l203 1 rfl
theorem dL_law_206 : decode cL_law 206 = .ok (.lshl, 1) := dok_at gdL_law_l203 2 rfl
theorem dL_law_207 : decode cL_law 207 = .ok (.aload_n 0, 1) := dok_at gdL_law_l203 3 rfl
theorem dL_law_208 : decode cL_law 208 = .ok (.iload_n 3, 1) := dok_at gdL_law_l203 4 rfl
theorem dL_law_209 : decode cL_law 209 = .ok (.iconst 2, 1) := dok_at gdL_law_l203 5 rfl
theorem dL_law_210 : decode cL_law 210 = .ok (.iadd, 1) := dok_at gdL_law_l203 6 rfl
theorem dL_law_211 : decode cL_law 211 = .ok (.iaload, 1) := dok_at gdL_law_l203 7 rfl
theorem dL_law_212 : decode cL_law 212 = .ok (.i2l, 1) := dok_at gdL_law_l203 8 rfl
theorem dL_law_213 : decode cL_law 213 = .ok (.ldc2_w 13, 3) := dok_at gdL_law_l203 9 rfl
theorem dL_law_216 : decode cL_law 216 = .ok (.land, 1) := dok_at gdL_law_l203 10 rfl
theorem dL_law_217 : decode cL_law 217 = .ok (.lor, 1) := dok_at gdL_law_l203 11 rfl
theorem dL_law_218 : decode cL_law 218 = .ok (.invokevirtual 19, 3) := dok_at gdL_law_l203 12 rfl
theorem dL_law_221 : decode cL_law 221 = .ok (.pop, 1) := dok_at gdL_law_l203 13 rfl
theorem dL_law_222 : decode cL_law 222 = .ok (.goto 895, 3) := dok_at gdL_law_l203 14 rfl
theorem dL_law_225 : decode cL_law 225 = .ok (.aload_n 1, 1) := dok_at gdL_law_l203 15 rfl
theorem dL_law_226 : decode cL_law 226 = .ok (.aload_n 0, 1) := dok_at gdL_law_l203 16 rfl
theorem dL_law_227 : decode cL_law 227 = .ok (.iload_n 3, 1) := dok_at gdL_law_l203 17 rfl
theorem dL_law_228 : decode cL_law 228 = .ok (.iconst 1, 1) := dok_at gdL_law_l203 18 rfl
theorem dL_law_229 : decode cL_law 229 = .ok (.iadd, 1) := dok_at gdL_law_l203 19 rfl
theorem dL_law_230 : decode cL_law 230 = .ok (.iaload, 1) := dok_at gdL_law_l203 20 rfl
theorem dL_law_231 : decode cL_law 231 = .ok (.invokevirtual 20, 3) := dok_at gdL_law_l203 21 rfl
theorem dL_law_234 : decode cL_law 234 = .ok (.pop, 1) := dok_at gdL_law_l203 22 rfl
theorem dL_law_235 : decode cL_law 235 = .ok (.aload_n 2, 1) := dok_at gdL_law_l203 23 rfl
def dL_law_l236 : List (Nat × Instr × Nat) := [(236, .aload_n 0, 1), (237, .iload_n 3, 1), (238, .iconst 1, 1), (239, .iadd, 1), (240, .iaload, 1), (241, .invokevirtual 24, 3), (244, .pop, 1), (245, .goto 872, 3), (248, .aload_n 1, 1), (249, .invokevirtual 25, 3), (252, .pop, 1), (253, .aload_n 2, 1), (254, .invokevirtual 29, 3), (257, .pop, 1), (258, .goto 859, 3), (261, .aload_n 1, 1), (262, .invokevirtual 30, 3), (265, .pop, 1), (266, .aload_n 2, 1), (267, .invokevirtual 33, 3), (270, .pop, 1), (271, .goto 846, 3), (274, .aload_n 1, 1), (275, .aload_n 0, 1)]
theorem gdL_law_l236 : dok cL_law dL_law_l236 = true := by decide +kernel
theorem dL_law_236 : decode cL_law 236 = .ok (.aload_n 0, 1) := dok_at gdL_law_l236 0 rfl
theorem dL_law_237 : decode cL_law 237 = .ok (.iload_n 3, 1) := dok_at gdL_law_l236 1 rfl
theorem dL_law_238 : decode cL_law 238 = .ok (.iconst 1, 1) := dok_at gdL_law_l236 2 rfl
theorem dL_law_239 : decode cL_law 239 = .ok (.iadd, 1) := dok_at gdL_law_l236 3 rfl
theorem dL_law_240 : decode cL_law 240 = .ok (.iaload, 1) := dok_at gdL_law_l236 4 rfl
theorem dL_law_241 : decode cL_law 241 = .ok (.invokevirtual 24, 3) := dok_at gdL_law_l236 5 rfl
theorem dL_law_244 : decode cL_law 244 = .ok (.pop, 1) := dok_at gdL_law_l236 6 rfl
theorem dL_law_245 : decode cL_law 245 = .ok (.goto 872, 3) := dok_at gdL_law_l236 7 rfl
theorem dL_law_248 : decode cL_law 248 = .ok (.aload_n 1, 1) := dok_at gdL_law_l236 8 rfl
theorem dL_law_249 : decode cL_law 249 = .ok (.invokevirtual 25, 3) := dok_at gdL_law_l236 9 rfl
theorem dL_law_252 : decode cL_law 252 = .ok (.pop, 1) := dok_at gdL_law_l236 10 rfl
theorem dL_law_253 : decode cL_law 253 = .ok (.aload_n 2, 1) := dok_at gdL_law_l236 11 rfl
theorem dL_law_254 : decode cL_law 254 = .ok (.invokevirtual 29, 3) := dok_at gdL_law_l236 12 rfl
theorem dL_law_257 : decode cL_law 257 = .ok (.pop, 1) := dok_at gdL_law_l236 13 rfl
theorem dL_law_258 : decode cL_law 258 = .ok (.goto 859, 3) := dok_at gdL_law_l236 14 rfl
theorem dL_law_261 : decode cL_law 261 = .ok (.aload_n 1, 1) := dok_at gdL_law_l236 15 rfl
theorem dL_law_262 : decode cL_law 262 = .ok (.invokevirtual 30, 3) := dok_at gdL_law_l236 16 rfl
theorem dL_law_265 : decode cL_law 265 = .ok (.pop, 1) := dok_at gdL_law_l236 17 rfl
theorem dL_law_266 : decode cL_law 266 = .ok (.aload_n 2, 1) := dok_at gdL_law_l236 18 rfl
theorem dL_law_267 : decode cL_law 267 = .ok (.invokevirtual 33, 3) := dok_at gdL_law_l236 19 rfl
theorem dL_law_270 : decode cL_law 270 = .ok (.pop, 1) := dok_at gdL_law_l236 20 rfl
theorem dL_law_271 : decode cL_law 271 = .ok (.goto 846, 3) := dok_at gdL_law_l236 21 rfl
theorem dL_law_274 : decode cL_law 274 = .ok (.aload_n 1, 1) := dok_at gdL_law_l236 22 rfl
theorem dL_law_275 : decode cL_law 275 = .ok (.aload_n 0, 1) := dok_at gdL_law_l236 23 rfl
def dL_law_l276 : List (Nat × Instr × Nat) := [(276, .iload_n 3, 1), (277, .iconst 1, 1), (278, .iadd, 1), (279, .iaload, 1), (280, .aload_n 0, 1), (281, .iload_n 3, 1), (282, .iconst 2, 1), (283, .iadd, 1), (284, .iaload, 1), (285, .invokevirtual 34, 3), (288, .pop, 1), (289, .aload_n 2, 1), (290, .aload_n 0, 1), (291, .iload_n 3, 1), (292, .iconst 1, 1), (293, .iadd, 1), (294, .iaload, 1), (295, .aload_n 0, 1), (296, .iload_n 3, 1), (297, .iconst 2, 1), (298, .iadd, 1), (299, .iaload, 1), (300, .invokevirtual 38, 3), (303, .pop, 1)]
theorem gdL_law_l276 : dok cL_law dL_law_l276 = true := by decide +kernel
theorem dL_law_276 : decode cL_law 276 = .ok (.iload_n 3, 1) := dok_at gdL_law_l276 0 rfl
theorem dL_law_277 : decode cL_law 277 = .ok (.iconst 1, 1) := dok_at gdL_law_l276 1 rfl
theorem dL_law_278 : decode cL_law 278 = .ok (.iadd, 1) := dok_at gdL_law_l276 2 rfl
theorem dL_law_279 : decode cL_law 279 = .ok (.iaload, 1) := dok_at gdL_law_l276 3 rfl
theorem dL_law_280 : decode cL_law 280 = .ok (.aload_n 0, 1) := dok_at gdL_law_l276 4 rfl
theorem dL_law_281 : decode cL_law 281 = .ok (.iload_n 3, 1) := dok_at gdL_law_l276 5 rfl
theorem dL_law_282 : decode cL_law 282 = .ok (.iconst 2, 1) := dok_at gdL_law_l276 6 rfl
theorem dL_law_283 : decode cL_law 283 = .ok (.iadd, 1) := dok_at gdL_law_l276 7 rfl
theorem dL_law_284 : decode cL_law 284 = .ok (.iaload, 1) := dok_at gdL_law_l276 8 rfl
theorem dL_law_285 : decode cL_law 285 = .ok (.invokevirtual 34, 3) := dok_at gdL_law_l276 9 rfl
theorem dL_law_288 : decode cL_law 288 = .ok (.pop, 1) := dok_at gdL_law_l276 10 rfl
theorem dL_law_289 : decode cL_law 289 = .ok (.aload_n 2, 1) := dok_at gdL_law_l276 11 rfl
theorem dL_law_290 : decode cL_law 290 = .ok (.aload_n 0, 1) := dok_at gdL_law_l276 12 rfl
theorem dL_law_291 : decode cL_law 291 = .ok (.iload_n 3, 1) := dok_at gdL_law_l276 13 rfl
theorem dL_law_292 : decode cL_law 292 = .ok (.iconst 1, 1) := dok_at gdL_law_l276 14 rfl
theorem dL_law_293 : decode cL_law 293 = .ok (.iadd, 1) := dok_at gdL_law_l276 15 rfl
theorem dL_law_294 : decode cL_law 294 = .ok (.iaload, 1) := dok_at gdL_law_l276 16 rfl
theorem dL_law_295 : decode cL_law 295 = .ok (.aload_n 0, 1) := dok_at gdL_law_l276 17 rfl
theorem dL_law_296 : decode cL_law 296 = .ok (.iload_n 3, 1) := dok_at gdL_law_l276 18 rfl
theorem dL_law_297 : decode cL_law 297 = .ok (.iconst 2, 1) := dok_at gdL_law_l276 19 rfl
theorem dL_law_298 : decode cL_law 298 = .ok (.iadd, 1) := dok_at gdL_law_l276 20 rfl
theorem dL_law_299 : decode cL_law 299 = .ok (.iaload, 1) := dok_at gdL_law_l276 21 rfl
theorem dL_law_300 : decode cL_law 300 = .ok (.invokevirtual 38, 3) := dok_at gdL_law_l276 22 rfl
theorem dL_law_303 : decode cL_law 303 = .ok (.pop, 1) := dok_at gdL_law_l276 23 rfl
def dL_law_l304 : List (Nat × Instr × Nat) := [(304, .goto 813, 3), (307, .aload_n 1, 1), (308, .aload_n 0, 1), (309, .iload_n 3, 1), (310, .iconst 1, 1), (311, .iadd, 1), (312, .iaload, 1), (313, .invokevirtual 39, 3), (316, .pop, 1), (317, .aload_n 2, 1), (318, .aload_n 0, 1), (319, .iload_n 3, 1), (320, .iconst 1, 1), (321, .iadd, 1), (322, .iaload, 1), (323, .invokevirtual 42, 3), (326, .pop, 1), (327, .goto 790, 3), (330, .aload_n 1, 1), (331, .aload_n 0, 1), (332, .iload_n 3, 1), (333, .iconst 1, 1), (334, .iadd, 1), (335, .iaload, 1)]
theorem gdL_law_l304 : dok cL_law dL_law_l304 = true := by decide +kernel
theorem dL_law_304 : decode cL_law 304 = .ok (.goto 813, 3) := dok_at gdL_law_l304 0 rfl
theorem dL_law_307 : decode cL_law 307 = .ok (.aload_n 1, 1) := dok_at gdL_law_l304 1 rfl
theorem dL_law_308 : decode cL_law 308 = .ok (.aload_n 0, 1) := dok_at gdL_law_l304 2 rfl
theorem dL_law_309 : decode cL_law 309 = .ok (.iload_n 3, 1) := dok_at gdL_law_l304 3 rfl
theorem dL_law_310 : decode cL_law 310 = .ok (.iconst 1, 1) := dok_at gdL_law_l304 4 rfl
theorem dL_law_311 : decode cL_law 311 = .ok (.iadd, 1) := dok_at gdL_law_l304 5 rfl
theorem dL_law_312 : decode cL_law 312 = .ok (.iaload, 1) := dok_at gdL_law_l304 6 rfl
theorem dL_law_313 : decode cL_law 313 = .ok (.invokevirtual 39, 3) := dok_at gdL_law_l304 7 rfl
theorem dL_law_316 : decode cL_law 316 = .ok (.pop, 1) := dok_at gdL_law_l304 8 rfl
theorem dL_law_317 : decode cL_law 317 = .ok (.aload_n 2, 1) := dok_at gdL_law_l304 9 rfl
theorem dL_law_318 : decode cL_law 318 = .ok (.aload_n 0, 1) := dok_at gdL_law_l304 10 rfl
theorem dL_law_319 : decode cL_law 319 = .ok (.iload_n 3, 1) := dok_at gdL_law_l304 11 rfl
theorem dL_law_320 : decode cL_law 320 = .ok (.iconst 1, 1) := dok_at gdL_law_l304 12 rfl
theorem dL_law_321 : decode cL_law 321 = .ok (.iadd, 1) := dok_at gdL_law_l304 13 rfl
theorem dL_law_322 : decode cL_law 322 = .ok (.iaload, 1) := dok_at gdL_law_l304 14 rfl
theorem dL_law_323 : decode cL_law 323 = .ok (.invokevirtual 42, 3) := dok_at gdL_law_l304 15 rfl
theorem dL_law_326 : decode cL_law 326 = .ok (.pop, 1) := dok_at gdL_law_l304 16 rfl
theorem dL_law_327 : decode cL_law 327 = .ok (.goto 790, 3) := dok_at gdL_law_l304 17 rfl
theorem dL_law_330 : decode cL_law 330 = .ok (.aload_n 1, 1) := dok_at gdL_law_l304 18 rfl
theorem dL_law_331 : decode cL_law 331 = .ok (.aload_n 0, 1) := dok_at gdL_law_l304 19 rfl
theorem dL_law_332 : decode cL_law 332 = .ok (.iload_n 3, 1) := dok_at gdL_law_l304 20 rfl
theorem dL_law_333 : decode cL_law 333 = .ok (.iconst 1, 1) := dok_at gdL_law_l304 21 rfl
theorem dL_law_334 : decode cL_law 334 = .ok (.iadd, 1) := dok_at gdL_law_l304 22 rfl
theorem dL_law_335 : decode cL_law 335 = .ok (.iaload, 1) := dok_at gdL_law_l304 23 rfl
def dL_law_l336 : List (Nat × Instr × Nat) := [(336, .aload_n 0, 1), (337, .iload_n 3, 1), (338, .iconst 2, 1), (339, .iadd, 1), (340, .iaload, 1), (341, .invokevirtual 43, 3), (344, .pop, 1), (345, .aload_n 2, 1), (346, .aload_n 0, 1), (347, .iload_n 3, 1), (348, .iconst 1, 1), (349, .iadd, 1), (350, .iaload, 1), (351, .aload_n 0, 1), (352, .iload_n 3, 1), (353, .iconst 2, 1), (354, .iadd, 1), (355, .iaload, 1), (356, .invokevirtual 46, 3), (359, .pop, 1), (360, .goto 757, 3), (363, .aload_n 1, 1), (364, .aload_n 0, 1), (365, .iload_n 3, 1)]
theorem gdL_law_l336 : dok cL_law dL_law_l336 = true := by decide +kernel
theorem dL_law_336 : decode cL_law 336 = .ok (.aload_n 0, 1) := dok_at gdL_law_l336 0 rfl
theorem dL_law_337 : decode cL_law 337 = .ok (.iload_n 3, 1) := dok_at gdL_law_l336 1 rfl
theorem dL_law_338 : decode cL_law 338 = .ok (.iconst 2, 1) := dok_at gdL_law_l336 2 rfl
theorem dL_law_339 : decode cL_law 339 = .ok (.iadd, 1) := dok_at gdL_law_l336 3 rfl
theorem dL_law_340 : decode cL_law 340 = .ok (.iaload, 1) := dok_at gdL_law_l336 4 rfl
theorem dL_law_341 : decode cL_law 341 = .ok (.invokevirtual 43, 3) := dok_at gdL_law_l336 5 rfl
theorem dL_law_344 : decode cL_law 344 = .ok (.pop, 1) := dok_at gdL_law_l336 6 rfl
theorem dL_law_345 : decode cL_law 345 = .ok (.aload_n 2, 1) := dok_at gdL_law_l336 7 rfl
theorem dL_law_346 : decode cL_law 346 = .ok (.aload_n 0, 1) := dok_at gdL_law_l336 8 rfl
theorem dL_law_347 : decode cL_law 347 = .ok (.iload_n 3, 1) := dok_at gdL_law_l336 9 rfl
theorem dL_law_348 : decode cL_law 348 = .ok (.iconst 1, 1) := dok_at gdL_law_l336 10 rfl
theorem dL_law_349 : decode cL_law 349 = .ok (.iadd, 1) := dok_at gdL_law_l336 11 rfl
theorem dL_law_350 : decode cL_law 350 = .ok (.iaload, 1) := dok_at gdL_law_l336 12 rfl
theorem dL_law_351 : decode cL_law 351 = .ok (.aload_n 0, 1) := dok_at gdL_law_l336 13 rfl
theorem dL_law_352 : decode cL_law 352 = .ok (.iload_n 3, 1) := dok_at gdL_law_l336 14 rfl
theorem dL_law_353 : decode cL_law 353 = .ok (.iconst 2, 1) := dok_at gdL_law_l336 15 rfl
theorem dL_law_354 : decode cL_law 354 = .ok (.iadd, 1) := dok_at gdL_law_l336 16 rfl
theorem dL_law_355 : decode cL_law 355 = .ok (.iaload, 1) := dok_at gdL_law_l336 17 rfl
theorem dL_law_356 : decode cL_law 356 = .ok (.invokevirtual 46, 3) := dok_at gdL_law_l336 18 rfl
theorem dL_law_359 : decode cL_law 359 = .ok (.pop, 1) := dok_at gdL_law_l336 19 rfl
theorem dL_law_360 : decode cL_law 360 = .ok (.goto 757, 3) := dok_at gdL_law_l336 20 rfl
theorem dL_law_363 : decode cL_law 363 = .ok (.aload_n 1, 1) := dok_at gdL_law_l336 21 rfl
theorem dL_law_364 : decode cL_law 364 = .ok (.aload_n 0, 1) := dok_at gdL_law_l336 22 rfl
theorem dL_law_365 : decode cL_law 365 = .ok (.iload_n 3, 1) := dok_at gdL_law_l336 23 rfl
def dL_law_l366 : List (Nat × Instr × Nat) := [(366, .iconst 1, 1), (367, .iadd, 1), (368, .iaload, 1), (369, .aload_n 0, 1), (370, .iload_n 3, 1), (371, .iconst 2, 1), (372, .iadd, 1), (373, .iaload, 1), (374, .invokevirtual 47, 3), (377, .pop, 1), (378, .aload_n 2, 1), (379, .aload_n 0, 1), (380, .iload_n 3, 1), (381, .iconst 1, 1), (382, .iadd, 1), (383, .iaload, 1), (384, .aload_n 0, 1), (385, .iload_n 3, 1), (386, .iconst 2, 1), (387, .iadd, 1), (388, .iaload, 1), (389, .invokevirtual 50, 3), (392, .pop, 1), (393, .goto 724, 3)]
theorem gdL_law_l366 : dok cL_law dL_law_l366 = true := by decide +kernel
theorem dL_law_366 : decode cL_law 366 = .ok (.iconst 1, 1) := dok_at gdL_law_l366 0 rfl
theorem dL_law_367 : decode cL_law 367 = .ok (.iadd, 1) := dok_at gdL_law_l366 1 rfl
theorem dL_law_368 : decode cL_law 368 = .ok (.iaload, 1) := dok_at gdL_law_l366 2 rfl
theorem dL_law_369 : decode cL_law 369 = .ok (.aload_n 0, 1) := dok_at gdL_law_l366 3 rfl
theorem dL_law_370 : decode cL_law 370 = .ok (.iload_n 3, 1) := dok_at gdL_law_l366 4 rfl
theorem dL_law_371 : decode cL_law 371 = .ok (.iconst 2, 1) := dok_at gdL_law_l366 5 rfl
theorem dL_law_372 : decode cL_law 372 = .ok (.iadd, 1) := dok_at gdL_law_l366 6 rfl
theorem dL_law_373 : decode cL_law 373 = .ok (.iaload, 1) := dok_at gdL_law_l366 7 rfl
theorem dL_law_374 : decode cL_law 374 = .ok (.invokevirtual 47, 3) := dok_at gdL_law_l366 8 rfl
theorem dL_law_377 : decode cL_law 377 = .ok (.pop, 1) := dok_at gdL_law_l366 9 rfl
theorem dL_law_378 : decode cL_law 378 = .ok (.aload_n 2, 1) := dok_at gdL_law_l366 10 rfl
theorem dL_law_379 : decode cL_law 379 = .ok (.aload_n 0, 1) := dok_at gdL_law_l366 11 rfl
theorem dL_law_380 : decode cL_law 380 = .ok (.iload_n 3, 1) := dok_at gdL_law_l366 12 rfl
theorem dL_law_381 : decode cL_law 381 = .ok (.iconst 1, 1) := dok_at gdL_law_l366 13 rfl
theorem dL_law_382 : decode cL_law 382 = .ok (.iadd, 1) := dok_at gdL_law_l366 14 rfl
theorem dL_law_383 : decode cL_law 383 = .ok (.iaload, 1) := dok_at gdL_law_l366 15 rfl
theorem dL_law_384 : decode cL_law 384 = .ok (.aload_n 0, 1) := dok_at gdL_law_l366 16 rfl
theorem dL_law_385 : decode cL_law 385 = .ok (.iload_n 3, 1) := dok_at gdL_law_l366 17 rfl
theorem dL_law_386 : decode cL_law 386 = .ok (.iconst 2, 1) := dok_at gdL_law_l366 18 rfl
theorem dL_law_387 : decode cL_law 387 = .ok (.iadd, 1) := dok_at gdL_law_l366 19 rfl
theorem dL_law_388 : decode cL_law 388 = .ok (.iaload, 1) := dok_at gdL_law_l366 20 rfl
theorem dL_law_389 : decode cL_law 389 = .ok (.invokevirtual 50, 3) := dok_at gdL_law_l366 21 rfl
theorem dL_law_392 : decode cL_law 392 = .ok (.pop, 1) := dok_at gdL_law_l366 22 rfl
theorem dL_law_393 : decode cL_law 393 = .ok (.goto 724, 3) := dok_at gdL_law_l366 23 rfl
def dL_law_l396 : List (Nat × Instr × Nat) := [(396, .aload_n 1, 1), (397, .aload_n 0, 1), (398, .iload_n 3, 1), (399, .iconst 1, 1), (400, .iadd, 1), (401, .iaload, 1), (402, .ifCond .eq 7, 3), (405, .iconst 1, 1), (406, .goto 4, 3), (409, .iconst 0, 1), (410, .invokevirtual 51, 3), (413, .pop, 1), (414, .aload_n 2, 1), (415, .aload_n 0, 1), (416, .iload_n 3, 1), (417, .iconst 1, 1), (418, .iadd, 1), (419, .iaload, 1), (420, .ifCond .eq 7, 3), (423, .iconst 1, 1), (424, .goto 4, 3), (427, .iconst 0, 1), (428, .invokevirtual 55, 3), (431, .pop, 1)]
theorem gdL_law_l396 : dok cL_law dL_law_l396 = true := by decide +kernel
theorem dL_law_396 : decode cL_law 396 = .ok (.aload_n 1, 1) := dok_at gdL_law_l396 0 rfl
theorem dL_law_397 : decode cL_law 397 = .ok (.aload_n 0, 1) := dok_at gdL_law_l396 1 rfl
theorem dL_law_398 : decode cL_law 398 = .ok (.iload_n 3, 1) := dok_at gdL_law_l396 2 rfl
theorem dL_law_399 : decode cL_law 399 = .ok (.iconst 1, 1) := dok_at gdL_law_l396 3 rfl
theorem dL_law_400 : decode cL_law 400 = .ok (.iadd, 1) := dok_at gdL_law_l396 4 rfl
theorem dL_law_401 : decode cL_law 401 = .ok (.iaload, 1) := dok_at gdL_law_l396 5 rfl
theorem dL_law_402 : decode cL_law 402 = .ok (.ifCond .eq 7, 3) := dok_at gdL_law_l396 6 rfl
theorem dL_law_405 : decode cL_law 405 = .ok (.iconst 1, 1) := dok_at gdL_law_l396 7 rfl
theorem dL_law_406 : decode cL_law 406 = .ok (.goto 4, 3) := dok_at gdL_law_l396 8 rfl
theorem dL_law_409 : decode cL_law 409 = .ok (.iconst 0, 1) := dok_at gdL_law_l396 9 rfl
theorem dL_law_410 : decode cL_law 410 = .ok (.invokevirtual 51, 3) := dok_at gdL_law_l396 10 rfl
theorem dL_law_413 : decode cL_law 413 = .ok (.pop, 1) := dok_at gdL_law_l396 11 rfl
theorem dL_law_414 : decode cL_law 414 = .ok (.aload_n 2, 1) := dok_at gdL_law_l396 12 rfl
theorem dL_law_415 : decode cL_law 415 = .ok (.aload_n 0, 1) := dok_at gdL_law_l396 13 rfl
theorem dL_law_416 : decode cL_law 416 = .ok (.iload_n 3, 1) := dok_at gdL_law_l396 14 rfl
theorem dL_law_417 : decode cL_law 417 = .ok (.iconst 1, 1) := dok_at gdL_law_l396 15 rfl
theorem dL_law_418 : decode cL_law 418 = .ok (.iadd, 1) := dok_at gdL_law_l396 16 rfl
theorem dL_law_419 : decode cL_law 419 = .ok (.iaload, 1) := dok_at gdL_law_l396 17 rfl
theorem dL_law_420 : decode cL_law 420 = .ok (.ifCond .eq 7, 3) := dok_at gdL_law_l396 18 rfl
theorem dL_law_423 : decode cL_law 423 = .ok (.iconst 1, 1) := dok_at gdL_law_l396 19 rfl
theorem dL_law_424 : decode cL_law 424 = .ok (.goto 4, 3) := dok_at gdL_law_l396 20 rfl
theorem dL_law_427 : decode cL_law 427 = .ok (.iconst 0, 1) := dok_at gdL_law_l396 21 rfl
theorem dL_law_428 : decode cL_law 428 = .ok (.invokevirtual 55, 3) := dok_at gdL_law_l396 22 rfl
theorem dL_law_431 : decode cL_law 431 = .ok (.pop, 1) := dok_at gdL_law_l396 23 rfl
def dL_law_l432 : List (Nat × Instr × Nat) := [(432, .goto 685, 3), (435, .aload_n 1, 1), (436, .aload_n 0, 1), (437, .iload_n 3, 1), (438, .iconst 1, 1), (439, .iadd, 1), (440, .iaload, 1), (441, .aload_n 0, 1), (442, .iload_n 3, 1), (443, .iconst 2, 1), (444, .iadd, 1), (445, .iaload, 1), (446, .ifCond .eq 7, 3), (449, .iconst 1, 1), (450, .goto 4, 3), (453, .iconst 0, 1), (454, .invokevirtual 56, 3), (457, .pop, 1), (458, .aload_n 2, 1), (459, .aload_n 0, 1), (460, .iload_n 3, 1), (461, .iconst 1, 1), (462, .iadd, 1), (463, .iaload, 1)]
theorem gdL_law_l432 : dok cL_law dL_law_l432 = true := by decide +kernel
theorem dL_law_432 : decode cL_law 432 = .ok (.goto 685, 3) := dok_at gdL_law_l432 0 rfl
theorem dL_law_435 : decode cL_law 435 = .ok (.aload_n 1, 1) := dok_at gdL_law_l432 1 rfl
theorem dL_law_436 : decode cL_law 436 = .ok (.aload_n 0, 1) := dok_at gdL_law_l432 2 rfl
theorem dL_law_437 : decode cL_law 437 = .ok (.iload_n 3, 1) := dok_at gdL_law_l432 3 rfl
theorem dL_law_438 : decode cL_law 438 = .ok (.iconst 1, 1) := dok_at gdL_law_l432 4 rfl
theorem dL_law_439 : decode cL_law 439 = .ok (.iadd, 1) := dok_at gdL_law_l432 5 rfl
theorem dL_law_440 : decode cL_law 440 = .ok (.iaload, 1) := dok_at gdL_law_l432 6 rfl
theorem dL_law_441 : decode cL_law 441 = .ok (.aload_n 0, 1) := dok_at gdL_law_l432 7 rfl
theorem dL_law_442 : decode cL_law 442 = .ok (.iload_n 3, 1) := dok_at gdL_law_l432 8 rfl
theorem dL_law_443 : decode cL_law 443 = .ok (.iconst 2, 1) := dok_at gdL_law_l432 9 rfl
theorem dL_law_444 : decode cL_law 444 = .ok (.iadd, 1) := dok_at gdL_law_l432 10 rfl
theorem dL_law_445 : decode cL_law 445 = .ok (.iaload, 1) := dok_at gdL_law_l432 11 rfl
theorem dL_law_446 : decode cL_law 446 = .ok (.ifCond .eq 7, 3) := dok_at gdL_law_l432 12 rfl
theorem dL_law_449 : decode cL_law 449 = .ok (.iconst 1, 1) := dok_at gdL_law_l432 13 rfl
theorem dL_law_450 : decode cL_law 450 = .ok (.goto 4, 3) := dok_at gdL_law_l432 14 rfl
theorem dL_law_453 : decode cL_law 453 = .ok (.iconst 0, 1) := dok_at gdL_law_l432 15 rfl
theorem dL_law_454 : decode cL_law 454 = .ok (.invokevirtual 56, 3) := dok_at gdL_law_l432 16 rfl
theorem dL_law_457 : decode cL_law 457 = .ok (.pop, 1) := dok_at gdL_law_l432 17 rfl
theorem dL_law_458 : decode cL_law 458 = .ok (.aload_n 2, 1) := dok_at gdL_law_l432 18 rfl
theorem dL_law_459 : decode cL_law 459 = .ok (.aload_n 0, 1) := dok_at gdL_law_l432 19 rfl
theorem dL_law_460 : decode cL_law 460 = .ok (.iload_n 3, 1) := dok_at gdL_law_l432 20 rfl
theorem dL_law_461 : decode cL_law 461 = .ok (.iconst 1, 1) := dok_at gdL_law_l432 21 rfl
theorem dL_law_462 : decode cL_law 462 = .ok (.iadd, 1) := dok_at gdL_law_l432 22 rfl
theorem dL_law_463 : decode cL_law 463 = .ok (.iaload, 1) := dok_at gdL_law_l432 23 rfl
def dL_law_l464 : List (Nat × Instr × Nat) := [(464, .aload_n 0, 1), (465, .iload_n 3, 1), (466, .iconst 2, 1), (467, .iadd, 1), (468, .iaload, 1), (469, .ifCond .eq 7, 3), (472, .iconst 1, 1), (473, .goto 4, 3), (476, .iconst 0, 1), (477, .invokevirtual 60, 3), (480, .pop, 1), (481, .goto 636, 3), (484, .aload_n 1, 1), (485, .aload_n 0, 1), (486, .iload_n 3, 1), (487, .iconst 1, 1), (488, .iadd, 1), (489, .iaload, 1), (490, .aload_n 0, 1), (491, .iload_n 3, 1), (492, .iconst 2, 1), (493, .iadd, 1), (494, .iaload, 1), (495, .invokevirtual 61, 3)]
theorem gdL_law_l464 : dok cL_law dL_law_l464 = true := by decide +kernel
theorem dL_law_464 : decode cL_law 464 = .ok (.aload_n 0, 1) := dok_at gdL_law_l464 0 rfl
theorem dL_law_465 : decode cL_law 465 = .ok (.iload_n 3, 1) := dok_at gdL_law_l464 1 rfl
theorem dL_law_466 : decode cL_law 466 = .ok (.iconst 2, 1) := dok_at gdL_law_l464 2 rfl
theorem dL_law_467 : decode cL_law 467 = .ok (.iadd, 1) := dok_at gdL_law_l464 3 rfl
theorem dL_law_468 : decode cL_law 468 = .ok (.iaload, 1) := dok_at gdL_law_l464 4 rfl
theorem dL_law_469 : decode cL_law 469 = .ok (.ifCond .eq 7, 3) := dok_at gdL_law_l464 5 rfl
theorem dL_law_472 : decode cL_law 472 = .ok (.iconst 1, 1) := dok_at gdL_law_l464 6 rfl
theorem dL_law_473 : decode cL_law 473 = .ok (.goto 4, 3) := dok_at gdL_law_l464 7 rfl
theorem dL_law_476 : decode cL_law 476 = .ok (.iconst 0, 1) := dok_at gdL_law_l464 8 rfl
theorem dL_law_477 : decode cL_law 477 = .ok (.invokevirtual 60, 3) := dok_at gdL_law_l464 9 rfl
theorem dL_law_480 : decode cL_law 480 = .ok (.pop, 1) := dok_at gdL_law_l464 10 rfl
theorem dL_law_481 : decode cL_law 481 = .ok (.goto 636, 3) := dok_at gdL_law_l464 11 rfl
theorem dL_law_484 : decode cL_law 484 = .ok (.aload_n 1, 1) := dok_at gdL_law_l464 12 rfl
theorem dL_law_485 : decode cL_law 485 = .ok (.aload_n 0, 1) := dok_at gdL_law_l464 13 rfl
theorem dL_law_486 : decode cL_law 486 = .ok (.iload_n 3, 1) := dok_at gdL_law_l464 14 rfl
theorem dL_law_487 : decode cL_law 487 = .ok (.iconst 1, 1) := dok_at gdL_law_l464 15 rfl
theorem dL_law_488 : decode cL_law 488 = .ok (.iadd, 1) := dok_at gdL_law_l464 16 rfl
theorem dL_law_489 : decode cL_law 489 = .ok (.iaload, 1) := dok_at gdL_law_l464 17 rfl
theorem dL_law_490 : decode cL_law 490 = .ok (.aload_n 0, 1) := dok_at gdL_law_l464 18 rfl
theorem dL_law_491 : decode cL_law 491 = .ok (.iload_n 3, 1) := dok_at gdL_law_l464 19 rfl
theorem dL_law_492 : decode cL_law 492 = .ok (.iconst 2, 1) := dok_at gdL_law_l464 20 rfl
theorem dL_law_493 : decode cL_law 493 = .ok (.iadd, 1) := dok_at gdL_law_l464 21 rfl
theorem dL_law_494 : decode cL_law 494 = .ok (.iaload, 1) := dok_at gdL_law_l464 22 rfl
theorem dL_law_495 : decode cL_law 495 = .ok (.invokevirtual 61, 3) := dok_at gdL_law_l464 23 rfl
def dL_law_l498 : List (Nat × Instr × Nat) := [(498, .pop, 1), (499, .aload_n 2, 1), (500, .aload_n 0, 1), (501, .iload_n 3, 1), (502, .iconst 1, 1), (503, .iadd, 1), (504, .iaload, 1), (505, .aload_n 0, 1), (506, .iload_n 3, 1), (507, .iconst 2, 1), (508, .iadd, 1), (509, .iaload, 1), (510, .invokevirtual 64, 3), (513, .pop, 1), (514, .goto 603, 3), (517, .aload_n 1, 1), (518, .aload_n 0, 1), (519, .iload_n 3, 1), (520, .iconst 1, 1), (521, .iadd, 1), (522, .iaload, 1), (523, .invokevirtual 65, 3), (526, .pop, 1), (527, .aload_n 2, 1)]
theorem gdL_law_l498 : dok cL_law dL_law_l498 = true := by decide +kernel
theorem dL_law_498 : decode cL_law 498 = .ok (.pop, 1) := dok_at gdL_law_l498 0 rfl
theorem dL_law_499 : decode cL_law 499 = .ok (.aload_n 2, 1) := dok_at gdL_law_l498 1 rfl
theorem dL_law_500 : decode cL_law 500 = .ok (.aload_n 0, 1) := dok_at gdL_law_l498 2 rfl
theorem dL_law_501 : decode cL_law 501 = .ok (.iload_n 3, 1) := dok_at gdL_law_l498 3 rfl
theorem dL_law_502 : decode cL_law 502 = .ok (.iconst 1, 1) := dok_at gdL_law_l498 4 rfl
theorem dL_law_503 : decode cL_law 503 = .ok (.iadd, 1) := dok_at gdL_law_l498 5 rfl
theorem dL_law_504 : decode cL_law 504 = .ok (.iaload, 1) := dok_at gdL_law_l498 6 rfl
theorem dL_law_505 : decode cL_law 505 = .ok (.aload_n 0, 1) := dok_at gdL_law_l498 7 rfl
theorem dL_law_506 : decode cL_law 506 = .ok (.iload_n 3, 1) := dok_at gdL_law_l498 8 rfl
theorem dL_law_507 : decode cL_law 507 = .ok (.iconst 2, 1) := dok_at gdL_law_l498 9 rfl
theorem dL_law_508 : decode cL_law 508 = .ok (.iadd, 1) := dok_at gdL_law_l498 10 rfl
theorem dL_law_509 : decode cL_law 509 = .ok (.iaload, 1) := dok_at gdL_law_l498 11 rfl
theorem dL_law_510 : decode cL_law 510 = .ok (.invokevirtual 64, 3) := dok_at gdL_law_l498 12 rfl
theorem dL_law_513 : decode cL_law 513 = .ok (.pop, 1) := dok_at gdL_law_l498 13 rfl
theorem dL_law_514 : decode cL_law 514 = .ok (.goto 603, 3) := dok_at gdL_law_l498 14 rfl
theorem dL_law_517 : decode cL_law 517 = .ok (.aload_n 1, 1) := dok_at gdL_law_l498 15 rfl
theorem dL_law_518 : decode cL_law 518 = .ok (.aload_n 0, 1) := dok_at gdL_law_l498 16 rfl
theorem dL_law_519 : decode cL_law 519 = .ok (.iload_n 3, 1) := dok_at gdL_law_l498 17 rfl
theorem dL_law_520 : decode cL_law 520 = .ok (.iconst 1, 1) := dok_at gdL_law_l498 18 rfl
theorem dL_law_521 : decode cL_law 521 = .ok (.iadd, 1) := dok_at gdL_law_l498 19 rfl
theorem dL_law_522 : decode cL_law 522 = .ok (.iaload, 1) := dok_at gdL_law_l498 20 rfl
theorem dL_law_523 : decode cL_law 523 = .ok (.invokevirtual 65, 3) := dok_at gdL_law_l498 21 rfl
theorem dL_law_526 : decode cL_law 526 = .ok (.pop, 1) := dok_at gdL_law_l498 22 rfl
theorem dL_law_527 : decode cL_law 527 = .ok (.aload_n 2, 1) := dok_at gdL_law_l498 23 rfl
def dL_law_l528 : List (Nat × Instr × Nat) := [(528, .aload_n 0, 1), (529, .iload_n 3, 1), (530, .iconst 1, 1), (531, .iadd, 1), (532, .iaload, 1), (533, .invokevirtual 68, 3), (536, .pop, 1), (537, .goto 580, 3), (540, .aload_n 1, 1), (541, .aload_n 0, 1), (542, .iload_n 3, 1), (543, .iconst 1, 1), (544, .iadd, 1), (545, .iaload, 1), (546, .invokevirtual 69, 3), (549, .aload_n 2, 1), (550, .aload_n 0, 1), (551, .iload_n 3, 1), (552, .iconst 1, 1), (553, .iadd, 1), (554, .iaload, 1), (555, .invokevirtual 72, 3), (558, .if_icmp .eq 559, 3), (561, .iconst 0, 1)]
theorem gdL_law_l528 : dok cL_law dL_law_l528 = true := by decide +kernel
theorem dL_law_528 : decode cL_law 528 = .ok (.aload_n 0, 1) := dok_at gdL_law_l528 0 rfl
theorem dL_law_529 : decode cL_law 529 = .ok (.iload_n 3, 1) := dok_at gdL_law_l528 1 rfl
theorem dL_law_530 : decode cL_law 530 = .ok (.iconst 1, 1) := dok_at gdL_law_l528 2 rfl
theorem dL_law_531 : decode cL_law 531 = .ok (.iadd, 1) := dok_at gdL_law_l528 3 rfl
theorem dL_law_532 : decode cL_law 532 = .ok (.iaload, 1) := dok_at gdL_law_l528 4 rfl
theorem dL_law_533 : decode cL_law 533 = .ok (.invokevirtual 68, 3) := dok_at gdL_law_l528 5 rfl
theorem dL_law_536 : decode cL_law 536 = .ok (.pop, 1) := dok_at gdL_law_l528 6 rfl
theorem dL_law_537 : decode cL_law 537 = .ok (.goto 580, 3) := dok_at gdL_law_l528 7 rfl
theorem dL_law_540 : decode cL_law 540 = .ok (.aload_n 1, 1) := dok_at gdL_law_l528 8 rfl
theorem dL_law_541 : decode cL_law 541 = .ok (.aload_n 0, 1) := dok_at gdL_law_l528 9 rfl
theorem dL_law_542 : decode cL_law 542 = .ok (.iload_n 3, 1) := dok_at gdL_law_l528 10 rfl
theorem dL_law_543 : decode cL_law 543 = .ok (.iconst 1, 1) := dok_at gdL_law_l528 11 rfl
theorem dL_law_544 : decode cL_law 544 = .ok (.iadd, 1) := dok_at gdL_law_l528 12 rfl
theorem dL_law_545 : decode cL_law 545 = .ok (.iaload, 1) := dok_at gdL_law_l528 13 rfl
theorem dL_law_546 : decode cL_law 546 = .ok (.invokevirtual 69, 3) := dok_at gdL_law_l528 14 rfl
theorem dL_law_549 : decode cL_law 549 = .ok (.aload_n 2, 1) := dok_at gdL_law_l528 15 rfl
theorem dL_law_550 : decode cL_law 550 = .ok (.aload_n 0, 1) := dok_at gdL_law_l528 16 rfl
theorem dL_law_551 : decode cL_law 551 = .ok (.iload_n 3, 1) := dok_at gdL_law_l528 17 rfl
theorem dL_law_552 : decode cL_law 552 = .ok (.iconst 1, 1) := dok_at gdL_law_l528 18 rfl
theorem dL_law_553 : decode cL_law 553 = .ok (.iadd, 1) := dok_at gdL_law_l528 19 rfl
theorem dL_law_554 : decode cL_law 554 = .ok (.iaload, 1) := dok_at gdL_law_l528 20 rfl
theorem dL_law_555 : decode cL_law 555 = .ok (.invokevirtual 72, 3) := dok_at gdL_law_l528 21 rfl
theorem dL_law_558 : decode cL_law 558 = .ok (.if_icmp .eq 559, 3) := dok_at gdL_law_l528 22 rfl
theorem dL_law_561 : decode cL_law 561 = .ok (.iconst 0, 1) := dok_at gdL_law_l528 23 rfl
def dL_law_l562 : List (Nat × Instr × Nat) := [(562, .ireturn, 1), (563, .aload_n 1, 1), (564, .aload_n 0, 1), (565, .iload_n 3, 1), (566, .iconst 1, 1), (567, .iadd, 1), (568, .iaload, 1), (569, .aload_n 0, 1), (570, .iload_n 3, 1), (571, .iconst 2, 1), (572, .iadd, 1), (573, .iaload, 1), (574, .invokevirtual 73, 3), (577, .pop, 1), (578, .aload_n 2, 1), (579, .aload_n 0, 1), (580, .iload_n 3, 1), (581, .iconst 1, 1), (582, .iadd, 1), (583, .iaload, 1), (584, .aload_n 0, 1), (585, .iload_n 3, 1), (586, .iconst 2, 1), (587, .iadd, 1)]
theorem gdL_law_l562 : dok cL_law dL_law_l562 = true := by decide +kernel
theorem dL_law_562 : decode cL_law 562 = .ok (.ireturn, 1) := dok_at gdL_law_l562 0 rfl
theorem dL_law_563 : decode cL_law 563 = .ok (.aload_n 1, 1) := dok_at gdL_law_l562 1 rfl
theorem dL_law_564 : decode cL_law 564 = .ok (.aload_n 0, 1) := dok_at gdL_law_l562 2 rfl
theorem dL_law_565 : decode cL_law 565 = .ok (.iload_n 3, 1) := dok_at gdL_law_l562 3 rfl
theorem dL_law_566 : decode cL_law 566 = .ok (.iconst 1, 1) := dok_at gdL_law_l562 4 rfl
theorem dL_law_567 : decode cL_law 567 = .ok (.iadd, 1) := dok_at gdL_law_l562 5 rfl
theorem dL_law_568 : decode cL_law 568 = .ok (.iaload, 1) := dok_at gdL_law_l562 6 rfl
theorem dL_law_569 : decode cL_law 569 = .ok (.aload_n 0, 1) := dok_at gdL_law_l562 7 rfl
theorem dL_law_570 : decode cL_law 570 = .ok (.iload_n 3, 1) := dok_at gdL_law_l562 8 rfl
theorem dL_law_571 : decode cL_law 571 = .ok (.iconst 2, 1) := dok_at gdL_law_l562 9 rfl
theorem dL_law_572 : decode cL_law 572 = .ok (.iadd, 1) := dok_at gdL_law_l562 10 rfl
theorem dL_law_573 : decode cL_law 573 = .ok (.iaload, 1) := dok_at gdL_law_l562 11 rfl
theorem dL_law_574 : decode cL_law 574 = .ok (.invokevirtual 73, 3) := dok_at gdL_law_l562 12 rfl
theorem dL_law_577 : decode cL_law 577 = .ok (.pop, 1) := dok_at gdL_law_l562 13 rfl
theorem dL_law_578 : decode cL_law 578 = .ok (.aload_n 2, 1) := dok_at gdL_law_l562 14 rfl
theorem dL_law_579 : decode cL_law 579 = .ok (.aload_n 0, 1) := dok_at gdL_law_l562 15 rfl
theorem dL_law_580 : decode cL_law 580 = .ok (.iload_n 3, 1) := dok_at gdL_law_l562 16 rfl
theorem dL_law_581 : decode cL_law 581 = .ok (.iconst 1, 1) := dok_at gdL_law_l562 17 rfl
theorem dL_law_582 : decode cL_law 582 = .ok (.iadd, 1) := dok_at gdL_law_l562 18 rfl
theorem dL_law_583 : decode cL_law 583 = .ok (.iaload, 1) := dok_at gdL_law_l562 19 rfl
theorem dL_law_584 : decode cL_law 584 = .ok (.aload_n 0, 1) := dok_at gdL_law_l562 20 rfl
theorem dL_law_585 : decode cL_law 585 = .ok (.iload_n 3, 1) := dok_at gdL_law_l562 21 rfl
theorem dL_law_586 : decode cL_law 586 = .ok (.iconst 2, 1) := dok_at gdL_law_l562 22 rfl
theorem dL_law_587 : decode cL_law 587 = .ok (.iadd, 1) := dok_at gdL_law_l562 23 rfl
def dL_law_l588 : List (Nat × Instr × Nat) := [(588, .iaload, 1), (589, .invokevirtual 76, 3), (592, .pop, 1), (593, .goto 524, 3), (596, .aload_n 1, 1), (597, .aload_n 0, 1), (598, .iload_n 3, 1), (599, .iconst 1, 1), (600, .iadd, 1), (601, .iaload, 1), (602, .aload_n 0, 1), (603, .iload_n 3, 1), (604, .iconst 2, 1), (605, .iadd, 1), (606, .iaload, 1), (607, .invokevirtual 77, 3), (610, .pop, 1), (611, .aload_n 2, 1), (612, .aload_n 0, 1), (613, .iload_n 3, 1), (614, .iconst 1, 1), (615, .iadd, 1), (616, .iaload, 1), (617, .aload_n 0, 1)]
theorem gdL_law_l588 : dok cL_law dL_law_l588 = true := by decide +kernel
theorem dL_law_588 : decode cL_law 588 = .ok (.iaload, 1) := dok_at gdL_law_l588 0 rfl
theorem dL_law_589 : decode cL_law 589 = .ok (.invokevirtual 76, 3) := dok_at gdL_law_l588 1 rfl
theorem dL_law_592 : decode cL_law 592 = .ok (.pop, 1) := dok_at gdL_law_l588 2 rfl
theorem dL_law_593 : decode cL_law 593 = .ok (.goto 524, 3) := dok_at gdL_law_l588 3 rfl
theorem dL_law_596 : decode cL_law 596 = .ok (.aload_n 1, 1) := dok_at gdL_law_l588 4 rfl
theorem dL_law_597 : decode cL_law 597 = .ok (.aload_n 0, 1) := dok_at gdL_law_l588 5 rfl
theorem dL_law_598 : decode cL_law 598 = .ok (.iload_n 3, 1) := dok_at gdL_law_l588 6 rfl
theorem dL_law_599 : decode cL_law 599 = .ok (.iconst 1, 1) := dok_at gdL_law_l588 7 rfl
theorem dL_law_600 : decode cL_law 600 = .ok (.iadd, 1) := dok_at gdL_law_l588 8 rfl
theorem dL_law_601 : decode cL_law 601 = .ok (.iaload, 1) := dok_at gdL_law_l588 9 rfl
theorem dL_law_602 : decode cL_law 602 = .ok (.aload_n 0, 1) := dok_at gdL_law_l588 10 rfl
theorem dL_law_603 : decode cL_law 603 = .ok (.iload_n 3, 1) := dok_at gdL_law_l588 11 rfl
theorem dL_law_604 : decode cL_law 604 = .ok (.iconst 2, 1) := dok_at gdL_law_l588 12 rfl
theorem dL_law_605 : decode cL_law 605 = .ok (.iadd, 1) := dok_at gdL_law_l588 13 rfl
theorem dL_law_606 : decode cL_law 606 = .ok (.iaload, 1) := dok_at gdL_law_l588 14 rfl
theorem dL_law_607 : decode cL_law 607 = .ok (.invokevirtual 77, 3) := dok_at gdL_law_l588 15 rfl
theorem dL_law_610 : decode cL_law 610 = .ok (.pop, 1) := dok_at gdL_law_l588 16 rfl
theorem dL_law_611 : decode cL_law 611 = .ok (.aload_n 2, 1) := dok_at gdL_law_l588 17 rfl
theorem dL_law_612 : decode cL_law 612 = .ok (.aload_n 0, 1) := dok_at gdL_law_l588 18 rfl
theorem dL_law_613 : decode cL_law 613 = .ok (.iload_n 3, 1) := dok_at gdL_law_l588 19 rfl
theorem dL_law_614 : decode cL_law 614 = .ok (.iconst 1, 1) := dok_at gdL_law_l588 20 rfl
theorem dL_law_615 : decode cL_law 615 = .ok (.iadd, 1) := dok_at gdL_law_l588 21 rfl
theorem dL_law_616 : decode cL_law 616 = .ok (.iaload, 1) := dok_at gdL_law_l588 22 rfl
theorem dL_law_617 : decode cL_law 617 = .ok (.aload_n 0, 1) := dok_at gdL_law_l588 23 rfl
def dL_law_l618 : List (Nat × Instr × Nat) := [(618, .iload_n 3, 1), (619, .iconst 2, 1), (620, .iadd, 1), (621, .iaload, 1), (622, .invokevirtual 80, 3), (625, .pop, 1), (626, .goto 491, 3), (629, .aload_n 1, 1), (630, .aload_n 0, 1), (631, .iload_n 3, 1), (632, .iconst 1, 1), (633, .iadd, 1), (634, .iaload, 1), (635, .invokevirtual 81, 3), (638, .pop, 1), (639, .aload_n 2, 1), (640, .aload_n 0, 1), (641, .iload_n 3, 1), (642, .iconst 1, 1), (643, .iadd, 1), (644, .iaload, 1), (645, .invokevirtual 84, 3), (648, .pop, 1), (649, .goto 468, 3)]
theorem gdL_law_l618 : dok cL_law dL_law_l618 = true := by decide +kernel
theorem dL_law_618 : decode cL_law 618 = .ok (.iload_n 3, 1) := dok_at gdL_law_l618 0 rfl
theorem dL_law_619 : decode cL_law 619 = .ok (.iconst 2, 1) := dok_at gdL_law_l618 1 rfl
theorem dL_law_620 : decode cL_law 620 = .ok (.iadd, 1) := dok_at gdL_law_l618 2 rfl
theorem dL_law_621 : decode cL_law 621 = .ok (.iaload, 1) := dok_at gdL_law_l618 3 rfl
theorem dL_law_622 : decode cL_law 622 = .ok (.invokevirtual 80, 3) := dok_at gdL_law_l618 4 rfl
theorem dL_law_625 : decode cL_law 625 = .ok (.pop, 1) := dok_at gdL_law_l618 5 rfl
theorem dL_law_626 : decode cL_law 626 = .ok (.goto 491, 3) := dok_at gdL_law_l618 6 rfl
theorem dL_law_629 : decode cL_law 629 = .ok (.aload_n 1, 1) := dok_at gdL_law_l618 7 rfl
theorem dL_law_630 : decode cL_law 630 = .ok (.aload_n 0, 1) := dok_at gdL_law_l618 8 rfl
theorem dL_law_631 : decode cL_law 631 = .ok (.iload_n 3, 1) := dok_at gdL_law_l618 9 rfl
theorem dL_law_632 : decode cL_law 632 = .ok (.iconst 1, 1) := dok_at gdL_law_l618 10 rfl
theorem dL_law_633 : decode cL_law 633 = .ok (.iadd, 1) := dok_at gdL_law_l618 11 rfl
theorem dL_law_634 : decode cL_law 634 = .ok (.iaload, 1) := dok_at gdL_law_l618 12 rfl
theorem dL_law_635 : decode cL_law 635 = .ok (.invokevirtual 81, 3) := dok_at gdL_law_l618 13 rfl
theorem dL_law_638 : decode cL_law 638 = .ok (.pop, 1) := dok_at gdL_law_l618 14 rfl
theorem dL_law_639 : decode cL_law 639 = .ok (.aload_n 2, 1) := dok_at gdL_law_l618 15 rfl
theorem dL_law_640 : decode cL_law 640 = .ok (.aload_n 0, 1) := dok_at gdL_law_l618 16 rfl
theorem dL_law_641 : decode cL_law 641 = .ok (.iload_n 3, 1) := dok_at gdL_law_l618 17 rfl
theorem dL_law_642 : decode cL_law 642 = .ok (.iconst 1, 1) := dok_at gdL_law_l618 18 rfl
theorem dL_law_643 : decode cL_law 643 = .ok (.iadd, 1) := dok_at gdL_law_l618 19 rfl
theorem dL_law_644 : decode cL_law 644 = .ok (.iaload, 1) := dok_at gdL_law_l618 20 rfl
theorem dL_law_645 : decode cL_law 645 = .ok (.invokevirtual 84, 3) := dok_at gdL_law_l618 21 rfl
theorem dL_law_648 : decode cL_law 648 = .ok (.pop, 1) := dok_at gdL_law_l618 22 rfl
theorem dL_law_649 : decode cL_law 649 = .ok (.goto 468, 3) := dok_at gdL_law_l618 23 rfl
def dL_law_l652 : List (Nat × Instr × Nat) := [(652, .aload_n 1, 1), (653, .aload_n 0, 1), (654, .iload_n 3, 1), (655, .iconst 1, 1), (656, .iadd, 1), (657, .iaload, 1), (658, .aload_n 0, 1), (659, .iload_n 3, 1), (660, .iconst 2, 1), (661, .iadd, 1), (662, .iaload, 1), (663, .invokevirtual 85, 3), (666, .pop, 1), (667, .aload_n 2, 1), (668, .aload_n 0, 1), (669, .iload_n 3, 1), (670, .iconst 1, 1), (671, .iadd, 1), (672, .iaload, 1), (673, .aload_n 0, 1), (674, .iload_n 3, 1), (675, .iconst 2, 1), (676, .iadd, 1), (677, .iaload, 1)]
theorem gdL_law_l652 : dok cL_law dL_law_l652 = true := by decide +kernel
theorem dL_law_652 : decode cL_law 652 = .ok (.aload_n 1, 1) := dok_at gdL_law_l652 0 rfl
theorem dL_law_653 : decode cL_law 653 = .ok (.aload_n 0, 1) := dok_at gdL_law_l652 1 rfl
theorem dL_law_654 : decode cL_law 654 = .ok (.iload_n 3, 1) := dok_at gdL_law_l652 2 rfl
theorem dL_law_655 : decode cL_law 655 = .ok (.iconst 1, 1) := dok_at gdL_law_l652 3 rfl
theorem dL_law_656 : decode cL_law 656 = .ok (.iadd, 1) := dok_at gdL_law_l652 4 rfl
theorem dL_law_657 : decode cL_law 657 = .ok (.iaload, 1) := dok_at gdL_law_l652 5 rfl
theorem dL_law_658 : decode cL_law 658 = .ok (.aload_n 0, 1) := dok_at gdL_law_l652 6 rfl
theorem dL_law_659 : decode cL_law 659 = .ok (.iload_n 3, 1) := dok_at gdL_law_l652 7 rfl
theorem dL_law_660 : decode cL_law 660 = .ok (.iconst 2, 1) := dok_at gdL_law_l652 8 rfl
theorem dL_law_661 : decode cL_law 661 = .ok (.iadd, 1) := dok_at gdL_law_l652 9 rfl
theorem dL_law_662 : decode cL_law 662 = .ok (.iaload, 1) := dok_at gdL_law_l652 10 rfl
theorem dL_law_663 : decode cL_law 663 = .ok (.invokevirtual 85, 3) := dok_at gdL_law_l652 11 rfl
theorem dL_law_666 : decode cL_law 666 = .ok (.pop, 1) := dok_at gdL_law_l652 12 rfl
theorem dL_law_667 : decode cL_law 667 = .ok (.aload_n 2, 1) := dok_at gdL_law_l652 13 rfl
theorem dL_law_668 : decode cL_law 668 = .ok (.aload_n 0, 1) := dok_at gdL_law_l652 14 rfl
theorem dL_law_669 : decode cL_law 669 = .ok (.iload_n 3, 1) := dok_at gdL_law_l652 15 rfl
theorem dL_law_670 : decode cL_law 670 = .ok (.iconst 1, 1) := dok_at gdL_law_l652 16 rfl
theorem dL_law_671 : decode cL_law 671 = .ok (.iadd, 1) := dok_at gdL_law_l652 17 rfl
theorem dL_law_672 : decode cL_law 672 = .ok (.iaload, 1) := dok_at gdL_law_l652 18 rfl
theorem dL_law_673 : decode cL_law 673 = .ok (.aload_n 0, 1) := dok_at gdL_law_l652 19 rfl
theorem dL_law_674 : decode cL_law 674 = .ok (.iload_n 3, 1) := dok_at gdL_law_l652 20 rfl
theorem dL_law_675 : decode cL_law 675 = .ok (.iconst 2, 1) := dok_at gdL_law_l652 21 rfl
theorem dL_law_676 : decode cL_law 676 = .ok (.iadd, 1) := dok_at gdL_law_l652 22 rfl
theorem dL_law_677 : decode cL_law 677 = .ok (.iaload, 1) := dok_at gdL_law_l652 23 rfl
def dL_law_l678 : List (Nat × Instr × Nat) := [(678, .invokevirtual 88, 3), (681, .pop, 1), (682, .goto 435, 3), (685, .aload_n 1, 1), (686, .aload_n 0, 1), (687, .iload_n 3, 1), (688, .iconst 1, 1), (689, .iadd, 1), (690, .iaload, 1), (691, .aload_n 0, 1), (692, .iload_n 3, 1), (693, .iconst 2, 1), (694, .iadd, 1), (695, .iaload, 1), (696, .aload_n 0, 1), (697, .iload_n 3, 1), (698, .iconst 3, 1), (699, .iadd, 1), (700, .iaload, 1), (701, .invokevirtual 89, 3), (704, .pop, 1), (705, .aload_n 2, 1), (706, .aload_n 0, 1), (707, .iload_n 3, 1)]
theorem gdL_law_l678 : dok cL_law dL_law_l678 = true := by decide +kernel
theorem dL_law_678 : decode cL_law 678 = .ok (.invokevirtual 88, 3) := dok_at gdL_law_l678 0 rfl
theorem dL_law_681 : decode cL_law 681 = .ok (.pop, 1) := dok_at gdL_law_l678 1 rfl
theorem dL_law_682 : decode cL_law 682 = .ok (.goto 435, 3) := dok_at gdL_law_l678 2 rfl
theorem dL_law_685 : decode cL_law 685 = .ok (.aload_n 1, 1) := dok_at gdL_law_l678 3 rfl
theorem dL_law_686 : decode cL_law 686 = .ok (.aload_n 0, 1) := dok_at gdL_law_l678 4 rfl
theorem dL_law_687 : decode cL_law 687 = .ok (.iload_n 3, 1) := dok_at gdL_law_l678 5 rfl
theorem dL_law_688 : decode cL_law 688 = .ok (.iconst 1, 1) := dok_at gdL_law_l678 6 rfl
theorem dL_law_689 : decode cL_law 689 = .ok (.iadd, 1) := dok_at gdL_law_l678 7 rfl
theorem dL_law_690 : decode cL_law 690 = .ok (.iaload, 1) := dok_at gdL_law_l678 8 rfl
theorem dL_law_691 : decode cL_law 691 = .ok (.aload_n 0, 1) := dok_at gdL_law_l678 9 rfl
theorem dL_law_692 : decode cL_law 692 = .ok (.iload_n 3, 1) := dok_at gdL_law_l678 10 rfl
theorem dL_law_693 : decode cL_law 693 = .ok (.iconst 2, 1) := dok_at gdL_law_l678 11 rfl
theorem dL_law_694 : decode cL_law 694 = .ok (.iadd, 1) := dok_at gdL_law_l678 12 rfl
theorem dL_law_695 : decode cL_law 695 = .ok (.iaload, 1) := dok_at gdL_law_l678 13 rfl
theorem dL_law_696 : decode cL_law 696 = .ok (.aload_n 0, 1) := dok_at gdL_law_l678 14 rfl
theorem dL_law_697 : decode cL_law 697 = .ok (.iload_n 3, 1) := dok_at gdL_law_l678 15 rfl
theorem dL_law_698 : decode cL_law 698 = .ok (.iconst 3, 1) := dok_at gdL_law_l678 16 rfl
theorem dL_law_699 : decode cL_law 699 = .ok (.iadd, 1) := dok_at gdL_law_l678 17 rfl
theorem dL_law_700 : decode cL_law 700 = .ok (.iaload, 1) := dok_at gdL_law_l678 18 rfl
theorem dL_law_701 : decode cL_law 701 = .ok (.invokevirtual 89, 3) := dok_at gdL_law_l678 19 rfl
theorem dL_law_704 : decode cL_law 704 = .ok (.pop, 1) := dok_at gdL_law_l678 20 rfl
theorem dL_law_705 : decode cL_law 705 = .ok (.aload_n 2, 1) := dok_at gdL_law_l678 21 rfl
theorem dL_law_706 : decode cL_law 706 = .ok (.aload_n 0, 1) := dok_at gdL_law_l678 22 rfl
theorem dL_law_707 : decode cL_law 707 = .ok (.iload_n 3, 1) := dok_at gdL_law_l678 23 rfl
def dL_law_l708 : List (Nat × Instr × Nat) := [(708, .iconst 1, 1), (709, .iadd, 1), (710, .iaload, 1), (711, .aload_n 0, 1), (712, .iload_n 3, 1), (713, .iconst 2, 1), (714, .iadd, 1), (715, .iaload, 1), (716, .aload_n 0, 1), (717, .iload_n 3, 1), (718, .iconst 3, 1), (719, .iadd, 1), (720, .iaload, 1), (721, .invokevirtual 93, 3), (724, .pop, 1), (725, .goto 392, 3), (728, .aload_n 1, 1), (729, .aload_n 0, 1), (730, .iload_n 3, 1), (731, .iconst 1, 1), (732, .iadd, 1), (733, .iaload, 1), (734, .invokevirtual 94, 3), (737, .pop, 1)]
theorem gdL_law_l708 : dok cL_law dL_law_l708 = true := by decide +kernel
theorem dL_law_708 : decode cL_law 708 = .ok (.iconst 1, 1) := dok_at gdL_law_l708 0 rfl
theorem dL_law_709 : decode cL_law 709 = .ok (.iadd, 1) := dok_at gdL_law_l708 1 rfl
theorem dL_law_710 : decode cL_law 710 = .ok (.iaload, 1) := dok_at gdL_law_l708 2 rfl
theorem dL_law_711 : decode cL_law 711 = .ok (.aload_n 0, 1) := dok_at gdL_law_l708 3 rfl
theorem dL_law_712 : decode cL_law 712 = .ok (.iload_n 3, 1) := dok_at gdL_law_l708 4 rfl
theorem dL_law_713 : decode cL_law 713 = .ok (.iconst 2, 1) := dok_at gdL_law_l708 5 rfl
theorem dL_law_714 : decode cL_law 714 = .ok (.iadd, 1) := dok_at gdL_law_l708 6 rfl
theorem dL_law_715 : decode cL_law 715 = .ok (.iaload, 1) := dok_at gdL_law_l708 7 rfl
theorem dL_law_716 : decode cL_law 716 = .ok (.aload_n 0, 1) := dok_at gdL_law_l708 8 rfl
theorem dL_law_717 : decode cL_law 717 = .ok (.iload_n 3, 1) := dok_at gdL_law_l708 9 rfl
theorem dL_law_718 : decode cL_law 718 = .ok (.iconst 3, 1) := dok_at gdL_law_l708 10 rfl
theorem dL_law_719 : decode cL_law 719 = .ok (.iadd, 1) := dok_at gdL_law_l708 11 rfl
theorem dL_law_720 : decode cL_law 720 = .ok (.iaload, 1) := dok_at gdL_law_l708 12 rfl
theorem dL_law_721 : decode cL_law 721 = .ok (.invokevirtual 93, 3) := dok_at gdL_law_l708 13 rfl
theorem dL_law_724 : decode cL_law 724 = .ok (.pop, 1) := dok_at gdL_law_l708 14 rfl
theorem dL_law_725 : decode cL_law 725 = .ok (.goto 392, 3) := dok_at gdL_law_l708 15 rfl
theorem dL_law_728 : decode cL_law 728 = .ok (.aload_n 1, 1) := dok_at gdL_law_l708 16 rfl
theorem dL_law_729 : decode cL_law 729 = .ok (.aload_n 0, 1) := dok_at gdL_law_l708 17 rfl
theorem dL_law_730 : decode cL_law 730 = .ok (.iload_n 3, 1) := dok_at gdL_law_l708 18 rfl
theorem dL_law_731 : decode cL_law 731 = .ok (.iconst 1, 1) := dok_at gdL_law_l708 19 rfl
theorem dL_law_732 : decode cL_law 732 = .ok (.iadd, 1) := dok_at gdL_law_l708 20 rfl
theorem dL_law_733 : decode cL_law 733 = .ok (.iaload, 1) := dok_at gdL_law_l708 21 rfl
theorem dL_law_734 : decode cL_law 734 = .ok (.invokevirtual 94, 3) := dok_at gdL_law_l708 22 rfl
theorem dL_law_737 : decode cL_law 737 = .ok (.pop, 1) := dok_at gdL_law_l708 23 rfl
def dL_law_l738 : List (Nat × Instr × Nat) := [(738, .aload_n 2, 1), (739, .aload_n 0, 1), (740, .iload_n 3, 1), (741, .iconst 1, 1), (742, .iadd, 1), (743, .iaload, 1), (744, .invokevirtual 97, 3), (747, .pop, 1), (748, .goto 369, 3), (751, .aload_n 1, 1), (752, .aload_n 0, 1), (753, .iload_n 3, 1), (754, .iconst 1, 1), (755, .iadd, 1), (756, .iaload, 1), (757, .invokevirtual 98, 3), (760, .pop, 1), (761, .aload_n 2, 1), (762, .aload_n 0, 1), (763, .iload_n 3, 1), (764, .iconst 1, 1), (765, .iadd, 1), (766, .iaload, 1), (767, .invokevirtual 101, 3)]
theorem gdL_law_l738 : dok cL_law dL_law_l738 = true := by decide +kernel
theorem dL_law_738 : decode cL_law 738 = .ok (.aload_n 2, 1) := dok_at gdL_law_l738 0 rfl
theorem dL_law_739 : decode cL_law 739 = .ok (.aload_n 0, 1) := dok_at gdL_law_l738 1 rfl
theorem dL_law_740 : decode cL_law 740 = .ok (.iload_n 3, 1) := dok_at gdL_law_l738 2 rfl
theorem dL_law_741 : decode cL_law 741 = .ok (.iconst 1, 1) := dok_at gdL_law_l738 3 rfl
theorem dL_law_742 : decode cL_law 742 = .ok (.iadd, 1) := dok_at gdL_law_l738 4 rfl
theorem dL_law_743 : decode cL_law 743 = .ok (.iaload, 1) := dok_at gdL_law_l738 5 rfl
theorem dL_law_744 : decode cL_law 744 = .ok (.invokevirtual 97, 3) := dok_at gdL_law_l738 6 rfl
theorem dL_law_747 : decode cL_law 747 = .ok (.pop, 1) := dok_at gdL_law_l738 7 rfl
theorem dL_law_748 : decode cL_law 748 = .ok (.goto 369, 3) := dok_at gdL_law_l738 8 rfl
theorem dL_law_751 : decode cL_law 751 = .ok (.aload_n 1, 1) := dok_at gdL_law_l738 9 rfl
theorem dL_law_752 : decode cL_law 752 = .ok (.aload_n 0, 1) := dok_at gdL_law_l738 10 rfl
theorem dL_law_753 : decode cL_law 753 = .ok (.iload_n 3, 1) := dok_at gdL_law_l738 11 rfl
theorem dL_law_754 : decode cL_law 754 = .ok (.iconst 1, 1) := dok_at gdL_law_l738 12 rfl
theorem dL_law_755 : decode cL_law 755 = .ok (.iadd, 1) := dok_at gdL_law_l738 13 rfl
theorem dL_law_756 : decode cL_law 756 = .ok (.iaload, 1) := dok_at gdL_law_l738 14 rfl
theorem dL_law_757 : decode cL_law 757 = .ok (.invokevirtual 98, 3) := dok_at gdL_law_l738 15 rfl
theorem dL_law_760 : decode cL_law 760 = .ok (.pop, 1) := dok_at gdL_law_l738 16 rfl
theorem dL_law_761 : decode cL_law 761 = .ok (.aload_n 2, 1) := dok_at gdL_law_l738 17 rfl
theorem dL_law_762 : decode cL_law 762 = .ok (.aload_n 0, 1) := dok_at gdL_law_l738 18 rfl
theorem dL_law_763 : decode cL_law 763 = .ok (.iload_n 3, 1) := dok_at gdL_law_l738 19 rfl
theorem dL_law_764 : decode cL_law 764 = .ok (.iconst 1, 1) := dok_at gdL_law_l738 20 rfl
theorem dL_law_765 : decode cL_law 765 = .ok (.iadd, 1) := dok_at gdL_law_l738 21 rfl
theorem dL_law_766 : decode cL_law 766 = .ok (.iaload, 1) := dok_at gdL_law_l738 22 rfl
theorem dL_law_767 : decode cL_law 767 = .ok (.invokevirtual 101, 3) := dok_at gdL_law_l738 23 rfl
def dL_law_l770 : List (Nat × Instr × Nat) := [(770, .pop, 1), (771, .goto 346, 3), (774, .aload_n 1, 1), (775, .aload_n 0, 1), (776, .iload_n 3, 1), (777, .iconst 1, 1), (778, .iadd, 1), (779, .iaload, 1), (780, .invokevirtual 102, 3), (783, .pop, 1), (784, .aload_n 2, 1), (785, .aload_n 0, 1), (786, .iload_n 3, 1), (787, .iconst 1, 1), (788, .iadd, 1), (789, .iaload, 1), (790, .invokevirtual 105, 3), (793, .pop, 1), (794, .goto 323, 3), (797, .aload_n 1, 1), (798, .invokevirtual 106, 3), (801, .pop, 1), (802, .aload_n 2, 1), (803, .invokevirtual 109, 3)]
theorem gdL_law_l770 : dok cL_law dL_law_l770 = true := by decide +kernel
theorem dL_law_770 : decode cL_law 770 = .ok (.pop, 1) := dok_at gdL_law_l770 0 rfl
theorem dL_law_771 : decode cL_law 771 = .ok (.goto 346, 3) := dok_at gdL_law_l770 1 rfl
theorem dL_law_774 : decode cL_law 774 = .ok (.aload_n 1, 1) := dok_at gdL_law_l770 2 rfl
theorem dL_law_775 : decode cL_law 775 = .ok (.aload_n 0, 1) := dok_at gdL_law_l770 3 rfl
theorem dL_law_776 : decode cL_law 776 = .ok (.iload_n 3, 1) := dok_at gdL_law_l770 4 rfl
theorem dL_law_777 : decode cL_law 777 = .ok (.iconst 1, 1) := dok_at gdL_law_l770 5 rfl
theorem dL_law_778 : decode cL_law 778 = .ok (.iadd, 1) := dok_at gdL_law_l770 6 rfl
theorem dL_law_779 : decode cL_law 779 = .ok (.iaload, 1) := dok_at gdL_law_l770 7 rfl
theorem dL_law_780 : decode cL_law 780 = .ok (.invokevirtual 102, 3) := dok_at gdL_law_l770 8 rfl
theorem dL_law_783 : decode cL_law 783 = .ok (.pop, 1) := dok_at gdL_law_l770 9 rfl
theorem dL_law_784 : decode cL_law 784 = .ok (.aload_n 2, 1) := dok_at gdL_law_l770 10 rfl
theorem dL_law_785 : decode cL_law 785 = .ok (.aload_n 0, 1) := dok_at gdL_law_l770 11 rfl
theorem dL_law_786 : decode cL_law 786 = .ok (.iload_n 3, 1) := dok_at gdL_law_l770 12 rfl
theorem dL_law_787 : decode cL_law 787 = .ok (.iconst 1, 1) := dok_at gdL_law_l770 13 rfl
theorem dL_law_788 : decode cL_law 788 = .ok (.iadd, 1) := dok_at gdL_law_l770 14 rfl
theorem dL_law_789 : decode cL_law 789 = .ok (.iaload, 1) := dok_at gdL_law_l770 15 rfl
theorem dL_law_790 : decode cL_law 790 = .ok (.invokevirtual 105, 3) := dok_at gdL_law_l770 16 rfl
theorem dL_law_793 : decode cL_law 793 = .ok (.pop, 1) := dok_at gdL_law_l770 17 rfl
theorem dL_law_794 : decode cL_law 794 = .ok (.goto 323, 3) := dok_at gdL_law_l770 18 rfl
theorem dL_law_797 : decode cL_law 797 = .ok (.aload_n 1, 1) := dok_at gdL_law_l770 19 rfl
theorem dL_law_798 : decode cL_law 798 = .ok (.invokevirtual 106, 3) := dok_at gdL_law_l770 20 rfl
theorem dL_law_801 : decode cL_law 801 = .ok (.pop, 1) := dok_at gdL_law_l770 21 rfl
theorem dL_law_802 : decode cL_law 802 = .ok (.aload_n 2, 1) := dok_at gdL_law_l770 22 rfl
theorem dL_law_803 : decode cL_law 803 = .ok (.invokevirtual 109, 3) := dok_at gdL_law_l770 23 rfl
def dL_law_l806 : List (Nat × Instr × Nat) := [(806, .pop, 1), (807, .goto 310, 3), (810, .aload_n 1, 1), (811, .aload_n 0, 1), (812, .iload_n 3, 1), (813, .iconst 1, 1), (814, .iadd, 1), (815, .iaload, 1), (816, .invokevirtual 110, 3), (819, .pop, 1), (820, .aload_n 2, 1), (821, .aload_n 0, 1), (822, .iload_n 3, 1), (823, .iconst 1, 1), (824, .iadd, 1), (825, .iaload, 1), (826, .invokevirtual 113, 3), (829, .pop, 1), (830, .goto 287, 3), (833, .aload_n 1, 1), (834, .aload_n 0, 1), (835, .iload_n 3, 1), (836, .iconst 1, 1), (837, .iadd, 1)]
theorem gdL_law_l806 : dok cL_law dL_law_l806 = true := by decide +kernel
theorem dL_law_806 : decode cL_law 806 = .ok (.pop, 1) := dok_at gdL_law_l806 0 rfl
theorem dL_law_807 : decode cL_law 807 = .ok (.goto 310, 3) := dok_at gdL_law_l806 1 rfl
theorem dL_law_810 : decode cL_law 810 = .ok (.aload_n 1, 1) := dok_at gdL_law_l806 2 rfl
theorem dL_law_811 : decode cL_law 811 = .ok (.aload_n 0, 1) := dok_at gdL_law_l806 3 rfl
theorem dL_law_812 : decode cL_law 812 = .ok (.iload_n 3, 1) := dok_at gdL_law_l806 4 rfl
theorem dL_law_813 : decode cL_law 813 = .ok (.iconst 1, 1) := dok_at gdL_law_l806 5 rfl
theorem dL_law_814 : decode cL_law 814 = .ok (.iadd, 1) := dok_at gdL_law_l806 6 rfl
theorem dL_law_815 : decode cL_law 815 = .ok (.iaload, 1) := dok_at gdL_law_l806 7 rfl
theorem dL_law_816 : decode cL_law 816 = .ok (.invokevirtual 110, 3) := dok_at gdL_law_l806 8 rfl
theorem dL_law_819 : decode cL_law 819 = .ok (.pop, 1) := dok_at gdL_law_l806 9 rfl
theorem dL_law_820 : decode cL_law 820 = .ok (.aload_n 2, 1) := dok_at gdL_law_l806 10 rfl
theorem dL_law_821 : decode cL_law 821 = .ok (.aload_n 0, 1) := dok_at gdL_law_l806 11 rfl
theorem dL_law_822 : decode cL_law 822 = .ok (.iload_n 3, 1) := dok_at gdL_law_l806 12 rfl
theorem dL_law_823 : decode cL_law 823 = .ok (.iconst 1, 1) := dok_at gdL_law_l806 13 rfl
theorem dL_law_824 : decode cL_law 824 = .ok (.iadd, 1) := dok_at gdL_law_l806 14 rfl
theorem dL_law_825 : decode cL_law 825 = .ok (.iaload, 1) := dok_at gdL_law_l806 15 rfl
theorem dL_law_826 : decode cL_law 826 = .ok (.invokevirtual 113, 3) := dok_at gdL_law_l806 16 rfl
theorem dL_law_829 : decode cL_law 829 = .ok (.pop, 1) := dok_at gdL_law_l806 17 rfl
theorem dL_law_830 : decode cL_law 830 = .ok (.goto 287, 3) := dok_at gdL_law_l806 18 rfl
theorem dL_law_833 : decode cL_law 833 = .ok (.aload_n 1, 1) := dok_at gdL_law_l806 19 rfl
theorem dL_law_834 : decode cL_law 834 = .ok (.aload_n 0, 1) := dok_at gdL_law_l806 20 rfl
theorem dL_law_835 : decode cL_law 835 = .ok (.iload_n 3, 1) := dok_at gdL_law_l806 21 rfl
theorem dL_law_836 : decode cL_law 836 = .ok (.iconst 1, 1) := dok_at gdL_law_l806 22 rfl
theorem dL_law_837 : decode cL_law 837 = .ok (.iadd, 1) := dok_at gdL_law_l806 23 rfl
def dL_law_l838 : List (Nat × Instr × Nat) := [(838, .iaload, 1), (839, .aload_n 0, 1), (840, .iload_n 3, 1), (841, .iconst 2, 1), (842, .iadd, 1), (843, .iaload, 1), (844, .invokevirtual 114, 3), (847, .pop, 1), (848, .aload_n 2, 1), (849, .aload_n 0, 1), (850, .iload_n 3, 1), (851, .iconst 1, 1), (852, .iadd, 1), (853, .iaload, 1), (854, .aload_n 0, 1), (855, .iload_n 3, 1), (856, .iconst 2, 1), (857, .iadd, 1), (858, .iaload, 1), (859, .invokevirtual 117, 3), (862, .pop, 1), (863, .goto 254, 3), (866, .aload_n 1, 1), (867, .aload_n 0, 1)]
theorem gdL_law_l838 : dok cL_law dL_law_l838 = true := by decide +kernel
theorem dL_law_838 : decode cL_law 838 = .ok (.iaload, 1) := dok_at gdL_law_l838 0 rfl
theorem dL_law_839 : decode cL_law 839 = .ok (.aload_n 0, 1) := dok_at gdL_law_l838 1 rfl
theorem dL_law_840 : decode cL_law 840 = .ok (.iload_n 3, 1) := dok_at gdL_law_l838 2 rfl
theorem dL_law_841 : decode cL_law 841 = .ok (.iconst 2, 1) := dok_at gdL_law_l838 3 rfl
theorem dL_law_842 : decode cL_law 842 = .ok (.iadd, 1) := dok_at gdL_law_l838 4 rfl
theorem dL_law_843 : decode cL_law 843 = .ok (.iaload, 1) := dok_at gdL_law_l838 5 rfl
theorem dL_law_844 : decode cL_law 844 = .ok (.invokevirtual 114, 3) := dok_at gdL_law_l838 6 rfl
theorem dL_law_847 : decode cL_law 847 = .ok (.pop, 1) := dok_at gdL_law_l838 7 rfl
theorem dL_law_848 : decode cL_law 848 = .ok (.aload_n 2, 1) := dok_at gdL_law_l838 8 rfl
theorem dL_law_849 : decode cL_law 849 = .ok (.aload_n 0, 1) := dok_at gdL_law_l838 9 rfl
theorem dL_law_850 : decode cL_law 850 = .ok (.iload_n 3, 1) := dok_at gdL_law_l838 10 rfl
theorem dL_law_851 : decode cL_law 851 = .ok (.iconst 1, 1) := dok_at gdL_law_l838 11 rfl
theorem dL_law_852 : decode cL_law 852 = .ok (.iadd, 1) := dok_at gdL_law_l838 12 rfl
theorem dL_law_853 : decode cL_law 853 = .ok (.iaload, 1) := dok_at gdL_law_l838 13 rfl
theorem dL_law_854 : decode cL_law 854 = .ok (.aload_n 0, 1) := dok_at gdL_law_l838 14 rfl
theorem dL_law_855 : decode cL_law 855 = .ok (.iload_n 3, 1) := dok_at gdL_law_l838 15 rfl
theorem dL_law_856 : decode cL_law 856 = .ok (.iconst 2, 1) := dok_at gdL_law_l838 16 rfl
theorem dL_law_857 : decode cL_law 857 = .ok (.iadd, 1) := dok_at gdL_law_l838 17 rfl
theorem dL_law_858 : decode cL_law 858 = .ok (.iaload, 1) := dok_at gdL_law_l838 18 rfl
theorem dL_law_859 : decode cL_law 859 = .ok (.invokevirtual 117, 3) := dok_at gdL_law_l838 19 rfl
theorem dL_law_862 : decode cL_law 862 = .ok (.pop, 1) := dok_at gdL_law_l838 20 rfl
theorem dL_law_863 : decode cL_law 863 = .ok (.goto 254, 3) := dok_at gdL_law_l838 21 rfl
theorem dL_law_866 : decode cL_law 866 = .ok (.aload_n 1, 1) := dok_at gdL_law_l838 22 rfl
theorem dL_law_867 : decode cL_law 867 = .ok (.aload_n 0, 1) := dok_at gdL_law_l838 23 rfl
def dL_law_l868 : List (Nat × Instr × Nat) := [(868, .iload_n 3, 1), (869, .iconst 1, 1), (870, .iadd, 1), (871, .iaload, 1), (872, .aload_n 0, 1), (873, .iload_n 3, 1), (874, .iconst 2, 1), (875, .iadd, 1), (876, .iaload, 1), (877, .invokevirtual 118, 3), (880, .pop, 1), (881, .aload_n 2, 1), (882, .aload_n 0, 1), (883, .iload_n 3, 1), (884, .iconst 1, 1), (885, .iadd, 1), (886, .iaload, 1), (887, .aload_n 0, 1), (888, .iload_n 3, 1), (889, .iconst 2, 1), (890, .iadd, 1), (891, .iaload, 1), (892, .invokevirtual 121, 3), (895, .pop, 1)]
theorem gdL_law_l868 : dok cL_law dL_law_l868 = true := by decide +kernel
theorem dL_law_868 : decode cL_law 868 = .ok (.iload_n 3, 1) := dok_at gdL_law_l868 0 rfl
theorem dL_law_869 : decode cL_law 869 = .ok (.iconst 1, 1) := dok_at gdL_law_l868 1 rfl
theorem dL_law_870 : decode cL_law 870 = .ok (.iadd, 1) := dok_at gdL_law_l868 2 rfl
theorem dL_law_871 : decode cL_law 871 = .ok (.iaload, 1) := dok_at gdL_law_l868 3 rfl
theorem dL_law_872 : decode cL_law 872 = .ok (.aload_n 0, 1) := dok_at gdL_law_l868 4 rfl
theorem dL_law_873 : decode cL_law 873 = .ok (.iload_n 3, 1) := dok_at gdL_law_l868 5 rfl
theorem dL_law_874 : decode cL_law 874 = .ok (.iconst 2, 1) := dok_at gdL_law_l868 6 rfl
theorem dL_law_875 : decode cL_law 875 = .ok (.iadd, 1) := dok_at gdL_law_l868 7 rfl
theorem dL_law_876 : decode cL_law 876 = .ok (.iaload, 1) := dok_at gdL_law_l868 8 rfl
theorem dL_law_877 : decode cL_law 877 = .ok (.invokevirtual 118, 3) := dok_at gdL_law_l868 9 rfl
theorem dL_law_880 : decode cL_law 880 = .ok (.pop, 1) := dok_at gdL_law_l868 10 rfl
theorem dL_law_881 : decode cL_law 881 = .ok (.aload_n 2, 1) := dok_at gdL_law_l868 11 rfl
theorem dL_law_882 : decode cL_law 882 = .ok (.aload_n 0, 1) := dok_at gdL_law_l868 12 rfl
theorem dL_law_883 : decode cL_law 883 = .ok (.iload_n 3, 1) := dok_at gdL_law_l868 13 rfl
theorem dL_law_884 : decode cL_law 884 = .ok (.iconst 1, 1) := dok_at gdL_law_l868 14 rfl
theorem dL_law_885 : decode cL_law 885 = .ok (.iadd, 1) := dok_at gdL_law_l868 15 rfl
theorem dL_law_886 : decode cL_law 886 = .ok (.iaload, 1) := dok_at gdL_law_l868 16 rfl
theorem dL_law_887 : decode cL_law 887 = .ok (.aload_n 0, 1) := dok_at gdL_law_l868 17 rfl
theorem dL_law_888 : decode cL_law 888 = .ok (.iload_n 3, 1) := dok_at gdL_law_l868 18 rfl
theorem dL_law_889 : decode cL_law 889 = .ok (.iconst 2, 1) := dok_at gdL_law_l868 19 rfl
theorem dL_law_890 : decode cL_law 890 = .ok (.iadd, 1) := dok_at gdL_law_l868 20 rfl
theorem dL_law_891 : decode cL_law 891 = .ok (.iaload, 1) := dok_at gdL_law_l868 21 rfl
theorem dL_law_892 : decode cL_law 892 = .ok (.invokevirtual 121, 3) := dok_at gdL_law_l868 22 rfl
theorem dL_law_895 : decode cL_law 895 = .ok (.pop, 1) := dok_at gdL_law_l868 23 rfl
def dL_law_l896 : List (Nat × Instr × Nat) := [(896, .goto 221, 3), (899, .aload_n 1, 1), (900, .aload_n 0, 1), (901, .iload_n 3, 1), (902, .iconst 1, 1), (903, .iadd, 1), (904, .iaload, 1), (905, .invokevirtual 122, 3), (908, .pop, 1), (909, .aload_n 2, 1), (910, .aload_n 0, 1), (911, .iload_n 3, 1), (912, .iconst 1, 1), (913, .iadd, 1), (914, .iaload, 1), (915, .invokevirtual 125, 3), (918, .pop, 1), (919, .goto 198, 3), (922, .aload_n 1, 1), (923, .aload_n 0, 1), (924, .iload_n 3, 1), (925, .iconst 1, 1), (926, .iadd, 1), (927, .iaload, 1)]
theorem gdL_law_l896 : dok cL_law dL_law_l896 = true := by decide +kernel
theorem dL_law_896 : decode cL_law 896 = .ok (.goto 221, 3) := dok_at gdL_law_l896 0 rfl
theorem dL_law_899 : decode cL_law 899 = .ok (.aload_n 1, 1) := dok_at gdL_law_l896 1 rfl
theorem dL_law_900 : decode cL_law 900 = .ok (.aload_n 0, 1) := dok_at gdL_law_l896 2 rfl
theorem dL_law_901 : decode cL_law 901 = .ok (.iload_n 3, 1) := dok_at gdL_law_l896 3 rfl
theorem dL_law_902 : decode cL_law 902 = .ok (.iconst 1, 1) := dok_at gdL_law_l896 4 rfl
theorem dL_law_903 : decode cL_law 903 = .ok (.iadd, 1) := dok_at gdL_law_l896 5 rfl
theorem dL_law_904 : decode cL_law 904 = .ok (.iaload, 1) := dok_at gdL_law_l896 6 rfl
theorem dL_law_905 : decode cL_law 905 = .ok (.invokevirtual 122, 3) := dok_at gdL_law_l896 7 rfl
theorem dL_law_908 : decode cL_law 908 = .ok (.pop, 1) := dok_at gdL_law_l896 8 rfl
theorem dL_law_909 : decode cL_law 909 = .ok (.aload_n 2, 1) := dok_at gdL_law_l896 9 rfl
theorem dL_law_910 : decode cL_law 910 = .ok (.aload_n 0, 1) := dok_at gdL_law_l896 10 rfl
theorem dL_law_911 : decode cL_law 911 = .ok (.iload_n 3, 1) := dok_at gdL_law_l896 11 rfl
theorem dL_law_912 : decode cL_law 912 = .ok (.iconst 1, 1) := dok_at gdL_law_l896 12 rfl
theorem dL_law_913 : decode cL_law 913 = .ok (.iadd, 1) := dok_at gdL_law_l896 13 rfl
theorem dL_law_914 : decode cL_law 914 = .ok (.iaload, 1) := dok_at gdL_law_l896 14 rfl
theorem dL_law_915 : decode cL_law 915 = .ok (.invokevirtual 125, 3) := dok_at gdL_law_l896 15 rfl
theorem dL_law_918 : decode cL_law 918 = .ok (.pop, 1) := dok_at gdL_law_l896 16 rfl
theorem dL_law_919 : decode cL_law 919 = .ok (.goto 198, 3) := dok_at gdL_law_l896 17 rfl
theorem dL_law_922 : decode cL_law 922 = .ok (.aload_n 1, 1) := dok_at gdL_law_l896 18 rfl
theorem dL_law_923 : decode cL_law 923 = .ok (.aload_n 0, 1) := dok_at gdL_law_l896 19 rfl
theorem dL_law_924 : decode cL_law 924 = .ok (.iload_n 3, 1) := dok_at gdL_law_l896 20 rfl
theorem dL_law_925 : decode cL_law 925 = .ok (.iconst 1, 1) := dok_at gdL_law_l896 21 rfl
theorem dL_law_926 : decode cL_law 926 = .ok (.iadd, 1) := dok_at gdL_law_l896 22 rfl
theorem dL_law_927 : decode cL_law 927 = .ok (.iaload, 1) := dok_at gdL_law_l896 23 rfl
def dL_law_l928 : List (Nat × Instr × Nat) := [(928, .invokevirtual 126, 3), (931, .pop, 1), (932, .aload_n 2, 1), (933, .aload_n 0, 1), (934, .iload_n 3, 1), (935, .iconst 1, 1), (936, .iadd, 1), (937, .iaload, 1), (938, .invokevirtual 129, 3), (941, .pop, 1), (942, .goto 175, 3), (945, .aload_n 1, 1), (946, .aload_n 0, 1), (947, .iload_n 3, 1), (948, .iconst 1, 1), (949, .iadd, 1), (950, .iaload, 1), (951, .aload_n 0, 1), (952, .iload_n 3, 1), (953, .iconst 2, 1), (954, .iadd, 1), (955, .iaload, 1), (956, .aload_n 0, 1), (957, .iload_n 3, 1)]
theorem gdL_law_l928 : dok cL_law dL_law_l928 = true := by decide +kernel
theorem dL_law_928 : decode cL_law 928 = .ok (.invokevirtual 126, 3) := dok_at gdL_law_l928 0 rfl
theorem dL_law_931 : decode cL_law 931 = .ok (.pop, 1) := dok_at gdL_law_l928 1 rfl
theorem dL_law_932 : decode cL_law 932 = .ok (.aload_n 2, 1) := dok_at gdL_law_l928 2 rfl
theorem dL_law_933 : decode cL_law 933 = .ok (.aload_n 0, 1) := dok_at gdL_law_l928 3 rfl
theorem dL_law_934 : decode cL_law 934 = .ok (.iload_n 3, 1) := dok_at gdL_law_l928 4 rfl
theorem dL_law_935 : decode cL_law 935 = .ok (.iconst 1, 1) := dok_at gdL_law_l928 5 rfl
theorem dL_law_936 : decode cL_law 936 = .ok (.iadd, 1) := dok_at gdL_law_l928 6 rfl
theorem dL_law_937 : decode cL_law 937 = .ok (.iaload, 1) := dok_at gdL_law_l928 7 rfl
theorem dL_law_938 : decode cL_law 938 = .ok (.invokevirtual 129, 3) := dok_at gdL_law_l928 8 rfl
theorem dL_law_941 : decode cL_law 941 = .ok (.pop, 1) := dok_at gdL_law_l928 9 rfl
theorem dL_law_942 : decode cL_law 942 = .ok (.goto 175, 3) := dok_at gdL_law_l928 10 rfl
theorem dL_law_945 : decode cL_law 945 = .ok (.aload_n 1, 1) := dok_at gdL_law_l928 11 rfl
theorem dL_law_946 : decode cL_law 946 = .ok (.aload_n 0, 1) := dok_at gdL_law_l928 12 rfl
theorem dL_law_947 : decode cL_law 947 = .ok (.iload_n 3, 1) := dok_at gdL_law_l928 13 rfl
theorem dL_law_948 : decode cL_law 948 = .ok (.iconst 1, 1) := dok_at gdL_law_l928 14 rfl
theorem dL_law_949 : decode cL_law 949 = .ok (.iadd, 1) := dok_at gdL_law_l928 15 rfl
theorem dL_law_950 : decode cL_law 950 = .ok (.iaload, 1) := dok_at gdL_law_l928 16 rfl
theorem dL_law_951 : decode cL_law 951 = .ok (.aload_n 0, 1) := dok_at gdL_law_l928 17 rfl
theorem dL_law_952 : decode cL_law 952 = .ok (.iload_n 3, 1) := dok_at gdL_law_l928 18 rfl
theorem dL_law_953 : decode cL_law 953 = .ok (.iconst 2, 1) := dok_at gdL_law_l928 19 rfl
theorem dL_law_954 : decode cL_law 954 = .ok (.iadd, 1) := dok_at gdL_law_l928 20 rfl
theorem dL_law_955 : decode cL_law 955 = .ok (.iaload, 1) := dok_at gdL_law_l928 21 rfl
theorem dL_law_956 : decode cL_law 956 = .ok (.aload_n 0, 1) := dok_at gdL_law_l928 22 rfl
theorem dL_law_957 : decode cL_law 957 = .ok (.iload_n 3, 1) := dok_at gdL_law_l928 23 rfl
def dL_law_l958 : List (Nat × Instr × Nat) := [(958, .iconst 3, 1), (959, .iadd, 1), (960, .iaload, 1), (961, .invokevirtual 130, 3), (964, .pop, 1), (965, .aload_n 2, 1), (966, .aload_n 0, 1), (967, .iload_n 3, 1), (968, .iconst 1, 1), (969, .iadd, 1), (970, .iaload, 1), (971, .aload_n 0, 1), (972, .iload_n 3, 1), (973, .iconst 2, 1), (974, .iadd, 1), (975, .iaload, 1), (976, .aload_n 0, 1), (977, .iload_n 3, 1), (978, .iconst 3, 1), (979, .iadd, 1), (980, .iaload, 1), (981, .invokevirtual 133, 3), (984, .pop, 1), (985, .goto 132, 3)]
theorem gdL_law_l958 : dok cL_law dL_law_l958 = true := by decide +kernel
theorem dL_law_958 : decode cL_law 958 = .ok (.iconst 3, 1) := dok_at gdL_law_l958 0 rfl
theorem dL_law_959 : decode cL_law 959 = .ok (.iadd, 1) := dok_at gdL_law_l958 1 rfl
theorem dL_law_960 : decode cL_law 960 = .ok (.iaload, 1) := dok_at gdL_law_l958 2 rfl
theorem dL_law_961 : decode cL_law 961 = .ok (.invokevirtual 130, 3) := dok_at gdL_law_l958 3 rfl
theorem dL_law_964 : decode cL_law 964 = .ok (.pop, 1) := dok_at gdL_law_l958 4 rfl
theorem dL_law_965 : decode cL_law 965 = .ok (.aload_n 2, 1) := dok_at gdL_law_l958 5 rfl
theorem dL_law_966 : decode cL_law 966 = .ok (.aload_n 0, 1) := dok_at gdL_law_l958 6 rfl
theorem dL_law_967 : decode cL_law 967 = .ok (.iload_n 3, 1) := dok_at gdL_law_l958 7 rfl
theorem dL_law_968 : decode cL_law 968 = .ok (.iconst 1, 1) := dok_at gdL_law_l958 8 rfl
theorem dL_law_969 : decode cL_law 969 = .ok (.iadd, 1) := dok_at gdL_law_l958 9 rfl
theorem dL_law_970 : decode cL_law 970 = .ok (.iaload, 1) := dok_at gdL_law_l958 10 rfl
theorem dL_law_971 : decode cL_law 971 = .ok (.aload_n 0, 1) := dok_at gdL_law_l958 11 rfl
theorem dL_law_972 : decode cL_law 972 = .ok (.iload_n 3, 1) := dok_at gdL_law_l958 12 rfl
theorem dL_law_973 : decode cL_law 973 = .ok (.iconst 2, 1) := dok_at gdL_law_l958 13 rfl
theorem dL_law_974 : decode cL_law 974 = .ok (.iadd, 1) := dok_at gdL_law_l958 14 rfl
theorem dL_law_975 : decode cL_law 975 = .ok (.iaload, 1) := dok_at gdL_law_l958 15 rfl
theorem dL_law_976 : decode cL_law 976 = .ok (.aload_n 0, 1) := dok_at gdL_law_l958 16 rfl
theorem dL_law_977 : decode cL_law 977 = .ok (.iload_n 3, 1) := dok_at gdL_law_l958 17 rfl
theorem dL_law_978 : decode cL_law 978 = .ok (.iconst 3, 1) := dok_at gdL_law_l958 18 rfl
theorem dL_law_979 : decode cL_law 979 = .ok (.iadd, 1) := dok_at gdL_law_l958 19 rfl
theorem dL_law_980 : decode cL_law 980 = .ok (.iaload, 1) := dok_at gdL_law_l958 20 rfl
theorem dL_law_981 : decode cL_law 981 = .ok (.invokevirtual 133, 3) := dok_at gdL_law_l958 21 rfl
theorem dL_law_984 : decode cL_law 984 = .ok (.pop, 1) := dok_at gdL_law_l958 22 rfl
theorem dL_law_985 : decode cL_law 985 = .ok (.goto 132, 3) := dok_at gdL_law_l958 23 rfl
def dL_law_l988 : List (Nat × Instr × Nat) := [(988, .aload_n 1, 1), (989, .aload_n 0, 1), (990, .iload_n 3, 1), (991, .iconst 1, 1), (992, .iadd, 1), (993, .iaload, 1), (994, .aload_n 0, 1), (995, .iload_n 3, 1), (996, .iconst 2, 1), (997, .iadd, 1), (998, .iaload, 1), (999, .aload_n 0, 1), (1000, .iload_n 3, 1), (1001, .iconst 3, 1), (1002, .iadd, 1), (1003, .iaload, 1), (1004, .invokevirtual 134, 3), (1007, .pop, 1), (1008, .aload_n 2, 1), (1009, .aload_n 0, 1), (1010, .iload_n 3, 1), (1011, .iconst 1, 1), (1012, .iadd, 1), (1013, .iaload, 1)]
theorem gdL_law_l988 : dok cL_law dL_law_l988 = true := by decide +kernel
theorem dL_law_988 : decode cL_law 988 = .ok (.aload_n 1, 1) := dok_at gdL_law_l988 0 rfl
theorem dL_law_989 : decode cL_law 989 = .ok (.aload_n 0, 1) := dok_at gdL_law_l988 1 rfl
theorem dL_law_990 : decode cL_law 990 = .ok (.iload_n 3, 1) := dok_at gdL_law_l988 2 rfl
theorem dL_law_991 : decode cL_law 991 = .ok (.iconst 1, 1) := dok_at gdL_law_l988 3 rfl
theorem dL_law_992 : decode cL_law 992 = .ok (.iadd, 1) := dok_at gdL_law_l988 4 rfl
theorem dL_law_993 : decode cL_law 993 = .ok (.iaload, 1) := dok_at gdL_law_l988 5 rfl
theorem dL_law_994 : decode cL_law 994 = .ok (.aload_n 0, 1) := dok_at gdL_law_l988 6 rfl
theorem dL_law_995 : decode cL_law 995 = .ok (.iload_n 3, 1) := dok_at gdL_law_l988 7 rfl
theorem dL_law_996 : decode cL_law 996 = .ok (.iconst 2, 1) := dok_at gdL_law_l988 8 rfl
theorem dL_law_997 : decode cL_law 997 = .ok (.iadd, 1) := dok_at gdL_law_l988 9 rfl
theorem dL_law_998 : decode cL_law 998 = .ok (.iaload, 1) := dok_at gdL_law_l988 10 rfl
theorem dL_law_999 : decode cL_law 999 = .ok (.aload_n 0, 1) := dok_at gdL_law_l988 11 rfl
theorem dL_law_1000 : decode cL_law 1000 = .ok (.iload_n 3, 1) := dok_at gdL_law_l988 12 rfl
theorem dL_law_1001 : decode cL_law 1001 = .ok (.iconst 3, 1) := dok_at gdL_law_l988 13 rfl
theorem dL_law_1002 : decode cL_law 1002 = .ok (.iadd, 1) := dok_at gdL_law_l988 14 rfl
theorem dL_law_1003 : decode cL_law 1003 = .ok (.iaload, 1) := dok_at gdL_law_l988 15 rfl
theorem dL_law_1004 : decode cL_law 1004 = .ok (.invokevirtual 134, 3) := dok_at gdL_law_l988 16 rfl
theorem dL_law_1007 : decode cL_law 1007 = .ok (.pop, 1) := dok_at gdL_law_l988 17 rfl
theorem dL_law_1008 : decode cL_law 1008 = .ok (.aload_n 2, 1) := dok_at gdL_law_l988 18 rfl
theorem dL_law_1009 : decode cL_law 1009 = .ok (.aload_n 0, 1) := dok_at gdL_law_l988 19 rfl
theorem dL_law_1010 : decode cL_law 1010 = .ok (.iload_n 3, 1) := dok_at gdL_law_l988 20 rfl
theorem dL_law_1011 : decode cL_law 1011 = .ok (.iconst 1, 1) := dok_at gdL_law_l988 21 rfl
theorem dL_law_1012 : decode cL_law 1012 = .ok (.iadd, 1) := dok_at gdL_law_l988 22 rfl
theorem dL_law_1013 : decode cL_law 1013 = .ok (.iaload, 1) := dok_at gdL_law_l988 23 rfl
def dL_law_l1014 : List (Nat × Instr × Nat) := [(1014, .aload_n 0, 1), (1015, .iload_n 3, 1), (1016, .iconst 2, 1), (1017, .iadd, 1), (1018, .iaload, 1), (1019, .aload_n 0, 1), (1020, .iload_n 3, 1), (1021, .iconst 3, 1), (1022, .iadd, 1), (1023, .iaload, 1), (1024, .invokevirtual 137, 3), (1027, .pop, 1), (1028, .goto 89, 3), (1031, .aload_n 1, 1), (1032, .aload_n 0, 1), (1033, .iload_n 3, 1), (1034, .iconst 1, 1), (1035, .iadd, 1), (1036, .iaload, 1), (1037, .aload_n 0, 1), (1038, .iload_n 3, 1), (1039, .iconst 2, 1), (1040, .iadd, 1), (1041, .iaload, 1)]
theorem gdL_law_l1014 : dok cL_law dL_law_l1014 = true := by decide +kernel
theorem dL_law_1014 : decode cL_law 1014 = .ok (.aload_n 0, 1) := dok_at gdL_law_l1014 0 rfl
theorem dL_law_1015 : decode cL_law 1015 = .ok (.iload_n 3, 1) := dok_at gdL_law_l1014 1 rfl
theorem dL_law_1016 : decode cL_law 1016 = .ok (.iconst 2, 1) := dok_at gdL_law_l1014 2 rfl
theorem dL_law_1017 : decode cL_law 1017 = .ok (.iadd, 1) := dok_at gdL_law_l1014 3 rfl
theorem dL_law_1018 : decode cL_law 1018 = .ok (.iaload, 1) := dok_at gdL_law_l1014 4 rfl
theorem dL_law_1019 : decode cL_law 1019 = .ok (.aload_n 0, 1) := dok_at gdL_law_l1014 5 rfl
theorem dL_law_1020 : decode cL_law 1020 = .ok (.iload_n 3, 1) := dok_at gdL_law_l1014 6 rfl
theorem dL_law_1021 : decode cL_law 1021 = .ok (.iconst 3, 1) := dok_at gdL_law_l1014 7 rfl
theorem dL_law_1022 : decode cL_law 1022 = .ok (.iadd, 1) := dok_at gdL_law_l1014 8 rfl
theorem dL_law_1023 : decode cL_law 1023 = .ok (.iaload, 1) := dok_at gdL_law_l1014 9 rfl
theorem dL_law_1024 : decode cL_law 1024 = .ok (.invokevirtual 137, 3) := dok_at gdL_law_l1014 10 rfl
theorem dL_law_1027 : decode cL_law 1027 = .ok (.pop, 1) := dok_at gdL_law_l1014 11 rfl
theorem dL_law_1028 : decode cL_law 1028 = .ok (.goto 89, 3) := dok_at gdL_law_l1014 12 rfl
theorem dL_law_1031 : decode cL_law 1031 = .ok (.aload_n 1, 1) := dok_at gdL_law_l1014 13 rfl
theorem dL_law_1032 : decode cL_law 1032 = .ok (.aload_n 0, 1) := dok_at gdL_law_l1014 14 rfl
theorem dL_law_1033 : decode cL_law 1033 = .ok (.iload_n 3, 1) := dok_at gdL_law_l1014 15 rfl
theorem dL_law_1034 : decode cL_law 1034 = .ok (.iconst 1, 1) := dok_at gdL_law_l1014 16 rfl
theorem dL_law_1035 : decode cL_law 1035 = .ok (.iadd, 1) := dok_at gdL_law_l1014 17 rfl
theorem dL_law_1036 : decode cL_law 1036 = .ok (.iaload, 1) := dok_at gdL_law_l1014 18 rfl
theorem dL_law_1037 : decode cL_law 1037 = .ok (.aload_n 0, 1) := dok_at gdL_law_l1014 19 rfl
theorem dL_law_1038 : decode cL_law 1038 = .ok (.iload_n 3, 1) := dok_at gdL_law_l1014 20 rfl
theorem dL_law_1039 : decode cL_law 1039 = .ok (.iconst 2, 1) := dok_at gdL_law_l1014 21 rfl
theorem dL_law_1040 : decode cL_law 1040 = .ok (.iadd, 1) := dok_at gdL_law_l1014 22 rfl
theorem dL_law_1041 : decode cL_law 1041 = .ok (.iaload, 1) := dok_at gdL_law_l1014 23 rfl
def dL_law_l1042 : List (Nat × Instr × Nat) := [(1042, .aload_n 0, 1), (1043, .iload_n 3, 1), (1044, .iconst 3, 1), (1045, .iadd, 1), (1046, .iaload, 1), (1047, .aload_n 0, 1), (1048, .iload_n 3, 1), (1049, .iconst 4, 1), (1050, .iadd, 1), (1051, .iaload, 1), (1052, .aload_n 0, 1), (1053, .iload_n 3, 1), (1054, .iconst 5, 1), (1055, .iadd, 1), (1056, .iaload, 1), (1057, .invokevirtual 138, 3), (1060, .pop, 1), (1061, .aload_n 2, 1), (1062, .aload_n 0, 1), (1063, .iload_n 3, 1), (1064, .iconst 1, 1), (1065, .iadd, 1), (1066, .iaload, 1), (1067, .aload_n 0, 1)]
theorem gdL_law_l1042 : dok cL_law dL_law_l1042 = true := by decide +kernel
theorem dL_law_1042 : decode cL_law 1042 = .ok (.aload_n 0, 1) := dok_at gdL_law_l1042 0 rfl
theorem dL_law_1043 : decode cL_law 1043 = .ok (.iload_n 3, 1) := dok_at gdL_law_l1042 1 rfl
theorem dL_law_1044 : decode cL_law 1044 = .ok (.iconst 3, 1) := dok_at gdL_law_l1042 2 rfl
theorem dL_law_1045 : decode cL_law 1045 = .ok (.iadd, 1) := dok_at gdL_law_l1042 3 rfl
theorem dL_law_1046 : decode cL_law 1046 = .ok (.iaload, 1) := dok_at gdL_law_l1042 4 rfl
theorem dL_law_1047 : decode cL_law 1047 = .ok (.aload_n 0, 1) := dok_at gdL_law_l1042 5 rfl
theorem dL_law_1048 : decode cL_law 1048 = .ok (.iload_n 3, 1) := dok_at gdL_law_l1042 6 rfl
theorem dL_law_1049 : decode cL_law 1049 = .ok (.iconst 4, 1) := dok_at gdL_law_l1042 7 rfl
theorem dL_law_1050 : decode cL_law 1050 = .ok (.iadd, 1) := dok_at gdL_law_l1042 8 rfl
theorem dL_law_1051 : decode cL_law 1051 = .ok (.iaload, 1) := dok_at gdL_law_l1042 9 rfl
theorem dL_law_1052 : decode cL_law 1052 = .ok (.aload_n 0, 1) := dok_at gdL_law_l1042 10 rfl
theorem dL_law_1053 : decode cL_law 1053 = .ok (.iload_n 3, 1) := dok_at gdL_law_l1042 11 rfl
theorem dL_law_1054 : decode cL_law 1054 = .ok (.iconst 5, 1) := dok_at gdL_law_l1042 12 rfl
theorem dL_law_1055 : decode cL_law 1055 = .ok (.iadd, 1) := dok_at gdL_law_l1042 13 rfl
theorem dL_law_1056 : decode cL_law 1056 = .ok (.iaload, 1) := dok_at gdL_law_l1042 14 rfl
theorem dL_law_1057 : decode cL_law 1057 = .ok (.invokevirtual 138, 3) := dok_at gdL_law_l1042 15 rfl
theorem dL_law_1060 : decode cL_law 1060 = .ok (.pop, 1) := dok_at gdL_law_l1042 16 rfl
theorem dL_law_1061 : decode cL_law 1061 = .ok (.aload_n 2, 1) := dok_at gdL_law_l1042 17 rfl
theorem dL_law_1062 : decode cL_law 1062 = .ok (.aload_n 0, 1) := dok_at gdL_law_l1042 18 rfl
theorem dL_law_1063 : decode cL_law 1063 = .ok (.iload_n 3, 1) := dok_at gdL_law_l1042 19 rfl
theorem dL_law_1064 : decode cL_law 1064 = .ok (.iconst 1, 1) := dok_at gdL_law_l1042 20 rfl
theorem dL_law_1065 : decode cL_law 1065 = .ok (.iadd, 1) := dok_at gdL_law_l1042 21 rfl
theorem dL_law_1066 : decode cL_law 1066 = .ok (.iaload, 1) := dok_at gdL_law_l1042 22 rfl
theorem dL_law_1067 : decode cL_law 1067 = .ok (.aload_n 0, 1) := dok_at gdL_law_l1042 23 rfl
def dL_law_l1068 : List (Nat × Instr × Nat) := [(1068, .iload_n 3, 1), (1069, .iconst 2, 1), (1070, .iadd, 1), (1071, .iaload, 1), (1072, .aload_n 0, 1), (1073, .iload_n 3, 1), (1074, .iconst 3, 1), (1075, .iadd, 1), (1076, .iaload, 1), (1077, .aload_n 0, 1), (1078, .iload_n 3, 1), (1079, .iconst 4, 1), (1080, .iadd, 1), (1081, .iaload, 1), (1082, .aload_n 0, 1), (1083, .iload_n 3, 1), (1084, .iconst 5, 1), (1085, .iadd, 1), (1086, .iaload, 1), (1087, .invokevirtual 142, 3), (1090, .pop, 1), (1091, .goto 26, 3), (1094, .aload_n 1, 1), (1095, .aload_n 0, 1)]
theorem gdL_law_l1068 : dok cL_law dL_law_l1068 = true := by decide +kernel
theorem dL_law_1068 : decode cL_law 1068 = .ok (.iload_n 3, 1) := dok_at gdL_law_l1068 0 rfl
theorem dL_law_1069 : decode cL_law 1069 = .ok (.iconst 2, 1) := dok_at gdL_law_l1068 1 rfl
theorem dL_law_1070 : decode cL_law 1070 = .ok (.iadd, 1) := dok_at gdL_law_l1068 2 rfl
theorem dL_law_1071 : decode cL_law 1071 = .ok (.iaload, 1) := dok_at gdL_law_l1068 3 rfl
theorem dL_law_1072 : decode cL_law 1072 = .ok (.aload_n 0, 1) := dok_at gdL_law_l1068 4 rfl
theorem dL_law_1073 : decode cL_law 1073 = .ok (.iload_n 3, 1) := dok_at gdL_law_l1068 5 rfl
theorem dL_law_1074 : decode cL_law 1074 = .ok (.iconst 3, 1) := dok_at gdL_law_l1068 6 rfl
theorem dL_law_1075 : decode cL_law 1075 = .ok (.iadd, 1) := dok_at gdL_law_l1068 7 rfl
theorem dL_law_1076 : decode cL_law 1076 = .ok (.iaload, 1) := dok_at gdL_law_l1068 8 rfl
theorem dL_law_1077 : decode cL_law 1077 = .ok (.aload_n 0, 1) := dok_at gdL_law_l1068 9 rfl
theorem dL_law_1078 : decode cL_law 1078 = .ok (.iload_n 3, 1) := dok_at gdL_law_l1068 10 rfl
theorem dL_law_1079 : decode cL_law 1079 = .ok (.iconst 4, 1) := dok_at gdL_law_l1068 11 rfl
theorem dL_law_1080 : decode cL_law 1080 = .ok (.iadd, 1) := dok_at gdL_law_l1068 12 rfl
theorem dL_law_1081 : decode cL_law 1081 = .ok (.iaload, 1) := dok_at gdL_law_l1068 13 rfl
theorem dL_law_1082 : decode cL_law 1082 = .ok (.aload_n 0, 1) := dok_at gdL_law_l1068 14 rfl
theorem dL_law_1083 : decode cL_law 1083 = .ok (.iload_n 3, 1) := dok_at gdL_law_l1068 15 rfl
theorem dL_law_1084 : decode cL_law 1084 = .ok (.iconst 5, 1) := dok_at gdL_law_l1068 16 rfl
theorem dL_law_1085 : decode cL_law 1085 = .ok (.iadd, 1) := dok_at gdL_law_l1068 17 rfl
theorem dL_law_1086 : decode cL_law 1086 = .ok (.iaload, 1) := dok_at gdL_law_l1068 18 rfl
theorem dL_law_1087 : decode cL_law 1087 = .ok (.invokevirtual 142, 3) := dok_at gdL_law_l1068 19 rfl
theorem dL_law_1090 : decode cL_law 1090 = .ok (.pop, 1) := dok_at gdL_law_l1068 20 rfl
theorem dL_law_1091 : decode cL_law 1091 = .ok (.goto 26, 3) := dok_at gdL_law_l1068 21 rfl
theorem dL_law_1094 : decode cL_law 1094 = .ok (.aload_n 1, 1) := dok_at gdL_law_l1068 22 rfl
theorem dL_law_1095 : decode cL_law 1095 = .ok (.aload_n 0, 1) := dok_at gdL_law_l1068 23 rfl
def dL_law_l1096 : List (Nat × Instr × Nat) := [(1096, .iload_n 3, 1), (1097, .iconst 1, 1), (1098, .iadd, 1), (1099, .iaload, 1), (1100, .invokevirtual 143, 3), (1103, .pop, 1), (1104, .aload_n 2, 1), (1105, .aload_n 0, 1), (1106, .iload_n 3, 1), (1107, .iconst 1, 1), (1108, .iadd, 1), (1109, .iaload, 1), (1110, .invokevirtual 146, 3), (1113, .pop, 1), (1114, .goto 3, 3), (1117, .iinc 3 6, 3), (1120, .goto (-1102), 3), (1123, .iconst 1, 1), (1124, .ireturn, 1)]
theorem gdL_law_l1096 : dok cL_law dL_law_l1096 = true := by decide +kernel
theorem dL_law_1096 : decode cL_law 1096 = .ok (.iload_n 3, 1) := dok_at gdL_law_l1096 0 rfl
theorem dL_law_1097 : decode cL_law 1097 = .ok (.iconst 1, 1) := dok_at gdL_law_l1096 1 rfl
theorem dL_law_1098 : decode cL_law 1098 = .ok (.iadd, 1) := dok_at gdL_law_l1096 2 rfl
theorem dL_law_1099 : decode cL_law 1099 = .ok (.iaload, 1) := dok_at gdL_law_l1096 3 rfl
theorem dL_law_1100 : decode cL_law 1100 = .ok (.invokevirtual 143, 3) := dok_at gdL_law_l1096 4 rfl
theorem dL_law_1103 : decode cL_law 1103 = .ok (.pop, 1) := dok_at gdL_law_l1096 5 rfl
theorem dL_law_1104 : decode cL_law 1104 = .ok (.aload_n 2, 1) := dok_at gdL_law_l1096 6 rfl
theorem dL_law_1105 : decode cL_law 1105 = .ok (.aload_n 0, 1) := dok_at gdL_law_l1096 7 rfl
theorem dL_law_1106 : decode cL_law 1106 = .ok (.iload_n 3, 1) := dok_at gdL_law_l1096 8 rfl
theorem dL_law_1107 : decode cL_law 1107 = .ok (.iconst 1, 1) := dok_at gdL_law_l1096 9 rfl
theorem dL_law_1108 : decode cL_law 1108 = .ok (.iadd, 1) := dok_at gdL_law_l1096 10 rfl
theorem dL_law_1109 : decode cL_law 1109 = .ok (.iaload, 1) := dok_at gdL_law_l1096 11 rfl
theorem dL_law_1110 : decode cL_law 1110 = .ok (.invokevirtual 146, 3) := dok_at gdL_law_l1096 12 rfl
theorem dL_law_1113 : decode cL_law 1113 = .ok (.pop, 1) := dok_at gdL_law_l1096 13 rfl
theorem dL_law_1114 : decode cL_law 1114 = .ok (.goto 3, 3) := dok_at gdL_law_l1096 14 rfl
theorem dL_law_1117 : decode cL_law 1117 = .ok (.iinc 3 6, 3) := dok_at gdL_law_l1096 15 rfl
theorem dL_law_1120 : decode cL_law 1120 = .ok (.goto (-1102), 3) := dok_at gdL_law_l1096 16 rfl
theorem dL_law_1123 : decode cL_law 1123 = .ok (.iconst 1, 1) := dok_at gdL_law_l1096 17 rfl
theorem dL_law_1124 : decode cL_law 1124 = .ok (.ireturn, 1) := dok_at gdL_law_l1096 18 rfl
