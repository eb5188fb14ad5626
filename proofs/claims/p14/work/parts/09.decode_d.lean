def dX11_of_l0 : List (Nat × Instr × Nat) := [(0, .aload_n 0, 1), (1, .getfield 7, 3), (4, .bipush 7, 2), (6, .iload_n 1, 1), (7, .imul, 1), (8, .iload_n 2, 1), (9, .iadd, 1), (10, .iaload, 1), (11, .ireturn, 1)]
theorem gdX11_of_l0 : dok cX11_of dX11_of_l0 = true := by decide +kernel
theorem dX11_of_0 : decode cX11_of 0 = .ok (.aload_n 0, 1) := dok_at gdX11_of_l0 0 rfl
theorem dX11_of_1 : decode cX11_of 1 = .ok (.getfield 7, 3) := dok_at gdX11_of_l0 1 rfl
theorem dX11_of_4 : decode cX11_of 4 = .ok (.bipush 7, 2) := dok_at gdX11_of_l0 2 rfl
theorem dX11_of_6 : decode cX11_of 6 = .ok (.iload_n 1, 1) := dok_at gdX11_of_l0 3 rfl
theorem dX11_of_7 : decode cX11_of 7 = .ok (.imul, 1) := dok_at gdX11_of_l0 4 rfl
theorem dX11_of_8 : decode cX11_of 8 = .ok (.iload_n 2, 1) := dok_at gdX11_of_l0 5 rfl
theorem dX11_of_9 : decode cX11_of 9 = .ok (.iadd, 1) := dok_at gdX11_of_l0 6 rfl
theorem dX11_of_10 : decode cX11_of 10 = .ok (.iaload, 1) := dok_at gdX11_of_l0 7 rfl
theorem dX11_of_11 : decode cX11_of 11 = .ok (.ireturn, 1) := dok_at gdX11_of_l0 8 rfl
def dX11_wants_l0 : List (Nat × Instr × Nat) := [(0, .iload_n 1, 1), (1, .ifCond .ne 23, 3), (4, .aload_n 0, 1), (5, .getfield 145, 3), (8, .ifCond .ne 16, 3), (11, .aload_n 0, 1), (12, .iload_n 2, 1), (13, .putfield 145, 3), (16, .aload_n 0, 1), (17, .aload_n 0, 1), (18, .getfield 148, 3), (21, .putfield 151, 3), (24, .return_, 1)]
theorem gdX11_wants_l0 : dok cX11_wants dX11_wants_l0 = true := by decide +kernel
theorem dX11_wants_0 : decode cX11_wants 0 = .ok (.iload_n 1, 1) := dok_at gdX11_wants_l0 0 rfl
theorem dX11_wants_1 : decode cX11_wants 1 = .ok (.ifCond .ne 23, 3) := dok_at gdX11_wants_l0 1 rfl
theorem dX11_wants_4 : decode cX11_wants 4 = .ok (.aload_n 0, 1) := dok_at gdX11_wants_l0 2 rfl
theorem dX11_wants_5 : decode cX11_wants 5 = .ok (.getfield 145, 3) := dok_at gdX11_wants_l0 3 rfl
theorem dX11_wants_8 : decode cX11_wants 8 = .ok (.ifCond .ne 16, 3) := dok_at gdX11_wants_l0 4 rfl
theorem dX11_wants_11 : decode cX11_wants 11 = .ok (.aload_n 0, 1) := dok_at gdX11_wants_l0 5 rfl
theorem dX11_wants_12 : decode cX11_wants 12 = .ok (.iload_n 2, 1) := dok_at gdX11_wants_l0 6 rfl
theorem dX11_wants_13 : decode cX11_wants 13 = .ok (.putfield 145, 3) := dok_at gdX11_wants_l0 7 rfl
theorem dX11_wants_16 : decode cX11_wants 16 = .ok (.aload_n 0, 1) := dok_at gdX11_wants_l0 8 rfl
theorem dX11_wants_17 : decode cX11_wants 17 = .ok (.aload_n 0, 1) := dok_at gdX11_wants_l0 9 rfl
theorem dX11_wants_18 : decode cX11_wants 18 = .ok (.getfield 148, 3) := dok_at gdX11_wants_l0 10 rfl
theorem dX11_wants_21 : decode cX11_wants 21 = .ok (.putfield 151, 3) := dok_at gdX11_wants_l0 11 rfl
theorem dX11_wants_24 : decode cX11_wants 24 = .ok (.return_, 1) := dok_at gdX11_wants_l0 12 rfl
def dX11_nameNow_l0 : List (Nat × Instr × Nat) := [(0, .aload_n 0, 1), (1, .aload_n 0, 1), (2, .getfield 148, 3), (5, .invokevirtual 157, 3), (8, .bipush 97, 2), (10, .isub, 1), (11, .istore_n 1, 1), (12, .aload_n 0, 1), (13, .getfield 154, 3), (16, .aload_n 0, 1), (17, .getfield 148, 3), (20, .isub, 1), (21, .iconst 1, 1), (22, .if_icmp .ne 22, 3), (25, .iload_n 1, 1), (26, .i2l, 1), (27, .lconst 0, 1), (28, .ldc2_w 161, 3), (31, .invokestatic 141, 3), (34, .ifCond .eq 7, 3), (37, .iload_n 1, 1), (38, .goto 5, 3), (41, .bipush (-4), 2), (43, .ireturn, 1)]
theorem gdX11_nameNow_l0 : dok cX11_nameNow dX11_nameNow_l0 = true := by decide +kernel
theorem dX11_nameNow_0 : decode cX11_nameNow 0 = .ok (.aload_n 0, 1) := dok_at gdX11_nameNow_l0 0 rfl
theorem dX11_nameNow_1 : decode cX11_nameNow 1 = .ok (.aload_n 0, 1) := dok_at gdX11_nameNow_l0 1 rfl
theorem dX11_nameNow_2 : decode cX11_nameNow 2 = .ok (.getfield 148, 3) := dok_at gdX11_nameNow_l0 2 rfl
theorem dX11_nameNow_5 : decode cX11_nameNow 5 = .ok (.invokevirtual 157, 3) := dok_at gdX11_nameNow_l0 3 rfl
theorem dX11_nameNow_8 : decode cX11_nameNow 8 = .ok (.bipush 97, 2) := dok_at gdX11_nameNow_l0 4 rfl
theorem dX11_nameNow_10 : decode cX11_nameNow 10 = .ok (.isub, 1) := dok_at gdX11_nameNow_l0 5 rfl
theorem dX11_nameNow_11 : decode cX11_nameNow 11 = .ok (.istore_n 1, 1) := dok_at gdX11_nameNow_l0 6 rfl
theorem dX11_nameNow_12 : decode cX11_nameNow 12 = .ok (.aload_n 0, 1) := dok_at gdX11_nameNow_l0 7 rfl
theorem dX11_nameNow_13 : decode cX11_nameNow 13 = .ok (.getfield 154, 3) := dok_at gdX11_nameNow_l0 8 rfl
theorem dX11_nameNow_16 : decode cX11_nameNow 16 = .ok (.aload_n 0, 1) := dok_at gdX11_nameNow_l0 9 rfl
theorem dX11_nameNow_17 : decode cX11_nameNow 17 = .ok (.getfield 148, 3) := dok_at gdX11_nameNow_l0 10 rfl
theorem dX11_nameNow_20 : decode cX11_nameNow 20 = .ok (.isub, 1) := dok_at gdX11_nameNow_l0 11 rfl
theorem dX11_nameNow_21 : decode cX11_nameNow 21 = .ok (.iconst 1, 1) := dok_at gdX11_nameNow_l0 12 rfl
theorem dX11_nameNow_22 : decode cX11_nameNow 22 = .ok (.if_icmp .ne 22, 3) := dok_at gdX11_nameNow_l0 13 rfl
theorem dX11_nameNow_25 : decode cX11_nameNow 25 = .ok (.iload_n 1, 1) := dok_at gdX11_nameNow_l0 14 rfl
theorem dX11_nameNow_26 : decode cX11_nameNow 26 = .ok (.i2l, 1) := dok_at gdX11_nameNow_l0 15 rfl
theorem dX11_nameNow_27 : decode cX11_nameNow 27 = .ok (.lconst 0, 1) := dok_at gdX11_nameNow_l0 16 rfl
theorem dX11_nameNow_28 : decode cX11_nameNow 28 = .ok (.ldc2_w 161, 3) := dok_at gdX11_nameNow_l0 17 rfl
theorem dX11_nameNow_31 : decode cX11_nameNow 31 = .ok (.invokestatic 141, 3) := dok_at gdX11_nameNow_l0 18 rfl
theorem dX11_nameNow_34 : decode cX11_nameNow 34 = .ok (.ifCond .eq 7, 3) := dok_at gdX11_nameNow_l0 19 rfl
theorem dX11_nameNow_37 : decode cX11_nameNow 37 = .ok (.iload_n 1, 1) := dok_at gdX11_nameNow_l0 20 rfl
theorem dX11_nameNow_38 : decode cX11_nameNow 38 = .ok (.goto 5, 3) := dok_at gdX11_nameNow_l0 21 rfl
theorem dX11_nameNow_41 : decode cX11_nameNow 41 = .ok (.bipush (-4), 2) := dok_at gdX11_nameNow_l0 22 rfl
theorem dX11_nameNow_43 : decode cX11_nameNow 43 = .ok (.ireturn, 1) := dok_at gdX11_nameNow_l0 23 rfl
def dX11_nameNow_l44 : List (Nat × Instr × Nat) := [(44, .aload_n 0, 1), (45, .iconst 4, 1), (46, .bipush 114, 2), (48, .bipush 97, 2), (50, .bipush 105, 2), (52, .bipush 108, 2), (54, .invokevirtual 163, 3), (57, .ifCond .eq 6, 3), (60, .bipush 20, 2), (62, .ireturn, 1), (63, .aload_n 0, 1), (64, .iconst 5, 1), (65, .bipush 108, 2), (67, .bipush 105, 2), (69, .bipush 109, 2), (71, .bipush 105, 2), (73, .invokevirtual 163, 3), (76, .ifCond .eq 21, 3), (79, .aload_n 0, 1), (80, .aload_n 0, 1), (81, .getfield 148, 3), (84, .iconst 4, 1), (85, .iadd, 1), (86, .invokevirtual 157, 3)]
theorem gdX11_nameNow_l44 : dok cX11_nameNow dX11_nameNow_l44 = true := by decide +kernel
theorem dX11_nameNow_44 : decode cX11_nameNow 44 = .ok (.aload_n 0, 1) := dok_at gdX11_nameNow_l44 0 rfl
theorem dX11_nameNow_45 : decode cX11_nameNow 45 = .ok (.iconst 4, 1) := dok_at gdX11_nameNow_l44 1 rfl
theorem dX11_nameNow_46 : decode cX11_nameNow 46 = .ok (.bipush 114, 2) := dok_at gdX11_nameNow_l44 2 rfl
theorem dX11_nameNow_48 : decode cX11_nameNow 48 = .ok (.bipush 97, 2) := dok_at gdX11_nameNow_l44 3 rfl
theorem dX11_nameNow_50 : decode cX11_nameNow 50 = .ok (.bipush 105, 2) := dok_at gdX11_nameNow_l44 4 rfl
theorem dX11_nameNow_52 : decode cX11_nameNow 52 = .ok (.bipush 108, 2) := dok_at gdX11_nameNow_l44 5 rfl
theorem dX11_nameNow_54 : decode cX11_nameNow 54 = .ok (.invokevirtual 163, 3) := dok_at gdX11_nameNow_l44 6 rfl
theorem dX11_nameNow_57 : decode cX11_nameNow 57 = .ok (.ifCond .eq 6, 3) := dok_at gdX11_nameNow_l44 7 rfl
theorem dX11_nameNow_60 : decode cX11_nameNow 60 = .ok (.bipush 20, 2) := dok_at gdX11_nameNow_l44 8 rfl
theorem dX11_nameNow_62 : decode cX11_nameNow 62 = .ok (.ireturn, 1) := dok_at gdX11_nameNow_l44 9 rfl
theorem dX11_nameNow_63 : decode cX11_nameNow 63 = .ok (.aload_n 0, 1) := dok_at gdX11_nameNow_l44 10 rfl
theorem dX11_nameNow_64 : decode cX11_nameNow 64 = .ok (.iconst 5, 1) := dok_at gdX11_nameNow_l44 11 rfl
theorem dX11_nameNow_65 : decode cX11_nameNow 65 = .ok (.bipush 108, 2) := dok_at gdX11_nameNow_l44 12 rfl
theorem dX11_nameNow_67 : decode cX11_nameNow 67 = .ok (.bipush 105, 2) := dok_at gdX11_nameNow_l44 13 rfl
theorem dX11_nameNow_69 : decode cX11_nameNow 69 = .ok (.bipush 109, 2) := dok_at gdX11_nameNow_l44 14 rfl
theorem dX11_nameNow_71 : decode cX11_nameNow 71 = .ok (.bipush 105, 2) := dok_at gdX11_nameNow_l44 15 rfl
theorem dX11_nameNow_73 : decode cX11_nameNow 73 = .ok (.invokevirtual 163, 3) := dok_at gdX11_nameNow_l44 16 rfl
theorem dX11_nameNow_76 : decode cX11_nameNow 76 = .ok (.ifCond .eq 21, 3) := dok_at gdX11_nameNow_l44 17 rfl
theorem dX11_nameNow_79 : decode cX11_nameNow 79 = .ok (.aload_n 0, 1) := dok_at gdX11_nameNow_l44 18 rfl
theorem dX11_nameNow_80 : decode cX11_nameNow 80 = .ok (.aload_n 0, 1) := dok_at gdX11_nameNow_l44 19 rfl
theorem dX11_nameNow_81 : decode cX11_nameNow 81 = .ok (.getfield 148, 3) := dok_at gdX11_nameNow_l44 20 rfl
theorem dX11_nameNow_84 : decode cX11_nameNow 84 = .ok (.iconst 4, 1) := dok_at gdX11_nameNow_l44 21 rfl
theorem dX11_nameNow_85 : decode cX11_nameNow 85 = .ok (.iadd, 1) := dok_at gdX11_nameNow_l44 22 rfl
theorem dX11_nameNow_86 : decode cX11_nameNow 86 = .ok (.invokevirtual 157, 3) := dok_at gdX11_nameNow_l44 23 rfl
def dX11_nameNow_l89 : List (Nat × Instr × Nat) := [(89, .bipush 116, 2), (91, .if_icmp .ne 6, 3), (94, .bipush 21, 2), (96, .ireturn, 1), (97, .aload_n 0, 1), (98, .iconst 5, 1), (99, .bipush 114, 2), (101, .bipush 101, 2), (103, .bipush 116, 2), (105, .bipush 114, 2), (107, .invokevirtual 163, 3), (110, .ifCond .eq 21, 3), (113, .aload_n 0, 1), (114, .aload_n 0, 1), (115, .getfield 148, 3), (118, .iconst 4, 1), (119, .iadd, 1), (120, .invokevirtual 157, 3), (123, .bipush 121, 2), (125, .if_icmp .ne 6, 3), (128, .bipush 22, 2), (130, .ireturn, 1), (131, .aload_n 0, 1), (132, .iconst 4, 1)]
theorem gdX11_nameNow_l89 : dok cX11_nameNow dX11_nameNow_l89 = true := by decide +kernel
theorem dX11_nameNow_89 : decode cX11_nameNow 89 = .ok (.bipush 116, 2) := dok_at gdX11_nameNow_l89 0 rfl
theorem dX11_nameNow_91 : decode cX11_nameNow 91 = .ok (.if_icmp .ne 6, 3) := dok_at gdX11_nameNow_l89 1 rfl
theorem dX11_nameNow_94 : decode cX11_nameNow 94 = .ok (.bipush 21, 2) := dok_at gdX11_nameNow_l89 2 rfl
theorem dX11_nameNow_96 : decode cX11_nameNow 96 = .ok (.ireturn, 1) := dok_at gdX11_nameNow_l89 3 rfl
theorem dX11_nameNow_97 : decode cX11_nameNow 97 = .ok (.aload_n 0, 1) := dok_at gdX11_nameNow_l89 4 rfl
theorem dX11_nameNow_98 : decode cX11_nameNow 98 = .ok (.iconst 5, 1) := dok_at gdX11_nameNow_l89 5 rfl
theorem dX11_nameNow_99 : decode cX11_nameNow 99 = .ok (.bipush 114, 2) := dok_at gdX11_nameNow_l89 6 rfl
theorem dX11_nameNow_101 : decode cX11_nameNow 101 = .ok (.bipush 101, 2) := dok_at gdX11_nameNow_l89 7 rfl
theorem dX11_nameNow_103 : decode cX11_nameNow 103 = .ok (.bipush 116, 2) := dok_at gdX11_nameNow_l89 8 rfl
theorem dX11_nameNow_105 : decode cX11_nameNow 105 = .ok (.bipush 114, 2) := dok_at gdX11_nameNow_l89 9 rfl
theorem dX11_nameNow_107 : decode cX11_nameNow 107 = .ok (.invokevirtual 163, 3) := dok_at gdX11_nameNow_l89 10 rfl
theorem dX11_nameNow_110 : decode cX11_nameNow 110 = .ok (.ifCond .eq 21, 3) := dok_at gdX11_nameNow_l89 11 rfl
theorem dX11_nameNow_113 : decode cX11_nameNow 113 = .ok (.aload_n 0, 1) := dok_at gdX11_nameNow_l89 12 rfl
theorem dX11_nameNow_114 : decode cX11_nameNow 114 = .ok (.aload_n 0, 1) := dok_at gdX11_nameNow_l89 13 rfl
theorem dX11_nameNow_115 : decode cX11_nameNow 115 = .ok (.getfield 148, 3) := dok_at gdX11_nameNow_l89 14 rfl
theorem dX11_nameNow_118 : decode cX11_nameNow 118 = .ok (.iconst 4, 1) := dok_at gdX11_nameNow_l89 15 rfl
theorem dX11_nameNow_119 : decode cX11_nameNow 119 = .ok (.iadd, 1) := dok_at gdX11_nameNow_l89 16 rfl
theorem dX11_nameNow_120 : decode cX11_nameNow 120 = .ok (.invokevirtual 157, 3) := dok_at gdX11_nameNow_l89 17 rfl
theorem dX11_nameNow_123 : decode cX11_nameNow 123 = .ok (.bipush 121, 2) := dok_at gdX11_nameNow_l89 18 rfl
theorem dX11_nameNow_125 : decode cX11_nameNow 125 = .ok (.if_icmp .ne 6, 3) := dok_at gdX11_nameNow_l89 19 rfl
theorem dX11_nameNow_128 : decode cX11_nameNow 128 = .ok (.bipush 22, 2) := dok_at gdX11_nameNow_l89 20 rfl
theorem dX11_nameNow_130 : decode cX11_nameNow 130 = .ok (.ireturn, 1) := dok_at gdX11_nameNow_l89 21 rfl
theorem dX11_nameNow_131 : decode cX11_nameNow 131 = .ok (.aload_n 0, 1) := dok_at gdX11_nameNow_l89 22 rfl
theorem dX11_nameNow_132 : decode cX11_nameNow 132 = .ok (.iconst 4, 1) := dok_at gdX11_nameNow_l89 23 rfl
def dX11_nameNow_l133 : List (Nat × Instr × Nat) := [(133, .bipush 102, 2), (135, .bipush 97, 2), (137, .bipush 108, 2), (139, .bipush 108, 2), (141, .invokevirtual 163, 3), (144, .ifCond .eq 6, 3), (147, .bipush 23, 2), (149, .ireturn, 1), (150, .aload_n 0, 1), (151, .iconst 4, 1), (152, .bipush 100, 2), (154, .bipush 114, 2), (156, .bipush 97, 2), (158, .bipush 119, 2), (160, .invokevirtual 163, 3), (163, .ifCond .eq 6, 3), (166, .bipush 24, 2), (168, .ireturn, 1), (169, .aload_n 0, 1), (170, .iconst 4, 1), (171, .bipush 119, 2), (173, .bipush 97, 2), (175, .bipush 105, 2), (177, .bipush 116, 2)]
theorem gdX11_nameNow_l133 : dok cX11_nameNow dX11_nameNow_l133 = true := by decide +kernel
theorem dX11_nameNow_133 : decode cX11_nameNow 133 = .ok (.bipush 102, 2) := dok_at gdX11_nameNow_l133 0 rfl
theorem dX11_nameNow_135 : decode cX11_nameNow 135 = .ok (.bipush 97, 2) := dok_at gdX11_nameNow_l133 1 rfl
theorem dX11_nameNow_137 : decode cX11_nameNow 137 = .ok (.bipush 108, 2) := dok_at gdX11_nameNow_l133 2 rfl
theorem dX11_nameNow_139 : decode cX11_nameNow 139 = .ok (.bipush 108, 2) := dok_at gdX11_nameNow_l133 3 rfl
theorem dX11_nameNow_141 : decode cX11_nameNow 141 = .ok (.invokevirtual 163, 3) := dok_at gdX11_nameNow_l133 4 rfl
theorem dX11_nameNow_144 : decode cX11_nameNow 144 = .ok (.ifCond .eq 6, 3) := dok_at gdX11_nameNow_l133 5 rfl
theorem dX11_nameNow_147 : decode cX11_nameNow 147 = .ok (.bipush 23, 2) := dok_at gdX11_nameNow_l133 6 rfl
theorem dX11_nameNow_149 : decode cX11_nameNow 149 = .ok (.ireturn, 1) := dok_at gdX11_nameNow_l133 7 rfl
theorem dX11_nameNow_150 : decode cX11_nameNow 150 = .ok (.aload_n 0, 1) := dok_at gdX11_nameNow_l133 8 rfl
theorem dX11_nameNow_151 : decode cX11_nameNow 151 = .ok (.iconst 4, 1) := dok_at gdX11_nameNow_l133 9 rfl
theorem dX11_nameNow_152 : decode cX11_nameNow 152 = .ok (.bipush 100, 2) := dok_at gdX11_nameNow_l133 10 rfl
theorem dX11_nameNow_154 : decode cX11_nameNow 154 = .ok (.bipush 114, 2) := dok_at gdX11_nameNow_l133 11 rfl
theorem dX11_nameNow_156 : decode cX11_nameNow 156 = .ok (.bipush 97, 2) := dok_at gdX11_nameNow_l133 12 rfl
theorem dX11_nameNow_158 : decode cX11_nameNow 158 = .ok (.bipush 119, 2) := dok_at gdX11_nameNow_l133 13 rfl
theorem dX11_nameNow_160 : decode cX11_nameNow 160 = .ok (.invokevirtual 163, 3) := dok_at gdX11_nameNow_l133 14 rfl
theorem dX11_nameNow_163 : decode cX11_nameNow 163 = .ok (.ifCond .eq 6, 3) := dok_at gdX11_nameNow_l133 15 rfl
theorem dX11_nameNow_166 : decode cX11_nameNow 166 = .ok (.bipush 24, 2) := dok_at gdX11_nameNow_l133 16 rfl
theorem dX11_nameNow_168 : decode cX11_nameNow 168 = .ok (.ireturn, 1) := dok_at gdX11_nameNow_l133 17 rfl
theorem dX11_nameNow_169 : decode cX11_nameNow 169 = .ok (.aload_n 0, 1) := dok_at gdX11_nameNow_l133 18 rfl
theorem dX11_nameNow_170 : decode cX11_nameNow 170 = .ok (.iconst 4, 1) := dok_at gdX11_nameNow_l133 19 rfl
theorem dX11_nameNow_171 : decode cX11_nameNow 171 = .ok (.bipush 119, 2) := dok_at gdX11_nameNow_l133 20 rfl
theorem dX11_nameNow_173 : decode cX11_nameNow 173 = .ok (.bipush 97, 2) := dok_at gdX11_nameNow_l133 21 rfl
theorem dX11_nameNow_175 : decode cX11_nameNow 175 = .ok (.bipush 105, 2) := dok_at gdX11_nameNow_l133 22 rfl
theorem dX11_nameNow_177 : decode cX11_nameNow 177 = .ok (.bipush 116, 2) := dok_at gdX11_nameNow_l133 23 rfl
def dX11_nameNow_l179 : List (Nat × Instr × Nat) := [(179, .invokevirtual 163, 3), (182, .ifCond .eq 6, 3), (185, .bipush 25, 2), (187, .ireturn, 1), (188, .aload_n 0, 1), (189, .bipush 6, 2), (191, .bipush 119, 2), (193, .bipush 105, 2), (195, .bipush 116, 2), (197, .bipush 104, 2), (199, .invokevirtual 163, 3), (202, .ifCond .eq 36, 3), (205, .aload_n 0, 1), (206, .aload_n 0, 1), (207, .getfield 148, 3), (210, .iconst 4, 1), (211, .iadd, 1), (212, .invokevirtual 157, 3), (215, .bipush 105, 2), (217, .if_icmp .ne 21, 3), (220, .aload_n 0, 1), (221, .aload_n 0, 1), (222, .getfield 148, 3), (225, .iconst 5, 1)]
theorem gdX11_nameNow_l179 : dok cX11_nameNow dX11_nameNow_l179 = true := by decide +kernel
theorem dX11_nameNow_179 : decode cX11_nameNow 179 = .ok (.invokevirtual 163, 3) := dok_at gdX11_nameNow_l179 0 rfl
theorem dX11_nameNow_182 : decode cX11_nameNow 182 = .ok (.ifCond .eq 6, 3) := dok_at gdX11_nameNow_l179 1 rfl
theorem dX11_nameNow_185 : decode cX11_nameNow 185 = .ok (.bipush 25, 2) := dok_at gdX11_nameNow_l179 2 rfl
theorem dX11_nameNow_187 : decode cX11_nameNow 187 = .ok (.ireturn, 1) := dok_at gdX11_nameNow_l179 3 rfl
theorem dX11_nameNow_188 : decode cX11_nameNow 188 = .ok (.aload_n 0, 1) := dok_at gdX11_nameNow_l179 4 rfl
theorem dX11_nameNow_189 : decode cX11_nameNow 189 = .ok (.bipush 6, 2) := dok_at gdX11_nameNow_l179 5 rfl
theorem dX11_nameNow_191 : decode cX11_nameNow 191 = .ok (.bipush 119, 2) := dok_at gdX11_nameNow_l179 6 rfl
theorem dX11_nameNow_193 : decode cX11_nameNow 193 = .ok (.bipush 105, 2) := dok_at gdX11_nameNow_l179 7 rfl
theorem dX11_nameNow_195 : decode cX11_nameNow 195 = .ok (.bipush 116, 2) := dok_at gdX11_nameNow_l179 8 rfl
theorem dX11_nameNow_197 : decode cX11_nameNow 197 = .ok (.bipush 104, 2) := dok_at gdX11_nameNow_l179 9 rfl
theorem dX11_nameNow_199 : decode cX11_nameNow 199 = .ok (.invokevirtual 163, 3) := dok_at gdX11_nameNow_l179 10 rfl
theorem dX11_nameNow_202 : decode cX11_nameNow 202 = .ok (.ifCond .eq 36, 3) := dok_at gdX11_nameNow_l179 11 rfl
theorem dX11_nameNow_205 : decode cX11_nameNow 205 = .ok (.aload_n 0, 1) := dok_at gdX11_nameNow_l179 12 rfl
theorem dX11_nameNow_206 : decode cX11_nameNow 206 = .ok (.aload_n 0, 1) := dok_at gdX11_nameNow_l179 13 rfl
theorem dX11_nameNow_207 : decode cX11_nameNow 207 = .ok (.getfield 148, 3) := dok_at gdX11_nameNow_l179 14 rfl
theorem dX11_nameNow_210 : decode cX11_nameNow 210 = .ok (.iconst 4, 1) := dok_at gdX11_nameNow_l179 15 rfl
theorem dX11_nameNow_211 : decode cX11_nameNow 211 = .ok (.iadd, 1) := dok_at gdX11_nameNow_l179 16 rfl
theorem dX11_nameNow_212 : decode cX11_nameNow 212 = .ok (.invokevirtual 157, 3) := dok_at gdX11_nameNow_l179 17 rfl
theorem dX11_nameNow_215 : decode cX11_nameNow 215 = .ok (.bipush 105, 2) := dok_at gdX11_nameNow_l179 18 rfl
theorem dX11_nameNow_217 : decode cX11_nameNow 217 = .ok (.if_icmp .ne 21, 3) := dok_at gdX11_nameNow_l179 19 rfl
theorem dX11_nameNow_220 : decode cX11_nameNow 220 = .ok (.aload_n 0, 1) := dok_at gdX11_nameNow_l179 20 rfl
theorem dX11_nameNow_221 : decode cX11_nameNow 221 = .ok (.aload_n 0, 1) := dok_at gdX11_nameNow_l179 21 rfl
theorem dX11_nameNow_222 : decode cX11_nameNow 222 = .ok (.getfield 148, 3) := dok_at gdX11_nameNow_l179 22 rfl
theorem dX11_nameNow_225 : decode cX11_nameNow 225 = .ok (.iconst 5, 1) := dok_at gdX11_nameNow_l179 23 rfl
def dX11_nameNow_l226 : List (Nat × Instr × Nat) := [(226, .iadd, 1), (227, .invokevirtual 157, 3), (230, .bipush 110, 2), (232, .if_icmp .ne 6, 3), (235, .bipush 26, 2), (237, .ireturn, 1), (238, .aload_n 0, 1), (239, .iconst 4, 1), (240, .bipush 119, 2), (242, .bipush 104, 2), (244, .bipush 101, 2), (246, .bipush 110, 2), (248, .invokevirtual 163, 3), (251, .ifCond .eq 8, 3), (254, .bipush 27, 2), (256, .goto 25, 3), (259, .aload_n 0, 1), (260, .iconst 3, 1), (261, .bipush 107, 2), (263, .bipush 101, 2), (265, .bipush 121, 2), (267, .iconst 0, 1), (268, .invokevirtual 163, 3), (271, .ifCond .eq 8, 3)]
theorem gdX11_nameNow_l226 : dok cX11_nameNow dX11_nameNow_l226 = true := by decide +kernel
theorem dX11_nameNow_226 : decode cX11_nameNow 226 = .ok (.iadd, 1) := dok_at gdX11_nameNow_l226 0 rfl
theorem dX11_nameNow_227 : decode cX11_nameNow 227 = .ok (.invokevirtual 157, 3) := dok_at gdX11_nameNow_l226 1 rfl
theorem dX11_nameNow_230 : decode cX11_nameNow 230 = .ok (.bipush 110, 2) := dok_at gdX11_nameNow_l226 2 rfl
theorem dX11_nameNow_232 : decode cX11_nameNow 232 = .ok (.if_icmp .ne 6, 3) := dok_at gdX11_nameNow_l226 3 rfl
theorem dX11_nameNow_235 : decode cX11_nameNow 235 = .ok (.bipush 26, 2) := dok_at gdX11_nameNow_l226 4 rfl
theorem dX11_nameNow_237 : decode cX11_nameNow 237 = .ok (.ireturn, 1) := dok_at gdX11_nameNow_l226 5 rfl
theorem dX11_nameNow_238 : decode cX11_nameNow 238 = .ok (.aload_n 0, 1) := dok_at gdX11_nameNow_l226 6 rfl
theorem dX11_nameNow_239 : decode cX11_nameNow 239 = .ok (.iconst 4, 1) := dok_at gdX11_nameNow_l226 7 rfl
theorem dX11_nameNow_240 : decode cX11_nameNow 240 = .ok (.bipush 119, 2) := dok_at gdX11_nameNow_l226 8 rfl
theorem dX11_nameNow_242 : decode cX11_nameNow 242 = .ok (.bipush 104, 2) := dok_at gdX11_nameNow_l226 9 rfl
theorem dX11_nameNow_244 : decode cX11_nameNow 244 = .ok (.bipush 101, 2) := dok_at gdX11_nameNow_l226 10 rfl
theorem dX11_nameNow_246 : decode cX11_nameNow 246 = .ok (.bipush 110, 2) := dok_at gdX11_nameNow_l226 11 rfl
theorem dX11_nameNow_248 : decode cX11_nameNow 248 = .ok (.invokevirtual 163, 3) := dok_at gdX11_nameNow_l226 12 rfl
theorem dX11_nameNow_251 : decode cX11_nameNow 251 = .ok (.ifCond .eq 8, 3) := dok_at gdX11_nameNow_l226 13 rfl
theorem dX11_nameNow_254 : decode cX11_nameNow 254 = .ok (.bipush 27, 2) := dok_at gdX11_nameNow_l226 14 rfl
theorem dX11_nameNow_256 : decode cX11_nameNow 256 = .ok (.goto 25, 3) := dok_at gdX11_nameNow_l226 15 rfl
theorem dX11_nameNow_259 : decode cX11_nameNow 259 = .ok (.aload_n 0, 1) := dok_at gdX11_nameNow_l226 16 rfl
theorem dX11_nameNow_260 : decode cX11_nameNow 260 = .ok (.iconst 3, 1) := dok_at gdX11_nameNow_l226 17 rfl
theorem dX11_nameNow_261 : decode cX11_nameNow 261 = .ok (.bipush 107, 2) := dok_at gdX11_nameNow_l226 18 rfl
theorem dX11_nameNow_263 : decode cX11_nameNow 263 = .ok (.bipush 101, 2) := dok_at gdX11_nameNow_l226 19 rfl
theorem dX11_nameNow_265 : decode cX11_nameNow 265 = .ok (.bipush 121, 2) := dok_at gdX11_nameNow_l226 20 rfl
theorem dX11_nameNow_267 : decode cX11_nameNow 267 = .ok (.iconst 0, 1) := dok_at gdX11_nameNow_l226 21 rfl
theorem dX11_nameNow_268 : decode cX11_nameNow 268 = .ok (.invokevirtual 163, 3) := dok_at gdX11_nameNow_l226 22 rfl
theorem dX11_nameNow_271 : decode cX11_nameNow 271 = .ok (.ifCond .eq 8, 3) := dok_at gdX11_nameNow_l226 23 rfl
def dX11_nameNow_l274 : List (Nat × Instr × Nat) := [(274, .bipush 28, 2), (276, .goto 5, 3), (279, .bipush (-4), 2), (281, .ireturn, 1)]
theorem gdX11_nameNow_l274 : dok cX11_nameNow dX11_nameNow_l274 = true := by decide +kernel
theorem dX11_nameNow_274 : decode cX11_nameNow 274 = .ok (.bipush 28, 2) := dok_at gdX11_nameNow_l274 0 rfl
theorem dX11_nameNow_276 : decode cX11_nameNow 276 = .ok (.goto 5, 3) := dok_at gdX11_nameNow_l274 1 rfl
theorem dX11_nameNow_279 : decode cX11_nameNow 279 = .ok (.bipush (-4), 2) := dok_at gdX11_nameNow_l274 2 rfl
theorem dX11_nameNow_281 : decode cX11_nameNow 281 = .ok (.ireturn, 1) := dok_at gdX11_nameNow_l274 3 rfl
def dX11_next_l0 : List (Nat × Instr × Nat) := [(0, .aload_n 0, 1), (1, .getfield 145, 3), (4, .ifCond .le 4, 3), (7, .return_, 1), (8, .aload_n 0, 1), (9, .aload_n 0, 1), (10, .getfield 154, 3), (13, .invokevirtual 157, 3), (16, .bipush 32, 2), (18, .if_icmp .ne 16, 3), (21, .aload_n 0, 1), (22, .dup, 1), (23, .getfield 154, 3), (26, .iconst 1, 1), (27, .iadd, 1), (28, .putfield 154, 3), (31, .goto (-23), 3), (34, .aload_n 0, 1), (35, .aload_n 0, 1), (36, .getfield 154, 3), (39, .putfield 148, 3), (42, .aload_n 0, 1), (43, .aload_n 0, 1), (44, .getfield 154, 3)]
theorem gdX11_next_l0 : dok cX11_next dX11_next_l0 = true := by decide +kernel
theorem dX11_next_0 : decode cX11_next 0 = .ok (.aload_n 0, 1) := dok_at gdX11_next_l0 0 rfl
theorem dX11_next_1 : decode cX11_next 1 = .ok (.getfield 145, 3) := dok_at gdX11_next_l0 1 rfl
theorem dX11_next_4 : decode cX11_next 4 = .ok (.ifCond .le 4, 3) := dok_at gdX11_next_l0 2 rfl
theorem dX11_next_7 : decode cX11_next 7 = .ok (.return_, 1) := dok_at gdX11_next_l0 3 rfl
theorem dX11_next_8 : decode cX11_next 8 = .ok (.aload_n 0, 1) := dok_at gdX11_next_l0 4 rfl
theorem dX11_next_9 : decode cX11_next 9 = .ok (.aload_n 0, 1) := dok_at gdX11_next_l0 5 rfl
theorem dX11_next_10 : decode cX11_next 10 = .ok (.getfield 154, 3) := dok_at gdX11_next_l0 6 rfl
theorem dX11_next_13 : decode cX11_next 13 = .ok (.invokevirtual 157, 3) := dok_at gdX11_next_l0 7 rfl
theorem dX11_next_16 : decode cX11_next 16 = .ok (.bipush 32, 2) := dok_at gdX11_next_l0 8 rfl
theorem dX11_next_18 : decode cX11_next 18 = .ok (.if_icmp .ne 16, 3) := dok_at gdX11_next_l0 9 rfl
theorem dX11_next_21 : decode cX11_next 21 = .ok (.aload_n 0, 1) := dok_at gdX11_next_l0 10 rfl
theorem dX11_next_22 : decode cX11_next 22 = .ok (.dup, 1) := dok_at gdX11_next_l0 11 rfl
theorem dX11_next_23 : decode cX11_next 23 = .ok (.getfield 154, 3) := dok_at gdX11_next_l0 12 rfl
theorem dX11_next_26 : decode cX11_next 26 = .ok (.iconst 1, 1) := dok_at gdX11_next_l0 13 rfl
theorem dX11_next_27 : decode cX11_next 27 = .ok (.iadd, 1) := dok_at gdX11_next_l0 14 rfl
theorem dX11_next_28 : decode cX11_next 28 = .ok (.putfield 154, 3) := dok_at gdX11_next_l0 15 rfl
theorem dX11_next_31 : decode cX11_next 31 = .ok (.goto (-23), 3) := dok_at gdX11_next_l0 16 rfl
theorem dX11_next_34 : decode cX11_next 34 = .ok (.aload_n 0, 1) := dok_at gdX11_next_l0 17 rfl
theorem dX11_next_35 : decode cX11_next 35 = .ok (.aload_n 0, 1) := dok_at gdX11_next_l0 18 rfl
theorem dX11_next_36 : decode cX11_next 36 = .ok (.getfield 154, 3) := dok_at gdX11_next_l0 19 rfl
theorem dX11_next_39 : decode cX11_next 39 = .ok (.putfield 148, 3) := dok_at gdX11_next_l0 20 rfl
theorem dX11_next_42 : decode cX11_next 42 = .ok (.aload_n 0, 1) := dok_at gdX11_next_l0 21 rfl
theorem dX11_next_43 : decode cX11_next 43 = .ok (.aload_n 0, 1) := dok_at gdX11_next_l0 22 rfl
theorem dX11_next_44 : decode cX11_next 44 = .ok (.getfield 154, 3) := dok_at gdX11_next_l0 23 rfl
def dX11_next_l47 : List (Nat × Instr × Nat) := [(47, .invokevirtual 157, 3), (50, .istore_n 1, 1), (51, .iload_n 1, 1), (52, .ifCond .ge 11, 3), (55, .aload_n 0, 1), (56, .iconst 0, 1), (57, .putfield 167, 3), (60, .goto 265, 3), (63, .iload_n 1, 1), (64, .i2l, 1), (65, .ldc2_w 170, 3), (68, .ldc2_w 172, 3), (71, .invokestatic 141, 3), (74, .ifCond .eq 42, 3), (77, .aload_n 0, 1), (78, .iconst 1, 1), (79, .putfield 167, 3), (82, .aload_n 0, 1), (83, .aload_n 0, 1), (84, .getfield 154, 3), (87, .invokevirtual 157, 3), (90, .i2l, 1), (91, .ldc2_w 170, 3), (94, .ldc2_w 172, 3)]
theorem gdX11_next_l47 : dok cX11_next dX11_next_l47 = true := by decide +kernel
theorem dX11_next_47 : decode cX11_next 47 = .ok (.invokevirtual 157, 3) := dok_at gdX11_next_l47 0 rfl
theorem dX11_next_50 : decode cX11_next 50 = .ok (.istore_n 1, 1) := dok_at gdX11_next_l47 1 rfl
theorem dX11_next_51 : decode cX11_next 51 = .ok (.iload_n 1, 1) := dok_at gdX11_next_l47 2 rfl
theorem dX11_next_52 : decode cX11_next 52 = .ok (.ifCond .ge 11, 3) := dok_at gdX11_next_l47 3 rfl
theorem dX11_next_55 : decode cX11_next 55 = .ok (.aload_n 0, 1) := dok_at gdX11_next_l47 4 rfl
theorem dX11_next_56 : decode cX11_next 56 = .ok (.iconst 0, 1) := dok_at gdX11_next_l47 5 rfl
theorem dX11_next_57 : decode cX11_next 57 = .ok (.putfield 167, 3) := dok_at gdX11_next_l47 6 rfl
theorem dX11_next_60 : decode cX11_next 60 = .ok (.goto 265, 3) := dok_at gdX11_next_l47 7 rfl
theorem dX11_next_63 : decode cX11_next 63 = .ok (.iload_n 1, 1) := dok_at gdX11_next_l47 8 rfl
theorem dX11_next_64 : decode cX11_next 64 = .ok (.i2l, 1) := dok_at gdX11_next_l47 9 rfl
theorem dX11_next_65 : decode cX11_next 65 = .ok (.ldc2_w 170, 3) := dok_at gdX11_next_l47 10 rfl
theorem dX11_next_68 : decode cX11_next 68 = .ok (.ldc2_w 172, 3) := dok_at gdX11_next_l47 11 rfl
theorem dX11_next_71 : decode cX11_next 71 = .ok (.invokestatic 141, 3) := dok_at gdX11_next_l47 12 rfl
theorem dX11_next_74 : decode cX11_next 74 = .ok (.ifCond .eq 42, 3) := dok_at gdX11_next_l47 13 rfl
theorem dX11_next_77 : decode cX11_next 77 = .ok (.aload_n 0, 1) := dok_at gdX11_next_l47 14 rfl
theorem dX11_next_78 : decode cX11_next 78 = .ok (.iconst 1, 1) := dok_at gdX11_next_l47 15 rfl
theorem dX11_next_79 : decode cX11_next 79 = .ok (.putfield 167, 3) := dok_at gdX11_next_l47 16 rfl
theorem dX11_next_82 : decode cX11_next 82 = .ok (.aload_n 0, 1) := dok_at gdX11_next_l47 17 rfl
theorem dX11_next_83 : decode cX11_next 83 = .ok (.aload_n 0, 1) := dok_at gdX11_next_l47 18 rfl
theorem dX11_next_84 : decode cX11_next 84 = .ok (.getfield 154, 3) := dok_at gdX11_next_l47 19 rfl
theorem dX11_next_87 : decode cX11_next 87 = .ok (.invokevirtual 157, 3) := dok_at gdX11_next_l47 20 rfl
theorem dX11_next_90 : decode cX11_next 90 = .ok (.i2l, 1) := dok_at gdX11_next_l47 21 rfl
theorem dX11_next_91 : decode cX11_next 91 = .ok (.ldc2_w 170, 3) := dok_at gdX11_next_l47 22 rfl
theorem dX11_next_94 : decode cX11_next 94 = .ok (.ldc2_w 172, 3) := dok_at gdX11_next_l47 23 rfl
def dX11_next_l97 : List (Nat × Instr × Nat) := [(97, .invokestatic 141, 3), (100, .ifCond .eq 225, 3), (103, .aload_n 0, 1), (104, .dup, 1), (105, .getfield 154, 3), (108, .iconst 1, 1), (109, .iadd, 1), (110, .putfield 154, 3), (113, .goto (-31), 3), (116, .iload_n 1, 1), (117, .i2l, 1), (118, .ldc2_w 174, 3), (121, .ldc2_w 176, 3), (124, .invokestatic 141, 3), (127, .ifCond .eq 116, 3), (130, .aload_n 0, 1), (131, .iconst 2, 1), (132, .putfield 167, 3), (135, .aload_n 0, 1), (136, .iconst 0, 1), (137, .putfield 178, 3), (140, .aload_n 0, 1), (141, .aload_n 0, 1), (142, .getfield 154, 3)]
theorem gdX11_next_l97 : dok cX11_next dX11_next_l97 = true := by decide +kernel
theorem dX11_next_97 : decode cX11_next 97 = .ok (.invokestatic 141, 3) := dok_at gdX11_next_l97 0 rfl
theorem dX11_next_100 : decode cX11_next 100 = .ok (.ifCond .eq 225, 3) := dok_at gdX11_next_l97 1 rfl
theorem dX11_next_103 : decode cX11_next 103 = .ok (.aload_n 0, 1) := dok_at gdX11_next_l97 2 rfl
theorem dX11_next_104 : decode cX11_next 104 = .ok (.dup, 1) := dok_at gdX11_next_l97 3 rfl
theorem dX11_next_105 : decode cX11_next 105 = .ok (.getfield 154, 3) := dok_at gdX11_next_l97 4 rfl
theorem dX11_next_108 : decode cX11_next 108 = .ok (.iconst 1, 1) := dok_at gdX11_next_l97 5 rfl
theorem dX11_next_109 : decode cX11_next 109 = .ok (.iadd, 1) := dok_at gdX11_next_l97 6 rfl
theorem dX11_next_110 : decode cX11_next 110 = .ok (.putfield 154, 3) := dok_at gdX11_next_l97 7 rfl
theorem dX11_next_113 : decode cX11_next 113 = .ok (.goto (-31), 3) := dok_at gdX11_next_l97 8 rfl
theorem dX11_next_116 : decode cX11_next 116 = .ok (.iload_n 1, 1) := dok_at gdX11_next_l97 9 rfl
theorem dX11_next_117 : decode cX11_next 117 = .ok (.i2l, 1) := dok_at gdX11_next_l97 10 rfl
theorem dX11_next_118 : decode cX11_next 118 = .ok (.ldc2_w 174, 3) := dok_at gdX11_next_l97 11 rfl
theorem dX11_next_121 : decode cX11_next 121 = .ok (.ldc2_w 176, 3) := dok_at gdX11_next_l97 12 rfl
theorem dX11_next_124 : decode cX11_next 124 = .ok (.invokestatic 141, 3) := dok_at gdX11_next_l97 13 rfl
theorem dX11_next_127 : decode cX11_next 127 = .ok (.ifCond .eq 116, 3) := dok_at gdX11_next_l97 14 rfl
theorem dX11_next_130 : decode cX11_next 130 = .ok (.aload_n 0, 1) := dok_at gdX11_next_l97 15 rfl
theorem dX11_next_131 : decode cX11_next 131 = .ok (.iconst 2, 1) := dok_at gdX11_next_l97 16 rfl
theorem dX11_next_132 : decode cX11_next 132 = .ok (.putfield 167, 3) := dok_at gdX11_next_l97 17 rfl
theorem dX11_next_135 : decode cX11_next 135 = .ok (.aload_n 0, 1) := dok_at gdX11_next_l97 18 rfl
theorem dX11_next_136 : decode cX11_next 136 = .ok (.iconst 0, 1) := dok_at gdX11_next_l97 19 rfl
theorem dX11_next_137 : decode cX11_next 137 = .ok (.putfield 178, 3) := dok_at gdX11_next_l97 20 rfl
theorem dX11_next_140 : decode cX11_next 140 = .ok (.aload_n 0, 1) := dok_at gdX11_next_l97 21 rfl
theorem dX11_next_141 : decode cX11_next 141 = .ok (.aload_n 0, 1) := dok_at gdX11_next_l97 22 rfl
theorem dX11_next_142 : decode cX11_next 142 = .ok (.getfield 154, 3) := dok_at gdX11_next_l97 23 rfl
def dX11_next_l145 : List (Nat × Instr × Nat) := [(145, .invokevirtual 157, 3), (148, .i2l, 1), (149, .ldc2_w 174, 3), (152, .ldc2_w 176, 3), (155, .invokestatic 141, 3), (158, .ifCond .eq 59, 3), (161, .aload_n 0, 1), (162, .aload_n 0, 1), (163, .getfield 154, 3), (166, .aload_n 0, 1), (167, .getfield 148, 3), (170, .isub, 1), (171, .iconst 3, 1), (172, .if_icmp .ge 25, 3), (175, .bipush 10, 2), (177, .aload_n 0, 1), (178, .getfield 178, 3), (181, .imul, 1), (182, .aload_n 0, 1), (183, .aload_n 0, 1), (184, .getfield 154, 3), (187, .invokevirtual 157, 3), (190, .iadd, 1), (191, .bipush 48, 2)]
theorem gdX11_next_l145 : dok cX11_next dX11_next_l145 = true := by decide +kernel
theorem dX11_next_145 : decode cX11_next 145 = .ok (.invokevirtual 157, 3) := dok_at gdX11_next_l145 0 rfl
theorem dX11_next_148 : decode cX11_next 148 = .ok (.i2l, 1) := dok_at gdX11_next_l145 1 rfl
theorem dX11_next_149 : decode cX11_next 149 = .ok (.ldc2_w 174, 3) := dok_at gdX11_next_l145 2 rfl
theorem dX11_next_152 : decode cX11_next 152 = .ok (.ldc2_w 176, 3) := dok_at gdX11_next_l145 3 rfl
theorem dX11_next_155 : decode cX11_next 155 = .ok (.invokestatic 141, 3) := dok_at gdX11_next_l145 4 rfl
theorem dX11_next_158 : decode cX11_next 158 = .ok (.ifCond .eq 59, 3) := dok_at gdX11_next_l145 5 rfl
theorem dX11_next_161 : decode cX11_next 161 = .ok (.aload_n 0, 1) := dok_at gdX11_next_l145 6 rfl
theorem dX11_next_162 : decode cX11_next 162 = .ok (.aload_n 0, 1) := dok_at gdX11_next_l145 7 rfl
theorem dX11_next_163 : decode cX11_next 163 = .ok (.getfield 154, 3) := dok_at gdX11_next_l145 8 rfl
theorem dX11_next_166 : decode cX11_next 166 = .ok (.aload_n 0, 1) := dok_at gdX11_next_l145 9 rfl
theorem dX11_next_167 : decode cX11_next 167 = .ok (.getfield 148, 3) := dok_at gdX11_next_l145 10 rfl
theorem dX11_next_170 : decode cX11_next 170 = .ok (.isub, 1) := dok_at gdX11_next_l145 11 rfl
theorem dX11_next_171 : decode cX11_next 171 = .ok (.iconst 3, 1) := dok_at gdX11_next_l145 12 rfl
theorem dX11_next_172 : decode cX11_next 172 = .ok (.if_icmp .ge 25, 3) := dok_at gdX11_next_l145 13 rfl
theorem dX11_next_175 : decode cX11_next 175 = .ok (.bipush 10, 2) := dok_at gdX11_next_l145 14 rfl
theorem dX11_next_177 : decode cX11_next 177 = .ok (.aload_n 0, 1) := dok_at gdX11_next_l145 15 rfl
theorem dX11_next_178 : decode cX11_next 178 = .ok (.getfield 178, 3) := dok_at gdX11_next_l145 16 rfl
theorem dX11_next_181 : decode cX11_next 181 = .ok (.imul, 1) := dok_at gdX11_next_l145 17 rfl
theorem dX11_next_182 : decode cX11_next 182 = .ok (.aload_n 0, 1) := dok_at gdX11_next_l145 18 rfl
theorem dX11_next_183 : decode cX11_next 183 = .ok (.aload_n 0, 1) := dok_at gdX11_next_l145 19 rfl
theorem dX11_next_184 : decode cX11_next 184 = .ok (.getfield 154, 3) := dok_at gdX11_next_l145 20 rfl
theorem dX11_next_187 : decode cX11_next 187 = .ok (.invokevirtual 157, 3) := dok_at gdX11_next_l145 21 rfl
theorem dX11_next_190 : decode cX11_next 190 = .ok (.iadd, 1) := dok_at gdX11_next_l145 22 rfl
theorem dX11_next_191 : decode cX11_next 191 = .ok (.bipush 48, 2) := dok_at gdX11_next_l145 23 rfl
def dX11_next_l193 : List (Nat × Instr × Nat) := [(193, .isub, 1), (194, .goto 7, 3), (197, .aload_n 0, 1), (198, .getfield 178, 3), (201, .putfield 178, 3), (204, .aload_n 0, 1), (205, .dup, 1), (206, .getfield 154, 3), (209, .iconst 1, 1), (210, .iadd, 1), (211, .putfield 154, 3), (214, .goto (-74), 3), (217, .aload_n 0, 1), (218, .aload_n 0, 1), (219, .getfield 154, 3), (222, .aload_n 0, 1), (223, .getfield 148, 3), (226, .isub, 1), (227, .iconst 3, 1), (228, .if_icmp .gt 7, 3), (231, .iconst 1, 1), (232, .goto 4, 3), (235, .iconst 0, 1), (236, .iconst 1, 1)]
theorem gdX11_next_l193 : dok cX11_next dX11_next_l193 = true := by decide +kernel
theorem dX11_next_193 : decode cX11_next 193 = .ok (.isub, 1) := dok_at gdX11_next_l193 0 rfl
theorem dX11_next_194 : decode cX11_next 194 = .ok (.goto 7, 3) := dok_at gdX11_next_l193 1 rfl
theorem dX11_next_197 : decode cX11_next 197 = .ok (.aload_n 0, 1) := dok_at gdX11_next_l193 2 rfl
theorem dX11_next_198 : decode cX11_next 198 = .ok (.getfield 178, 3) := dok_at gdX11_next_l193 3 rfl
theorem dX11_next_201 : decode cX11_next 201 = .ok (.putfield 178, 3) := dok_at gdX11_next_l193 4 rfl
theorem dX11_next_204 : decode cX11_next 204 = .ok (.aload_n 0, 1) := dok_at gdX11_next_l193 5 rfl
theorem dX11_next_205 : decode cX11_next 205 = .ok (.dup, 1) := dok_at gdX11_next_l193 6 rfl
theorem dX11_next_206 : decode cX11_next 206 = .ok (.getfield 154, 3) := dok_at gdX11_next_l193 7 rfl
theorem dX11_next_209 : decode cX11_next 209 = .ok (.iconst 1, 1) := dok_at gdX11_next_l193 8 rfl
theorem dX11_next_210 : decode cX11_next 210 = .ok (.iadd, 1) := dok_at gdX11_next_l193 9 rfl
theorem dX11_next_211 : decode cX11_next 211 = .ok (.putfield 154, 3) := dok_at gdX11_next_l193 10 rfl
theorem dX11_next_214 : decode cX11_next 214 = .ok (.goto (-74), 3) := dok_at gdX11_next_l193 11 rfl
theorem dX11_next_217 : decode cX11_next 217 = .ok (.aload_n 0, 1) := dok_at gdX11_next_l193 12 rfl
theorem dX11_next_218 : decode cX11_next 218 = .ok (.aload_n 0, 1) := dok_at gdX11_next_l193 13 rfl
theorem dX11_next_219 : decode cX11_next 219 = .ok (.getfield 154, 3) := dok_at gdX11_next_l193 14 rfl
theorem dX11_next_222 : decode cX11_next 222 = .ok (.aload_n 0, 1) := dok_at gdX11_next_l193 15 rfl
theorem dX11_next_223 : decode cX11_next 223 = .ok (.getfield 148, 3) := dok_at gdX11_next_l193 16 rfl
theorem dX11_next_226 : decode cX11_next 226 = .ok (.isub, 1) := dok_at gdX11_next_l193 17 rfl
theorem dX11_next_227 : decode cX11_next 227 = .ok (.iconst 3, 1) := dok_at gdX11_next_l193 18 rfl
theorem dX11_next_228 : decode cX11_next 228 = .ok (.if_icmp .gt 7, 3) := dok_at gdX11_next_l193 19 rfl
theorem dX11_next_231 : decode cX11_next 231 = .ok (.iconst 1, 1) := dok_at gdX11_next_l193 20 rfl
theorem dX11_next_232 : decode cX11_next 232 = .ok (.goto 4, 3) := dok_at gdX11_next_l193 21 rfl
theorem dX11_next_235 : decode cX11_next 235 = .ok (.iconst 0, 1) := dok_at gdX11_next_l193 22 rfl
theorem dX11_next_236 : decode cX11_next 236 = .ok (.iconst 1, 1) := dok_at gdX11_next_l193 23 rfl
def dX11_next_l237 : List (Nat × Instr × Nat) := [(237, .invokevirtual 181, 3), (240, .goto 85, 3), (243, .aload_n 0, 1), (244, .iload_n 1, 1), (245, .bipush 40, 2), (247, .if_icmp .ne 7, 3), (250, .iconst 3, 1), (251, .goto 36, 3), (254, .iload_n 1, 1), (255, .bipush 41, 2), (257, .if_icmp .ne 7, 3), (260, .iconst 4, 1), (261, .goto 26, 3), (264, .iload_n 1, 1), (265, .bipush 38, 2), (267, .if_icmp .ne 7, 3), (270, .iconst 5, 1), (271, .goto 16, 3), (274, .iload_n 1, 1), (275, .bipush 124, 2), (277, .if_icmp .ne 8, 3), (280, .bipush 6, 2), (282, .goto 5, 3), (285, .bipush 7, 2)]
theorem gdX11_next_l237 : dok cX11_next dX11_next_l237 = true := by decide +kernel
theorem dX11_next_237 : decode cX11_next 237 = .ok (.invokevirtual 181, 3) := dok_at gdX11_next_l237 0 rfl
theorem dX11_next_240 : decode cX11_next 240 = .ok (.goto 85, 3) := dok_at gdX11_next_l237 1 rfl
theorem dX11_next_243 : decode cX11_next 243 = .ok (.aload_n 0, 1) := dok_at gdX11_next_l237 2 rfl
theorem dX11_next_244 : decode cX11_next 244 = .ok (.iload_n 1, 1) := dok_at gdX11_next_l237 3 rfl
theorem dX11_next_245 : decode cX11_next 245 = .ok (.bipush 40, 2) := dok_at gdX11_next_l237 4 rfl
theorem dX11_next_247 : decode cX11_next 247 = .ok (.if_icmp .ne 7, 3) := dok_at gdX11_next_l237 5 rfl
theorem dX11_next_250 : decode cX11_next 250 = .ok (.iconst 3, 1) := dok_at gdX11_next_l237 6 rfl
theorem dX11_next_251 : decode cX11_next 251 = .ok (.goto 36, 3) := dok_at gdX11_next_l237 7 rfl
theorem dX11_next_254 : decode cX11_next 254 = .ok (.iload_n 1, 1) := dok_at gdX11_next_l237 8 rfl
theorem dX11_next_255 : decode cX11_next 255 = .ok (.bipush 41, 2) := dok_at gdX11_next_l237 9 rfl
theorem dX11_next_257 : decode cX11_next 257 = .ok (.if_icmp .ne 7, 3) := dok_at gdX11_next_l237 10 rfl
theorem dX11_next_260 : decode cX11_next 260 = .ok (.iconst 4, 1) := dok_at gdX11_next_l237 11 rfl
theorem dX11_next_261 : decode cX11_next 261 = .ok (.goto 26, 3) := dok_at gdX11_next_l237 12 rfl
theorem dX11_next_264 : decode cX11_next 264 = .ok (.iload_n 1, 1) := dok_at gdX11_next_l237 13 rfl
theorem dX11_next_265 : decode cX11_next 265 = .ok (.bipush 38, 2) := dok_at gdX11_next_l237 14 rfl
theorem dX11_next_267 : decode cX11_next 267 = .ok (.if_icmp .ne 7, 3) := dok_at gdX11_next_l237 15 rfl
theorem dX11_next_270 : decode cX11_next 270 = .ok (.iconst 5, 1) := dok_at gdX11_next_l237 16 rfl
theorem dX11_next_271 : decode cX11_next 271 = .ok (.goto 16, 3) := dok_at gdX11_next_l237 17 rfl
theorem dX11_next_274 : decode cX11_next 274 = .ok (.iload_n 1, 1) := dok_at gdX11_next_l237 18 rfl
theorem dX11_next_275 : decode cX11_next 275 = .ok (.bipush 124, 2) := dok_at gdX11_next_l237 19 rfl
theorem dX11_next_277 : decode cX11_next 277 = .ok (.if_icmp .ne 8, 3) := dok_at gdX11_next_l237 20 rfl
theorem dX11_next_280 : decode cX11_next 280 = .ok (.bipush 6, 2) := dok_at gdX11_next_l237 21 rfl
theorem dX11_next_282 : decode cX11_next 282 = .ok (.goto 5, 3) := dok_at gdX11_next_l237 22 rfl
theorem dX11_next_285 : decode cX11_next 285 = .ok (.bipush 7, 2) := dok_at gdX11_next_l237 23 rfl
def dX11_next_l287 : List (Nat × Instr × Nat) := [(287, .putfield 167, 3), (290, .aload_n 0, 1), (291, .aload_n 0, 1), (292, .getfield 167, 3), (295, .bipush 7, 2), (297, .if_icmp .ne 9, 3), (300, .iload_n 1, 1), (301, .bipush 59, 2), (303, .if_icmp .ne 7, 3), (306, .iconst 1, 1), (307, .goto 4, 3), (310, .iconst 0, 1), (311, .iconst 1, 1), (312, .invokevirtual 181, 3), (315, .aload_n 0, 1), (316, .dup, 1), (317, .getfield 154, 3), (320, .iconst 1, 1), (321, .iadd, 1), (322, .putfield 154, 3), (325, .return_, 1)]
theorem gdX11_next_l287 : dok cX11_next dX11_next_l287 = true := by decide +kernel
theorem dX11_next_287 : decode cX11_next 287 = .ok (.putfield 167, 3) := dok_at gdX11_next_l287 0 rfl
theorem dX11_next_290 : decode cX11_next 290 = .ok (.aload_n 0, 1) := dok_at gdX11_next_l287 1 rfl
theorem dX11_next_291 : decode cX11_next 291 = .ok (.aload_n 0, 1) := dok_at gdX11_next_l287 2 rfl
theorem dX11_next_292 : decode cX11_next 292 = .ok (.getfield 167, 3) := dok_at gdX11_next_l287 3 rfl
theorem dX11_next_295 : decode cX11_next 295 = .ok (.bipush 7, 2) := dok_at gdX11_next_l287 4 rfl
theorem dX11_next_297 : decode cX11_next 297 = .ok (.if_icmp .ne 9, 3) := dok_at gdX11_next_l287 5 rfl
theorem dX11_next_300 : decode cX11_next 300 = .ok (.iload_n 1, 1) := dok_at gdX11_next_l287 6 rfl
theorem dX11_next_301 : decode cX11_next 301 = .ok (.bipush 59, 2) := dok_at gdX11_next_l287 7 rfl
theorem dX11_next_303 : decode cX11_next 303 = .ok (.if_icmp .ne 7, 3) := dok_at gdX11_next_l287 8 rfl
theorem dX11_next_306 : decode cX11_next 306 = .ok (.iconst 1, 1) := dok_at gdX11_next_l287 9 rfl
theorem dX11_next_307 : decode cX11_next 307 = .ok (.goto 4, 3) := dok_at gdX11_next_l287 10 rfl
theorem dX11_next_310 : decode cX11_next 310 = .ok (.iconst 0, 1) := dok_at gdX11_next_l287 11 rfl
theorem dX11_next_311 : decode cX11_next 311 = .ok (.iconst 1, 1) := dok_at gdX11_next_l287 12 rfl
theorem dX11_next_312 : decode cX11_next 312 = .ok (.invokevirtual 181, 3) := dok_at gdX11_next_l287 13 rfl
theorem dX11_next_315 : decode cX11_next 315 = .ok (.aload_n 0, 1) := dok_at gdX11_next_l287 14 rfl
theorem dX11_next_316 : decode cX11_next 316 = .ok (.dup, 1) := dok_at gdX11_next_l287 15 rfl
theorem dX11_next_317 : decode cX11_next 317 = .ok (.getfield 154, 3) := dok_at gdX11_next_l287 16 rfl
theorem dX11_next_320 : decode cX11_next 320 = .ok (.iconst 1, 1) := dok_at gdX11_next_l287 17 rfl
theorem dX11_next_321 : decode cX11_next 321 = .ok (.iadd, 1) := dok_at gdX11_next_l287 18 rfl
theorem dX11_next_322 : decode cX11_next 322 = .ok (.putfield 154, 3) := dok_at gdX11_next_l287 19 rfl
theorem dX11_next_325 : decode cX11_next 325 = .ok (.return_, 1) := dok_at gdX11_next_l287 20 rfl
def dX11_readNumber_l0 : List (Nat × Instr × Nat) := [(0, .aload_n 0, 1), (1, .getfield 145, 3), (4, .ifCond .ne 21, 3), (7, .aload_n 0, 1), (8, .aload_n 0, 1), (9, .getfield 167, 3), (12, .iconst 2, 1), (13, .if_icmp .ne 7, 3), (16, .iconst 1, 1), (17, .goto 4, 3), (20, .iconst 0, 1), (21, .iconst 2, 1), (22, .invokevirtual 181, 3), (25, .aload_n 0, 1), (26, .getfield 145, 3), (29, .ifCond .ne 20, 3), (32, .aload_n 0, 1), (33, .aload_n 0, 1), (34, .getfield 178, 3), (37, .i2l, 1), (38, .iload_n 1, 1), (39, .i2l, 1), (40, .iload_n 2, 1), (41, .i2l, 1)]
theorem gdX11_readNumber_l0 : dok cX11_readNumber dX11_readNumber_l0 = true := by decide +kernel
theorem dX11_readNumber_0 : decode cX11_readNumber 0 = .ok (.aload_n 0, 1) := dok_at gdX11_readNumber_l0 0 rfl
theorem dX11_readNumber_1 : decode cX11_readNumber 1 = .ok (.getfield 145, 3) := dok_at gdX11_readNumber_l0 1 rfl
theorem dX11_readNumber_4 : decode cX11_readNumber 4 = .ok (.ifCond .ne 21, 3) := dok_at gdX11_readNumber_l0 2 rfl
theorem dX11_readNumber_7 : decode cX11_readNumber 7 = .ok (.aload_n 0, 1) := dok_at gdX11_readNumber_l0 3 rfl
theorem dX11_readNumber_8 : decode cX11_readNumber 8 = .ok (.aload_n 0, 1) := dok_at gdX11_readNumber_l0 4 rfl
theorem dX11_readNumber_9 : decode cX11_readNumber 9 = .ok (.getfield 167, 3) := dok_at gdX11_readNumber_l0 5 rfl
theorem dX11_readNumber_12 : decode cX11_readNumber 12 = .ok (.iconst 2, 1) := dok_at gdX11_readNumber_l0 6 rfl
theorem dX11_readNumber_13 : decode cX11_readNumber 13 = .ok (.if_icmp .ne 7, 3) := dok_at gdX11_readNumber_l0 7 rfl
theorem dX11_readNumber_16 : decode cX11_readNumber 16 = .ok (.iconst 1, 1) := dok_at gdX11_readNumber_l0 8 rfl
theorem dX11_readNumber_17 : decode cX11_readNumber 17 = .ok (.goto 4, 3) := dok_at gdX11_readNumber_l0 9 rfl
theorem dX11_readNumber_20 : decode cX11_readNumber 20 = .ok (.iconst 0, 1) := dok_at gdX11_readNumber_l0 10 rfl
theorem dX11_readNumber_21 : decode cX11_readNumber 21 = .ok (.iconst 2, 1) := dok_at gdX11_readNumber_l0 11 rfl
theorem dX11_readNumber_22 : decode cX11_readNumber 22 = .ok (.invokevirtual 181, 3) := dok_at gdX11_readNumber_l0 12 rfl
theorem dX11_readNumber_25 : decode cX11_readNumber 25 = .ok (.aload_n 0, 1) := dok_at gdX11_readNumber_l0 13 rfl
theorem dX11_readNumber_26 : decode cX11_readNumber 26 = .ok (.getfield 145, 3) := dok_at gdX11_readNumber_l0 14 rfl
theorem dX11_readNumber_29 : decode cX11_readNumber 29 = .ok (.ifCond .ne 20, 3) := dok_at gdX11_readNumber_l0 15 rfl
theorem dX11_readNumber_32 : decode cX11_readNumber 32 = .ok (.aload_n 0, 1) := dok_at gdX11_readNumber_l0 16 rfl
theorem dX11_readNumber_33 : decode cX11_readNumber 33 = .ok (.aload_n 0, 1) := dok_at gdX11_readNumber_l0 17 rfl
theorem dX11_readNumber_34 : decode cX11_readNumber 34 = .ok (.getfield 178, 3) := dok_at gdX11_readNumber_l0 18 rfl
theorem dX11_readNumber_37 : decode cX11_readNumber 37 = .ok (.i2l, 1) := dok_at gdX11_readNumber_l0 19 rfl
theorem dX11_readNumber_38 : decode cX11_readNumber 38 = .ok (.iload_n 1, 1) := dok_at gdX11_readNumber_l0 20 rfl
theorem dX11_readNumber_39 : decode cX11_readNumber 39 = .ok (.i2l, 1) := dok_at gdX11_readNumber_l0 21 rfl
theorem dX11_readNumber_40 : decode cX11_readNumber 40 = .ok (.iload_n 2, 1) := dok_at gdX11_readNumber_l0 22 rfl
theorem dX11_readNumber_41 : decode cX11_readNumber 41 = .ok (.i2l, 1) := dok_at gdX11_readNumber_l0 23 rfl
def dX11_readNumber_l42 : List (Nat × Instr × Nat) := [(42, .invokestatic 141, 3), (45, .iconst 3, 1), (46, .invokevirtual 181, 3), (49, .aload_n 0, 1), (50, .getfield 178, 3), (53, .istore_n 3, 1), (54, .aload_n 0, 1), (55, .invokevirtual 185, 3), (58, .iload_n 3, 1), (59, .ireturn, 1)]
theorem gdX11_readNumber_l42 : dok cX11_readNumber dX11_readNumber_l42 = true := by decide +kernel
theorem dX11_readNumber_42 : decode cX11_readNumber 42 = .ok (.invokestatic 141, 3) := dok_at gdX11_readNumber_l42 0 rfl
theorem dX11_readNumber_45 : decode cX11_readNumber 45 = .ok (.iconst 3, 1) := dok_at gdX11_readNumber_l42 1 rfl
theorem dX11_readNumber_46 : decode cX11_readNumber 46 = .ok (.invokevirtual 181, 3) := dok_at gdX11_readNumber_l42 2 rfl
theorem dX11_readNumber_49 : decode cX11_readNumber 49 = .ok (.aload_n 0, 1) := dok_at gdX11_readNumber_l42 3 rfl
theorem dX11_readNumber_50 : decode cX11_readNumber 50 = .ok (.getfield 178, 3) := dok_at gdX11_readNumber_l42 4 rfl
theorem dX11_readNumber_53 : decode cX11_readNumber 53 = .ok (.istore_n 3, 1) := dok_at gdX11_readNumber_l42 5 rfl
theorem dX11_readNumber_54 : decode cX11_readNumber 54 = .ok (.aload_n 0, 1) := dok_at gdX11_readNumber_l42 6 rfl
theorem dX11_readNumber_55 : decode cX11_readNumber 55 = .ok (.invokevirtual 185, 3) := dok_at gdX11_readNumber_l42 7 rfl
theorem dX11_readNumber_58 : decode cX11_readNumber 58 = .ok (.iload_n 3, 1) := dok_at gdX11_readNumber_l42 8 rfl
theorem dX11_readNumber_59 : decode cX11_readNumber 59 = .ok (.ireturn, 1) := dok_at gdX11_readNumber_l42 9 rfl
def dX11_readLetter_l0 : List (Nat × Instr × Nat) := [(0, .aload_n 0, 1), (1, .invokevirtual 188, 3), (4, .istore_n 1, 1), (5, .aload_n 0, 1), (6, .iload_n 1, 1), (7, .i2l, 1), (8, .lconst 0, 1), (9, .ldc2_w 161, 3), (12, .invokestatic 141, 3), (15, .ifCond .ne 9, 3), (18, .iload_n 1, 1), (19, .bipush 28, 2), (21, .if_icmp .ne 7, 3), (24, .iconst 1, 1), (25, .goto 4, 3), (28, .iconst 0, 1), (29, .iconst 3, 1), (30, .invokevirtual 181, 3), (33, .aload_n 0, 1), (34, .getfield 145, 3), (37, .ifCond .ne 73, 3), (40, .aload_n 0, 1), (41, .getfield 35, 3), (44, .aload_n 0, 1)]
theorem gdX11_readLetter_l0 : dok cX11_readLetter dX11_readLetter_l0 = true := by decide +kernel
theorem dX11_readLetter_0 : decode cX11_readLetter 0 = .ok (.aload_n 0, 1) := dok_at gdX11_readLetter_l0 0 rfl
theorem dX11_readLetter_1 : decode cX11_readLetter 1 = .ok (.invokevirtual 188, 3) := dok_at gdX11_readLetter_l0 1 rfl
theorem dX11_readLetter_4 : decode cX11_readLetter 4 = .ok (.istore_n 1, 1) := dok_at gdX11_readLetter_l0 2 rfl
theorem dX11_readLetter_5 : decode cX11_readLetter 5 = .ok (.aload_n 0, 1) := dok_at gdX11_readLetter_l0 3 rfl
theorem dX11_readLetter_6 : decode cX11_readLetter 6 = .ok (.iload_n 1, 1) := dok_at gdX11_readLetter_l0 4 rfl
theorem dX11_readLetter_7 : decode cX11_readLetter 7 = .ok (.i2l, 1) := dok_at gdX11_readLetter_l0 5 rfl
theorem dX11_readLetter_8 : decode cX11_readLetter 8 = .ok (.lconst 0, 1) := dok_at gdX11_readLetter_l0 6 rfl
theorem dX11_readLetter_9 : decode cX11_readLetter 9 = .ok (.ldc2_w 161, 3) := dok_at gdX11_readLetter_l0 7 rfl
theorem dX11_readLetter_12 : decode cX11_readLetter 12 = .ok (.invokestatic 141, 3) := dok_at gdX11_readLetter_l0 8 rfl
theorem dX11_readLetter_15 : decode cX11_readLetter 15 = .ok (.ifCond .ne 9, 3) := dok_at gdX11_readLetter_l0 9 rfl
theorem dX11_readLetter_18 : decode cX11_readLetter 18 = .ok (.iload_n 1, 1) := dok_at gdX11_readLetter_l0 10 rfl
theorem dX11_readLetter_19 : decode cX11_readLetter 19 = .ok (.bipush 28, 2) := dok_at gdX11_readLetter_l0 11 rfl
theorem dX11_readLetter_21 : decode cX11_readLetter 21 = .ok (.if_icmp .ne 7, 3) := dok_at gdX11_readLetter_l0 12 rfl
theorem dX11_readLetter_24 : decode cX11_readLetter 24 = .ok (.iconst 1, 1) := dok_at gdX11_readLetter_l0 13 rfl
theorem dX11_readLetter_25 : decode cX11_readLetter 25 = .ok (.goto 4, 3) := dok_at gdX11_readLetter_l0 14 rfl
theorem dX11_readLetter_28 : decode cX11_readLetter 28 = .ok (.iconst 0, 1) := dok_at gdX11_readLetter_l0 15 rfl
theorem dX11_readLetter_29 : decode cX11_readLetter 29 = .ok (.iconst 3, 1) := dok_at gdX11_readLetter_l0 16 rfl
theorem dX11_readLetter_30 : decode cX11_readLetter 30 = .ok (.invokevirtual 181, 3) := dok_at gdX11_readLetter_l0 17 rfl
theorem dX11_readLetter_33 : decode cX11_readLetter 33 = .ok (.aload_n 0, 1) := dok_at gdX11_readLetter_l0 18 rfl
theorem dX11_readLetter_34 : decode cX11_readLetter 34 = .ok (.getfield 145, 3) := dok_at gdX11_readLetter_l0 19 rfl
theorem dX11_readLetter_37 : decode cX11_readLetter 37 = .ok (.ifCond .ne 73, 3) := dok_at gdX11_readLetter_l0 20 rfl
theorem dX11_readLetter_40 : decode cX11_readLetter 40 = .ok (.aload_n 0, 1) := dok_at gdX11_readLetter_l0 21 rfl
theorem dX11_readLetter_41 : decode cX11_readLetter 41 = .ok (.getfield 35, 3) := dok_at gdX11_readLetter_l0 22 rfl
theorem dX11_readLetter_44 : decode cX11_readLetter 44 = .ok (.aload_n 0, 1) := dok_at gdX11_readLetter_l0 23 rfl
def dX11_readLetter_l45 : List (Nat × Instr × Nat) := [(45, .getfield 192, 3), (48, .iload_n 1, 1), (49, .bipush 28, 2), (51, .if_icmp .ne 8, 3), (54, .bipush 8, 2), (56, .goto 4, 3), (59, .iload_n 1, 1), (60, .iastore, 1), (61, .aload_n 0, 1), (62, .dup, 1), (63, .getfield 192, 3), (66, .iconst 1, 1), (67, .iadd, 1), (68, .putfield 192, 3), (71, .iload_n 1, 1), (72, .bipush 28, 2), (74, .if_icmp .eq 36, 3), (77, .aload_n 0, 1), (78, .getfield 29, 3), (81, .aload_n 0, 1), (82, .getfield 118, 3), (85, .iload_n 1, 1), (86, .iastore, 1), (87, .aload_n 0, 1)]
theorem gdX11_readLetter_l45 : dok cX11_readLetter dX11_readLetter_l45 = true := by decide +kernel
theorem dX11_readLetter_45 : decode cX11_readLetter 45 = .ok (.getfield 192, 3) := dok_at gdX11_readLetter_l45 0 rfl
theorem dX11_readLetter_48 : decode cX11_readLetter 48 = .ok (.iload_n 1, 1) := dok_at gdX11_readLetter_l45 1 rfl
theorem dX11_readLetter_49 : decode cX11_readLetter 49 = .ok (.bipush 28, 2) := dok_at gdX11_readLetter_l45 2 rfl
theorem dX11_readLetter_51 : decode cX11_readLetter 51 = .ok (.if_icmp .ne 8, 3) := dok_at gdX11_readLetter_l45 3 rfl
theorem dX11_readLetter_54 : decode cX11_readLetter 54 = .ok (.bipush 8, 2) := dok_at gdX11_readLetter_l45 4 rfl
theorem dX11_readLetter_56 : decode cX11_readLetter 56 = .ok (.goto 4, 3) := dok_at gdX11_readLetter_l45 5 rfl
theorem dX11_readLetter_59 : decode cX11_readLetter 59 = .ok (.iload_n 1, 1) := dok_at gdX11_readLetter_l45 6 rfl
theorem dX11_readLetter_60 : decode cX11_readLetter 60 = .ok (.iastore, 1) := dok_at gdX11_readLetter_l45 7 rfl
theorem dX11_readLetter_61 : decode cX11_readLetter 61 = .ok (.aload_n 0, 1) := dok_at gdX11_readLetter_l45 8 rfl
theorem dX11_readLetter_62 : decode cX11_readLetter 62 = .ok (.dup, 1) := dok_at gdX11_readLetter_l45 9 rfl
theorem dX11_readLetter_63 : decode cX11_readLetter 63 = .ok (.getfield 192, 3) := dok_at gdX11_readLetter_l45 10 rfl
theorem dX11_readLetter_66 : decode cX11_readLetter 66 = .ok (.iconst 1, 1) := dok_at gdX11_readLetter_l45 11 rfl
theorem dX11_readLetter_67 : decode cX11_readLetter 67 = .ok (.iadd, 1) := dok_at gdX11_readLetter_l45 12 rfl
theorem dX11_readLetter_68 : decode cX11_readLetter 68 = .ok (.putfield 192, 3) := dok_at gdX11_readLetter_l45 13 rfl
theorem dX11_readLetter_71 : decode cX11_readLetter 71 = .ok (.iload_n 1, 1) := dok_at gdX11_readLetter_l45 14 rfl
theorem dX11_readLetter_72 : decode cX11_readLetter 72 = .ok (.bipush 28, 2) := dok_at gdX11_readLetter_l45 15 rfl
theorem dX11_readLetter_74 : decode cX11_readLetter 74 = .ok (.if_icmp .eq 36, 3) := dok_at gdX11_readLetter_l45 16 rfl
theorem dX11_readLetter_77 : decode cX11_readLetter 77 = .ok (.aload_n 0, 1) := dok_at gdX11_readLetter_l45 17 rfl
theorem dX11_readLetter_78 : decode cX11_readLetter 78 = .ok (.getfield 29, 3) := dok_at gdX11_readLetter_l45 18 rfl
theorem dX11_readLetter_81 : decode cX11_readLetter 81 = .ok (.aload_n 0, 1) := dok_at gdX11_readLetter_l45 19 rfl
theorem dX11_readLetter_82 : decode cX11_readLetter 82 = .ok (.getfield 118, 3) := dok_at gdX11_readLetter_l45 20 rfl
theorem dX11_readLetter_85 : decode cX11_readLetter 85 = .ok (.iload_n 1, 1) := dok_at gdX11_readLetter_l45 21 rfl
theorem dX11_readLetter_86 : decode cX11_readLetter 86 = .ok (.iastore, 1) := dok_at gdX11_readLetter_l45 22 rfl
theorem dX11_readLetter_87 : decode cX11_readLetter 87 = .ok (.aload_n 0, 1) := dok_at gdX11_readLetter_l45 23 rfl
def dX11_readLetter_l88 : List (Nat × Instr × Nat) := [(88, .getfield 32, 3), (91, .aload_n 0, 1), (92, .getfield 118, 3), (95, .aload_n 0, 1), (96, .getfield 148, 3), (99, .iastore, 1), (100, .aload_n 0, 1), (101, .dup, 1), (102, .getfield 118, 3), (105, .iconst 1, 1), (106, .iadd, 1), (107, .putfield 118, 3), (110, .aload_n 0, 1), (111, .invokevirtual 185, 3), (114, .return_, 1)]
theorem gdX11_readLetter_l88 : dok cX11_readLetter dX11_readLetter_l88 = true := by decide +kernel
theorem dX11_readLetter_88 : decode cX11_readLetter 88 = .ok (.getfield 32, 3) := dok_at gdX11_readLetter_l88 0 rfl
theorem dX11_readLetter_91 : decode cX11_readLetter 91 = .ok (.aload_n 0, 1) := dok_at gdX11_readLetter_l88 1 rfl
theorem dX11_readLetter_92 : decode cX11_readLetter 92 = .ok (.getfield 118, 3) := dok_at gdX11_readLetter_l88 2 rfl
theorem dX11_readLetter_95 : decode cX11_readLetter 95 = .ok (.aload_n 0, 1) := dok_at gdX11_readLetter_l88 3 rfl
theorem dX11_readLetter_96 : decode cX11_readLetter 96 = .ok (.getfield 148, 3) := dok_at gdX11_readLetter_l88 4 rfl
theorem dX11_readLetter_99 : decode cX11_readLetter 99 = .ok (.iastore, 1) := dok_at gdX11_readLetter_l88 5 rfl
theorem dX11_readLetter_100 : decode cX11_readLetter 100 = .ok (.aload_n 0, 1) := dok_at gdX11_readLetter_l88 6 rfl
theorem dX11_readLetter_101 : decode cX11_readLetter 101 = .ok (.dup, 1) := dok_at gdX11_readLetter_l88 7 rfl
theorem dX11_readLetter_102 : decode cX11_readLetter 102 = .ok (.getfield 118, 3) := dok_at gdX11_readLetter_l88 8 rfl
theorem dX11_readLetter_105 : decode cX11_readLetter 105 = .ok (.iconst 1, 1) := dok_at gdX11_readLetter_l88 9 rfl
theorem dX11_readLetter_106 : decode cX11_readLetter 106 = .ok (.iadd, 1) := dok_at gdX11_readLetter_l88 10 rfl
theorem dX11_readLetter_107 : decode cX11_readLetter 107 = .ok (.putfield 118, 3) := dok_at gdX11_readLetter_l88 11 rfl
theorem dX11_readLetter_110 : decode cX11_readLetter 110 = .ok (.aload_n 0, 1) := dok_at gdX11_readLetter_l88 12 rfl
theorem dX11_readLetter_111 : decode cX11_readLetter 111 = .ok (.invokevirtual 185, 3) := dok_at gdX11_readLetter_l88 13 rfl
theorem dX11_readLetter_114 : decode cX11_readLetter 114 = .ok (.return_, 1) := dok_at gdX11_readLetter_l88 14 rfl
def dX11_readUnit_l0 : List (Nat × Instr × Nat) := [(0, .aload_n 0, 1), (1, .getfield 145, 3), (4, .ifCond .ne 53, 3), (7, .aload_n 0, 1), (8, .getfield 167, 3), (11, .iconst 3, 1), (12, .if_icmp .ne 45, 3), (15, .aload_n 0, 1), (16, .aload_n 0, 1), (17, .getfield 198, 3), (20, .bipush 6, 2), (22, .if_icmp .ge 7, 3), (25, .iconst 1, 1), (26, .goto 4, 3), (29, .iconst 0, 1), (30, .iconst 5, 1), (31, .invokevirtual 181, 3), (34, .aload_n 0, 1), (35, .dup, 1), (36, .getfield 198, 3), (39, .iconst 1, 1), (40, .iadd, 1), (41, .putfield 198, 3), (44, .aload_n 0, 1)]
theorem gdX11_readUnit_l0 : dok cX11_readUnit dX11_readUnit_l0 = true := by decide +kernel
theorem dX11_readUnit_0 : decode cX11_readUnit 0 = .ok (.aload_n 0, 1) := dok_at gdX11_readUnit_l0 0 rfl
theorem dX11_readUnit_1 : decode cX11_readUnit 1 = .ok (.getfield 145, 3) := dok_at gdX11_readUnit_l0 1 rfl
theorem dX11_readUnit_4 : decode cX11_readUnit 4 = .ok (.ifCond .ne 53, 3) := dok_at gdX11_readUnit_l0 2 rfl
theorem dX11_readUnit_7 : decode cX11_readUnit 7 = .ok (.aload_n 0, 1) := dok_at gdX11_readUnit_l0 3 rfl
theorem dX11_readUnit_8 : decode cX11_readUnit 8 = .ok (.getfield 167, 3) := dok_at gdX11_readUnit_l0 4 rfl
theorem dX11_readUnit_11 : decode cX11_readUnit 11 = .ok (.iconst 3, 1) := dok_at gdX11_readUnit_l0 5 rfl
theorem dX11_readUnit_12 : decode cX11_readUnit 12 = .ok (.if_icmp .ne 45, 3) := dok_at gdX11_readUnit_l0 6 rfl
theorem dX11_readUnit_15 : decode cX11_readUnit 15 = .ok (.aload_n 0, 1) := dok_at gdX11_readUnit_l0 7 rfl
theorem dX11_readUnit_16 : decode cX11_readUnit 16 = .ok (.aload_n 0, 1) := dok_at gdX11_readUnit_l0 8 rfl
theorem dX11_readUnit_17 : decode cX11_readUnit 17 = .ok (.getfield 198, 3) := dok_at gdX11_readUnit_l0 9 rfl
theorem dX11_readUnit_20 : decode cX11_readUnit 20 = .ok (.bipush 6, 2) := dok_at gdX11_readUnit_l0 10 rfl
theorem dX11_readUnit_22 : decode cX11_readUnit 22 = .ok (.if_icmp .ge 7, 3) := dok_at gdX11_readUnit_l0 11 rfl
theorem dX11_readUnit_25 : decode cX11_readUnit 25 = .ok (.iconst 1, 1) := dok_at gdX11_readUnit_l0 12 rfl
theorem dX11_readUnit_26 : decode cX11_readUnit 26 = .ok (.goto 4, 3) := dok_at gdX11_readUnit_l0 13 rfl
theorem dX11_readUnit_29 : decode cX11_readUnit 29 = .ok (.iconst 0, 1) := dok_at gdX11_readUnit_l0 14 rfl
theorem dX11_readUnit_30 : decode cX11_readUnit 30 = .ok (.iconst 5, 1) := dok_at gdX11_readUnit_l0 15 rfl
theorem dX11_readUnit_31 : decode cX11_readUnit 31 = .ok (.invokevirtual 181, 3) := dok_at gdX11_readUnit_l0 16 rfl
theorem dX11_readUnit_34 : decode cX11_readUnit 34 = .ok (.aload_n 0, 1) := dok_at gdX11_readUnit_l0 17 rfl
theorem dX11_readUnit_35 : decode cX11_readUnit 35 = .ok (.dup, 1) := dok_at gdX11_readUnit_l0 18 rfl
theorem dX11_readUnit_36 : decode cX11_readUnit 36 = .ok (.getfield 198, 3) := dok_at gdX11_readUnit_l0 19 rfl
theorem dX11_readUnit_39 : decode cX11_readUnit 39 = .ok (.iconst 1, 1) := dok_at gdX11_readUnit_l0 20 rfl
theorem dX11_readUnit_40 : decode cX11_readUnit 40 = .ok (.iadd, 1) := dok_at gdX11_readUnit_l0 21 rfl
theorem dX11_readUnit_41 : decode cX11_readUnit 41 = .ok (.putfield 198, 3) := dok_at gdX11_readUnit_l0 22 rfl
theorem dX11_readUnit_44 : decode cX11_readUnit 44 = .ok (.aload_n 0, 1) := dok_at gdX11_readUnit_l0 23 rfl
def dX11_readUnit_l45 : List (Nat × Instr × Nat) := [(45, .bipush 12, 2), (47, .invokevirtual 201, 3), (50, .aload_n 0, 1), (51, .invokevirtual 185, 3), (54, .goto (-54), 3), (57, .aload_n 0, 1), (58, .getfield 145, 3), (61, .ifCond .ne 21, 3), (64, .aload_n 0, 1), (65, .aload_n 0, 1), (66, .getfield 167, 3), (69, .iconst 1, 1), (70, .if_icmp .ne 7, 3), (73, .iconst 1, 1), (74, .goto 4, 3), (77, .iconst 0, 1), (78, .iconst 2, 1), (79, .invokevirtual 181, 3), (82, .aload_n 0, 1), (83, .getfield 145, 3), (86, .ifCond .ne 7, 3), (89, .aload_n 0, 1), (90, .invokevirtual 205, 3), (93, .aload_n 0, 1)]
theorem gdX11_readUnit_l45 : dok cX11_readUnit dX11_readUnit_l45 = true := by decide +kernel
theorem dX11_readUnit_45 : decode cX11_readUnit 45 = .ok (.bipush 12, 2) := dok_at gdX11_readUnit_l45 0 rfl
theorem dX11_readUnit_47 : decode cX11_readUnit 47 = .ok (.invokevirtual 201, 3) := dok_at gdX11_readUnit_l45 1 rfl
theorem dX11_readUnit_50 : decode cX11_readUnit 50 = .ok (.aload_n 0, 1) := dok_at gdX11_readUnit_l45 2 rfl
theorem dX11_readUnit_51 : decode cX11_readUnit 51 = .ok (.invokevirtual 185, 3) := dok_at gdX11_readUnit_l45 3 rfl
theorem dX11_readUnit_54 : decode cX11_readUnit 54 = .ok (.goto (-54), 3) := dok_at gdX11_readUnit_l45 4 rfl
theorem dX11_readUnit_57 : decode cX11_readUnit 57 = .ok (.aload_n 0, 1) := dok_at gdX11_readUnit_l45 5 rfl
theorem dX11_readUnit_58 : decode cX11_readUnit 58 = .ok (.getfield 145, 3) := dok_at gdX11_readUnit_l45 6 rfl
theorem dX11_readUnit_61 : decode cX11_readUnit 61 = .ok (.ifCond .ne 21, 3) := dok_at gdX11_readUnit_l45 7 rfl
theorem dX11_readUnit_64 : decode cX11_readUnit 64 = .ok (.aload_n 0, 1) := dok_at gdX11_readUnit_l45 8 rfl
theorem dX11_readUnit_65 : decode cX11_readUnit 65 = .ok (.aload_n 0, 1) := dok_at gdX11_readUnit_l45 9 rfl
theorem dX11_readUnit_66 : decode cX11_readUnit 66 = .ok (.getfield 167, 3) := dok_at gdX11_readUnit_l45 10 rfl
theorem dX11_readUnit_69 : decode cX11_readUnit 69 = .ok (.iconst 1, 1) := dok_at gdX11_readUnit_l45 11 rfl
theorem dX11_readUnit_70 : decode cX11_readUnit 70 = .ok (.if_icmp .ne 7, 3) := dok_at gdX11_readUnit_l45 12 rfl
theorem dX11_readUnit_73 : decode cX11_readUnit 73 = .ok (.iconst 1, 1) := dok_at gdX11_readUnit_l45 13 rfl
theorem dX11_readUnit_74 : decode cX11_readUnit 74 = .ok (.goto 4, 3) := dok_at gdX11_readUnit_l45 14 rfl
theorem dX11_readUnit_77 : decode cX11_readUnit 77 = .ok (.iconst 0, 1) := dok_at gdX11_readUnit_l45 15 rfl
theorem dX11_readUnit_78 : decode cX11_readUnit 78 = .ok (.iconst 2, 1) := dok_at gdX11_readUnit_l45 16 rfl
theorem dX11_readUnit_79 : decode cX11_readUnit 79 = .ok (.invokevirtual 181, 3) := dok_at gdX11_readUnit_l45 17 rfl
theorem dX11_readUnit_82 : decode cX11_readUnit 82 = .ok (.aload_n 0, 1) := dok_at gdX11_readUnit_l45 18 rfl
theorem dX11_readUnit_83 : decode cX11_readUnit 83 = .ok (.getfield 145, 3) := dok_at gdX11_readUnit_l45 19 rfl
theorem dX11_readUnit_86 : decode cX11_readUnit 86 = .ok (.ifCond .ne 7, 3) := dok_at gdX11_readUnit_l45 20 rfl
theorem dX11_readUnit_89 : decode cX11_readUnit 89 = .ok (.aload_n 0, 1) := dok_at gdX11_readUnit_l45 21 rfl
theorem dX11_readUnit_90 : decode cX11_readUnit 90 = .ok (.invokevirtual 205, 3) := dok_at gdX11_readUnit_l45 22 rfl
theorem dX11_readUnit_93 : decode cX11_readUnit 93 = .ok (.aload_n 0, 1) := dok_at gdX11_readUnit_l45 23 rfl
def dX11_readUnit_l94 : List (Nat × Instr × Nat) := [(94, .getfield 145, 3), (97, .ifCond .ne 68, 3), (100, .aload_n 0, 1), (101, .getfield 167, 3), (104, .iconst 4, 1), (105, .if_icmp .ne 60, 3), (108, .aload_n 0, 1), (109, .aload_n 0, 1), (110, .getfield 198, 3), (113, .ifCond .le 7, 3), (116, .iconst 1, 1), (117, .goto 4, 3), (120, .iconst 0, 1), (121, .iconst 2, 1), (122, .invokevirtual 181, 3), (125, .aload_n 0, 1), (126, .getfield 145, 3), (129, .ifCond .ne 29, 3), (132, .aload_n 0, 1), (133, .bipush 11, 2), (135, .invokevirtual 208, 3), (138, .aload_n 0, 1), (139, .dup, 1), (140, .getfield 195, 3)]
theorem gdX11_readUnit_l94 : dok cX11_readUnit dX11_readUnit_l94 = true := by decide +kernel
theorem dX11_readUnit_94 : decode cX11_readUnit 94 = .ok (.getfield 145, 3) := dok_at gdX11_readUnit_l94 0 rfl
theorem dX11_readUnit_97 : decode cX11_readUnit 97 = .ok (.ifCond .ne 68, 3) := dok_at gdX11_readUnit_l94 1 rfl
theorem dX11_readUnit_100 : decode cX11_readUnit 100 = .ok (.aload_n 0, 1) := dok_at gdX11_readUnit_l94 2 rfl
theorem dX11_readUnit_101 : decode cX11_readUnit 101 = .ok (.getfield 167, 3) := dok_at gdX11_readUnit_l94 3 rfl
theorem dX11_readUnit_104 : decode cX11_readUnit 104 = .ok (.iconst 4, 1) := dok_at gdX11_readUnit_l94 4 rfl
theorem dX11_readUnit_105 : decode cX11_readUnit 105 = .ok (.if_icmp .ne 60, 3) := dok_at gdX11_readUnit_l94 5 rfl
theorem dX11_readUnit_108 : decode cX11_readUnit 108 = .ok (.aload_n 0, 1) := dok_at gdX11_readUnit_l94 6 rfl
theorem dX11_readUnit_109 : decode cX11_readUnit 109 = .ok (.aload_n 0, 1) := dok_at gdX11_readUnit_l94 7 rfl
theorem dX11_readUnit_110 : decode cX11_readUnit 110 = .ok (.getfield 198, 3) := dok_at gdX11_readUnit_l94 8 rfl
theorem dX11_readUnit_113 : decode cX11_readUnit 113 = .ok (.ifCond .le 7, 3) := dok_at gdX11_readUnit_l94 9 rfl
theorem dX11_readUnit_116 : decode cX11_readUnit 116 = .ok (.iconst 1, 1) := dok_at gdX11_readUnit_l94 10 rfl
theorem dX11_readUnit_117 : decode cX11_readUnit 117 = .ok (.goto 4, 3) := dok_at gdX11_readUnit_l94 11 rfl
theorem dX11_readUnit_120 : decode cX11_readUnit 120 = .ok (.iconst 0, 1) := dok_at gdX11_readUnit_l94 12 rfl
theorem dX11_readUnit_121 : decode cX11_readUnit 121 = .ok (.iconst 2, 1) := dok_at gdX11_readUnit_l94 13 rfl
theorem dX11_readUnit_122 : decode cX11_readUnit 122 = .ok (.invokevirtual 181, 3) := dok_at gdX11_readUnit_l94 14 rfl
theorem dX11_readUnit_125 : decode cX11_readUnit 125 = .ok (.aload_n 0, 1) := dok_at gdX11_readUnit_l94 15 rfl
theorem dX11_readUnit_126 : decode cX11_readUnit 126 = .ok (.getfield 145, 3) := dok_at gdX11_readUnit_l94 16 rfl
theorem dX11_readUnit_129 : decode cX11_readUnit 129 = .ok (.ifCond .ne 29, 3) := dok_at gdX11_readUnit_l94 17 rfl
theorem dX11_readUnit_132 : decode cX11_readUnit 132 = .ok (.aload_n 0, 1) := dok_at gdX11_readUnit_l94 18 rfl
theorem dX11_readUnit_133 : decode cX11_readUnit 133 = .ok (.bipush 11, 2) := dok_at gdX11_readUnit_l94 19 rfl
theorem dX11_readUnit_135 : decode cX11_readUnit 135 = .ok (.invokevirtual 208, 3) := dok_at gdX11_readUnit_l94 20 rfl
theorem dX11_readUnit_138 : decode cX11_readUnit 138 = .ok (.aload_n 0, 1) := dok_at gdX11_readUnit_l94 21 rfl
theorem dX11_readUnit_139 : decode cX11_readUnit 139 = .ok (.dup, 1) := dok_at gdX11_readUnit_l94 22 rfl
theorem dX11_readUnit_140 : decode cX11_readUnit 140 = .ok (.getfield 195, 3) := dok_at gdX11_readUnit_l94 23 rfl
def dX11_readUnit_l143 : List (Nat × Instr × Nat) := [(143, .iconst 1, 1), (144, .isub, 1), (145, .putfield 195, 3), (148, .aload_n 0, 1), (149, .dup, 1), (150, .getfield 198, 3), (153, .iconst 1, 1), (154, .isub, 1), (155, .putfield 198, 3), (158, .aload_n 0, 1), (159, .invokevirtual 185, 3), (162, .goto (-69), 3), (165, .return_, 1)]
theorem gdX11_readUnit_l143 : dok cX11_readUnit dX11_readUnit_l143 = true := by decide +kernel
theorem dX11_readUnit_143 : decode cX11_readUnit 143 = .ok (.iconst 1, 1) := dok_at gdX11_readUnit_l143 0 rfl
theorem dX11_readUnit_144 : decode cX11_readUnit 144 = .ok (.isub, 1) := dok_at gdX11_readUnit_l143 1 rfl
theorem dX11_readUnit_145 : decode cX11_readUnit 145 = .ok (.putfield 195, 3) := dok_at gdX11_readUnit_l143 2 rfl
theorem dX11_readUnit_148 : decode cX11_readUnit 148 = .ok (.aload_n 0, 1) := dok_at gdX11_readUnit_l143 3 rfl
theorem dX11_readUnit_149 : decode cX11_readUnit 149 = .ok (.dup, 1) := dok_at gdX11_readUnit_l143 4 rfl
theorem dX11_readUnit_150 : decode cX11_readUnit 150 = .ok (.getfield 198, 3) := dok_at gdX11_readUnit_l143 5 rfl
theorem dX11_readUnit_153 : decode cX11_readUnit 153 = .ok (.iconst 1, 1) := dok_at gdX11_readUnit_l143 6 rfl
theorem dX11_readUnit_154 : decode cX11_readUnit 154 = .ok (.isub, 1) := dok_at gdX11_readUnit_l143 7 rfl
theorem dX11_readUnit_155 : decode cX11_readUnit 155 = .ok (.putfield 198, 3) := dok_at gdX11_readUnit_l143 8 rfl
theorem dX11_readUnit_158 : decode cX11_readUnit 158 = .ok (.aload_n 0, 1) := dok_at gdX11_readUnit_l143 9 rfl
theorem dX11_readUnit_159 : decode cX11_readUnit 159 = .ok (.invokevirtual 185, 3) := dok_at gdX11_readUnit_l143 10 rfl
theorem dX11_readUnit_162 : decode cX11_readUnit 162 = .ok (.goto (-69), 3) := dok_at gdX11_readUnit_l143 11 rfl
theorem dX11_readUnit_165 : decode cX11_readUnit 165 = .ok (.return_, 1) := dok_at gdX11_readUnit_l143 12 rfl
def dX11_readFormula_l0 : List (Nat × Instr × Nat) := [(0, .aload_n 0, 1), (1, .iconst 0, 1), (2, .putfield 192, 3), (5, .aload_n 0, 1), (6, .iconst 0, 1), (7, .putfield 195, 3), (10, .aload_n 0, 1), (11, .iconst 0, 1), (12, .putfield 198, 3), (15, .aload_n 0, 1), (16, .invokevirtual 211, 3), (19, .aload_n 0, 1), (20, .getfield 145, 3), (23, .ifCond .ne 57, 3), (26, .aload_n 0, 1), (27, .getfield 167, 3), (30, .iconst 5, 1), (31, .if_icmp .eq 12, 3), (34, .aload_n 0, 1), (35, .getfield 167, 3), (38, .bipush 6, 2), (40, .if_icmp .ne 40, 3), (43, .aload_n 0, 1), (44, .getfield 167, 3)]
theorem gdX11_readFormula_l0 : dok cX11_readFormula dX11_readFormula_l0 = true := by decide +kernel
theorem dX11_readFormula_0 : decode cX11_readFormula 0 = .ok (.aload_n 0, 1) := dok_at gdX11_readFormula_l0 0 rfl
theorem dX11_readFormula_1 : decode cX11_readFormula 1 = .ok (.iconst 0, 1) := dok_at gdX11_readFormula_l0 1 rfl
theorem dX11_readFormula_2 : decode cX11_readFormula 2 = .ok (.putfield 192, 3) := dok_at gdX11_readFormula_l0 2 rfl
theorem dX11_readFormula_5 : decode cX11_readFormula 5 = .ok (.aload_n 0, 1) := dok_at gdX11_readFormula_l0 3 rfl
theorem dX11_readFormula_6 : decode cX11_readFormula 6 = .ok (.iconst 0, 1) := dok_at gdX11_readFormula_l0 4 rfl
theorem dX11_readFormula_7 : decode cX11_readFormula 7 = .ok (.putfield 195, 3) := dok_at gdX11_readFormula_l0 5 rfl
theorem dX11_readFormula_10 : decode cX11_readFormula 10 = .ok (.aload_n 0, 1) := dok_at gdX11_readFormula_l0 6 rfl
theorem dX11_readFormula_11 : decode cX11_readFormula 11 = .ok (.iconst 0, 1) := dok_at gdX11_readFormula_l0 7 rfl
theorem dX11_readFormula_12 : decode cX11_readFormula 12 = .ok (.putfield 198, 3) := dok_at gdX11_readFormula_l0 8 rfl
theorem dX11_readFormula_15 : decode cX11_readFormula 15 = .ok (.aload_n 0, 1) := dok_at gdX11_readFormula_l0 9 rfl
theorem dX11_readFormula_16 : decode cX11_readFormula 16 = .ok (.invokevirtual 211, 3) := dok_at gdX11_readFormula_l0 10 rfl
theorem dX11_readFormula_19 : decode cX11_readFormula 19 = .ok (.aload_n 0, 1) := dok_at gdX11_readFormula_l0 11 rfl
theorem dX11_readFormula_20 : decode cX11_readFormula 20 = .ok (.getfield 145, 3) := dok_at gdX11_readFormula_l0 12 rfl
theorem dX11_readFormula_23 : decode cX11_readFormula 23 = .ok (.ifCond .ne 57, 3) := dok_at gdX11_readFormula_l0 13 rfl
theorem dX11_readFormula_26 : decode cX11_readFormula 26 = .ok (.aload_n 0, 1) := dok_at gdX11_readFormula_l0 14 rfl
theorem dX11_readFormula_27 : decode cX11_readFormula 27 = .ok (.getfield 167, 3) := dok_at gdX11_readFormula_l0 15 rfl
theorem dX11_readFormula_30 : decode cX11_readFormula 30 = .ok (.iconst 5, 1) := dok_at gdX11_readFormula_l0 16 rfl
theorem dX11_readFormula_31 : decode cX11_readFormula 31 = .ok (.if_icmp .eq 12, 3) := dok_at gdX11_readFormula_l0 17 rfl
theorem dX11_readFormula_34 : decode cX11_readFormula 34 = .ok (.aload_n 0, 1) := dok_at gdX11_readFormula_l0 18 rfl
theorem dX11_readFormula_35 : decode cX11_readFormula 35 = .ok (.getfield 167, 3) := dok_at gdX11_readFormula_l0 19 rfl
theorem dX11_readFormula_38 : decode cX11_readFormula 38 = .ok (.bipush 6, 2) := dok_at gdX11_readFormula_l0 20 rfl
theorem dX11_readFormula_40 : decode cX11_readFormula 40 = .ok (.if_icmp .ne 40, 3) := dok_at gdX11_readFormula_l0 21 rfl
theorem dX11_readFormula_43 : decode cX11_readFormula 43 = .ok (.aload_n 0, 1) := dok_at gdX11_readFormula_l0 22 rfl
theorem dX11_readFormula_44 : decode cX11_readFormula 44 = .ok (.getfield 167, 3) := dok_at gdX11_readFormula_l0 23 rfl
def dX11_readFormula_l47 : List (Nat × Instr × Nat) := [(47, .iconst 5, 1), (48, .if_icmp .ne 8, 3), (51, .bipush 10, 2), (53, .goto 5, 3), (56, .bipush 11, 2), (58, .istore_n 1, 1), (59, .aload_n 0, 1), (60, .iload_n 1, 1), (61, .invokevirtual 208, 3), (64, .aload_n 0, 1), (65, .iload_n 1, 1), (66, .invokevirtual 201, 3), (69, .aload_n 0, 1), (70, .invokevirtual 185, 3), (73, .aload_n 0, 1), (74, .invokevirtual 211, 3), (77, .goto (-58), 3), (80, .aload_n 0, 1), (81, .getfield 145, 3), (84, .ifCond .ne 20, 3), (87, .aload_n 0, 1), (88, .aload_n 0, 1), (89, .getfield 198, 3), (92, .ifCond .ne 7, 3)]
theorem gdX11_readFormula_l47 : dok cX11_readFormula dX11_readFormula_l47 = true := by decide +kernel
theorem dX11_readFormula_47 : decode cX11_readFormula 47 = .ok (.iconst 5, 1) := dok_at gdX11_readFormula_l47 0 rfl
theorem dX11_readFormula_48 : decode cX11_readFormula 48 = .ok (.if_icmp .ne 8, 3) := dok_at gdX11_readFormula_l47 1 rfl
theorem dX11_readFormula_51 : decode cX11_readFormula 51 = .ok (.bipush 10, 2) := dok_at gdX11_readFormula_l47 2 rfl
theorem dX11_readFormula_53 : decode cX11_readFormula 53 = .ok (.goto 5, 3) := dok_at gdX11_readFormula_l47 3 rfl
theorem dX11_readFormula_56 : decode cX11_readFormula 56 = .ok (.bipush 11, 2) := dok_at gdX11_readFormula_l47 4 rfl
theorem dX11_readFormula_58 : decode cX11_readFormula 58 = .ok (.istore_n 1, 1) := dok_at gdX11_readFormula_l47 5 rfl
theorem dX11_readFormula_59 : decode cX11_readFormula 59 = .ok (.aload_n 0, 1) := dok_at gdX11_readFormula_l47 6 rfl
theorem dX11_readFormula_60 : decode cX11_readFormula 60 = .ok (.iload_n 1, 1) := dok_at gdX11_readFormula_l47 7 rfl
theorem dX11_readFormula_61 : decode cX11_readFormula 61 = .ok (.invokevirtual 208, 3) := dok_at gdX11_readFormula_l47 8 rfl
theorem dX11_readFormula_64 : decode cX11_readFormula 64 = .ok (.aload_n 0, 1) := dok_at gdX11_readFormula_l47 9 rfl
theorem dX11_readFormula_65 : decode cX11_readFormula 65 = .ok (.iload_n 1, 1) := dok_at gdX11_readFormula_l47 10 rfl
theorem dX11_readFormula_66 : decode cX11_readFormula 66 = .ok (.invokevirtual 201, 3) := dok_at gdX11_readFormula_l47 11 rfl
theorem dX11_readFormula_69 : decode cX11_readFormula 69 = .ok (.aload_n 0, 1) := dok_at gdX11_readFormula_l47 12 rfl
theorem dX11_readFormula_70 : decode cX11_readFormula 70 = .ok (.invokevirtual 185, 3) := dok_at gdX11_readFormula_l47 13 rfl
theorem dX11_readFormula_73 : decode cX11_readFormula 73 = .ok (.aload_n 0, 1) := dok_at gdX11_readFormula_l47 14 rfl
theorem dX11_readFormula_74 : decode cX11_readFormula 74 = .ok (.invokevirtual 211, 3) := dok_at gdX11_readFormula_l47 15 rfl
theorem dX11_readFormula_77 : decode cX11_readFormula 77 = .ok (.goto (-58), 3) := dok_at gdX11_readFormula_l47 16 rfl
theorem dX11_readFormula_80 : decode cX11_readFormula 80 = .ok (.aload_n 0, 1) := dok_at gdX11_readFormula_l47 17 rfl
theorem dX11_readFormula_81 : decode cX11_readFormula 81 = .ok (.getfield 145, 3) := dok_at gdX11_readFormula_l47 18 rfl
theorem dX11_readFormula_84 : decode cX11_readFormula 84 = .ok (.ifCond .ne 20, 3) := dok_at gdX11_readFormula_l47 19 rfl
theorem dX11_readFormula_87 : decode cX11_readFormula 87 = .ok (.aload_n 0, 1) := dok_at gdX11_readFormula_l47 20 rfl
theorem dX11_readFormula_88 : decode cX11_readFormula 88 = .ok (.aload_n 0, 1) := dok_at gdX11_readFormula_l47 21 rfl
theorem dX11_readFormula_89 : decode cX11_readFormula 89 = .ok (.getfield 198, 3) := dok_at gdX11_readFormula_l47 22 rfl
theorem dX11_readFormula_92 : decode cX11_readFormula 92 = .ok (.ifCond .ne 7, 3) := dok_at gdX11_readFormula_l47 23 rfl
def dX11_readFormula_l95 : List (Nat × Instr × Nat) := [(95, .iconst 1, 1), (96, .goto 4, 3), (99, .iconst 0, 1), (100, .iconst 2, 1), (101, .invokevirtual 181, 3), (104, .aload_n 0, 1), (105, .getfield 145, 3), (108, .ifCond .ne 9, 3), (111, .aload_n 0, 1), (112, .bipush 11, 2), (114, .invokevirtual 208, 3), (117, .return_, 1)]
theorem gdX11_readFormula_l95 : dok cX11_readFormula dX11_readFormula_l95 = true := by decide +kernel
theorem dX11_readFormula_95 : decode cX11_readFormula 95 = .ok (.iconst 1, 1) := dok_at gdX11_readFormula_l95 0 rfl
theorem dX11_readFormula_96 : decode cX11_readFormula 96 = .ok (.goto 4, 3) := dok_at gdX11_readFormula_l95 1 rfl
theorem dX11_readFormula_99 : decode cX11_readFormula 99 = .ok (.iconst 0, 1) := dok_at gdX11_readFormula_l95 2 rfl
theorem dX11_readFormula_100 : decode cX11_readFormula 100 = .ok (.iconst 2, 1) := dok_at gdX11_readFormula_l95 3 rfl
theorem dX11_readFormula_101 : decode cX11_readFormula 101 = .ok (.invokevirtual 181, 3) := dok_at gdX11_readFormula_l95 4 rfl
theorem dX11_readFormula_104 : decode cX11_readFormula 104 = .ok (.aload_n 0, 1) := dok_at gdX11_readFormula_l95 5 rfl
theorem dX11_readFormula_105 : decode cX11_readFormula 105 = .ok (.getfield 145, 3) := dok_at gdX11_readFormula_l95 6 rfl
theorem dX11_readFormula_108 : decode cX11_readFormula 108 = .ok (.ifCond .ne 9, 3) := dok_at gdX11_readFormula_l95 7 rfl
theorem dX11_readFormula_111 : decode cX11_readFormula 111 = .ok (.aload_n 0, 1) := dok_at gdX11_readFormula_l95 8 rfl
theorem dX11_readFormula_112 : decode cX11_readFormula 112 = .ok (.bipush 11, 2) := dok_at gdX11_readFormula_l95 9 rfl
theorem dX11_readFormula_114 : decode cX11_readFormula 114 = .ok (.invokevirtual 208, 3) := dok_at gdX11_readFormula_l95 10 rfl
theorem dX11_readFormula_117 : decode cX11_readFormula 117 = .ok (.return_, 1) := dok_at gdX11_readFormula_l95 11 rfl
def dX11_worth_l0 : List (Nat × Instr × Nat) := [(0, .iconst 0, 1), (1, .istore_n 2, 1), (2, .iconst 0, 1), (3, .istore_n 3, 1), (4, .iload_n 3, 1), (5, .aload_n 0, 1), (6, .getfield 192, 3), (9, .if_icmp .ge 126, 3), (12, .aload_n 0, 1), (13, .getfield 35, 3), (16, .iload_n 3, 1), (17, .iaload, 1), (18, .bipush 9, 2), (20, .if_icmp .ge 34, 3), (23, .aload_n 0, 1), (24, .getfield 41, 3), (27, .iload_n 2, 1), (28, .iload_n 1, 1), (29, .aload_n 0, 1), (30, .getfield 35, 3), (33, .iload_n 3, 1), (34, .iaload, 1), (35, .ishr, 1), (36, .iconst 1, 1)]
theorem gdX11_worth_l0 : dok cX11_worth dX11_worth_l0 = true := by decide +kernel
theorem dX11_worth_0 : decode cX11_worth 0 = .ok (.iconst 0, 1) := dok_at gdX11_worth_l0 0 rfl
theorem dX11_worth_1 : decode cX11_worth 1 = .ok (.istore_n 2, 1) := dok_at gdX11_worth_l0 1 rfl
theorem dX11_worth_2 : decode cX11_worth 2 = .ok (.iconst 0, 1) := dok_at gdX11_worth_l0 2 rfl
theorem dX11_worth_3 : decode cX11_worth 3 = .ok (.istore_n 3, 1) := dok_at gdX11_worth_l0 3 rfl
theorem dX11_worth_4 : decode cX11_worth 4 = .ok (.iload_n 3, 1) := dok_at gdX11_worth_l0 4 rfl
theorem dX11_worth_5 : decode cX11_worth 5 = .ok (.aload_n 0, 1) := dok_at gdX11_worth_l0 5 rfl
theorem dX11_worth_6 : decode cX11_worth 6 = .ok (.getfield 192, 3) := dok_at gdX11_worth_l0 6 rfl
theorem dX11_worth_9 : decode cX11_worth 9 = .ok (.if_icmp .ge 126, 3) := dok_at gdX11_worth_l0 7 rfl
theorem dX11_worth_12 : decode cX11_worth 12 = .ok (.aload_n 0, 1) := dok_at gdX11_worth_l0 8 rfl
theorem dX11_worth_13 : decode cX11_worth 13 = .ok (.getfield 35, 3) := dok_at gdX11_worth_l0 9 rfl
theorem dX11_worth_16 : decode cX11_worth 16 = .ok (.iload_n 3, 1) := dok_at gdX11_worth_l0 10 rfl
theorem dX11_worth_17 : decode cX11_worth 17 = .ok (.iaload, 1) := dok_at gdX11_worth_l0 11 rfl
theorem dX11_worth_18 : decode cX11_worth 18 = .ok (.bipush 9, 2) := dok_at gdX11_worth_l0 12 rfl
theorem dX11_worth_20 : decode cX11_worth 20 = .ok (.if_icmp .ge 34, 3) := dok_at gdX11_worth_l0 13 rfl
theorem dX11_worth_23 : decode cX11_worth 23 = .ok (.aload_n 0, 1) := dok_at gdX11_worth_l0 14 rfl
theorem dX11_worth_24 : decode cX11_worth 24 = .ok (.getfield 41, 3) := dok_at gdX11_worth_l0 15 rfl
theorem dX11_worth_27 : decode cX11_worth 27 = .ok (.iload_n 2, 1) := dok_at gdX11_worth_l0 16 rfl
theorem dX11_worth_28 : decode cX11_worth 28 = .ok (.iload_n 1, 1) := dok_at gdX11_worth_l0 17 rfl
theorem dX11_worth_29 : decode cX11_worth 29 = .ok (.aload_n 0, 1) := dok_at gdX11_worth_l0 18 rfl
theorem dX11_worth_30 : decode cX11_worth 30 = .ok (.getfield 35, 3) := dok_at gdX11_worth_l0 19 rfl
theorem dX11_worth_33 : decode cX11_worth 33 = .ok (.iload_n 3, 1) := dok_at gdX11_worth_l0 20 rfl
theorem dX11_worth_34 : decode cX11_worth 34 = .ok (.iaload, 1) := dok_at gdX11_worth_l0 21 rfl
theorem dX11_worth_35 : decode cX11_worth 35 = .ok (.ishr, 1) := dok_at gdX11_worth_l0 22 rfl
theorem dX11_worth_36 : decode cX11_worth 36 = .ok (.iconst 1, 1) := dok_at gdX11_worth_l0 23 rfl
def dX11_worth_l37 : List (Nat × Instr × Nat) := [(37, .iand, 1), (38, .iconst 1, 1), (39, .if_icmp .ne 7, 3), (42, .iconst 1, 1), (43, .goto 4, 3), (46, .iconst 0, 1), (47, .bastore, 1), (48, .iinc 2 1, 3), (51, .goto 78, 3), (54, .iinc 2 (-1), 3), (57, .aload_n 0, 1), (58, .getfield 41, 3), (61, .iload_n 2, 1), (62, .iconst 1, 1), (63, .isub, 1), (64, .aload_n 0, 1), (65, .getfield 35, 3), (68, .iload_n 3, 1), (69, .iaload, 1), (70, .bipush 10, 2), (72, .if_icmp .ne 31, 3), (75, .aload_n 0, 1), (76, .getfield 41, 3), (79, .iload_n 2, 1)]
theorem gdX11_worth_l37 : dok cX11_worth dX11_worth_l37 = true := by decide +kernel
theorem dX11_worth_37 : decode cX11_worth 37 = .ok (.iand, 1) := dok_at gdX11_worth_l37 0 rfl
theorem dX11_worth_38 : decode cX11_worth 38 = .ok (.iconst 1, 1) := dok_at gdX11_worth_l37 1 rfl
theorem dX11_worth_39 : decode cX11_worth 39 = .ok (.if_icmp .ne 7, 3) := dok_at gdX11_worth_l37 2 rfl
theorem dX11_worth_42 : decode cX11_worth 42 = .ok (.iconst 1, 1) := dok_at gdX11_worth_l37 3 rfl
theorem dX11_worth_43 : decode cX11_worth 43 = .ok (.goto 4, 3) := dok_at gdX11_worth_l37 4 rfl
theorem dX11_worth_46 : decode cX11_worth 46 = .ok (.iconst 0, 1) := dok_at gdX11_worth_l37 5 rfl
theorem dX11_worth_47 : decode cX11_worth 47 = .ok (.bastore, 1) := dok_at gdX11_worth_l37 6 rfl
theorem dX11_worth_48 : decode cX11_worth 48 = .ok (.iinc 2 1, 3) := dok_at gdX11_worth_l37 7 rfl
theorem dX11_worth_51 : decode cX11_worth 51 = .ok (.goto 78, 3) := dok_at gdX11_worth_l37 8 rfl
theorem dX11_worth_54 : decode cX11_worth 54 = .ok (.iinc 2 (-1), 3) := dok_at gdX11_worth_l37 9 rfl
theorem dX11_worth_57 : decode cX11_worth 57 = .ok (.aload_n 0, 1) := dok_at gdX11_worth_l37 10 rfl
theorem dX11_worth_58 : decode cX11_worth 58 = .ok (.getfield 41, 3) := dok_at gdX11_worth_l37 11 rfl
theorem dX11_worth_61 : decode cX11_worth 61 = .ok (.iload_n 2, 1) := dok_at gdX11_worth_l37 12 rfl
theorem dX11_worth_62 : decode cX11_worth 62 = .ok (.iconst 1, 1) := dok_at gdX11_worth_l37 13 rfl
theorem dX11_worth_63 : decode cX11_worth 63 = .ok (.isub, 1) := dok_at gdX11_worth_l37 14 rfl
theorem dX11_worth_64 : decode cX11_worth 64 = .ok (.aload_n 0, 1) := dok_at gdX11_worth_l37 15 rfl
theorem dX11_worth_65 : decode cX11_worth 65 = .ok (.getfield 35, 3) := dok_at gdX11_worth_l37 16 rfl
theorem dX11_worth_68 : decode cX11_worth 68 = .ok (.iload_n 3, 1) := dok_at gdX11_worth_l37 17 rfl
theorem dX11_worth_69 : decode cX11_worth 69 = .ok (.iaload, 1) := dok_at gdX11_worth_l37 18 rfl
theorem dX11_worth_70 : decode cX11_worth 70 = .ok (.bipush 10, 2) := dok_at gdX11_worth_l37 19 rfl
theorem dX11_worth_72 : decode cX11_worth 72 = .ok (.if_icmp .ne 31, 3) := dok_at gdX11_worth_l37 20 rfl
theorem dX11_worth_75 : decode cX11_worth 75 = .ok (.aload_n 0, 1) := dok_at gdX11_worth_l37 21 rfl
theorem dX11_worth_76 : decode cX11_worth 76 = .ok (.getfield 41, 3) := dok_at gdX11_worth_l37 22 rfl
theorem dX11_worth_79 : decode cX11_worth 79 = .ok (.iload_n 2, 1) := dok_at gdX11_worth_l37 23 rfl
def dX11_worth_l80 : List (Nat × Instr × Nat) := [(80, .iconst 1, 1), (81, .isub, 1), (82, .baload, 1), (83, .ifCond .eq 16, 3), (86, .aload_n 0, 1), (87, .getfield 41, 3), (90, .iload_n 2, 1), (91, .baload, 1), (92, .ifCond .eq 7, 3), (95, .iconst 1, 1), (96, .goto 32, 3), (99, .iconst 0, 1), (100, .goto 28, 3), (103, .aload_n 0, 1), (104, .getfield 41, 3), (107, .iload_n 2, 1), (108, .iconst 1, 1), (109, .isub, 1), (110, .baload, 1), (111, .ifCond .ne 12, 3), (114, .aload_n 0, 1), (115, .getfield 41, 3), (118, .iload_n 2, 1), (119, .baload, 1)]
theorem gdX11_worth_l80 : dok cX11_worth dX11_worth_l80 = true := by decide +kernel
theorem dX11_worth_80 : decode cX11_worth 80 = .ok (.iconst 1, 1) := dok_at gdX11_worth_l80 0 rfl
theorem dX11_worth_81 : decode cX11_worth 81 = .ok (.isub, 1) := dok_at gdX11_worth_l80 1 rfl
theorem dX11_worth_82 : decode cX11_worth 82 = .ok (.baload, 1) := dok_at gdX11_worth_l80 2 rfl
theorem dX11_worth_83 : decode cX11_worth 83 = .ok (.ifCond .eq 16, 3) := dok_at gdX11_worth_l80 3 rfl
theorem dX11_worth_86 : decode cX11_worth 86 = .ok (.aload_n 0, 1) := dok_at gdX11_worth_l80 4 rfl
theorem dX11_worth_87 : decode cX11_worth 87 = .ok (.getfield 41, 3) := dok_at gdX11_worth_l80 5 rfl
theorem dX11_worth_90 : decode cX11_worth 90 = .ok (.iload_n 2, 1) := dok_at gdX11_worth_l80 6 rfl
theorem dX11_worth_91 : decode cX11_worth 91 = .ok (.baload, 1) := dok_at gdX11_worth_l80 7 rfl
theorem dX11_worth_92 : decode cX11_worth 92 = .ok (.ifCond .eq 7, 3) := dok_at gdX11_worth_l80 8 rfl
theorem dX11_worth_95 : decode cX11_worth 95 = .ok (.iconst 1, 1) := dok_at gdX11_worth_l80 9 rfl
theorem dX11_worth_96 : decode cX11_worth 96 = .ok (.goto 32, 3) := dok_at gdX11_worth_l80 10 rfl
theorem dX11_worth_99 : decode cX11_worth 99 = .ok (.iconst 0, 1) := dok_at gdX11_worth_l80 11 rfl
theorem dX11_worth_100 : decode cX11_worth 100 = .ok (.goto 28, 3) := dok_at gdX11_worth_l80 12 rfl
theorem dX11_worth_103 : decode cX11_worth 103 = .ok (.aload_n 0, 1) := dok_at gdX11_worth_l80 13 rfl
theorem dX11_worth_104 : decode cX11_worth 104 = .ok (.getfield 41, 3) := dok_at gdX11_worth_l80 14 rfl
theorem dX11_worth_107 : decode cX11_worth 107 = .ok (.iload_n 2, 1) := dok_at gdX11_worth_l80 15 rfl
theorem dX11_worth_108 : decode cX11_worth 108 = .ok (.iconst 1, 1) := dok_at gdX11_worth_l80 16 rfl
theorem dX11_worth_109 : decode cX11_worth 109 = .ok (.isub, 1) := dok_at gdX11_worth_l80 17 rfl
theorem dX11_worth_110 : decode cX11_worth 110 = .ok (.baload, 1) := dok_at gdX11_worth_l80 18 rfl
theorem dX11_worth_111 : decode cX11_worth 111 = .ok (.ifCond .ne 12, 3) := dok_at gdX11_worth_l80 19 rfl
theorem dX11_worth_114 : decode cX11_worth 114 = .ok (.aload_n 0, 1) := dok_at gdX11_worth_l80 20 rfl
theorem dX11_worth_115 : decode cX11_worth 115 = .ok (.getfield 41, 3) := dok_at gdX11_worth_l80 21 rfl
theorem dX11_worth_118 : decode cX11_worth 118 = .ok (.iload_n 2, 1) := dok_at gdX11_worth_l80 22 rfl
theorem dX11_worth_119 : decode cX11_worth 119 = .ok (.baload, 1) := dok_at gdX11_worth_l80 23 rfl
def dX11_worth_l120 : List (Nat × Instr × Nat) := [(120, .ifCond .eq 7, 3), (123, .iconst 1, 1), (124, .goto 4, 3), (127, .iconst 0, 1), (128, .bastore, 1), (129, .iinc 3 1, 3), (132, .goto (-128), 3), (135, .aload_n 0, 1), (136, .getfield 41, 3), (139, .iconst 0, 1), (140, .baload, 1), (141, .ireturn, 1)]
theorem gdX11_worth_l120 : dok cX11_worth dX11_worth_l120 = true := by decide +kernel
theorem dX11_worth_120 : decode cX11_worth 120 = .ok (.ifCond .eq 7, 3) := dok_at gdX11_worth_l120 0 rfl
theorem dX11_worth_123 : decode cX11_worth 123 = .ok (.iconst 1, 1) := dok_at gdX11_worth_l120 1 rfl
theorem dX11_worth_124 : decode cX11_worth 124 = .ok (.goto 4, 3) := dok_at gdX11_worth_l120 2 rfl
theorem dX11_worth_127 : decode cX11_worth 127 = .ok (.iconst 0, 1) := dok_at gdX11_worth_l120 3 rfl
theorem dX11_worth_128 : decode cX11_worth 128 = .ok (.bastore, 1) := dok_at gdX11_worth_l120 4 rfl
theorem dX11_worth_129 : decode cX11_worth 129 = .ok (.iinc 3 1, 3) := dok_at gdX11_worth_l120 5 rfl
theorem dX11_worth_132 : decode cX11_worth 132 = .ok (.goto (-128), 3) := dok_at gdX11_worth_l120 6 rfl
theorem dX11_worth_135 : decode cX11_worth 135 = .ok (.aload_n 0, 1) := dok_at gdX11_worth_l120 7 rfl
theorem dX11_worth_136 : decode cX11_worth 136 = .ok (.getfield 41, 3) := dok_at gdX11_worth_l120 8 rfl
theorem dX11_worth_139 : decode cX11_worth 139 = .ok (.iconst 0, 1) := dok_at gdX11_worth_l120 9 rfl
theorem dX11_worth_140 : decode cX11_worth 140 = .ok (.baload, 1) := dok_at gdX11_worth_l120 10 rfl
theorem dX11_worth_141 : decode cX11_worth 141 = .ok (.ireturn, 1) := dok_at gdX11_worth_l120 11 rfl
def dX11_readWith_l0 : List (Nat × Instr × Nat) := [(0, .bipush 7, 2), (2, .aload_n 0, 1), (3, .getfield 98, 3), (6, .imul, 1), (7, .istore_n 2, 1), (8, .aload_n 0, 1), (9, .invokevirtual 185, 3), (12, .iload_n 1, 1), (13, .bipush 23, 2), (15, .if_icmp .ne 21, 3), (18, .aload_n 0, 1), (19, .getfield 20, 3), (22, .iload_n 2, 1), (23, .iconst 2, 1), (24, .iadd, 1), (25, .aload_n 0, 1), (26, .iconst 0, 1), (27, .bipush 9, 2), (29, .invokevirtual 218, 3), (32, .iastore, 1), (33, .goto 82, 3), (36, .iload_n 1, 1), (37, .bipush 24, 2), (39, .if_icmp .ne 36, 3)]
theorem gdX11_readWith_l0 : dok cX11_readWith dX11_readWith_l0 = true := by decide +kernel
theorem dX11_readWith_0 : decode cX11_readWith 0 = .ok (.bipush 7, 2) := dok_at gdX11_readWith_l0 0 rfl
theorem dX11_readWith_2 : decode cX11_readWith 2 = .ok (.aload_n 0, 1) := dok_at gdX11_readWith_l0 1 rfl
theorem dX11_readWith_3 : decode cX11_readWith 3 = .ok (.getfield 98, 3) := dok_at gdX11_readWith_l0 2 rfl
theorem dX11_readWith_6 : decode cX11_readWith 6 = .ok (.imul, 1) := dok_at gdX11_readWith_l0 3 rfl
theorem dX11_readWith_7 : decode cX11_readWith 7 = .ok (.istore_n 2, 1) := dok_at gdX11_readWith_l0 4 rfl
theorem dX11_readWith_8 : decode cX11_readWith 8 = .ok (.aload_n 0, 1) := dok_at gdX11_readWith_l0 5 rfl
theorem dX11_readWith_9 : decode cX11_readWith 9 = .ok (.invokevirtual 185, 3) := dok_at gdX11_readWith_l0 6 rfl
theorem dX11_readWith_12 : decode cX11_readWith 12 = .ok (.iload_n 1, 1) := dok_at gdX11_readWith_l0 7 rfl
theorem dX11_readWith_13 : decode cX11_readWith 13 = .ok (.bipush 23, 2) := dok_at gdX11_readWith_l0 8 rfl
theorem dX11_readWith_15 : decode cX11_readWith 15 = .ok (.if_icmp .ne 21, 3) := dok_at gdX11_readWith_l0 9 rfl
theorem dX11_readWith_18 : decode cX11_readWith 18 = .ok (.aload_n 0, 1) := dok_at gdX11_readWith_l0 10 rfl
theorem dX11_readWith_19 : decode cX11_readWith 19 = .ok (.getfield 20, 3) := dok_at gdX11_readWith_l0 11 rfl
theorem dX11_readWith_22 : decode cX11_readWith 22 = .ok (.iload_n 2, 1) := dok_at gdX11_readWith_l0 12 rfl
theorem dX11_readWith_23 : decode cX11_readWith 23 = .ok (.iconst 2, 1) := dok_at gdX11_readWith_l0 13 rfl
theorem dX11_readWith_24 : decode cX11_readWith 24 = .ok (.iadd, 1) := dok_at gdX11_readWith_l0 14 rfl
theorem dX11_readWith_25 : decode cX11_readWith 25 = .ok (.aload_n 0, 1) := dok_at gdX11_readWith_l0 15 rfl
theorem dX11_readWith_26 : decode cX11_readWith 26 = .ok (.iconst 0, 1) := dok_at gdX11_readWith_l0 16 rfl
theorem dX11_readWith_27 : decode cX11_readWith 27 = .ok (.bipush 9, 2) := dok_at gdX11_readWith_l0 17 rfl
theorem dX11_readWith_29 : decode cX11_readWith 29 = .ok (.invokevirtual 218, 3) := dok_at gdX11_readWith_l0 18 rfl
theorem dX11_readWith_32 : decode cX11_readWith 32 = .ok (.iastore, 1) := dok_at gdX11_readWith_l0 19 rfl
theorem dX11_readWith_33 : decode cX11_readWith 33 = .ok (.goto 82, 3) := dok_at gdX11_readWith_l0 20 rfl
theorem dX11_readWith_36 : decode cX11_readWith 36 = .ok (.iload_n 1, 1) := dok_at gdX11_readWith_l0 21 rfl
theorem dX11_readWith_37 : decode cX11_readWith 37 = .ok (.bipush 24, 2) := dok_at gdX11_readWith_l0 22 rfl
theorem dX11_readWith_39 : decode cX11_readWith 39 = .ok (.if_icmp .ne 36, 3) := dok_at gdX11_readWith_l0 23 rfl
def dX11_readWith_l42 : List (Nat × Instr × Nat) := [(42, .aload_n 0, 1), (43, .getfield 20, 3), (46, .iload_n 2, 1), (47, .iconst 3, 1), (48, .iadd, 1), (49, .aload_n 0, 1), (50, .iconst 0, 1), (51, .bipush 99, 2), (53, .invokevirtual 218, 3), (56, .iastore, 1), (57, .aload_n 0, 1), (58, .getfield 20, 3), (61, .iload_n 2, 1), (62, .iconst 4, 1), (63, .iadd, 1), (64, .aload_n 0, 1), (65, .iconst 0, 1), (66, .bipush 99, 2), (68, .invokevirtual 218, 3), (71, .iastore, 1), (72, .goto 43, 3), (75, .iload_n 1, 1), (76, .bipush 25, 2), (78, .if_icmp .ne 21, 3)]
theorem gdX11_readWith_l42 : dok cX11_readWith dX11_readWith_l42 = true := by decide +kernel
theorem dX11_readWith_42 : decode cX11_readWith 42 = .ok (.aload_n 0, 1) := dok_at gdX11_readWith_l42 0 rfl
theorem dX11_readWith_43 : decode cX11_readWith 43 = .ok (.getfield 20, 3) := dok_at gdX11_readWith_l42 1 rfl
theorem dX11_readWith_46 : decode cX11_readWith 46 = .ok (.iload_n 2, 1) := dok_at gdX11_readWith_l42 2 rfl
theorem dX11_readWith_47 : decode cX11_readWith 47 = .ok (.iconst 3, 1) := dok_at gdX11_readWith_l42 3 rfl
theorem dX11_readWith_48 : decode cX11_readWith 48 = .ok (.iadd, 1) := dok_at gdX11_readWith_l42 4 rfl
theorem dX11_readWith_49 : decode cX11_readWith 49 = .ok (.aload_n 0, 1) := dok_at gdX11_readWith_l42 5 rfl
theorem dX11_readWith_50 : decode cX11_readWith 50 = .ok (.iconst 0, 1) := dok_at gdX11_readWith_l42 6 rfl
theorem dX11_readWith_51 : decode cX11_readWith 51 = .ok (.bipush 99, 2) := dok_at gdX11_readWith_l42 7 rfl
theorem dX11_readWith_53 : decode cX11_readWith 53 = .ok (.invokevirtual 218, 3) := dok_at gdX11_readWith_l42 8 rfl
theorem dX11_readWith_56 : decode cX11_readWith 56 = .ok (.iastore, 1) := dok_at gdX11_readWith_l42 9 rfl
theorem dX11_readWith_57 : decode cX11_readWith 57 = .ok (.aload_n 0, 1) := dok_at gdX11_readWith_l42 10 rfl
theorem dX11_readWith_58 : decode cX11_readWith 58 = .ok (.getfield 20, 3) := dok_at gdX11_readWith_l42 11 rfl
theorem dX11_readWith_61 : decode cX11_readWith 61 = .ok (.iload_n 2, 1) := dok_at gdX11_readWith_l42 12 rfl
theorem dX11_readWith_62 : decode cX11_readWith 62 = .ok (.iconst 4, 1) := dok_at gdX11_readWith_l42 13 rfl
theorem dX11_readWith_63 : decode cX11_readWith 63 = .ok (.iadd, 1) := dok_at gdX11_readWith_l42 14 rfl
theorem dX11_readWith_64 : decode cX11_readWith 64 = .ok (.aload_n 0, 1) := dok_at gdX11_readWith_l42 15 rfl
theorem dX11_readWith_65 : decode cX11_readWith 65 = .ok (.iconst 0, 1) := dok_at gdX11_readWith_l42 16 rfl
theorem dX11_readWith_66 : decode cX11_readWith 66 = .ok (.bipush 99, 2) := dok_at gdX11_readWith_l42 17 rfl
theorem dX11_readWith_68 : decode cX11_readWith 68 = .ok (.invokevirtual 218, 3) := dok_at gdX11_readWith_l42 18 rfl
theorem dX11_readWith_71 : decode cX11_readWith 71 = .ok (.iastore, 1) := dok_at gdX11_readWith_l42 19 rfl
theorem dX11_readWith_72 : decode cX11_readWith 72 = .ok (.goto 43, 3) := dok_at gdX11_readWith_l42 20 rfl
theorem dX11_readWith_75 : decode cX11_readWith 75 = .ok (.iload_n 1, 1) := dok_at gdX11_readWith_l42 21 rfl
theorem dX11_readWith_76 : decode cX11_readWith 76 = .ok (.bipush 25, 2) := dok_at gdX11_readWith_l42 22 rfl
theorem dX11_readWith_78 : decode cX11_readWith 78 = .ok (.if_icmp .ne 21, 3) := dok_at gdX11_readWith_l42 23 rfl
def dX11_readWith_l81 : List (Nat × Instr × Nat) := [(81, .aload_n 0, 1), (82, .getfield 20, 3), (85, .iload_n 2, 1), (86, .iconst 5, 1), (87, .iadd, 1), (88, .aload_n 0, 1), (89, .iconst 0, 1), (90, .bipush 9, 2), (92, .invokevirtual 218, 3), (95, .iastore, 1), (96, .goto 19, 3), (99, .aload_n 0, 1), (100, .getfield 20, 3), (103, .iload_n 2, 1), (104, .bipush 6, 2), (106, .iadd, 1), (107, .aload_n 0, 1), (108, .iconst 1, 1), (109, .bipush 99, 2), (111, .invokevirtual 218, 3), (114, .iastore, 1), (115, .return_, 1)]
theorem gdX11_readWith_l81 : dok cX11_readWith dX11_readWith_l81 = true := by decide +kernel
theorem dX11_readWith_81 : decode cX11_readWith 81 = .ok (.aload_n 0, 1) := dok_at gdX11_readWith_l81 0 rfl
theorem dX11_readWith_82 : decode cX11_readWith 82 = .ok (.getfield 20, 3) := dok_at gdX11_readWith_l81 1 rfl
theorem dX11_readWith_85 : decode cX11_readWith 85 = .ok (.iload_n 2, 1) := dok_at gdX11_readWith_l81 2 rfl
theorem dX11_readWith_86 : decode cX11_readWith 86 = .ok (.iconst 5, 1) := dok_at gdX11_readWith_l81 3 rfl
theorem dX11_readWith_87 : decode cX11_readWith 87 = .ok (.iadd, 1) := dok_at gdX11_readWith_l81 4 rfl
theorem dX11_readWith_88 : decode cX11_readWith 88 = .ok (.aload_n 0, 1) := dok_at gdX11_readWith_l81 5 rfl
theorem dX11_readWith_89 : decode cX11_readWith 89 = .ok (.iconst 0, 1) := dok_at gdX11_readWith_l81 6 rfl
theorem dX11_readWith_90 : decode cX11_readWith 90 = .ok (.bipush 9, 2) := dok_at gdX11_readWith_l81 7 rfl
theorem dX11_readWith_92 : decode cX11_readWith 92 = .ok (.invokevirtual 218, 3) := dok_at gdX11_readWith_l81 8 rfl
theorem dX11_readWith_95 : decode cX11_readWith 95 = .ok (.iastore, 1) := dok_at gdX11_readWith_l81 9 rfl
theorem dX11_readWith_96 : decode cX11_readWith 96 = .ok (.goto 19, 3) := dok_at gdX11_readWith_l81 10 rfl
theorem dX11_readWith_99 : decode cX11_readWith 99 = .ok (.aload_n 0, 1) := dok_at gdX11_readWith_l81 11 rfl
theorem dX11_readWith_100 : decode cX11_readWith 100 = .ok (.getfield 20, 3) := dok_at gdX11_readWith_l81 12 rfl
theorem dX11_readWith_103 : decode cX11_readWith 103 = .ok (.iload_n 2, 1) := dok_at gdX11_readWith_l81 13 rfl
theorem dX11_readWith_104 : decode cX11_readWith 104 = .ok (.bipush 6, 2) := dok_at gdX11_readWith_l81 14 rfl
theorem dX11_readWith_106 : decode cX11_readWith 106 = .ok (.iadd, 1) := dok_at gdX11_readWith_l81 15 rfl
theorem dX11_readWith_107 : decode cX11_readWith 107 = .ok (.aload_n 0, 1) := dok_at gdX11_readWith_l81 16 rfl
theorem dX11_readWith_108 : decode cX11_readWith 108 = .ok (.iconst 1, 1) := dok_at gdX11_readWith_l81 17 rfl
theorem dX11_readWith_109 : decode cX11_readWith 109 = .ok (.bipush 99, 2) := dok_at gdX11_readWith_l81 18 rfl
theorem dX11_readWith_111 : decode cX11_readWith 111 = .ok (.invokevirtual 218, 3) := dok_at gdX11_readWith_l81 19 rfl
theorem dX11_readWith_114 : decode cX11_readWith 114 = .ok (.iastore, 1) := dok_at gdX11_readWith_l81 20 rfl
theorem dX11_readWith_115 : decode cX11_readWith 115 = .ok (.return_, 1) := dok_at gdX11_readWith_l81 21 rfl
def dX11_readRail_l0 : List (Nat × Instr × Nat) := [(0, .aload_n 0, 1), (1, .aload_n 0, 1), (2, .getfield 98, 3), (5, .bipush 8, 2), (7, .if_icmp .ge 7, 3), (10, .iconst 1, 1), (11, .goto 4, 3), (14, .iconst 0, 1), (15, .iconst 5, 1), (16, .invokevirtual 181, 3), (19, .aload_n 0, 1), (20, .invokevirtual 185, 3), (23, .aload_n 0, 1), (24, .getfield 145, 3), (27, .ifCond .ne 21, 3), (30, .aload_n 0, 1), (31, .aload_n 0, 1), (32, .getfield 167, 3), (35, .iconst 1, 1), (36, .if_icmp .ne 7, 3), (39, .iconst 1, 1), (40, .goto 4, 3), (43, .iconst 0, 1), (44, .iconst 2, 1)]
theorem gdX11_readRail_l0 : dok cX11_readRail dX11_readRail_l0 = true := by decide +kernel
theorem dX11_readRail_0 : decode cX11_readRail 0 = .ok (.aload_n 0, 1) := dok_at gdX11_readRail_l0 0 rfl
theorem dX11_readRail_1 : decode cX11_readRail 1 = .ok (.aload_n 0, 1) := dok_at gdX11_readRail_l0 1 rfl
theorem dX11_readRail_2 : decode cX11_readRail 2 = .ok (.getfield 98, 3) := dok_at gdX11_readRail_l0 2 rfl
theorem dX11_readRail_5 : decode cX11_readRail 5 = .ok (.bipush 8, 2) := dok_at gdX11_readRail_l0 3 rfl
theorem dX11_readRail_7 : decode cX11_readRail 7 = .ok (.if_icmp .ge 7, 3) := dok_at gdX11_readRail_l0 4 rfl
theorem dX11_readRail_10 : decode cX11_readRail 10 = .ok (.iconst 1, 1) := dok_at gdX11_readRail_l0 5 rfl
theorem dX11_readRail_11 : decode cX11_readRail 11 = .ok (.goto 4, 3) := dok_at gdX11_readRail_l0 6 rfl
theorem dX11_readRail_14 : decode cX11_readRail 14 = .ok (.iconst 0, 1) := dok_at gdX11_readRail_l0 7 rfl
theorem dX11_readRail_15 : decode cX11_readRail 15 = .ok (.iconst 5, 1) := dok_at gdX11_readRail_l0 8 rfl
theorem dX11_readRail_16 : decode cX11_readRail 16 = .ok (.invokevirtual 181, 3) := dok_at gdX11_readRail_l0 9 rfl
theorem dX11_readRail_19 : decode cX11_readRail 19 = .ok (.aload_n 0, 1) := dok_at gdX11_readRail_l0 10 rfl
theorem dX11_readRail_20 : decode cX11_readRail 20 = .ok (.invokevirtual 185, 3) := dok_at gdX11_readRail_l0 11 rfl
theorem dX11_readRail_23 : decode cX11_readRail 23 = .ok (.aload_n 0, 1) := dok_at gdX11_readRail_l0 12 rfl
theorem dX11_readRail_24 : decode cX11_readRail 24 = .ok (.getfield 145, 3) := dok_at gdX11_readRail_l0 13 rfl
theorem dX11_readRail_27 : decode cX11_readRail 27 = .ok (.ifCond .ne 21, 3) := dok_at gdX11_readRail_l0 14 rfl
theorem dX11_readRail_30 : decode cX11_readRail 30 = .ok (.aload_n 0, 1) := dok_at gdX11_readRail_l0 15 rfl
theorem dX11_readRail_31 : decode cX11_readRail 31 = .ok (.aload_n 0, 1) := dok_at gdX11_readRail_l0 16 rfl
theorem dX11_readRail_32 : decode cX11_readRail 32 = .ok (.getfield 167, 3) := dok_at gdX11_readRail_l0 17 rfl
theorem dX11_readRail_35 : decode cX11_readRail 35 = .ok (.iconst 1, 1) := dok_at gdX11_readRail_l0 18 rfl
theorem dX11_readRail_36 : decode cX11_readRail 36 = .ok (.if_icmp .ne 7, 3) := dok_at gdX11_readRail_l0 19 rfl
theorem dX11_readRail_39 : decode cX11_readRail 39 = .ok (.iconst 1, 1) := dok_at gdX11_readRail_l0 20 rfl
theorem dX11_readRail_40 : decode cX11_readRail 40 = .ok (.goto 4, 3) := dok_at gdX11_readRail_l0 21 rfl
theorem dX11_readRail_43 : decode cX11_readRail 43 = .ok (.iconst 0, 1) := dok_at gdX11_readRail_l0 22 rfl
theorem dX11_readRail_44 : decode cX11_readRail 44 = .ok (.iconst 2, 1) := dok_at gdX11_readRail_l0 23 rfl
def dX11_readRail_l45 : List (Nat × Instr × Nat) := [(45, .invokevirtual 181, 3), (48, .aload_n 0, 1), (49, .getfield 145, 3), (52, .ifCond .ne 24, 3), (55, .aload_n 0, 1), (56, .aload_n 0, 1), (57, .invokevirtual 188, 3), (60, .aload_n 0, 1), (61, .getfield 98, 3), (64, .if_icmp .ne 7, 3), (67, .iconst 1, 1), (68, .goto 4, 3), (71, .iconst 0, 1), (72, .iconst 3, 1), (73, .invokevirtual 181, 3), (76, .aload_n 0, 1), (77, .invokevirtual 185, 3), (80, .aload_n 0, 1), (81, .iconst 1, 1), (82, .bipush 9, 2), (84, .invokevirtual 218, 3), (87, .istore_n 1, 1), (88, .aload_n 0, 1), (89, .iload_n 1, 1)]
theorem gdX11_readRail_l45 : dok cX11_readRail dX11_readRail_l45 = true := by decide +kernel
theorem dX11_readRail_45 : decode cX11_readRail 45 = .ok (.invokevirtual 181, 3) := dok_at gdX11_readRail_l45 0 rfl
theorem dX11_readRail_48 : decode cX11_readRail 48 = .ok (.aload_n 0, 1) := dok_at gdX11_readRail_l45 1 rfl
theorem dX11_readRail_49 : decode cX11_readRail 49 = .ok (.getfield 145, 3) := dok_at gdX11_readRail_l45 2 rfl
theorem dX11_readRail_52 : decode cX11_readRail 52 = .ok (.ifCond .ne 24, 3) := dok_at gdX11_readRail_l45 3 rfl
theorem dX11_readRail_55 : decode cX11_readRail 55 = .ok (.aload_n 0, 1) := dok_at gdX11_readRail_l45 4 rfl
theorem dX11_readRail_56 : decode cX11_readRail 56 = .ok (.aload_n 0, 1) := dok_at gdX11_readRail_l45 5 rfl
theorem dX11_readRail_57 : decode cX11_readRail 57 = .ok (.invokevirtual 188, 3) := dok_at gdX11_readRail_l45 6 rfl
theorem dX11_readRail_60 : decode cX11_readRail 60 = .ok (.aload_n 0, 1) := dok_at gdX11_readRail_l45 7 rfl
theorem dX11_readRail_61 : decode cX11_readRail 61 = .ok (.getfield 98, 3) := dok_at gdX11_readRail_l45 8 rfl
theorem dX11_readRail_64 : decode cX11_readRail 64 = .ok (.if_icmp .ne 7, 3) := dok_at gdX11_readRail_l45 9 rfl
theorem dX11_readRail_67 : decode cX11_readRail 67 = .ok (.iconst 1, 1) := dok_at gdX11_readRail_l45 10 rfl
theorem dX11_readRail_68 : decode cX11_readRail 68 = .ok (.goto 4, 3) := dok_at gdX11_readRail_l45 11 rfl
theorem dX11_readRail_71 : decode cX11_readRail 71 = .ok (.iconst 0, 1) := dok_at gdX11_readRail_l45 12 rfl
theorem dX11_readRail_72 : decode cX11_readRail 72 = .ok (.iconst 3, 1) := dok_at gdX11_readRail_l45 13 rfl
theorem dX11_readRail_73 : decode cX11_readRail 73 = .ok (.invokevirtual 181, 3) := dok_at gdX11_readRail_l45 14 rfl
theorem dX11_readRail_76 : decode cX11_readRail 76 = .ok (.aload_n 0, 1) := dok_at gdX11_readRail_l45 15 rfl
theorem dX11_readRail_77 : decode cX11_readRail 77 = .ok (.invokevirtual 185, 3) := dok_at gdX11_readRail_l45 16 rfl
theorem dX11_readRail_80 : decode cX11_readRail 80 = .ok (.aload_n 0, 1) := dok_at gdX11_readRail_l45 17 rfl
theorem dX11_readRail_81 : decode cX11_readRail 81 = .ok (.iconst 1, 1) := dok_at gdX11_readRail_l45 18 rfl
theorem dX11_readRail_82 : decode cX11_readRail 82 = .ok (.bipush 9, 2) := dok_at gdX11_readRail_l45 19 rfl
theorem dX11_readRail_84 : decode cX11_readRail 84 = .ok (.invokevirtual 218, 3) := dok_at gdX11_readRail_l45 20 rfl
theorem dX11_readRail_87 : decode cX11_readRail 87 = .ok (.istore_n 1, 1) := dok_at gdX11_readRail_l45 21 rfl
theorem dX11_readRail_88 : decode cX11_readRail 88 = .ok (.aload_n 0, 1) := dok_at gdX11_readRail_l45 22 rfl
theorem dX11_readRail_89 : decode cX11_readRail 89 = .ok (.iload_n 1, 1) := dok_at gdX11_readRail_l45 23 rfl
def dX11_readRail_l90 : List (Nat × Instr × Nat) := [(90, .bipush 9, 2), (92, .invokevirtual 218, 3), (95, .istore_n 2, 1), (96, .aload_n 0, 1), (97, .getfield 145, 3), (100, .ifCond .le 4, 3), (103, .return_, 1), (104, .iconst 0, 1), (105, .istore_n 3, 1), (106, .iload_n 3, 1), (107, .bipush 7, 2), (109, .if_icmp .ge 64, 3), (112, .aload_n 0, 1), (113, .getfield 20, 3), (116, .bipush 7, 2), (118, .aload_n 0, 1), (119, .getfield 98, 3), (122, .imul, 1), (123, .iload_n 3, 1), (124, .iadd, 1), (125, .iload_n 3, 1), (126, .ifCond .ne 7, 3), (129, .iload_n 1, 1), (130, .goto 36, 3)]
theorem gdX11_readRail_l90 : dok cX11_readRail dX11_readRail_l90 = true := by decide +kernel
theorem dX11_readRail_90 : decode cX11_readRail 90 = .ok (.bipush 9, 2) := dok_at gdX11_readRail_l90 0 rfl
theorem dX11_readRail_92 : decode cX11_readRail 92 = .ok (.invokevirtual 218, 3) := dok_at gdX11_readRail_l90 1 rfl
theorem dX11_readRail_95 : decode cX11_readRail 95 = .ok (.istore_n 2, 1) := dok_at gdX11_readRail_l90 2 rfl
theorem dX11_readRail_96 : decode cX11_readRail 96 = .ok (.aload_n 0, 1) := dok_at gdX11_readRail_l90 3 rfl
theorem dX11_readRail_97 : decode cX11_readRail 97 = .ok (.getfield 145, 3) := dok_at gdX11_readRail_l90 4 rfl
theorem dX11_readRail_100 : decode cX11_readRail 100 = .ok (.ifCond .le 4, 3) := dok_at gdX11_readRail_l90 5 rfl
theorem dX11_readRail_103 : decode cX11_readRail 103 = .ok (.return_, 1) := dok_at gdX11_readRail_l90 6 rfl
theorem dX11_readRail_104 : decode cX11_readRail 104 = .ok (.iconst 0, 1) := dok_at gdX11_readRail_l90 7 rfl
theorem dX11_readRail_105 : decode cX11_readRail 105 = .ok (.istore_n 3, 1) := dok_at gdX11_readRail_l90 8 rfl
theorem dX11_readRail_106 : decode cX11_readRail 106 = .ok (.iload_n 3, 1) := dok_at gdX11_readRail_l90 9 rfl
theorem dX11_readRail_107 : decode cX11_readRail 107 = .ok (.bipush 7, 2) := dok_at gdX11_readRail_l90 10 rfl
theorem dX11_readRail_109 : decode cX11_readRail 109 = .ok (.if_icmp .ge 64, 3) := dok_at gdX11_readRail_l90 11 rfl
theorem dX11_readRail_112 : decode cX11_readRail 112 = .ok (.aload_n 0, 1) := dok_at gdX11_readRail_l90 12 rfl
theorem dX11_readRail_113 : decode cX11_readRail 113 = .ok (.getfield 20, 3) := dok_at gdX11_readRail_l90 13 rfl
theorem dX11_readRail_116 : decode cX11_readRail 116 = .ok (.bipush 7, 2) := dok_at gdX11_readRail_l90 14 rfl
theorem dX11_readRail_118 : decode cX11_readRail 118 = .ok (.aload_n 0, 1) := dok_at gdX11_readRail_l90 15 rfl
theorem dX11_readRail_119 : decode cX11_readRail 119 = .ok (.getfield 98, 3) := dok_at gdX11_readRail_l90 16 rfl
theorem dX11_readRail_122 : decode cX11_readRail 122 = .ok (.imul, 1) := dok_at gdX11_readRail_l90 17 rfl
theorem dX11_readRail_123 : decode cX11_readRail 123 = .ok (.iload_n 3, 1) := dok_at gdX11_readRail_l90 18 rfl
theorem dX11_readRail_124 : decode cX11_readRail 124 = .ok (.iadd, 1) := dok_at gdX11_readRail_l90 19 rfl
theorem dX11_readRail_125 : decode cX11_readRail 125 = .ok (.iload_n 3, 1) := dok_at gdX11_readRail_l90 20 rfl
theorem dX11_readRail_126 : decode cX11_readRail 126 = .ok (.ifCond .ne 7, 3) := dok_at gdX11_readRail_l90 21 rfl
theorem dX11_readRail_129 : decode cX11_readRail 129 = .ok (.iload_n 1, 1) := dok_at gdX11_readRail_l90 22 rfl
theorem dX11_readRail_130 : decode cX11_readRail 130 = .ok (.goto 36, 3) := dok_at gdX11_readRail_l90 23 rfl
def dX11_readRail_l133 : List (Nat × Instr × Nat) := [(133, .iload_n 3, 1), (134, .iconst 1, 1), (135, .if_icmp .ne 7, 3), (138, .iload_n 2, 1), (139, .goto 27, 3), (142, .iload_n 3, 1), (143, .iconst 2, 1), (144, .if_icmp .eq 8, 3), (147, .iload_n 3, 1), (148, .iconst 3, 1), (149, .if_icmp .ne 7, 3), (152, .iconst 1, 1), (153, .goto 13, 3), (156, .iload_n 3, 1), (157, .iconst 4, 1), (158, .if_icmp .ne 7, 3), (161, .iconst 2, 1), (162, .goto 4, 3), (165, .iconst 0, 1), (166, .iastore, 1), (167, .iinc 3 1, 3), (170, .goto (-64), 3), (173, .iconst 0, 1), (174, .istore_n 3, 1)]
theorem gdX11_readRail_l133 : dok cX11_readRail dX11_readRail_l133 = true := by decide +kernel
theorem dX11_readRail_133 : decode cX11_readRail 133 = .ok (.iload_n 3, 1) := dok_at gdX11_readRail_l133 0 rfl
theorem dX11_readRail_134 : decode cX11_readRail 134 = .ok (.iconst 1, 1) := dok_at gdX11_readRail_l133 1 rfl
theorem dX11_readRail_135 : decode cX11_readRail 135 = .ok (.if_icmp .ne 7, 3) := dok_at gdX11_readRail_l133 2 rfl
theorem dX11_readRail_138 : decode cX11_readRail 138 = .ok (.iload_n 2, 1) := dok_at gdX11_readRail_l133 3 rfl
theorem dX11_readRail_139 : decode cX11_readRail 139 = .ok (.goto 27, 3) := dok_at gdX11_readRail_l133 4 rfl
theorem dX11_readRail_142 : decode cX11_readRail 142 = .ok (.iload_n 3, 1) := dok_at gdX11_readRail_l133 5 rfl
theorem dX11_readRail_143 : decode cX11_readRail 143 = .ok (.iconst 2, 1) := dok_at gdX11_readRail_l133 6 rfl
theorem dX11_readRail_144 : decode cX11_readRail 144 = .ok (.if_icmp .eq 8, 3) := dok_at gdX11_readRail_l133 7 rfl
theorem dX11_readRail_147 : decode cX11_readRail 147 = .ok (.iload_n 3, 1) := dok_at gdX11_readRail_l133 8 rfl
theorem dX11_readRail_148 : decode cX11_readRail 148 = .ok (.iconst 3, 1) := dok_at gdX11_readRail_l133 9 rfl
theorem dX11_readRail_149 : decode cX11_readRail 149 = .ok (.if_icmp .ne 7, 3) := dok_at gdX11_readRail_l133 10 rfl
theorem dX11_readRail_152 : decode cX11_readRail 152 = .ok (.iconst 1, 1) := dok_at gdX11_readRail_l133 11 rfl
theorem dX11_readRail_153 : decode cX11_readRail 153 = .ok (.goto 13, 3) := dok_at gdX11_readRail_l133 12 rfl
theorem dX11_readRail_156 : decode cX11_readRail 156 = .ok (.iload_n 3, 1) := dok_at gdX11_readRail_l133 13 rfl
theorem dX11_readRail_157 : decode cX11_readRail 157 = .ok (.iconst 4, 1) := dok_at gdX11_readRail_l133 14 rfl
theorem dX11_readRail_158 : decode cX11_readRail 158 = .ok (.if_icmp .ne 7, 3) := dok_at gdX11_readRail_l133 15 rfl
theorem dX11_readRail_161 : decode cX11_readRail 161 = .ok (.iconst 2, 1) := dok_at gdX11_readRail_l133 16 rfl
theorem dX11_readRail_162 : decode cX11_readRail 162 = .ok (.goto 4, 3) := dok_at gdX11_readRail_l133 17 rfl
theorem dX11_readRail_165 : decode cX11_readRail 165 = .ok (.iconst 0, 1) := dok_at gdX11_readRail_l133 18 rfl
theorem dX11_readRail_166 : decode cX11_readRail 166 = .ok (.iastore, 1) := dok_at gdX11_readRail_l133 19 rfl
theorem dX11_readRail_167 : decode cX11_readRail 167 = .ok (.iinc 3 1, 3) := dok_at gdX11_readRail_l133 20 rfl
theorem dX11_readRail_170 : decode cX11_readRail 170 = .ok (.goto (-64), 3) := dok_at gdX11_readRail_l133 21 rfl
theorem dX11_readRail_173 : decode cX11_readRail 173 = .ok (.iconst 0, 1) := dok_at gdX11_readRail_l133 22 rfl
theorem dX11_readRail_174 : decode cX11_readRail 174 = .ok (.istore_n 3, 1) := dok_at gdX11_readRail_l133 23 rfl
def dX11_readRail_l175 : List (Nat × Instr × Nat) := [(175, .aload_n 0, 1), (176, .getfield 145, 3), (179, .ifCond .ne 91, 3), (182, .aload_n 0, 1), (183, .getfield 167, 3), (186, .iconst 1, 1), (187, .if_icmp .ne 83, 3), (190, .aload_n 0, 1), (191, .invokevirtual 188, 3), (194, .bipush 27, 2), (196, .if_icmp .eq 74, 3), (199, .aload_n 0, 1), (200, .invokevirtual 188, 3), (203, .istore 4, 2), (205, .aload_n 0, 1), (206, .iload 4, 2), (208, .i2l, 1), (209, .ldc2_w 222, 3), (212, .ldc2_w 224, 3), (215, .invokestatic 141, 3), (218, .iconst 2, 1), (219, .invokevirtual 181, 3), (222, .aload_n 0, 1), (223, .getfield 145, 3)]
theorem gdX11_readRail_l175 : dok cX11_readRail dX11_readRail_l175 = true := by decide +kernel
theorem dX11_readRail_175 : decode cX11_readRail 175 = .ok (.aload_n 0, 1) := dok_at gdX11_readRail_l175 0 rfl
theorem dX11_readRail_176 : decode cX11_readRail 176 = .ok (.getfield 145, 3) := dok_at gdX11_readRail_l175 1 rfl
theorem dX11_readRail_179 : decode cX11_readRail 179 = .ok (.ifCond .ne 91, 3) := dok_at gdX11_readRail_l175 2 rfl
theorem dX11_readRail_182 : decode cX11_readRail 182 = .ok (.aload_n 0, 1) := dok_at gdX11_readRail_l175 3 rfl
theorem dX11_readRail_183 : decode cX11_readRail 183 = .ok (.getfield 167, 3) := dok_at gdX11_readRail_l175 4 rfl
theorem dX11_readRail_186 : decode cX11_readRail 186 = .ok (.iconst 1, 1) := dok_at gdX11_readRail_l175 5 rfl
theorem dX11_readRail_187 : decode cX11_readRail 187 = .ok (.if_icmp .ne 83, 3) := dok_at gdX11_readRail_l175 6 rfl
theorem dX11_readRail_190 : decode cX11_readRail 190 = .ok (.aload_n 0, 1) := dok_at gdX11_readRail_l175 7 rfl
theorem dX11_readRail_191 : decode cX11_readRail 191 = .ok (.invokevirtual 188, 3) := dok_at gdX11_readRail_l175 8 rfl
theorem dX11_readRail_194 : decode cX11_readRail 194 = .ok (.bipush 27, 2) := dok_at gdX11_readRail_l175 9 rfl
theorem dX11_readRail_196 : decode cX11_readRail 196 = .ok (.if_icmp .eq 74, 3) := dok_at gdX11_readRail_l175 10 rfl
theorem dX11_readRail_199 : decode cX11_readRail 199 = .ok (.aload_n 0, 1) := dok_at gdX11_readRail_l175 11 rfl
theorem dX11_readRail_200 : decode cX11_readRail 200 = .ok (.invokevirtual 188, 3) := dok_at gdX11_readRail_l175 12 rfl
theorem dX11_readRail_203 : decode cX11_readRail 203 = .ok (.istore 4, 2) := dok_at gdX11_readRail_l175 13 rfl
theorem dX11_readRail_205 : decode cX11_readRail 205 = .ok (.aload_n 0, 1) := dok_at gdX11_readRail_l175 14 rfl
theorem dX11_readRail_206 : decode cX11_readRail 206 = .ok (.iload 4, 2) := dok_at gdX11_readRail_l175 15 rfl
theorem dX11_readRail_208 : decode cX11_readRail 208 = .ok (.i2l, 1) := dok_at gdX11_readRail_l175 16 rfl
theorem dX11_readRail_209 : decode cX11_readRail 209 = .ok (.ldc2_w 222, 3) := dok_at gdX11_readRail_l175 17 rfl
theorem dX11_readRail_212 : decode cX11_readRail 212 = .ok (.ldc2_w 224, 3) := dok_at gdX11_readRail_l175 18 rfl
theorem dX11_readRail_215 : decode cX11_readRail 215 = .ok (.invokestatic 141, 3) := dok_at gdX11_readRail_l175 19 rfl
theorem dX11_readRail_218 : decode cX11_readRail 218 = .ok (.iconst 2, 1) := dok_at gdX11_readRail_l175 20 rfl
theorem dX11_readRail_219 : decode cX11_readRail 219 = .ok (.invokevirtual 181, 3) := dok_at gdX11_readRail_l175 21 rfl
theorem dX11_readRail_222 : decode cX11_readRail 222 = .ok (.aload_n 0, 1) := dok_at gdX11_readRail_l175 22 rfl
theorem dX11_readRail_223 : decode cX11_readRail 223 = .ok (.getfield 145, 3) := dok_at gdX11_readRail_l175 23 rfl
def dX11_readRail_l226 : List (Nat × Instr × Nat) := [(226, .ifCond .ne 41, 3), (229, .aload_n 0, 1), (230, .iload_n 3, 1), (231, .iload 4, 2), (233, .bipush 23, 2), (235, .isub, 1), (236, .ishr, 1), (237, .iconst 1, 1), (238, .iand, 1), (239, .ifCond .ne 7, 3), (242, .iconst 1, 1), (243, .goto 4, 3), (246, .iconst 0, 1), (247, .iconst 4, 1), (248, .invokevirtual 181, 3), (251, .iload_n 3, 1), (252, .iconst 1, 1), (253, .iload 4, 2), (255, .bipush 23, 2), (257, .isub, 1), (258, .ishl, 1), (259, .ior, 1), (260, .istore_n 3, 1), (261, .aload_n 0, 1)]
theorem gdX11_readRail_l226 : dok cX11_readRail dX11_readRail_l226 = true := by decide +kernel
theorem dX11_readRail_226 : decode cX11_readRail 226 = .ok (.ifCond .ne 41, 3) := dok_at gdX11_readRail_l226 0 rfl
theorem dX11_readRail_229 : decode cX11_readRail 229 = .ok (.aload_n 0, 1) := dok_at gdX11_readRail_l226 1 rfl
theorem dX11_readRail_230 : decode cX11_readRail 230 = .ok (.iload_n 3, 1) := dok_at gdX11_readRail_l226 2 rfl
theorem dX11_readRail_231 : decode cX11_readRail 231 = .ok (.iload 4, 2) := dok_at gdX11_readRail_l226 3 rfl
theorem dX11_readRail_233 : decode cX11_readRail 233 = .ok (.bipush 23, 2) := dok_at gdX11_readRail_l226 4 rfl
theorem dX11_readRail_235 : decode cX11_readRail 235 = .ok (.isub, 1) := dok_at gdX11_readRail_l226 5 rfl
theorem dX11_readRail_236 : decode cX11_readRail 236 = .ok (.ishr, 1) := dok_at gdX11_readRail_l226 6 rfl
theorem dX11_readRail_237 : decode cX11_readRail 237 = .ok (.iconst 1, 1) := dok_at gdX11_readRail_l226 7 rfl
theorem dX11_readRail_238 : decode cX11_readRail 238 = .ok (.iand, 1) := dok_at gdX11_readRail_l226 8 rfl
theorem dX11_readRail_239 : decode cX11_readRail 239 = .ok (.ifCond .ne 7, 3) := dok_at gdX11_readRail_l226 9 rfl
theorem dX11_readRail_242 : decode cX11_readRail 242 = .ok (.iconst 1, 1) := dok_at gdX11_readRail_l226 10 rfl
theorem dX11_readRail_243 : decode cX11_readRail 243 = .ok (.goto 4, 3) := dok_at gdX11_readRail_l226 11 rfl
theorem dX11_readRail_246 : decode cX11_readRail 246 = .ok (.iconst 0, 1) := dok_at gdX11_readRail_l226 12 rfl
theorem dX11_readRail_247 : decode cX11_readRail 247 = .ok (.iconst 4, 1) := dok_at gdX11_readRail_l226 13 rfl
theorem dX11_readRail_248 : decode cX11_readRail 248 = .ok (.invokevirtual 181, 3) := dok_at gdX11_readRail_l226 14 rfl
theorem dX11_readRail_251 : decode cX11_readRail 251 = .ok (.iload_n 3, 1) := dok_at gdX11_readRail_l226 15 rfl
theorem dX11_readRail_252 : decode cX11_readRail 252 = .ok (.iconst 1, 1) := dok_at gdX11_readRail_l226 16 rfl
theorem dX11_readRail_253 : decode cX11_readRail 253 = .ok (.iload 4, 2) := dok_at gdX11_readRail_l226 17 rfl
theorem dX11_readRail_255 : decode cX11_readRail 255 = .ok (.bipush 23, 2) := dok_at gdX11_readRail_l226 18 rfl
theorem dX11_readRail_257 : decode cX11_readRail 257 = .ok (.isub, 1) := dok_at gdX11_readRail_l226 19 rfl
theorem dX11_readRail_258 : decode cX11_readRail 258 = .ok (.ishl, 1) := dok_at gdX11_readRail_l226 20 rfl
theorem dX11_readRail_259 : decode cX11_readRail 259 = .ok (.ior, 1) := dok_at gdX11_readRail_l226 21 rfl
theorem dX11_readRail_260 : decode cX11_readRail 260 = .ok (.istore_n 3, 1) := dok_at gdX11_readRail_l226 22 rfl
theorem dX11_readRail_261 : decode cX11_readRail 261 = .ok (.aload_n 0, 1) := dok_at gdX11_readRail_l226 23 rfl
def dX11_readRail_l262 : List (Nat × Instr × Nat) := [(262, .iload 4, 2), (264, .invokevirtual 226, 3), (267, .goto (-92), 3), (270, .aload_n 0, 1), (271, .invokevirtual 229, 3), (274, .return_, 1)]
theorem gdX11_readRail_l262 : dok cX11_readRail dX11_readRail_l262 = true := by decide +kernel
theorem dX11_readRail_262 : decode cX11_readRail 262 = .ok (.iload 4, 2) := dok_at gdX11_readRail_l262 0 rfl
theorem dX11_readRail_264 : decode cX11_readRail 264 = .ok (.invokevirtual 226, 3) := dok_at gdX11_readRail_l262 1 rfl
theorem dX11_readRail_267 : decode cX11_readRail 267 = .ok (.goto (-92), 3) := dok_at gdX11_readRail_l262 2 rfl
theorem dX11_readRail_270 : decode cX11_readRail 270 = .ok (.aload_n 0, 1) := dok_at gdX11_readRail_l262 3 rfl
theorem dX11_readRail_271 : decode cX11_readRail 271 = .ok (.invokevirtual 229, 3) := dok_at gdX11_readRail_l262 4 rfl
theorem dX11_readRail_274 : decode cX11_readRail 274 = .ok (.return_, 1) := dok_at gdX11_readRail_l262 5 rfl
def dX11_readWhen_l0 : List (Nat × Instr × Nat) := [(0, .aload_n 0, 1), (1, .getfield 145, 3), (4, .ifCond .ne 22, 3), (7, .aload_n 0, 1), (8, .getfield 167, 3), (11, .iconst 1, 1), (12, .if_icmp .ne 14, 3), (15, .aload_n 0, 1), (16, .invokevirtual 185, 3), (19, .aload_n 0, 1), (20, .invokevirtual 232, 3), (23, .goto 16, 3), (26, .aload_n 0, 1), (27, .getfield 35, 3), (30, .iconst 0, 1), (31, .bipush 8, 2), (33, .iastore, 1), (34, .aload_n 0, 1), (35, .iconst 1, 1), (36, .putfield 192, 3), (39, .aload_n 0, 1), (40, .getfield 145, 3), (43, .ifCond .ne 17, 3), (46, .aload_n 0, 1)]
theorem gdX11_readWhen_l0 : dok cX11_readWhen dX11_readWhen_l0 = true := by decide +kernel
theorem dX11_readWhen_0 : decode cX11_readWhen 0 = .ok (.aload_n 0, 1) := dok_at gdX11_readWhen_l0 0 rfl
theorem dX11_readWhen_1 : decode cX11_readWhen 1 = .ok (.getfield 145, 3) := dok_at gdX11_readWhen_l0 1 rfl
theorem dX11_readWhen_4 : decode cX11_readWhen 4 = .ok (.ifCond .ne 22, 3) := dok_at gdX11_readWhen_l0 2 rfl
theorem dX11_readWhen_7 : decode cX11_readWhen 7 = .ok (.aload_n 0, 1) := dok_at gdX11_readWhen_l0 3 rfl
theorem dX11_readWhen_8 : decode cX11_readWhen 8 = .ok (.getfield 167, 3) := dok_at gdX11_readWhen_l0 4 rfl
theorem dX11_readWhen_11 : decode cX11_readWhen 11 = .ok (.iconst 1, 1) := dok_at gdX11_readWhen_l0 5 rfl
theorem dX11_readWhen_12 : decode cX11_readWhen 12 = .ok (.if_icmp .ne 14, 3) := dok_at gdX11_readWhen_l0 6 rfl
theorem dX11_readWhen_15 : decode cX11_readWhen 15 = .ok (.aload_n 0, 1) := dok_at gdX11_readWhen_l0 7 rfl
theorem dX11_readWhen_16 : decode cX11_readWhen 16 = .ok (.invokevirtual 185, 3) := dok_at gdX11_readWhen_l0 8 rfl
theorem dX11_readWhen_19 : decode cX11_readWhen 19 = .ok (.aload_n 0, 1) := dok_at gdX11_readWhen_l0 9 rfl
theorem dX11_readWhen_20 : decode cX11_readWhen 20 = .ok (.invokevirtual 232, 3) := dok_at gdX11_readWhen_l0 10 rfl
theorem dX11_readWhen_23 : decode cX11_readWhen 23 = .ok (.goto 16, 3) := dok_at gdX11_readWhen_l0 11 rfl
theorem dX11_readWhen_26 : decode cX11_readWhen 26 = .ok (.aload_n 0, 1) := dok_at gdX11_readWhen_l0 12 rfl
theorem dX11_readWhen_27 : decode cX11_readWhen 27 = .ok (.getfield 35, 3) := dok_at gdX11_readWhen_l0 13 rfl
theorem dX11_readWhen_30 : decode cX11_readWhen 30 = .ok (.iconst 0, 1) := dok_at gdX11_readWhen_l0 14 rfl
theorem dX11_readWhen_31 : decode cX11_readWhen 31 = .ok (.bipush 8, 2) := dok_at gdX11_readWhen_l0 15 rfl
theorem dX11_readWhen_33 : decode cX11_readWhen 33 = .ok (.iastore, 1) := dok_at gdX11_readWhen_l0 16 rfl
theorem dX11_readWhen_34 : decode cX11_readWhen 34 = .ok (.aload_n 0, 1) := dok_at gdX11_readWhen_l0 17 rfl
theorem dX11_readWhen_35 : decode cX11_readWhen 35 = .ok (.iconst 1, 1) := dok_at gdX11_readWhen_l0 18 rfl
theorem dX11_readWhen_36 : decode cX11_readWhen 36 = .ok (.putfield 192, 3) := dok_at gdX11_readWhen_l0 19 rfl
theorem dX11_readWhen_39 : decode cX11_readWhen 39 = .ok (.aload_n 0, 1) := dok_at gdX11_readWhen_l0 20 rfl
theorem dX11_readWhen_40 : decode cX11_readWhen 40 = .ok (.getfield 145, 3) := dok_at gdX11_readWhen_l0 21 rfl
theorem dX11_readWhen_43 : decode cX11_readWhen 43 = .ok (.ifCond .ne 17, 3) := dok_at gdX11_readWhen_l0 22 rfl
theorem dX11_readWhen_46 : decode cX11_readWhen 46 = .ok (.aload_n 0, 1) := dok_at gdX11_readWhen_l0 23 rfl
def dX11_readWhen_l47 : List (Nat × Instr × Nat) := [(47, .invokevirtual 235, 3), (50, .aload_n 0, 1), (51, .dup, 1), (52, .getfield 98, 3), (55, .iconst 1, 1), (56, .iadd, 1), (57, .putfield 98, 3), (60, .return_, 1)]
theorem gdX11_readWhen_l47 : dok cX11_readWhen dX11_readWhen_l47 = true := by decide +kernel
theorem dX11_readWhen_47 : decode cX11_readWhen 47 = .ok (.invokevirtual 235, 3) := dok_at gdX11_readWhen_l47 0 rfl
theorem dX11_readWhen_50 : decode cX11_readWhen 50 = .ok (.aload_n 0, 1) := dok_at gdX11_readWhen_l47 1 rfl
theorem dX11_readWhen_51 : decode cX11_readWhen 51 = .ok (.dup, 1) := dok_at gdX11_readWhen_l47 2 rfl
theorem dX11_readWhen_52 : decode cX11_readWhen 52 = .ok (.getfield 98, 3) := dok_at gdX11_readWhen_l47 3 rfl
theorem dX11_readWhen_55 : decode cX11_readWhen 55 = .ok (.iconst 1, 1) := dok_at gdX11_readWhen_l47 4 rfl
theorem dX11_readWhen_56 : decode cX11_readWhen 56 = .ok (.iadd, 1) := dok_at gdX11_readWhen_l47 5 rfl
theorem dX11_readWhen_57 : decode cX11_readWhen 57 = .ok (.putfield 98, 3) := dok_at gdX11_readWhen_l47 6 rfl
theorem dX11_readWhen_60 : decode cX11_readWhen 60 = .ok (.return_, 1) := dok_at gdX11_readWhen_l47 7 rfl
def dX11_readLine_l0 : List (Nat × Instr × Nat) := [(0, .aload_n 0, 1), (1, .getfield 167, 3), (4, .iconst 1, 1), (5, .if_icmp .ne 10, 3), (8, .aload_n 0, 1), (9, .invokevirtual 188, 3), (12, .goto 5, 3), (15, .bipush (-4), 2), (17, .istore_n 1, 1), (18, .aload_n 0, 1), (19, .iload_n 1, 1), (20, .i2l, 1), (21, .ldc2_w 238, 3), (24, .ldc2_w 240, 3), (27, .invokestatic 141, 3), (30, .iconst 2, 1), (31, .invokevirtual 181, 3), (34, .iload_n 1, 1), (35, .bipush 20, 2), (37, .if_icmp .ne 10, 3), (40, .aload_n 0, 1), (41, .invokevirtual 242, 3), (44, .goto 104, 3), (47, .iload_n 1, 1)]
theorem gdX11_readLine_l0 : dok cX11_readLine dX11_readLine_l0 = true := by decide +kernel
theorem dX11_readLine_0 : decode cX11_readLine 0 = .ok (.aload_n 0, 1) := dok_at gdX11_readLine_l0 0 rfl
theorem dX11_readLine_1 : decode cX11_readLine 1 = .ok (.getfield 167, 3) := dok_at gdX11_readLine_l0 1 rfl
theorem dX11_readLine_4 : decode cX11_readLine 4 = .ok (.iconst 1, 1) := dok_at gdX11_readLine_l0 2 rfl
theorem dX11_readLine_5 : decode cX11_readLine 5 = .ok (.if_icmp .ne 10, 3) := dok_at gdX11_readLine_l0 3 rfl
theorem dX11_readLine_8 : decode cX11_readLine 8 = .ok (.aload_n 0, 1) := dok_at gdX11_readLine_l0 4 rfl
theorem dX11_readLine_9 : decode cX11_readLine 9 = .ok (.invokevirtual 188, 3) := dok_at gdX11_readLine_l0 5 rfl
theorem dX11_readLine_12 : decode cX11_readLine 12 = .ok (.goto 5, 3) := dok_at gdX11_readLine_l0 6 rfl
theorem dX11_readLine_15 : decode cX11_readLine 15 = .ok (.bipush (-4), 2) := dok_at gdX11_readLine_l0 7 rfl
theorem dX11_readLine_17 : decode cX11_readLine 17 = .ok (.istore_n 1, 1) := dok_at gdX11_readLine_l0 8 rfl
theorem dX11_readLine_18 : decode cX11_readLine 18 = .ok (.aload_n 0, 1) := dok_at gdX11_readLine_l0 9 rfl
theorem dX11_readLine_19 : decode cX11_readLine 19 = .ok (.iload_n 1, 1) := dok_at gdX11_readLine_l0 10 rfl
theorem dX11_readLine_20 : decode cX11_readLine 20 = .ok (.i2l, 1) := dok_at gdX11_readLine_l0 11 rfl
theorem dX11_readLine_21 : decode cX11_readLine 21 = .ok (.ldc2_w 238, 3) := dok_at gdX11_readLine_l0 12 rfl
theorem dX11_readLine_24 : decode cX11_readLine 24 = .ok (.ldc2_w 240, 3) := dok_at gdX11_readLine_l0 13 rfl
theorem dX11_readLine_27 : decode cX11_readLine 27 = .ok (.invokestatic 141, 3) := dok_at gdX11_readLine_l0 14 rfl
theorem dX11_readLine_30 : decode cX11_readLine 30 = .ok (.iconst 2, 1) := dok_at gdX11_readLine_l0 15 rfl
theorem dX11_readLine_31 : decode cX11_readLine 31 = .ok (.invokevirtual 181, 3) := dok_at gdX11_readLine_l0 16 rfl
theorem dX11_readLine_34 : decode cX11_readLine 34 = .ok (.iload_n 1, 1) := dok_at gdX11_readLine_l0 17 rfl
theorem dX11_readLine_35 : decode cX11_readLine 35 = .ok (.bipush 20, 2) := dok_at gdX11_readLine_l0 18 rfl
theorem dX11_readLine_37 : decode cX11_readLine 37 = .ok (.if_icmp .ne 10, 3) := dok_at gdX11_readLine_l0 19 rfl
theorem dX11_readLine_40 : decode cX11_readLine 40 = .ok (.aload_n 0, 1) := dok_at gdX11_readLine_l0 20 rfl
theorem dX11_readLine_41 : decode cX11_readLine 41 = .ok (.invokevirtual 242, 3) := dok_at gdX11_readLine_l0 21 rfl
theorem dX11_readLine_44 : decode cX11_readLine 44 = .ok (.goto 104, 3) := dok_at gdX11_readLine_l0 22 rfl
theorem dX11_readLine_47 : decode cX11_readLine 47 = .ok (.iload_n 1, 1) := dok_at gdX11_readLine_l0 23 rfl
def dX11_readLine_l48 : List (Nat × Instr × Nat) := [(48, .bipush 21, 2), (50, .if_icmp .ne 44, 3), (53, .aload_n 0, 1), (54, .aload_n 0, 1), (55, .getfield 111, 3), (58, .ifCond .ne 7, 3), (61, .iconst 1, 1), (62, .goto 4, 3), (65, .iconst 0, 1), (66, .iconst 4, 1), (67, .invokevirtual 181, 3), (70, .aload_n 0, 1), (71, .iconst 1, 1), (72, .putfield 111, 3), (75, .aload_n 0, 1), (76, .invokevirtual 185, 3), (79, .aload_n 0, 1), (80, .aload_n 0, 1), (81, .iconst 1, 1), (82, .sipush 999, 3), (85, .invokevirtual 218, 3), (88, .putfield 102, 3), (91, .goto 57, 3), (94, .iload_n 1, 1)]
theorem gdX11_readLine_l48 : dok cX11_readLine dX11_readLine_l48 = true := by decide +kernel
theorem dX11_readLine_48 : decode cX11_readLine 48 = .ok (.bipush 21, 2) := dok_at gdX11_readLine_l48 0 rfl
theorem dX11_readLine_50 : decode cX11_readLine 50 = .ok (.if_icmp .ne 44, 3) := dok_at gdX11_readLine_l48 1 rfl
theorem dX11_readLine_53 : decode cX11_readLine 53 = .ok (.aload_n 0, 1) := dok_at gdX11_readLine_l48 2 rfl
theorem dX11_readLine_54 : decode cX11_readLine 54 = .ok (.aload_n 0, 1) := dok_at gdX11_readLine_l48 3 rfl
theorem dX11_readLine_55 : decode cX11_readLine 55 = .ok (.getfield 111, 3) := dok_at gdX11_readLine_l48 4 rfl
theorem dX11_readLine_58 : decode cX11_readLine 58 = .ok (.ifCond .ne 7, 3) := dok_at gdX11_readLine_l48 5 rfl
theorem dX11_readLine_61 : decode cX11_readLine 61 = .ok (.iconst 1, 1) := dok_at gdX11_readLine_l48 6 rfl
theorem dX11_readLine_62 : decode cX11_readLine 62 = .ok (.goto 4, 3) := dok_at gdX11_readLine_l48 7 rfl
theorem dX11_readLine_65 : decode cX11_readLine 65 = .ok (.iconst 0, 1) := dok_at gdX11_readLine_l48 8 rfl
theorem dX11_readLine_66 : decode cX11_readLine 66 = .ok (.iconst 4, 1) := dok_at gdX11_readLine_l48 9 rfl
theorem dX11_readLine_67 : decode cX11_readLine 67 = .ok (.invokevirtual 181, 3) := dok_at gdX11_readLine_l48 10 rfl
theorem dX11_readLine_70 : decode cX11_readLine 70 = .ok (.aload_n 0, 1) := dok_at gdX11_readLine_l48 11 rfl
theorem dX11_readLine_71 : decode cX11_readLine 71 = .ok (.iconst 1, 1) := dok_at gdX11_readLine_l48 12 rfl
theorem dX11_readLine_72 : decode cX11_readLine 72 = .ok (.putfield 111, 3) := dok_at gdX11_readLine_l48 13 rfl
theorem dX11_readLine_75 : decode cX11_readLine 75 = .ok (.aload_n 0, 1) := dok_at gdX11_readLine_l48 14 rfl
theorem dX11_readLine_76 : decode cX11_readLine 76 = .ok (.invokevirtual 185, 3) := dok_at gdX11_readLine_l48 15 rfl
theorem dX11_readLine_79 : decode cX11_readLine 79 = .ok (.aload_n 0, 1) := dok_at gdX11_readLine_l48 16 rfl
theorem dX11_readLine_80 : decode cX11_readLine 80 = .ok (.aload_n 0, 1) := dok_at gdX11_readLine_l48 17 rfl
theorem dX11_readLine_81 : decode cX11_readLine 81 = .ok (.iconst 1, 1) := dok_at gdX11_readLine_l48 18 rfl
theorem dX11_readLine_82 : decode cX11_readLine 82 = .ok (.sipush 999, 3) := dok_at gdX11_readLine_l48 19 rfl
theorem dX11_readLine_85 : decode cX11_readLine 85 = .ok (.invokevirtual 218, 3) := dok_at gdX11_readLine_l48 20 rfl
theorem dX11_readLine_88 : decode cX11_readLine 88 = .ok (.putfield 102, 3) := dok_at gdX11_readLine_l48 21 rfl
theorem dX11_readLine_91 : decode cX11_readLine 91 = .ok (.goto 57, 3) := dok_at gdX11_readLine_l48 22 rfl
theorem dX11_readLine_94 : decode cX11_readLine 94 = .ok (.iload_n 1, 1) := dok_at gdX11_readLine_l48 23 rfl
def dX11_readLine_l95 : List (Nat × Instr × Nat) := [(95, .bipush 22, 2), (97, .if_icmp .ne 51, 3), (100, .aload_n 0, 1), (101, .aload_n 0, 1), (102, .getfield 115, 3), (105, .ifCond .ne 7, 3), (108, .iconst 1, 1), (109, .goto 4, 3), (112, .iconst 0, 1), (113, .iconst 4, 1), (114, .invokevirtual 181, 3), (117, .aload_n 0, 1), (118, .iconst 1, 1), (119, .putfield 115, 3), (122, .aload_n 0, 1), (123, .invokevirtual 185, 3), (126, .aload_n 0, 1), (127, .aload_n 0, 1), (128, .iconst 0, 1), (129, .bipush 9, 2), (131, .invokevirtual 218, 3), (134, .putfield 105, 3), (137, .aload_n 0, 1), (138, .aload_n 0, 1)]
theorem gdX11_readLine_l95 : dok cX11_readLine dX11_readLine_l95 = true := by decide +kernel
theorem dX11_readLine_95 : decode cX11_readLine 95 = .ok (.bipush 22, 2) := dok_at gdX11_readLine_l95 0 rfl
theorem dX11_readLine_97 : decode cX11_readLine 97 = .ok (.if_icmp .ne 51, 3) := dok_at gdX11_readLine_l95 1 rfl
theorem dX11_readLine_100 : decode cX11_readLine 100 = .ok (.aload_n 0, 1) := dok_at gdX11_readLine_l95 2 rfl
theorem dX11_readLine_101 : decode cX11_readLine 101 = .ok (.aload_n 0, 1) := dok_at gdX11_readLine_l95 3 rfl
theorem dX11_readLine_102 : decode cX11_readLine 102 = .ok (.getfield 115, 3) := dok_at gdX11_readLine_l95 4 rfl
theorem dX11_readLine_105 : decode cX11_readLine 105 = .ok (.ifCond .ne 7, 3) := dok_at gdX11_readLine_l95 5 rfl
theorem dX11_readLine_108 : decode cX11_readLine 108 = .ok (.iconst 1, 1) := dok_at gdX11_readLine_l95 6 rfl
theorem dX11_readLine_109 : decode cX11_readLine 109 = .ok (.goto 4, 3) := dok_at gdX11_readLine_l95 7 rfl
theorem dX11_readLine_112 : decode cX11_readLine 112 = .ok (.iconst 0, 1) := dok_at gdX11_readLine_l95 8 rfl
theorem dX11_readLine_113 : decode cX11_readLine 113 = .ok (.iconst 4, 1) := dok_at gdX11_readLine_l95 9 rfl
theorem dX11_readLine_114 : decode cX11_readLine 114 = .ok (.invokevirtual 181, 3) := dok_at gdX11_readLine_l95 10 rfl
theorem dX11_readLine_117 : decode cX11_readLine 117 = .ok (.aload_n 0, 1) := dok_at gdX11_readLine_l95 11 rfl
theorem dX11_readLine_118 : decode cX11_readLine 118 = .ok (.iconst 1, 1) := dok_at gdX11_readLine_l95 12 rfl
theorem dX11_readLine_119 : decode cX11_readLine 119 = .ok (.putfield 115, 3) := dok_at gdX11_readLine_l95 13 rfl
theorem dX11_readLine_122 : decode cX11_readLine 122 = .ok (.aload_n 0, 1) := dok_at gdX11_readLine_l95 14 rfl
theorem dX11_readLine_123 : decode cX11_readLine 123 = .ok (.invokevirtual 185, 3) := dok_at gdX11_readLine_l95 15 rfl
theorem dX11_readLine_126 : decode cX11_readLine 126 = .ok (.aload_n 0, 1) := dok_at gdX11_readLine_l95 16 rfl
theorem dX11_readLine_127 : decode cX11_readLine 127 = .ok (.aload_n 0, 1) := dok_at gdX11_readLine_l95 17 rfl
theorem dX11_readLine_128 : decode cX11_readLine 128 = .ok (.iconst 0, 1) := dok_at gdX11_readLine_l95 18 rfl
theorem dX11_readLine_129 : decode cX11_readLine 129 = .ok (.bipush 9, 2) := dok_at gdX11_readLine_l95 19 rfl
theorem dX11_readLine_131 : decode cX11_readLine 131 = .ok (.invokevirtual 218, 3) := dok_at gdX11_readLine_l95 20 rfl
theorem dX11_readLine_134 : decode cX11_readLine 134 = .ok (.putfield 105, 3) := dok_at gdX11_readLine_l95 21 rfl
theorem dX11_readLine_137 : decode cX11_readLine 137 = .ok (.aload_n 0, 1) := dok_at gdX11_readLine_l95 22 rfl
theorem dX11_readLine_138 : decode cX11_readLine 138 = .ok (.aload_n 0, 1) := dok_at gdX11_readLine_l95 23 rfl
def dX11_readLine_l139 : List (Nat × Instr × Nat) := [(139, .iconst 1, 1), (140, .bipush 99, 2), (142, .invokevirtual 218, 3), (145, .putfield 108, 3), (148, .aload_n 0, 1), (149, .getfield 145, 3), (152, .ifCond .ne 22, 3), (155, .aload_n 0, 1), (156, .aload_n 0, 1), (157, .getfield 167, 3), (160, .bipush 7, 2), (162, .if_icmp .ne 7, 3), (165, .iconst 1, 1), (166, .goto 4, 3), (169, .iconst 0, 1), (170, .iconst 2, 1), (171, .invokevirtual 181, 3), (174, .aload_n 0, 1), (175, .invokevirtual 185, 3), (178, .return_, 1)]
theorem gdX11_readLine_l139 : dok cX11_readLine dX11_readLine_l139 = true := by decide +kernel
theorem dX11_readLine_139 : decode cX11_readLine 139 = .ok (.iconst 1, 1) := dok_at gdX11_readLine_l139 0 rfl
theorem dX11_readLine_140 : decode cX11_readLine 140 = .ok (.bipush 99, 2) := dok_at gdX11_readLine_l139 1 rfl
theorem dX11_readLine_142 : decode cX11_readLine 142 = .ok (.invokevirtual 218, 3) := dok_at gdX11_readLine_l139 2 rfl
theorem dX11_readLine_145 : decode cX11_readLine 145 = .ok (.putfield 108, 3) := dok_at gdX11_readLine_l139 3 rfl
theorem dX11_readLine_148 : decode cX11_readLine 148 = .ok (.aload_n 0, 1) := dok_at gdX11_readLine_l139 4 rfl
theorem dX11_readLine_149 : decode cX11_readLine 149 = .ok (.getfield 145, 3) := dok_at gdX11_readLine_l139 5 rfl
theorem dX11_readLine_152 : decode cX11_readLine 152 = .ok (.ifCond .ne 22, 3) := dok_at gdX11_readLine_l139 6 rfl
theorem dX11_readLine_155 : decode cX11_readLine 155 = .ok (.aload_n 0, 1) := dok_at gdX11_readLine_l139 7 rfl
theorem dX11_readLine_156 : decode cX11_readLine 156 = .ok (.aload_n 0, 1) := dok_at gdX11_readLine_l139 8 rfl
theorem dX11_readLine_157 : decode cX11_readLine 157 = .ok (.getfield 167, 3) := dok_at gdX11_readLine_l139 9 rfl
theorem dX11_readLine_160 : decode cX11_readLine 160 = .ok (.bipush 7, 2) := dok_at gdX11_readLine_l139 10 rfl
theorem dX11_readLine_162 : decode cX11_readLine 162 = .ok (.if_icmp .ne 7, 3) := dok_at gdX11_readLine_l139 11 rfl
theorem dX11_readLine_165 : decode cX11_readLine 165 = .ok (.iconst 1, 1) := dok_at gdX11_readLine_l139 12 rfl
theorem dX11_readLine_166 : decode cX11_readLine 166 = .ok (.goto 4, 3) := dok_at gdX11_readLine_l139 13 rfl
theorem dX11_readLine_169 : decode cX11_readLine 169 = .ok (.iconst 0, 1) := dok_at gdX11_readLine_l139 14 rfl
theorem dX11_readLine_170 : decode cX11_readLine 170 = .ok (.iconst 2, 1) := dok_at gdX11_readLine_l139 15 rfl
theorem dX11_readLine_171 : decode cX11_readLine 171 = .ok (.invokevirtual 181, 3) := dok_at gdX11_readLine_l139 16 rfl
theorem dX11_readLine_174 : decode cX11_readLine 174 = .ok (.aload_n 0, 1) := dok_at gdX11_readLine_l139 17 rfl
theorem dX11_readLine_175 : decode cX11_readLine 175 = .ok (.invokevirtual 185, 3) := dok_at gdX11_readLine_l139 18 rfl
theorem dX11_readLine_178 : decode cX11_readLine 178 = .ok (.return_, 1) := dok_at gdX11_readLine_l139 19 rfl
def dX11_text_l0 : List (Nat × Instr × Nat) := [(0, .iconst 0, 1), (1, .istore_n 1, 1), (2, .aload_n 0, 1), (3, .iconst 0, 1), (4, .putfield 145, 3), (7, .aload_n 0, 1), (8, .iconst 0, 1), (9, .putfield 154, 3), (12, .aload_n 0, 1), (13, .invokevirtual 92, 3), (16, .aload_n 0, 1), (17, .invokevirtual 185, 3), (20, .aload_n 0, 1), (21, .getfield 145, 3), (24, .ifCond .ne 20, 3), (27, .aload_n 0, 1), (28, .getfield 167, 3), (31, .ifCond .eq 13, 3), (34, .aload_n 0, 1), (35, .invokevirtual 245, 3), (38, .iinc 1 1, 3), (41, .goto (-21), 3), (44, .iconst 0, 1), (45, .istore_n 2, 1)]
theorem gdX11_text_l0 : dok cX11_text dX11_text_l0 = true := by decide +kernel
theorem dX11_text_0 : decode cX11_text 0 = .ok (.iconst 0, 1) := dok_at gdX11_text_l0 0 rfl
theorem dX11_text_1 : decode cX11_text 1 = .ok (.istore_n 1, 1) := dok_at gdX11_text_l0 1 rfl
theorem dX11_text_2 : decode cX11_text 2 = .ok (.aload_n 0, 1) := dok_at gdX11_text_l0 2 rfl
theorem dX11_text_3 : decode cX11_text 3 = .ok (.iconst 0, 1) := dok_at gdX11_text_l0 3 rfl
theorem dX11_text_4 : decode cX11_text 4 = .ok (.putfield 145, 3) := dok_at gdX11_text_l0 4 rfl
theorem dX11_text_7 : decode cX11_text 7 = .ok (.aload_n 0, 1) := dok_at gdX11_text_l0 5 rfl
theorem dX11_text_8 : decode cX11_text 8 = .ok (.iconst 0, 1) := dok_at gdX11_text_l0 6 rfl
theorem dX11_text_9 : decode cX11_text 9 = .ok (.putfield 154, 3) := dok_at gdX11_text_l0 7 rfl
theorem dX11_text_12 : decode cX11_text 12 = .ok (.aload_n 0, 1) := dok_at gdX11_text_l0 8 rfl
theorem dX11_text_13 : decode cX11_text 13 = .ok (.invokevirtual 92, 3) := dok_at gdX11_text_l0 9 rfl
theorem dX11_text_16 : decode cX11_text 16 = .ok (.aload_n 0, 1) := dok_at gdX11_text_l0 10 rfl
theorem dX11_text_17 : decode cX11_text 17 = .ok (.invokevirtual 185, 3) := dok_at gdX11_text_l0 11 rfl
theorem dX11_text_20 : decode cX11_text 20 = .ok (.aload_n 0, 1) := dok_at gdX11_text_l0 12 rfl
theorem dX11_text_21 : decode cX11_text 21 = .ok (.getfield 145, 3) := dok_at gdX11_text_l0 13 rfl
theorem dX11_text_24 : decode cX11_text 24 = .ok (.ifCond .ne 20, 3) := dok_at gdX11_text_l0 14 rfl
theorem dX11_text_27 : decode cX11_text 27 = .ok (.aload_n 0, 1) := dok_at gdX11_text_l0 15 rfl
theorem dX11_text_28 : decode cX11_text 28 = .ok (.getfield 167, 3) := dok_at gdX11_text_l0 16 rfl
theorem dX11_text_31 : decode cX11_text 31 = .ok (.ifCond .eq 13, 3) := dok_at gdX11_text_l0 17 rfl
theorem dX11_text_34 : decode cX11_text 34 = .ok (.aload_n 0, 1) := dok_at gdX11_text_l0 18 rfl
theorem dX11_text_35 : decode cX11_text 35 = .ok (.invokevirtual 245, 3) := dok_at gdX11_text_l0 19 rfl
theorem dX11_text_38 : decode cX11_text 38 = .ok (.iinc 1 1, 3) := dok_at gdX11_text_l0 20 rfl
theorem dX11_text_41 : decode cX11_text 41 = .ok (.goto (-21), 3) := dok_at gdX11_text_l0 21 rfl
theorem dX11_text_44 : decode cX11_text 44 = .ok (.iconst 0, 1) := dok_at gdX11_text_l0 22 rfl
theorem dX11_text_45 : decode cX11_text 45 = .ok (.istore_n 2, 1) := dok_at gdX11_text_l0 23 rfl
def dX11_text_l46 : List (Nat × Instr × Nat) := [(46, .iload_n 2, 1), (47, .aload_n 0, 1), (48, .getfield 118, 3), (51, .if_icmp .ge 45, 3), (54, .aload_n 0, 1), (55, .getfield 145, 3), (58, .ifCond .ne 38, 3), (61, .aload_n 0, 1), (62, .getfield 29, 3), (65, .iload_n 2, 1), (66, .iaload, 1), (67, .aload_n 0, 1), (68, .getfield 98, 3), (71, .if_icmp .lt 19, 3), (74, .aload_n 0, 1), (75, .bipush 6, 2), (77, .putfield 145, 3), (80, .aload_n 0, 1), (81, .aload_n 0, 1), (82, .getfield 32, 3), (85, .iload_n 2, 1), (86, .iaload, 1), (87, .putfield 151, 3), (90, .iinc 2 1, 3)]
theorem gdX11_text_l46 : dok cX11_text dX11_text_l46 = true := by decide +kernel
theorem dX11_text_46 : decode cX11_text 46 = .ok (.iload_n 2, 1) := dok_at gdX11_text_l46 0 rfl
theorem dX11_text_47 : decode cX11_text 47 = .ok (.aload_n 0, 1) := dok_at gdX11_text_l46 1 rfl
theorem dX11_text_48 : decode cX11_text 48 = .ok (.getfield 118, 3) := dok_at gdX11_text_l46 2 rfl
theorem dX11_text_51 : decode cX11_text 51 = .ok (.if_icmp .ge 45, 3) := dok_at gdX11_text_l46 3 rfl
theorem dX11_text_54 : decode cX11_text 54 = .ok (.aload_n 0, 1) := dok_at gdX11_text_l46 4 rfl
theorem dX11_text_55 : decode cX11_text 55 = .ok (.getfield 145, 3) := dok_at gdX11_text_l46 5 rfl
theorem dX11_text_58 : decode cX11_text 58 = .ok (.ifCond .ne 38, 3) := dok_at gdX11_text_l46 6 rfl
theorem dX11_text_61 : decode cX11_text 61 = .ok (.aload_n 0, 1) := dok_at gdX11_text_l46 7 rfl
theorem dX11_text_62 : decode cX11_text 62 = .ok (.getfield 29, 3) := dok_at gdX11_text_l46 8 rfl
theorem dX11_text_65 : decode cX11_text 65 = .ok (.iload_n 2, 1) := dok_at gdX11_text_l46 9 rfl
theorem dX11_text_66 : decode cX11_text 66 = .ok (.iaload, 1) := dok_at gdX11_text_l46 10 rfl
theorem dX11_text_67 : decode cX11_text 67 = .ok (.aload_n 0, 1) := dok_at gdX11_text_l46 11 rfl
theorem dX11_text_68 : decode cX11_text 68 = .ok (.getfield 98, 3) := dok_at gdX11_text_l46 12 rfl
theorem dX11_text_71 : decode cX11_text 71 = .ok (.if_icmp .lt 19, 3) := dok_at gdX11_text_l46 13 rfl
theorem dX11_text_74 : decode cX11_text 74 = .ok (.aload_n 0, 1) := dok_at gdX11_text_l46 14 rfl
theorem dX11_text_75 : decode cX11_text 75 = .ok (.bipush 6, 2) := dok_at gdX11_text_l46 15 rfl
theorem dX11_text_77 : decode cX11_text 77 = .ok (.putfield 145, 3) := dok_at gdX11_text_l46 16 rfl
theorem dX11_text_80 : decode cX11_text 80 = .ok (.aload_n 0, 1) := dok_at gdX11_text_l46 17 rfl
theorem dX11_text_81 : decode cX11_text 81 = .ok (.aload_n 0, 1) := dok_at gdX11_text_l46 18 rfl
theorem dX11_text_82 : decode cX11_text 82 = .ok (.getfield 32, 3) := dok_at gdX11_text_l46 19 rfl
theorem dX11_text_85 : decode cX11_text 85 = .ok (.iload_n 2, 1) := dok_at gdX11_text_l46 20 rfl
theorem dX11_text_86 : decode cX11_text 86 = .ok (.iaload, 1) := dok_at gdX11_text_l46 21 rfl
theorem dX11_text_87 : decode cX11_text 87 = .ok (.putfield 151, 3) := dok_at gdX11_text_l46 22 rfl
theorem dX11_text_90 : decode cX11_text 90 = .ok (.iinc 2 1, 3) := dok_at gdX11_text_l46 23 rfl
def dX11_text_l93 : List (Nat × Instr × Nat) := [(93, .goto (-47), 3), (96, .aload_n 0, 1), (97, .iconst 0, 1), (98, .putfield 136, 3), (101, .aload_n 0, 1), (102, .getfield 145, 3), (105, .ifCond .le 11, 3), (108, .bipush (-10), 2), (110, .aload_n 0, 1), (111, .getfield 151, 3), (114, .isub, 1), (115, .ireturn, 1), (116, .aload_n 0, 1), (117, .invokevirtual 95, 3), (120, .iload_n 1, 1), (121, .ireturn, 1)]
theorem gdX11_text_l93 : dok cX11_text dX11_text_l93 = true := by decide +kernel
theorem dX11_text_93 : decode cX11_text 93 = .ok (.goto (-47), 3) := dok_at gdX11_text_l93 0 rfl
theorem dX11_text_96 : decode cX11_text 96 = .ok (.aload_n 0, 1) := dok_at gdX11_text_l93 1 rfl
theorem dX11_text_97 : decode cX11_text 97 = .ok (.iconst 0, 1) := dok_at gdX11_text_l93 2 rfl
theorem dX11_text_98 : decode cX11_text 98 = .ok (.putfield 136, 3) := dok_at gdX11_text_l93 3 rfl
theorem dX11_text_101 : decode cX11_text 101 = .ok (.aload_n 0, 1) := dok_at gdX11_text_l93 4 rfl
theorem dX11_text_102 : decode cX11_text 102 = .ok (.getfield 145, 3) := dok_at gdX11_text_l93 5 rfl
theorem dX11_text_105 : decode cX11_text 105 = .ok (.ifCond .le 11, 3) := dok_at gdX11_text_l93 6 rfl
theorem dX11_text_108 : decode cX11_text 108 = .ok (.bipush (-10), 2) := dok_at gdX11_text_l93 7 rfl
theorem dX11_text_110 : decode cX11_text 110 = .ok (.aload_n 0, 1) := dok_at gdX11_text_l93 8 rfl
theorem dX11_text_111 : decode cX11_text 111 = .ok (.getfield 151, 3) := dok_at gdX11_text_l93 9 rfl
theorem dX11_text_114 : decode cX11_text 114 = .ok (.isub, 1) := dok_at gdX11_text_l93 10 rfl
theorem dX11_text_115 : decode cX11_text 115 = .ok (.ireturn, 1) := dok_at gdX11_text_l93 11 rfl
theorem dX11_text_116 : decode cX11_text 116 = .ok (.aload_n 0, 1) := dok_at gdX11_text_l93 12 rfl
theorem dX11_text_117 : decode cX11_text 117 = .ok (.invokevirtual 95, 3) := dok_at gdX11_text_l93 13 rfl
theorem dX11_text_120 : decode cX11_text 120 = .ok (.iload_n 1, 1) := dok_at gdX11_text_l93 14 rfl
theorem dX11_text_121 : decode cX11_text 121 = .ok (.ireturn, 1) := dok_at gdX11_text_l93 15 rfl
def dX11_rail_l0 : List (Nat × Instr × Nat) := [(0, .aload_n 0, 1), (1, .iload_n 1, 1), (2, .invokevirtual 248, 3), (5, .ifCond .eq 15, 3), (8, .iload_n 2, 1), (9, .i2l, 1), (10, .lconst 0, 1), (11, .ldc2_w 161, 3), (14, .invokestatic 141, 3), (17, .ifCond .ne 7, 3), (20, .iconst (-1), 1), (21, .goto 24, 3), (24, .iload_n 2, 1), (25, .bipush 7, 2), (27, .if_icmp .ge 12, 3), (30, .aload_n 0, 1), (31, .iload_n 1, 1), (32, .iload_n 2, 1), (33, .invokevirtual 251, 3), (36, .goto 9, 3), (39, .aload_n 0, 1), (40, .getfield 13, 3), (43, .iload_n 1, 1), (44, .iaload, 1)]
theorem gdX11_rail_l0 : dok cX11_rail dX11_rail_l0 = true := by decide +kernel
theorem dX11_rail_0 : decode cX11_rail 0 = .ok (.aload_n 0, 1) := dok_at gdX11_rail_l0 0 rfl
theorem dX11_rail_1 : decode cX11_rail 1 = .ok (.iload_n 1, 1) := dok_at gdX11_rail_l0 1 rfl
theorem dX11_rail_2 : decode cX11_rail 2 = .ok (.invokevirtual 248, 3) := dok_at gdX11_rail_l0 2 rfl
theorem dX11_rail_5 : decode cX11_rail 5 = .ok (.ifCond .eq 15, 3) := dok_at gdX11_rail_l0 3 rfl
theorem dX11_rail_8 : decode cX11_rail 8 = .ok (.iload_n 2, 1) := dok_at gdX11_rail_l0 4 rfl
theorem dX11_rail_9 : decode cX11_rail 9 = .ok (.i2l, 1) := dok_at gdX11_rail_l0 5 rfl
theorem dX11_rail_10 : decode cX11_rail 10 = .ok (.lconst 0, 1) := dok_at gdX11_rail_l0 6 rfl
theorem dX11_rail_11 : decode cX11_rail 11 = .ok (.ldc2_w 161, 3) := dok_at gdX11_rail_l0 7 rfl
theorem dX11_rail_14 : decode cX11_rail 14 = .ok (.invokestatic 141, 3) := dok_at gdX11_rail_l0 8 rfl
theorem dX11_rail_17 : decode cX11_rail 17 = .ok (.ifCond .ne 7, 3) := dok_at gdX11_rail_l0 9 rfl
theorem dX11_rail_20 : decode cX11_rail 20 = .ok (.iconst (-1), 1) := dok_at gdX11_rail_l0 10 rfl
theorem dX11_rail_21 : decode cX11_rail 21 = .ok (.goto 24, 3) := dok_at gdX11_rail_l0 11 rfl
theorem dX11_rail_24 : decode cX11_rail 24 = .ok (.iload_n 2, 1) := dok_at gdX11_rail_l0 12 rfl
theorem dX11_rail_25 : decode cX11_rail 25 = .ok (.bipush 7, 2) := dok_at gdX11_rail_l0 13 rfl
theorem dX11_rail_27 : decode cX11_rail 27 = .ok (.if_icmp .ge 12, 3) := dok_at gdX11_rail_l0 14 rfl
theorem dX11_rail_30 : decode cX11_rail 30 = .ok (.aload_n 0, 1) := dok_at gdX11_rail_l0 15 rfl
theorem dX11_rail_31 : decode cX11_rail 31 = .ok (.iload_n 1, 1) := dok_at gdX11_rail_l0 16 rfl
theorem dX11_rail_32 : decode cX11_rail 32 = .ok (.iload_n 2, 1) := dok_at gdX11_rail_l0 17 rfl
theorem dX11_rail_33 : decode cX11_rail 33 = .ok (.invokevirtual 251, 3) := dok_at gdX11_rail_l0 18 rfl
theorem dX11_rail_36 : decode cX11_rail 36 = .ok (.goto 9, 3) := dok_at gdX11_rail_l0 19 rfl
theorem dX11_rail_39 : decode cX11_rail 39 = .ok (.aload_n 0, 1) := dok_at gdX11_rail_l0 20 rfl
theorem dX11_rail_40 : decode cX11_rail 40 = .ok (.getfield 13, 3) := dok_at gdX11_rail_l0 21 rfl
theorem dX11_rail_43 : decode cX11_rail 43 = .ok (.iload_n 1, 1) := dok_at gdX11_rail_l0 22 rfl
theorem dX11_rail_44 : decode cX11_rail 44 = .ok (.iaload, 1) := dok_at gdX11_rail_l0 23 rfl
def dX11_rail_l45 : List (Nat × Instr × Nat) := [(45, .ireturn, 1)]
theorem gdX11_rail_l45 : dok cX11_rail dX11_rail_l45 = true := by decide +kernel
theorem dX11_rail_45 : decode cX11_rail 45 = .ok (.ireturn, 1) := dok_at gdX11_rail_l45 0 rfl
def dX11_rule_l0 : List (Nat × Instr × Nat) := [(0, .iload_n 1, 1), (1, .ifCond .ne 10, 3), (4, .aload_n 0, 1), (5, .getfield 124, 3), (8, .goto 40, 3), (11, .iload_n 1, 1), (12, .iconst 1, 1), (13, .if_icmp .ne 10, 3), (16, .aload_n 0, 1), (17, .getfield 127, 3), (20, .goto 28, 3), (23, .iload_n 1, 1), (24, .iconst 2, 1), (25, .if_icmp .ne 10, 3), (28, .aload_n 0, 1), (29, .getfield 130, 3), (32, .goto 16, 3), (35, .iload_n 1, 1), (36, .iconst 3, 1), (37, .if_icmp .ne 10, 3), (40, .aload_n 0, 1), (41, .getfield 121, 3), (44, .goto 4, 3), (47, .iconst (-1), 1)]
theorem gdX11_rule_l0 : dok cX11_rule dX11_rule_l0 = true := by decide +kernel
theorem dX11_rule_0 : decode cX11_rule 0 = .ok (.iload_n 1, 1) := dok_at gdX11_rule_l0 0 rfl
theorem dX11_rule_1 : decode cX11_rule 1 = .ok (.ifCond .ne 10, 3) := dok_at gdX11_rule_l0 1 rfl
theorem dX11_rule_4 : decode cX11_rule 4 = .ok (.aload_n 0, 1) := dok_at gdX11_rule_l0 2 rfl
theorem dX11_rule_5 : decode cX11_rule 5 = .ok (.getfield 124, 3) := dok_at gdX11_rule_l0 3 rfl
theorem dX11_rule_8 : decode cX11_rule 8 = .ok (.goto 40, 3) := dok_at gdX11_rule_l0 4 rfl
theorem dX11_rule_11 : decode cX11_rule 11 = .ok (.iload_n 1, 1) := dok_at gdX11_rule_l0 5 rfl
theorem dX11_rule_12 : decode cX11_rule 12 = .ok (.iconst 1, 1) := dok_at gdX11_rule_l0 6 rfl
theorem dX11_rule_13 : decode cX11_rule 13 = .ok (.if_icmp .ne 10, 3) := dok_at gdX11_rule_l0 7 rfl
theorem dX11_rule_16 : decode cX11_rule 16 = .ok (.aload_n 0, 1) := dok_at gdX11_rule_l0 8 rfl
theorem dX11_rule_17 : decode cX11_rule 17 = .ok (.getfield 127, 3) := dok_at gdX11_rule_l0 9 rfl
theorem dX11_rule_20 : decode cX11_rule 20 = .ok (.goto 28, 3) := dok_at gdX11_rule_l0 10 rfl
theorem dX11_rule_23 : decode cX11_rule 23 = .ok (.iload_n 1, 1) := dok_at gdX11_rule_l0 11 rfl
theorem dX11_rule_24 : decode cX11_rule 24 = .ok (.iconst 2, 1) := dok_at gdX11_rule_l0 12 rfl
theorem dX11_rule_25 : decode cX11_rule 25 = .ok (.if_icmp .ne 10, 3) := dok_at gdX11_rule_l0 13 rfl
theorem dX11_rule_28 : decode cX11_rule 28 = .ok (.aload_n 0, 1) := dok_at gdX11_rule_l0 14 rfl
theorem dX11_rule_29 : decode cX11_rule 29 = .ok (.getfield 130, 3) := dok_at gdX11_rule_l0 15 rfl
theorem dX11_rule_32 : decode cX11_rule 32 = .ok (.goto 16, 3) := dok_at gdX11_rule_l0 16 rfl
theorem dX11_rule_35 : decode cX11_rule 35 = .ok (.iload_n 1, 1) := dok_at gdX11_rule_l0 17 rfl
theorem dX11_rule_36 : decode cX11_rule 36 = .ok (.iconst 3, 1) := dok_at gdX11_rule_l0 18 rfl
theorem dX11_rule_37 : decode cX11_rule 37 = .ok (.if_icmp .ne 10, 3) := dok_at gdX11_rule_l0 19 rfl
theorem dX11_rule_40 : decode cX11_rule 40 = .ok (.aload_n 0, 1) := dok_at gdX11_rule_l0 20 rfl
theorem dX11_rule_41 : decode cX11_rule 41 = .ok (.getfield 121, 3) := dok_at gdX11_rule_l0 21 rfl
theorem dX11_rule_44 : decode cX11_rule 44 = .ok (.goto 4, 3) := dok_at gdX11_rule_l0 22 rfl
theorem dX11_rule_47 : decode cX11_rule 47 = .ok (.iconst (-1), 1) := dok_at gdX11_rule_l0 23 rfl
def dX11_rule_l48 : List (Nat × Instr × Nat) := [(48, .ireturn, 1)]
theorem gdX11_rule_l48 : dok cX11_rule dX11_rule_l48 = true := by decide +kernel
theorem dX11_rule_48 : decode cX11_rule 48 = .ok (.ireturn, 1) := dok_at gdX11_rule_l48 0 rfl
def dX11_words_l0 : List (Nat × Instr × Nat) := [(0, .aload_n 0, 1), (1, .iload_n 1, 1), (2, .invokevirtual 248, 3), (5, .ifCond .eq 13, 3), (8, .iload_n 2, 1), (9, .ifCond .eq 11, 3), (12, .iload_n 2, 1), (13, .bipush 10, 2), (15, .if_icmp .ge 5, 3), (18, .iconst (-1), 1), (19, .ireturn, 1), (20, .iconst 0, 1), (21, .istore_n 3, 1), (22, .iconst 0, 1), (23, .istore 4, 2), (25, .iload 4, 2), (27, .sipush 512, 3), (30, .if_icmp .ge 33, 3), (33, .aload_n 0, 1), (34, .iload_n 1, 1), (35, .iload 4, 2), (37, .invokevirtual 264, 3), (40, .ifCond .eq 17, 3), (43, .iload_n 2, 1)]
theorem gdX11_words_l0 : dok cX11_words dX11_words_l0 = true := by decide +kernel
theorem dX11_words_0 : decode cX11_words 0 = .ok (.aload_n 0, 1) := dok_at gdX11_words_l0 0 rfl
theorem dX11_words_1 : decode cX11_words 1 = .ok (.iload_n 1, 1) := dok_at gdX11_words_l0 1 rfl
theorem dX11_words_2 : decode cX11_words 2 = .ok (.invokevirtual 248, 3) := dok_at gdX11_words_l0 2 rfl
theorem dX11_words_5 : decode cX11_words 5 = .ok (.ifCond .eq 13, 3) := dok_at gdX11_words_l0 3 rfl
theorem dX11_words_8 : decode cX11_words 8 = .ok (.iload_n 2, 1) := dok_at gdX11_words_l0 4 rfl
theorem dX11_words_9 : decode cX11_words 9 = .ok (.ifCond .eq 11, 3) := dok_at gdX11_words_l0 5 rfl
theorem dX11_words_12 : decode cX11_words 12 = .ok (.iload_n 2, 1) := dok_at gdX11_words_l0 6 rfl
theorem dX11_words_13 : decode cX11_words 13 = .ok (.bipush 10, 2) := dok_at gdX11_words_l0 7 rfl
theorem dX11_words_15 : decode cX11_words 15 = .ok (.if_icmp .ge 5, 3) := dok_at gdX11_words_l0 8 rfl
theorem dX11_words_18 : decode cX11_words 18 = .ok (.iconst (-1), 1) := dok_at gdX11_words_l0 9 rfl
theorem dX11_words_19 : decode cX11_words 19 = .ok (.ireturn, 1) := dok_at gdX11_words_l0 10 rfl
theorem dX11_words_20 : decode cX11_words 20 = .ok (.iconst 0, 1) := dok_at gdX11_words_l0 11 rfl
theorem dX11_words_21 : decode cX11_words 21 = .ok (.istore_n 3, 1) := dok_at gdX11_words_l0 12 rfl
theorem dX11_words_22 : decode cX11_words 22 = .ok (.iconst 0, 1) := dok_at gdX11_words_l0 13 rfl
theorem dX11_words_23 : decode cX11_words 23 = .ok (.istore 4, 2) := dok_at gdX11_words_l0 14 rfl
theorem dX11_words_25 : decode cX11_words 25 = .ok (.iload 4, 2) := dok_at gdX11_words_l0 15 rfl
theorem dX11_words_27 : decode cX11_words 27 = .ok (.sipush 512, 3) := dok_at gdX11_words_l0 16 rfl
theorem dX11_words_30 : decode cX11_words 30 = .ok (.if_icmp .ge 33, 3) := dok_at gdX11_words_l0 17 rfl
theorem dX11_words_33 : decode cX11_words 33 = .ok (.aload_n 0, 1) := dok_at gdX11_words_l0 18 rfl
theorem dX11_words_34 : decode cX11_words 34 = .ok (.iload_n 1, 1) := dok_at gdX11_words_l0 19 rfl
theorem dX11_words_35 : decode cX11_words 35 = .ok (.iload 4, 2) := dok_at gdX11_words_l0 20 rfl
theorem dX11_words_37 : decode cX11_words 37 = .ok (.invokevirtual 264, 3) := dok_at gdX11_words_l0 21 rfl
theorem dX11_words_40 : decode cX11_words 40 = .ok (.ifCond .eq 17, 3) := dok_at gdX11_words_l0 22 rfl
theorem dX11_words_43 : decode cX11_words 43 = .ok (.iload_n 2, 1) := dok_at gdX11_words_l0 23 rfl
def dX11_words_l44 : List (Nat × Instr × Nat) := [(44, .bipush 10, 2), (46, .iload_n 3, 1), (47, .iadd, 1), (48, .if_icmp .ne 6, 3), (51, .iload 4, 2), (53, .ireturn, 1), (54, .iinc 3 1, 3), (57, .iinc 4 1, 3), (60, .goto (-35), 3), (63, .iload_n 2, 1), (64, .ifCond .ne 7, 3), (67, .iload_n 3, 1), (68, .goto 4, 3), (71, .iconst (-1), 1), (72, .ireturn, 1)]
theorem gdX11_words_l44 : dok cX11_words dX11_words_l44 = true := by decide +kernel
theorem dX11_words_44 : decode cX11_words 44 = .ok (.bipush 10, 2) := dok_at gdX11_words_l44 0 rfl
theorem dX11_words_46 : decode cX11_words 46 = .ok (.iload_n 3, 1) := dok_at gdX11_words_l44 1 rfl
theorem dX11_words_47 : decode cX11_words 47 = .ok (.iadd, 1) := dok_at gdX11_words_l44 2 rfl
theorem dX11_words_48 : decode cX11_words 48 = .ok (.if_icmp .ne 6, 3) := dok_at gdX11_words_l44 3 rfl
theorem dX11_words_51 : decode cX11_words 51 = .ok (.iload 4, 2) := dok_at gdX11_words_l44 4 rfl
theorem dX11_words_53 : decode cX11_words 53 = .ok (.ireturn, 1) := dok_at gdX11_words_l44 5 rfl
theorem dX11_words_54 : decode cX11_words 54 = .ok (.iinc 3 1, 3) := dok_at gdX11_words_l44 6 rfl
theorem dX11_words_57 : decode cX11_words 57 = .ok (.iinc 4 1, 3) := dok_at gdX11_words_l44 7 rfl
theorem dX11_words_60 : decode cX11_words 60 = .ok (.goto (-35), 3) := dok_at gdX11_words_l44 8 rfl
theorem dX11_words_63 : decode cX11_words 63 = .ok (.iload_n 2, 1) := dok_at gdX11_words_l44 9 rfl
theorem dX11_words_64 : decode cX11_words 64 = .ok (.ifCond .ne 7, 3) := dok_at gdX11_words_l44 10 rfl
theorem dX11_words_67 : decode cX11_words 67 = .ok (.iload_n 3, 1) := dok_at gdX11_words_l44 11 rfl
theorem dX11_words_68 : decode cX11_words 68 = .ok (.goto 4, 3) := dok_at gdX11_words_l44 12 rfl
theorem dX11_words_71 : decode cX11_words 71 = .ok (.iconst (-1), 1) := dok_at gdX11_words_l44 13 rfl
theorem dX11_words_72 : decode cX11_words 72 = .ok (.ireturn, 1) := dok_at gdX11_words_l44 14 rfl
def dX11_time_l0 : List (Nat × Instr × Nat) := [(0, .aload_n 0, 1), (1, .iload_n 1, 1), (2, .invokevirtual 248, 3), (5, .ifCond .eq 25, 3), (8, .iload_n 2, 1), (9, .i2l, 1), (10, .aload_n 0, 1), (11, .iload_n 1, 1), (12, .iconst 0, 1), (13, .invokevirtual 251, 3), (16, .i2l, 1), (17, .aload_n 0, 1), (18, .iload_n 1, 1), (19, .iconst 1, 1), (20, .invokevirtual 251, 3), (23, .i2l, 1), (24, .invokestatic 141, 3), (27, .ifCond .ne 5, 3), (30, .iconst (-1), 1), (31, .ireturn, 1), (32, .aload_n 0, 1), (33, .getfield 59, 3), (36, .iload_n 1, 1), (37, .iaload, 1)]
theorem gdX11_time_l0 : dok cX11_time dX11_time_l0 = true := by decide +kernel
theorem dX11_time_0 : decode cX11_time 0 = .ok (.aload_n 0, 1) := dok_at gdX11_time_l0 0 rfl
theorem dX11_time_1 : decode cX11_time 1 = .ok (.iload_n 1, 1) := dok_at gdX11_time_l0 1 rfl
theorem dX11_time_2 : decode cX11_time 2 = .ok (.invokevirtual 248, 3) := dok_at gdX11_time_l0 2 rfl
theorem dX11_time_5 : decode cX11_time 5 = .ok (.ifCond .eq 25, 3) := dok_at gdX11_time_l0 3 rfl
theorem dX11_time_8 : decode cX11_time 8 = .ok (.iload_n 2, 1) := dok_at gdX11_time_l0 4 rfl
theorem dX11_time_9 : decode cX11_time 9 = .ok (.i2l, 1) := dok_at gdX11_time_l0 5 rfl
theorem dX11_time_10 : decode cX11_time 10 = .ok (.aload_n 0, 1) := dok_at gdX11_time_l0 6 rfl
theorem dX11_time_11 : decode cX11_time 11 = .ok (.iload_n 1, 1) := dok_at gdX11_time_l0 7 rfl
theorem dX11_time_12 : decode cX11_time 12 = .ok (.iconst 0, 1) := dok_at gdX11_time_l0 8 rfl
theorem dX11_time_13 : decode cX11_time 13 = .ok (.invokevirtual 251, 3) := dok_at gdX11_time_l0 9 rfl
theorem dX11_time_16 : decode cX11_time 16 = .ok (.i2l, 1) := dok_at gdX11_time_l0 10 rfl
theorem dX11_time_17 : decode cX11_time 17 = .ok (.aload_n 0, 1) := dok_at gdX11_time_l0 11 rfl
theorem dX11_time_18 : decode cX11_time 18 = .ok (.iload_n 1, 1) := dok_at gdX11_time_l0 12 rfl
theorem dX11_time_19 : decode cX11_time 19 = .ok (.iconst 1, 1) := dok_at gdX11_time_l0 13 rfl
theorem dX11_time_20 : decode cX11_time 20 = .ok (.invokevirtual 251, 3) := dok_at gdX11_time_l0 14 rfl
theorem dX11_time_23 : decode cX11_time 23 = .ok (.i2l, 1) := dok_at gdX11_time_l0 15 rfl
theorem dX11_time_24 : decode cX11_time 24 = .ok (.invokestatic 141, 3) := dok_at gdX11_time_l0 16 rfl
theorem dX11_time_27 : decode cX11_time 27 = .ok (.ifCond .ne 5, 3) := dok_at gdX11_time_l0 17 rfl
theorem dX11_time_30 : decode cX11_time 30 = .ok (.iconst (-1), 1) := dok_at gdX11_time_l0 18 rfl
theorem dX11_time_31 : decode cX11_time 31 = .ok (.ireturn, 1) := dok_at gdX11_time_l0 19 rfl
theorem dX11_time_32 : decode cX11_time 32 = .ok (.aload_n 0, 1) := dok_at gdX11_time_l0 20 rfl
theorem dX11_time_33 : decode cX11_time 33 = .ok (.getfield 59, 3) := dok_at gdX11_time_l0 21 rfl
theorem dX11_time_36 : decode cX11_time 36 = .ok (.iload_n 1, 1) := dok_at gdX11_time_l0 22 rfl
theorem dX11_time_37 : decode cX11_time 37 = .ok (.iaload, 1) := dok_at gdX11_time_l0 23 rfl
def dX11_time_l38 : List (Nat × Instr × Nat) := [(38, .istore_n 3, 1), (39, .aload_n 0, 1), (40, .getfield 59, 3), (43, .iload_n 1, 1), (44, .iload_n 2, 1), (45, .iastore, 1), (46, .iload_n 3, 1), (47, .ireturn, 1)]
theorem gdX11_time_l38 : dok cX11_time dX11_time_l38 = true := by decide +kernel
theorem dX11_time_38 : decode cX11_time 38 = .ok (.istore_n 3, 1) := dok_at gdX11_time_l38 0 rfl
theorem dX11_time_39 : decode cX11_time 39 = .ok (.aload_n 0, 1) := dok_at gdX11_time_l38 1 rfl
theorem dX11_time_40 : decode cX11_time 40 = .ok (.getfield 59, 3) := dok_at gdX11_time_l38 2 rfl
theorem dX11_time_43 : decode cX11_time 43 = .ok (.iload_n 1, 1) := dok_at gdX11_time_l38 3 rfl
theorem dX11_time_44 : decode cX11_time 44 = .ok (.iload_n 2, 1) := dok_at gdX11_time_l38 4 rfl
theorem dX11_time_45 : decode cX11_time 45 = .ok (.iastore, 1) := dok_at gdX11_time_l38 5 rfl
theorem dX11_time_46 : decode cX11_time 46 = .ok (.iload_n 3, 1) := dok_at gdX11_time_l38 6 rfl
theorem dX11_time_47 : decode cX11_time 47 = .ok (.ireturn, 1) := dok_at gdX11_time_l38 7 rfl
def dX11_round_l0 : List (Nat × Instr × Nat) := [(0, .aload_n 0, 1), (1, .iconst 3, 1), (2, .invokevirtual 291, 3), (5, .aload_n 0, 1), (6, .getfield 270, 3), (9, .ifCond .eq 9, 3), (12, .sipush 256, 3), (15, .goto 4, 3), (18, .iconst 0, 1), (19, .ior, 1), (20, .istore_n 1, 1), (21, .iconst 0, 1), (22, .istore_n 2, 1), (23, .iconst 0, 1), (24, .istore_n 3, 1), (25, .iload_n 3, 1), (26, .aload_n 0, 1), (27, .getfield 121, 3), (30, .if_icmp .ge 110, 3), (33, .aload_n 0, 1), (34, .iload_n 3, 1), (35, .aload_n 0, 1), (36, .getfield 273, 3), (39, .ifCond .ne 16, 3)]
theorem gdX11_round_l0 : dok cX11_round dX11_round_l0 = true := by decide +kernel
theorem dX11_round_0 : decode cX11_round 0 = .ok (.aload_n 0, 1) := dok_at gdX11_round_l0 0 rfl
theorem dX11_round_1 : decode cX11_round 1 = .ok (.iconst 3, 1) := dok_at gdX11_round_l0 1 rfl
theorem dX11_round_2 : decode cX11_round 2 = .ok (.invokevirtual 291, 3) := dok_at gdX11_round_l0 2 rfl
theorem dX11_round_5 : decode cX11_round 5 = .ok (.aload_n 0, 1) := dok_at gdX11_round_l0 3 rfl
theorem dX11_round_6 : decode cX11_round 6 = .ok (.getfield 270, 3) := dok_at gdX11_round_l0 4 rfl
theorem dX11_round_9 : decode cX11_round 9 = .ok (.ifCond .eq 9, 3) := dok_at gdX11_round_l0 5 rfl
theorem dX11_round_12 : decode cX11_round 12 = .ok (.sipush 256, 3) := dok_at gdX11_round_l0 6 rfl
theorem dX11_round_15 : decode cX11_round 15 = .ok (.goto 4, 3) := dok_at gdX11_round_l0 7 rfl
theorem dX11_round_18 : decode cX11_round 18 = .ok (.iconst 0, 1) := dok_at gdX11_round_l0 8 rfl
theorem dX11_round_19 : decode cX11_round 19 = .ok (.ior, 1) := dok_at gdX11_round_l0 9 rfl
theorem dX11_round_20 : decode cX11_round 20 = .ok (.istore_n 1, 1) := dok_at gdX11_round_l0 10 rfl
theorem dX11_round_21 : decode cX11_round 21 = .ok (.iconst 0, 1) := dok_at gdX11_round_l0 11 rfl
theorem dX11_round_22 : decode cX11_round 22 = .ok (.istore_n 2, 1) := dok_at gdX11_round_l0 12 rfl
theorem dX11_round_23 : decode cX11_round 23 = .ok (.iconst 0, 1) := dok_at gdX11_round_l0 13 rfl
theorem dX11_round_24 : decode cX11_round 24 = .ok (.istore_n 3, 1) := dok_at gdX11_round_l0 14 rfl
theorem dX11_round_25 : decode cX11_round 25 = .ok (.iload_n 3, 1) := dok_at gdX11_round_l0 15 rfl
theorem dX11_round_26 : decode cX11_round 26 = .ok (.aload_n 0, 1) := dok_at gdX11_round_l0 16 rfl
theorem dX11_round_27 : decode cX11_round 27 = .ok (.getfield 121, 3) := dok_at gdX11_round_l0 17 rfl
theorem dX11_round_30 : decode cX11_round 30 = .ok (.if_icmp .ge 110, 3) := dok_at gdX11_round_l0 18 rfl
theorem dX11_round_33 : decode cX11_round 33 = .ok (.aload_n 0, 1) := dok_at gdX11_round_l0 19 rfl
theorem dX11_round_34 : decode cX11_round 34 = .ok (.iload_n 3, 1) := dok_at gdX11_round_l0 20 rfl
theorem dX11_round_35 : decode cX11_round 35 = .ok (.aload_n 0, 1) := dok_at gdX11_round_l0 21 rfl
theorem dX11_round_36 : decode cX11_round 36 = .ok (.getfield 273, 3) := dok_at gdX11_round_l0 22 rfl
theorem dX11_round_39 : decode cX11_round 39 = .ok (.ifCond .ne 16, 3) := dok_at gdX11_round_l0 23 rfl
def dX11_round_l42 : List (Nat × Instr × Nat) := [(42, .aload_n 0, 1), (43, .iload_n 3, 1), (44, .iload_n 1, 1), (45, .invokevirtual 256, 3), (48, .ifCond .eq 7, 3), (51, .iconst 1, 1), (52, .goto 4, 3), (55, .iconst 0, 1), (56, .invokevirtual 294, 3), (59, .istore 4, 2), (61, .iload 4, 2), (63, .bipush (-4), 2), (65, .if_icmp .eq 69, 3), (68, .aload_n 0, 1), (69, .getfield 47, 3), (72, .iload_n 3, 1), (73, .iload 4, 2), (75, .iastore, 1), (76, .aload_n 0, 1), (77, .getfield 50, 3), (80, .iload_n 3, 1), (81, .iconst 0, 1), (82, .iastore, 1), (83, .aload_n 0, 1)]
theorem gdX11_round_l42 : dok cX11_round dX11_round_l42 = true := by decide +kernel
theorem dX11_round_42 : decode cX11_round 42 = .ok (.aload_n 0, 1) := dok_at gdX11_round_l42 0 rfl
theorem dX11_round_43 : decode cX11_round 43 = .ok (.iload_n 3, 1) := dok_at gdX11_round_l42 1 rfl
theorem dX11_round_44 : decode cX11_round 44 = .ok (.iload_n 1, 1) := dok_at gdX11_round_l42 2 rfl
theorem dX11_round_45 : decode cX11_round 45 = .ok (.invokevirtual 256, 3) := dok_at gdX11_round_l42 3 rfl
theorem dX11_round_48 : decode cX11_round 48 = .ok (.ifCond .eq 7, 3) := dok_at gdX11_round_l42 4 rfl
theorem dX11_round_51 : decode cX11_round 51 = .ok (.iconst 1, 1) := dok_at gdX11_round_l42 5 rfl
theorem dX11_round_52 : decode cX11_round 52 = .ok (.goto 4, 3) := dok_at gdX11_round_l42 6 rfl
theorem dX11_round_55 : decode cX11_round 55 = .ok (.iconst 0, 1) := dok_at gdX11_round_l42 7 rfl
theorem dX11_round_56 : decode cX11_round 56 = .ok (.invokevirtual 294, 3) := dok_at gdX11_round_l42 8 rfl
theorem dX11_round_59 : decode cX11_round 59 = .ok (.istore 4, 2) := dok_at gdX11_round_l42 9 rfl
theorem dX11_round_61 : decode cX11_round 61 = .ok (.iload 4, 2) := dok_at gdX11_round_l42 10 rfl
theorem dX11_round_63 : decode cX11_round 63 = .ok (.bipush (-4), 2) := dok_at gdX11_round_l42 11 rfl
theorem dX11_round_65 : decode cX11_round 65 = .ok (.if_icmp .eq 69, 3) := dok_at gdX11_round_l42 12 rfl
theorem dX11_round_68 : decode cX11_round 68 = .ok (.aload_n 0, 1) := dok_at gdX11_round_l42 13 rfl
theorem dX11_round_69 : decode cX11_round 69 = .ok (.getfield 47, 3) := dok_at gdX11_round_l42 14 rfl
theorem dX11_round_72 : decode cX11_round 72 = .ok (.iload_n 3, 1) := dok_at gdX11_round_l42 15 rfl
theorem dX11_round_73 : decode cX11_round 73 = .ok (.iload 4, 2) := dok_at gdX11_round_l42 16 rfl
theorem dX11_round_75 : decode cX11_round 75 = .ok (.iastore, 1) := dok_at gdX11_round_l42 17 rfl
theorem dX11_round_76 : decode cX11_round 76 = .ok (.aload_n 0, 1) := dok_at gdX11_round_l42 18 rfl
theorem dX11_round_77 : decode cX11_round 77 = .ok (.getfield 50, 3) := dok_at gdX11_round_l42 19 rfl
theorem dX11_round_80 : decode cX11_round 80 = .ok (.iload_n 3, 1) := dok_at gdX11_round_l42 20 rfl
theorem dX11_round_81 : decode cX11_round 81 = .ok (.iconst 0, 1) := dok_at gdX11_round_l42 21 rfl
theorem dX11_round_82 : decode cX11_round 82 = .ok (.iastore, 1) := dok_at gdX11_round_l42 22 rfl
theorem dX11_round_83 : decode cX11_round 83 = .ok (.aload_n 0, 1) := dok_at gdX11_round_l42 23 rfl
def dX11_round_l84 : List (Nat × Instr × Nat) := [(84, .getfield 53, 3), (87, .iload_n 3, 1), (88, .iload 4, 2), (90, .iconst 1, 1), (91, .if_icmp .ne 7, 3), (94, .iconst 0, 1), (95, .goto 9, 3), (98, .aload_n 0, 1), (99, .getfield 53, 3), (102, .iload_n 3, 1), (103, .iaload, 1), (104, .iastore, 1), (105, .aload_n 0, 1), (106, .getfield 62, 3), (109, .iload_n 3, 1), (110, .dup2, 1), (111, .iaload, 1), (112, .iload 4, 2), (114, .iconst 3, 1), (115, .if_icmp .ne 7, 3), (118, .iconst 1, 1), (119, .goto 4, 3), (122, .iconst 0, 1), (123, .iadd, 1)]
theorem gdX11_round_l84 : dok cX11_round dX11_round_l84 = true := by decide +kernel
theorem dX11_round_84 : decode cX11_round 84 = .ok (.getfield 53, 3) := dok_at gdX11_round_l84 0 rfl
theorem dX11_round_87 : decode cX11_round 87 = .ok (.iload_n 3, 1) := dok_at gdX11_round_l84 1 rfl
theorem dX11_round_88 : decode cX11_round 88 = .ok (.iload 4, 2) := dok_at gdX11_round_l84 2 rfl
theorem dX11_round_90 : decode cX11_round 90 = .ok (.iconst 1, 1) := dok_at gdX11_round_l84 3 rfl
theorem dX11_round_91 : decode cX11_round 91 = .ok (.if_icmp .ne 7, 3) := dok_at gdX11_round_l84 4 rfl
theorem dX11_round_94 : decode cX11_round 94 = .ok (.iconst 0, 1) := dok_at gdX11_round_l84 5 rfl
theorem dX11_round_95 : decode cX11_round 95 = .ok (.goto 9, 3) := dok_at gdX11_round_l84 6 rfl
theorem dX11_round_98 : decode cX11_round 98 = .ok (.aload_n 0, 1) := dok_at gdX11_round_l84 7 rfl
theorem dX11_round_99 : decode cX11_round 99 = .ok (.getfield 53, 3) := dok_at gdX11_round_l84 8 rfl
theorem dX11_round_102 : decode cX11_round 102 = .ok (.iload_n 3, 1) := dok_at gdX11_round_l84 9 rfl
theorem dX11_round_103 : decode cX11_round 103 = .ok (.iaload, 1) := dok_at gdX11_round_l84 10 rfl
theorem dX11_round_104 : decode cX11_round 104 = .ok (.iastore, 1) := dok_at gdX11_round_l84 11 rfl
theorem dX11_round_105 : decode cX11_round 105 = .ok (.aload_n 0, 1) := dok_at gdX11_round_l84 12 rfl
theorem dX11_round_106 : decode cX11_round 106 = .ok (.getfield 62, 3) := dok_at gdX11_round_l84 13 rfl
theorem dX11_round_109 : decode cX11_round 109 = .ok (.iload_n 3, 1) := dok_at gdX11_round_l84 14 rfl
theorem dX11_round_110 : decode cX11_round 110 = .ok (.dup2, 1) := dok_at gdX11_round_l84 15 rfl
theorem dX11_round_111 : decode cX11_round 111 = .ok (.iaload, 1) := dok_at gdX11_round_l84 16 rfl
theorem dX11_round_112 : decode cX11_round 112 = .ok (.iload 4, 2) := dok_at gdX11_round_l84 17 rfl
theorem dX11_round_114 : decode cX11_round 114 = .ok (.iconst 3, 1) := dok_at gdX11_round_l84 18 rfl
theorem dX11_round_115 : decode cX11_round 115 = .ok (.if_icmp .ne 7, 3) := dok_at gdX11_round_l84 19 rfl
theorem dX11_round_118 : decode cX11_round 118 = .ok (.iconst 1, 1) := dok_at gdX11_round_l84 20 rfl
theorem dX11_round_119 : decode cX11_round 119 = .ok (.goto 4, 3) := dok_at gdX11_round_l84 21 rfl
theorem dX11_round_122 : decode cX11_round 122 = .ok (.iconst 0, 1) := dok_at gdX11_round_l84 22 rfl
theorem dX11_round_123 : decode cX11_round 123 = .ok (.iadd, 1) := dok_at gdX11_round_l84 23 rfl
def dX11_round_l124 : List (Nat × Instr × Nat) := [(124, .iastore, 1), (125, .aload_n 0, 1), (126, .iload_n 3, 1), (127, .iload 4, 2), (129, .invokevirtual 298, 3), (132, .iconst 1, 1), (133, .istore_n 2, 1), (134, .iinc 3 1, 3), (137, .goto (-112), 3), (140, .iload_n 2, 1), (141, .ireturn, 1)]
theorem gdX11_round_l124 : dok cX11_round dX11_round_l124 = true := by decide +kernel
theorem dX11_round_124 : decode cX11_round 124 = .ok (.iastore, 1) := dok_at gdX11_round_l124 0 rfl
theorem dX11_round_125 : decode cX11_round 125 = .ok (.aload_n 0, 1) := dok_at gdX11_round_l124 1 rfl
theorem dX11_round_126 : decode cX11_round 126 = .ok (.iload_n 3, 1) := dok_at gdX11_round_l124 2 rfl
theorem dX11_round_127 : decode cX11_round 127 = .ok (.iload 4, 2) := dok_at gdX11_round_l124 3 rfl
theorem dX11_round_129 : decode cX11_round 129 = .ok (.invokevirtual 298, 3) := dok_at gdX11_round_l124 4 rfl
theorem dX11_round_132 : decode cX11_round 132 = .ok (.iconst 1, 1) := dok_at gdX11_round_l124 5 rfl
theorem dX11_round_133 : decode cX11_round 133 = .ok (.istore_n 2, 1) := dok_at gdX11_round_l124 6 rfl
theorem dX11_round_134 : decode cX11_round 134 = .ok (.iinc 3 1, 3) := dok_at gdX11_round_l124 7 rfl
theorem dX11_round_137 : decode cX11_round 137 = .ok (.goto (-112), 3) := dok_at gdX11_round_l124 8 rfl
theorem dX11_round_140 : decode cX11_round 140 = .ok (.iload_n 2, 1) := dok_at gdX11_round_l124 9 rfl
theorem dX11_round_141 : decode cX11_round 141 = .ok (.ireturn, 1) := dok_at gdX11_round_l124 10 rfl
def dX11_settles_l0 : List (Nat × Instr × Nat) := [(0, .iconst 1, 1), (1, .istore_n 1, 1), (2, .iload_n 1, 1), (3, .ifCond .eq 11, 3), (6, .aload_n 0, 1), (7, .invokevirtual 302, 3), (10, .istore_n 1, 1), (11, .goto (-9), 3), (14, .return_, 1)]
theorem gdX11_settles_l0 : dok cX11_settles dX11_settles_l0 = true := by decide +kernel
theorem dX11_settles_0 : decode cX11_settles 0 = .ok (.iconst 1, 1) := dok_at gdX11_settles_l0 0 rfl
theorem dX11_settles_1 : decode cX11_settles 1 = .ok (.istore_n 1, 1) := dok_at gdX11_settles_l0 1 rfl
theorem dX11_settles_2 : decode cX11_settles 2 = .ok (.iload_n 1, 1) := dok_at gdX11_settles_l0 2 rfl
theorem dX11_settles_3 : decode cX11_settles 3 = .ok (.ifCond .eq 11, 3) := dok_at gdX11_settles_l0 3 rfl
theorem dX11_settles_6 : decode cX11_settles 6 = .ok (.aload_n 0, 1) := dok_at gdX11_settles_l0 4 rfl
theorem dX11_settles_7 : decode cX11_settles 7 = .ok (.invokevirtual 302, 3) := dok_at gdX11_settles_l0 5 rfl
theorem dX11_settles_10 : decode cX11_settles 10 = .ok (.istore_n 1, 1) := dok_at gdX11_settles_l0 6 rfl
theorem dX11_settles_11 : decode cX11_settles 11 = .ok (.goto (-9), 3) := dok_at gdX11_settles_l0 7 rfl
theorem dX11_settles_14 : decode cX11_settles 14 = .ok (.return_, 1) := dok_at gdX11_settles_l0 8 rfl
def dX11_tripNow_l0 : List (Nat × Instr × Nat) := [(0, .iconst 0, 1), (1, .istore_n 1, 1), (2, .iconst 0, 1), (3, .istore_n 2, 1), (4, .iload_n 2, 1), (5, .aload_n 0, 1), (6, .getfield 121, 3), (9, .if_icmp .ge 65, 3), (12, .iload_n 1, 1), (13, .ifCond .ne 49, 3), (16, .aload_n 0, 1), (17, .iload_n 2, 1), (18, .bipush 6, 2), (20, .invokevirtual 251, 3), (23, .ifCond .le 43, 3), (26, .aload_n 0, 1), (27, .getfield 47, 3), (30, .iload_n 2, 1), (31, .iaload, 1), (32, .iconst 1, 1), (33, .if_icmp .eq 13, 3), (36, .aload_n 0, 1), (37, .getfield 47, 3), (40, .iload_n 2, 1)]
theorem gdX11_tripNow_l0 : dok cX11_tripNow dX11_tripNow_l0 = true := by decide +kernel
theorem dX11_tripNow_0 : decode cX11_tripNow 0 = .ok (.iconst 0, 1) := dok_at gdX11_tripNow_l0 0 rfl
theorem dX11_tripNow_1 : decode cX11_tripNow 1 = .ok (.istore_n 1, 1) := dok_at gdX11_tripNow_l0 1 rfl
theorem dX11_tripNow_2 : decode cX11_tripNow 2 = .ok (.iconst 0, 1) := dok_at gdX11_tripNow_l0 2 rfl
theorem dX11_tripNow_3 : decode cX11_tripNow 3 = .ok (.istore_n 2, 1) := dok_at gdX11_tripNow_l0 3 rfl
theorem dX11_tripNow_4 : decode cX11_tripNow 4 = .ok (.iload_n 2, 1) := dok_at gdX11_tripNow_l0 4 rfl
theorem dX11_tripNow_5 : decode cX11_tripNow 5 = .ok (.aload_n 0, 1) := dok_at gdX11_tripNow_l0 5 rfl
theorem dX11_tripNow_6 : decode cX11_tripNow 6 = .ok (.getfield 121, 3) := dok_at gdX11_tripNow_l0 6 rfl
theorem dX11_tripNow_9 : decode cX11_tripNow 9 = .ok (.if_icmp .ge 65, 3) := dok_at gdX11_tripNow_l0 7 rfl
theorem dX11_tripNow_12 : decode cX11_tripNow 12 = .ok (.iload_n 1, 1) := dok_at gdX11_tripNow_l0 8 rfl
theorem dX11_tripNow_13 : decode cX11_tripNow 13 = .ok (.ifCond .ne 49, 3) := dok_at gdX11_tripNow_l0 9 rfl
theorem dX11_tripNow_16 : decode cX11_tripNow 16 = .ok (.aload_n 0, 1) := dok_at gdX11_tripNow_l0 10 rfl
theorem dX11_tripNow_17 : decode cX11_tripNow 17 = .ok (.iload_n 2, 1) := dok_at gdX11_tripNow_l0 11 rfl
theorem dX11_tripNow_18 : decode cX11_tripNow 18 = .ok (.bipush 6, 2) := dok_at gdX11_tripNow_l0 12 rfl
theorem dX11_tripNow_20 : decode cX11_tripNow 20 = .ok (.invokevirtual 251, 3) := dok_at gdX11_tripNow_l0 13 rfl
theorem dX11_tripNow_23 : decode cX11_tripNow 23 = .ok (.ifCond .le 43, 3) := dok_at gdX11_tripNow_l0 14 rfl
theorem dX11_tripNow_26 : decode cX11_tripNow 26 = .ok (.aload_n 0, 1) := dok_at gdX11_tripNow_l0 15 rfl
theorem dX11_tripNow_27 : decode cX11_tripNow 27 = .ok (.getfield 47, 3) := dok_at gdX11_tripNow_l0 16 rfl
theorem dX11_tripNow_30 : decode cX11_tripNow 30 = .ok (.iload_n 2, 1) := dok_at gdX11_tripNow_l0 17 rfl
theorem dX11_tripNow_31 : decode cX11_tripNow 31 = .ok (.iaload, 1) := dok_at gdX11_tripNow_l0 18 rfl
theorem dX11_tripNow_32 : decode cX11_tripNow 32 = .ok (.iconst 1, 1) := dok_at gdX11_tripNow_l0 19 rfl
theorem dX11_tripNow_33 : decode cX11_tripNow 33 = .ok (.if_icmp .eq 13, 3) := dok_at gdX11_tripNow_l0 20 rfl
theorem dX11_tripNow_36 : decode cX11_tripNow 36 = .ok (.aload_n 0, 1) := dok_at gdX11_tripNow_l0 21 rfl
theorem dX11_tripNow_37 : decode cX11_tripNow 37 = .ok (.getfield 47, 3) := dok_at gdX11_tripNow_l0 22 rfl
theorem dX11_tripNow_40 : decode cX11_tripNow 40 = .ok (.iload_n 2, 1) := dok_at gdX11_tripNow_l0 23 rfl
def dX11_tripNow_l41 : List (Nat × Instr × Nat) := [(41, .iaload, 1), (42, .iconst 2, 1), (43, .if_icmp .ne 23, 3), (46, .aload_n 0, 1), (47, .getfield 53, 3), (50, .iload_n 2, 1), (51, .iaload, 1), (52, .aload_n 0, 1), (53, .iload_n 2, 1), (54, .bipush 6, 2), (56, .invokevirtual 251, 3), (59, .if_icmp .lt 7, 3), (62, .iconst 1, 1), (63, .goto 4, 3), (66, .iconst 0, 1), (67, .istore_n 1, 1), (68, .iinc 2 1, 3), (71, .goto (-67), 3), (74, .aload_n 0, 1), (75, .getfield 279, 3), (78, .aload_n 0, 1), (79, .getfield 124, 3), (82, .if_icmp .le 7, 3), (85, .iconst 1, 1)]
theorem gdX11_tripNow_l41 : dok cX11_tripNow dX11_tripNow_l41 = true := by decide +kernel
theorem dX11_tripNow_41 : decode cX11_tripNow 41 = .ok (.iaload, 1) := dok_at gdX11_tripNow_l41 0 rfl
theorem dX11_tripNow_42 : decode cX11_tripNow 42 = .ok (.iconst 2, 1) := dok_at gdX11_tripNow_l41 1 rfl
theorem dX11_tripNow_43 : decode cX11_tripNow 43 = .ok (.if_icmp .ne 23, 3) := dok_at gdX11_tripNow_l41 2 rfl
theorem dX11_tripNow_46 : decode cX11_tripNow 46 = .ok (.aload_n 0, 1) := dok_at gdX11_tripNow_l41 3 rfl
theorem dX11_tripNow_47 : decode cX11_tripNow 47 = .ok (.getfield 53, 3) := dok_at gdX11_tripNow_l41 4 rfl
theorem dX11_tripNow_50 : decode cX11_tripNow 50 = .ok (.iload_n 2, 1) := dok_at gdX11_tripNow_l41 5 rfl
theorem dX11_tripNow_51 : decode cX11_tripNow 51 = .ok (.iaload, 1) := dok_at gdX11_tripNow_l41 6 rfl
theorem dX11_tripNow_52 : decode cX11_tripNow 52 = .ok (.aload_n 0, 1) := dok_at gdX11_tripNow_l41 7 rfl
theorem dX11_tripNow_53 : decode cX11_tripNow 53 = .ok (.iload_n 2, 1) := dok_at gdX11_tripNow_l41 8 rfl
theorem dX11_tripNow_54 : decode cX11_tripNow 54 = .ok (.bipush 6, 2) := dok_at gdX11_tripNow_l41 9 rfl
theorem dX11_tripNow_56 : decode cX11_tripNow 56 = .ok (.invokevirtual 251, 3) := dok_at gdX11_tripNow_l41 10 rfl
theorem dX11_tripNow_59 : decode cX11_tripNow 59 = .ok (.if_icmp .lt 7, 3) := dok_at gdX11_tripNow_l41 11 rfl
theorem dX11_tripNow_62 : decode cX11_tripNow 62 = .ok (.iconst 1, 1) := dok_at gdX11_tripNow_l41 12 rfl
theorem dX11_tripNow_63 : decode cX11_tripNow 63 = .ok (.goto 4, 3) := dok_at gdX11_tripNow_l41 13 rfl
theorem dX11_tripNow_66 : decode cX11_tripNow 66 = .ok (.iconst 0, 1) := dok_at gdX11_tripNow_l41 14 rfl
theorem dX11_tripNow_67 : decode cX11_tripNow 67 = .ok (.istore_n 1, 1) := dok_at gdX11_tripNow_l41 15 rfl
theorem dX11_tripNow_68 : decode cX11_tripNow 68 = .ok (.iinc 2 1, 3) := dok_at gdX11_tripNow_l41 16 rfl
theorem dX11_tripNow_71 : decode cX11_tripNow 71 = .ok (.goto (-67), 3) := dok_at gdX11_tripNow_l41 17 rfl
theorem dX11_tripNow_74 : decode cX11_tripNow 74 = .ok (.aload_n 0, 1) := dok_at gdX11_tripNow_l41 18 rfl
theorem dX11_tripNow_75 : decode cX11_tripNow 75 = .ok (.getfield 279, 3) := dok_at gdX11_tripNow_l41 19 rfl
theorem dX11_tripNow_78 : decode cX11_tripNow 78 = .ok (.aload_n 0, 1) := dok_at gdX11_tripNow_l41 20 rfl
theorem dX11_tripNow_79 : decode cX11_tripNow 79 = .ok (.getfield 124, 3) := dok_at gdX11_tripNow_l41 21 rfl
theorem dX11_tripNow_82 : decode cX11_tripNow 82 = .ok (.if_icmp .le 7, 3) := dok_at gdX11_tripNow_l41 22 rfl
theorem dX11_tripNow_85 : decode cX11_tripNow 85 = .ok (.iconst 1, 1) := dok_at gdX11_tripNow_l41 23 rfl
def dX11_tripNow_l86 : List (Nat × Instr × Nat) := [(86, .goto 12, 3), (89, .iload_n 1, 1), (90, .ifCond .eq 7, 3), (93, .iconst 2, 1), (94, .goto 4, 3), (97, .iconst 0, 1), (98, .ireturn, 1)]
theorem gdX11_tripNow_l86 : dok cX11_tripNow dX11_tripNow_l86 = true := by decide +kernel
theorem dX11_tripNow_86 : decode cX11_tripNow 86 = .ok (.goto 12, 3) := dok_at gdX11_tripNow_l86 0 rfl
theorem dX11_tripNow_89 : decode cX11_tripNow 89 = .ok (.iload_n 1, 1) := dok_at gdX11_tripNow_l86 1 rfl
theorem dX11_tripNow_90 : decode cX11_tripNow 90 = .ok (.ifCond .eq 7, 3) := dok_at gdX11_tripNow_l86 2 rfl
theorem dX11_tripNow_93 : decode cX11_tripNow 93 = .ok (.iconst 2, 1) := dok_at gdX11_tripNow_l86 3 rfl
theorem dX11_tripNow_94 : decode cX11_tripNow 94 = .ok (.goto 4, 3) := dok_at gdX11_tripNow_l86 4 rfl
theorem dX11_tripNow_97 : decode cX11_tripNow 97 = .ok (.iconst 0, 1) := dok_at gdX11_tripNow_l86 5 rfl
theorem dX11_tripNow_98 : decode cX11_tripNow 98 = .ok (.ireturn, 1) := dok_at gdX11_tripNow_l86 6 rfl
def dX11_now_l0 : List (Nat × Instr × Nat) := [(0, .iload_n 1, 1), (1, .tableswitch 101 0 8 #[51, 56, 62, 68, 73, 78, 83, 88, 96], 51), (52, .aload_n 0, 1), (53, .getfield 267, 3), (56, .ireturn, 1), (57, .aload_n 0, 1), (58, .iconst 3, 1), (59, .invokevirtual 291, 3), (62, .ireturn, 1), (63, .aload_n 0, 1), (64, .iconst 2, 1), (65, .invokevirtual 291, 3), (68, .ireturn, 1), (69, .aload_n 0, 1), (70, .getfield 279, 3), (73, .ireturn, 1), (74, .aload_n 0, 1), (75, .getfield 273, 3), (78, .ireturn, 1), (79, .aload_n 0, 1), (80, .getfield 276, 3), (83, .ireturn, 1), (84, .aload_n 0, 1), (85, .getfield 282, 3)]
theorem gdX11_now_l0 : dok cX11_now dX11_now_l0 = true := by decide +kernel
theorem dX11_now_0 : decode cX11_now 0 = .ok (.iload_n 1, 1) := dok_at gdX11_now_l0 0 rfl
theorem dX11_now_1 : decode cX11_now 1 = .ok (.tableswitch 101 0 8 #[51, 56, 62, 68, 73, 78, 83, 88, 96], 51) := dok_at gdX11_now_l0 1 rfl
theorem dX11_now_52 : decode cX11_now 52 = .ok (.aload_n 0, 1) := dok_at gdX11_now_l0 2 rfl
theorem dX11_now_53 : decode cX11_now 53 = .ok (.getfield 267, 3) := dok_at gdX11_now_l0 3 rfl
theorem dX11_now_56 : decode cX11_now 56 = .ok (.ireturn, 1) := dok_at gdX11_now_l0 4 rfl
theorem dX11_now_57 : decode cX11_now 57 = .ok (.aload_n 0, 1) := dok_at gdX11_now_l0 5 rfl
theorem dX11_now_58 : decode cX11_now 58 = .ok (.iconst 3, 1) := dok_at gdX11_now_l0 6 rfl
theorem dX11_now_59 : decode cX11_now 59 = .ok (.invokevirtual 291, 3) := dok_at gdX11_now_l0 7 rfl
theorem dX11_now_62 : decode cX11_now 62 = .ok (.ireturn, 1) := dok_at gdX11_now_l0 8 rfl
theorem dX11_now_63 : decode cX11_now 63 = .ok (.aload_n 0, 1) := dok_at gdX11_now_l0 9 rfl
theorem dX11_now_64 : decode cX11_now 64 = .ok (.iconst 2, 1) := dok_at gdX11_now_l0 10 rfl
theorem dX11_now_65 : decode cX11_now 65 = .ok (.invokevirtual 291, 3) := dok_at gdX11_now_l0 11 rfl
theorem dX11_now_68 : decode cX11_now 68 = .ok (.ireturn, 1) := dok_at gdX11_now_l0 12 rfl
theorem dX11_now_69 : decode cX11_now 69 = .ok (.aload_n 0, 1) := dok_at gdX11_now_l0 13 rfl
theorem dX11_now_70 : decode cX11_now 70 = .ok (.getfield 279, 3) := dok_at gdX11_now_l0 14 rfl
theorem dX11_now_73 : decode cX11_now 73 = .ok (.ireturn, 1) := dok_at gdX11_now_l0 15 rfl
theorem dX11_now_74 : decode cX11_now 74 = .ok (.aload_n 0, 1) := dok_at gdX11_now_l0 16 rfl
theorem dX11_now_75 : decode cX11_now 75 = .ok (.getfield 273, 3) := dok_at gdX11_now_l0 17 rfl
theorem dX11_now_78 : decode cX11_now 78 = .ok (.ireturn, 1) := dok_at gdX11_now_l0 18 rfl
theorem dX11_now_79 : decode cX11_now 79 = .ok (.aload_n 0, 1) := dok_at gdX11_now_l0 19 rfl
theorem dX11_now_80 : decode cX11_now 80 = .ok (.getfield 276, 3) := dok_at gdX11_now_l0 20 rfl
theorem dX11_now_83 : decode cX11_now 83 = .ok (.ireturn, 1) := dok_at gdX11_now_l0 21 rfl
theorem dX11_now_84 : decode cX11_now 84 = .ok (.aload_n 0, 1) := dok_at gdX11_now_l0 22 rfl
theorem dX11_now_85 : decode cX11_now 85 = .ok (.getfield 282, 3) := dok_at gdX11_now_l0 23 rfl
def dX11_now_l88 : List (Nat × Instr × Nat) := [(88, .ireturn, 1), (89, .aload_n 0, 1), (90, .getfield 270, 3), (93, .invokestatic 260, 3), (96, .ireturn, 1), (97, .aload_n 0, 1), (98, .getfield 285, 3), (101, .ireturn, 1), (102, .bipush (-9), 2), (104, .ireturn, 1)]
theorem gdX11_now_l88 : dok cX11_now dX11_now_l88 = true := by decide +kernel
theorem dX11_now_88 : decode cX11_now 88 = .ok (.ireturn, 1) := dok_at gdX11_now_l88 0 rfl
theorem dX11_now_89 : decode cX11_now 89 = .ok (.aload_n 0, 1) := dok_at gdX11_now_l88 1 rfl
theorem dX11_now_90 : decode cX11_now 90 = .ok (.getfield 270, 3) := dok_at gdX11_now_l88 2 rfl
theorem dX11_now_93 : decode cX11_now 93 = .ok (.invokestatic 260, 3) := dok_at gdX11_now_l88 3 rfl
theorem dX11_now_96 : decode cX11_now 96 = .ok (.ireturn, 1) := dok_at gdX11_now_l88 4 rfl
theorem dX11_now_97 : decode cX11_now 97 = .ok (.aload_n 0, 1) := dok_at gdX11_now_l88 5 rfl
theorem dX11_now_98 : decode cX11_now 98 = .ok (.getfield 285, 3) := dok_at gdX11_now_l88 6 rfl
theorem dX11_now_101 : decode cX11_now 101 = .ok (.ireturn, 1) := dok_at gdX11_now_l88 7 rfl
theorem dX11_now_102 : decode cX11_now 102 = .ok (.bipush (-9), 2) := dok_at gdX11_now_l88 8 rfl
theorem dX11_now_104 : decode cX11_now 104 = .ok (.ireturn, 1) := dok_at gdX11_now_l88 9 rfl
def dX11_upBut_l0 : List (Nat × Instr × Nat) := [(0, .iconst 0, 1), (1, .istore_n 2, 1), (2, .iconst 1, 1), (3, .istore_n 3, 1), (4, .iload_n 3, 1), (5, .ifCond .eq 74, 3), (8, .iload_n 2, 1), (9, .istore 4, 2), (11, .iconst 0, 1), (12, .istore 5, 2), (14, .iload 5, 2), (16, .aload_n 0, 1), (17, .getfield 121, 3), (20, .if_icmp .ge 44, 3), (23, .iload_n 2, 1), (24, .iload_n 1, 1), (25, .iload 5, 2), (27, .ishr, 1), (28, .iconst 1, 1), (29, .iand, 1), (30, .ifCond .ne 25, 3), (33, .aload_n 0, 1), (34, .iload 5, 2), (36, .iload 4, 2)]
theorem gdX11_upBut_l0 : dok cX11_upBut dX11_upBut_l0 = true := by decide +kernel
theorem dX11_upBut_0 : decode cX11_upBut 0 = .ok (.iconst 0, 1) := dok_at gdX11_upBut_l0 0 rfl
theorem dX11_upBut_1 : decode cX11_upBut 1 = .ok (.istore_n 2, 1) := dok_at gdX11_upBut_l0 1 rfl
theorem dX11_upBut_2 : decode cX11_upBut 2 = .ok (.iconst 1, 1) := dok_at gdX11_upBut_l0 2 rfl
theorem dX11_upBut_3 : decode cX11_upBut 3 = .ok (.istore_n 3, 1) := dok_at gdX11_upBut_l0 3 rfl
theorem dX11_upBut_4 : decode cX11_upBut 4 = .ok (.iload_n 3, 1) := dok_at gdX11_upBut_l0 4 rfl
theorem dX11_upBut_5 : decode cX11_upBut 5 = .ok (.ifCond .eq 74, 3) := dok_at gdX11_upBut_l0 5 rfl
theorem dX11_upBut_8 : decode cX11_upBut 8 = .ok (.iload_n 2, 1) := dok_at gdX11_upBut_l0 6 rfl
theorem dX11_upBut_9 : decode cX11_upBut 9 = .ok (.istore 4, 2) := dok_at gdX11_upBut_l0 7 rfl
theorem dX11_upBut_11 : decode cX11_upBut 11 = .ok (.iconst 0, 1) := dok_at gdX11_upBut_l0 8 rfl
theorem dX11_upBut_12 : decode cX11_upBut 12 = .ok (.istore 5, 2) := dok_at gdX11_upBut_l0 9 rfl
theorem dX11_upBut_14 : decode cX11_upBut 14 = .ok (.iload 5, 2) := dok_at gdX11_upBut_l0 10 rfl
theorem dX11_upBut_16 : decode cX11_upBut 16 = .ok (.aload_n 0, 1) := dok_at gdX11_upBut_l0 11 rfl
theorem dX11_upBut_17 : decode cX11_upBut 17 = .ok (.getfield 121, 3) := dok_at gdX11_upBut_l0 12 rfl
theorem dX11_upBut_20 : decode cX11_upBut 20 = .ok (.if_icmp .ge 44, 3) := dok_at gdX11_upBut_l0 13 rfl
theorem dX11_upBut_23 : decode cX11_upBut 23 = .ok (.iload_n 2, 1) := dok_at gdX11_upBut_l0 14 rfl
theorem dX11_upBut_24 : decode cX11_upBut 24 = .ok (.iload_n 1, 1) := dok_at gdX11_upBut_l0 15 rfl
theorem dX11_upBut_25 : decode cX11_upBut 25 = .ok (.iload 5, 2) := dok_at gdX11_upBut_l0 16 rfl
theorem dX11_upBut_27 : decode cX11_upBut 27 = .ok (.ishr, 1) := dok_at gdX11_upBut_l0 17 rfl
theorem dX11_upBut_28 : decode cX11_upBut 28 = .ok (.iconst 1, 1) := dok_at gdX11_upBut_l0 18 rfl
theorem dX11_upBut_29 : decode cX11_upBut 29 = .ok (.iand, 1) := dok_at gdX11_upBut_l0 19 rfl
theorem dX11_upBut_30 : decode cX11_upBut 30 = .ok (.ifCond .ne 25, 3) := dok_at gdX11_upBut_l0 20 rfl
theorem dX11_upBut_33 : decode cX11_upBut 33 = .ok (.aload_n 0, 1) := dok_at gdX11_upBut_l0 21 rfl
theorem dX11_upBut_34 : decode cX11_upBut 34 = .ok (.iload 5, 2) := dok_at gdX11_upBut_l0 22 rfl
theorem dX11_upBut_36 : decode cX11_upBut 36 = .ok (.iload 4, 2) := dok_at gdX11_upBut_l0 23 rfl
def dX11_upBut_l38 : List (Nat × Instr × Nat) := [(38, .sipush 256, 3), (41, .ior, 1), (42, .invokevirtual 256, 3), (45, .ifCond .eq 10, 3), (48, .iconst 1, 1), (49, .iload 5, 2), (51, .ishl, 1), (52, .goto 4, 3), (55, .iconst 0, 1), (56, .ior, 1), (57, .istore_n 2, 1), (58, .iinc 5 1, 3), (61, .goto (-47), 3), (64, .iload_n 2, 1), (65, .iload 4, 2), (67, .if_icmp .eq 7, 3), (70, .iconst 1, 1), (71, .goto 4, 3), (74, .iconst 0, 1), (75, .istore_n 3, 1), (76, .goto (-72), 3), (79, .iload_n 2, 1), (80, .ireturn, 1)]
theorem gdX11_upBut_l38 : dok cX11_upBut dX11_upBut_l38 = true := by decide +kernel
theorem dX11_upBut_38 : decode cX11_upBut 38 = .ok (.sipush 256, 3) := dok_at gdX11_upBut_l38 0 rfl
theorem dX11_upBut_41 : decode cX11_upBut 41 = .ok (.ior, 1) := dok_at gdX11_upBut_l38 1 rfl
theorem dX11_upBut_42 : decode cX11_upBut 42 = .ok (.invokevirtual 256, 3) := dok_at gdX11_upBut_l38 2 rfl
theorem dX11_upBut_45 : decode cX11_upBut 45 = .ok (.ifCond .eq 10, 3) := dok_at gdX11_upBut_l38 3 rfl
theorem dX11_upBut_48 : decode cX11_upBut 48 = .ok (.iconst 1, 1) := dok_at gdX11_upBut_l38 4 rfl
theorem dX11_upBut_49 : decode cX11_upBut 49 = .ok (.iload 5, 2) := dok_at gdX11_upBut_l38 5 rfl
theorem dX11_upBut_51 : decode cX11_upBut 51 = .ok (.ishl, 1) := dok_at gdX11_upBut_l38 6 rfl
theorem dX11_upBut_52 : decode cX11_upBut 52 = .ok (.goto 4, 3) := dok_at gdX11_upBut_l38 7 rfl
theorem dX11_upBut_55 : decode cX11_upBut 55 = .ok (.iconst 0, 1) := dok_at gdX11_upBut_l38 8 rfl
theorem dX11_upBut_56 : decode cX11_upBut 56 = .ok (.ior, 1) := dok_at gdX11_upBut_l38 9 rfl
theorem dX11_upBut_57 : decode cX11_upBut 57 = .ok (.istore_n 2, 1) := dok_at gdX11_upBut_l38 10 rfl
theorem dX11_upBut_58 : decode cX11_upBut 58 = .ok (.iinc 5 1, 3) := dok_at gdX11_upBut_l38 11 rfl
theorem dX11_upBut_61 : decode cX11_upBut 61 = .ok (.goto (-47), 3) := dok_at gdX11_upBut_l38 12 rfl
theorem dX11_upBut_64 : decode cX11_upBut 64 = .ok (.iload_n 2, 1) := dok_at gdX11_upBut_l38 13 rfl
theorem dX11_upBut_65 : decode cX11_upBut 65 = .ok (.iload 4, 2) := dok_at gdX11_upBut_l38 14 rfl
theorem dX11_upBut_67 : decode cX11_upBut 67 = .ok (.if_icmp .eq 7, 3) := dok_at gdX11_upBut_l38 15 rfl
theorem dX11_upBut_70 : decode cX11_upBut 70 = .ok (.iconst 1, 1) := dok_at gdX11_upBut_l38 16 rfl
theorem dX11_upBut_71 : decode cX11_upBut 71 = .ok (.goto 4, 3) := dok_at gdX11_upBut_l38 17 rfl
theorem dX11_upBut_74 : decode cX11_upBut 74 = .ok (.iconst 0, 1) := dok_at gdX11_upBut_l38 18 rfl
theorem dX11_upBut_75 : decode cX11_upBut 75 = .ok (.istore_n 3, 1) := dok_at gdX11_upBut_l38 19 rfl
theorem dX11_upBut_76 : decode cX11_upBut 76 = .ok (.goto (-72), 3) := dok_at gdX11_upBut_l38 20 rfl
theorem dX11_upBut_79 : decode cX11_upBut 79 = .ok (.iload_n 2, 1) := dok_at gdX11_upBut_l38 21 rfl
theorem dX11_upBut_80 : decode cX11_upBut 80 = .ok (.ireturn, 1) := dok_at gdX11_upBut_l38 22 rfl
def dX11_up_l0 : List (Nat × Instr × Nat) := [(0, .iload_n 1, 1), (1, .i2l, 1), (2, .lconst 0, 1), (3, .ldc2_w 322, 3), (6, .invokestatic 141, 3), (9, .ifCond .ne 5, 3), (12, .iconst (-1), 1), (13, .ireturn, 1), (14, .iconst 1, 1), (15, .aload_n 0, 1), (16, .getfield 121, 3), (19, .ishl, 1), (20, .iconst 1, 1), (21, .isub, 1), (22, .istore_n 2, 1), (23, .aload_n 0, 1), (24, .aload_n 0, 1), (25, .invokevirtual 324, 3), (28, .invokevirtual 327, 3), (31, .istore_n 3, 1), (32, .iload_n 1, 1), (33, .ifCond .ne 7, 3), (36, .iload_n 3, 1), (37, .goto 32, 3)]
theorem gdX11_up_l0 : dok cX11_up dX11_up_l0 = true := by decide +kernel
theorem dX11_up_0 : decode cX11_up 0 = .ok (.iload_n 1, 1) := dok_at gdX11_up_l0 0 rfl
theorem dX11_up_1 : decode cX11_up 1 = .ok (.i2l, 1) := dok_at gdX11_up_l0 1 rfl
theorem dX11_up_2 : decode cX11_up 2 = .ok (.lconst 0, 1) := dok_at gdX11_up_l0 2 rfl
theorem dX11_up_3 : decode cX11_up 3 = .ok (.ldc2_w 322, 3) := dok_at gdX11_up_l0 3 rfl
theorem dX11_up_6 : decode cX11_up 6 = .ok (.invokestatic 141, 3) := dok_at gdX11_up_l0 4 rfl
theorem dX11_up_9 : decode cX11_up 9 = .ok (.ifCond .ne 5, 3) := dok_at gdX11_up_l0 5 rfl
theorem dX11_up_12 : decode cX11_up 12 = .ok (.iconst (-1), 1) := dok_at gdX11_up_l0 6 rfl
theorem dX11_up_13 : decode cX11_up 13 = .ok (.ireturn, 1) := dok_at gdX11_up_l0 7 rfl
theorem dX11_up_14 : decode cX11_up 14 = .ok (.iconst 1, 1) := dok_at gdX11_up_l0 8 rfl
theorem dX11_up_15 : decode cX11_up 15 = .ok (.aload_n 0, 1) := dok_at gdX11_up_l0 9 rfl
theorem dX11_up_16 : decode cX11_up 16 = .ok (.getfield 121, 3) := dok_at gdX11_up_l0 10 rfl
theorem dX11_up_19 : decode cX11_up 19 = .ok (.ishl, 1) := dok_at gdX11_up_l0 11 rfl
theorem dX11_up_20 : decode cX11_up 20 = .ok (.iconst 1, 1) := dok_at gdX11_up_l0 12 rfl
theorem dX11_up_21 : decode cX11_up 21 = .ok (.isub, 1) := dok_at gdX11_up_l0 13 rfl
theorem dX11_up_22 : decode cX11_up 22 = .ok (.istore_n 2, 1) := dok_at gdX11_up_l0 14 rfl
theorem dX11_up_23 : decode cX11_up 23 = .ok (.aload_n 0, 1) := dok_at gdX11_up_l0 15 rfl
theorem dX11_up_24 : decode cX11_up 24 = .ok (.aload_n 0, 1) := dok_at gdX11_up_l0 16 rfl
theorem dX11_up_25 : decode cX11_up 25 = .ok (.invokevirtual 324, 3) := dok_at gdX11_up_l0 17 rfl
theorem dX11_up_28 : decode cX11_up 28 = .ok (.invokevirtual 327, 3) := dok_at gdX11_up_l0 18 rfl
theorem dX11_up_31 : decode cX11_up 31 = .ok (.istore_n 3, 1) := dok_at gdX11_up_l0 19 rfl
theorem dX11_up_32 : decode cX11_up 32 = .ok (.iload_n 1, 1) := dok_at gdX11_up_l0 20 rfl
theorem dX11_up_33 : decode cX11_up 33 = .ok (.ifCond .ne 7, 3) := dok_at gdX11_up_l0 21 rfl
theorem dX11_up_36 : decode cX11_up 36 = .ok (.iload_n 3, 1) := dok_at gdX11_up_l0 22 rfl
theorem dX11_up_37 : decode cX11_up 37 = .ok (.goto 32, 3) := dok_at gdX11_up_l0 23 rfl
def dX11_up_l40 : List (Nat × Instr × Nat) := [(40, .iload_n 1, 1), (41, .iconst 1, 1), (42, .if_icmp .ne 18, 3), (45, .iload_n 2, 1), (46, .iload_n 3, 1), (47, .iconst (-1), 1), (48, .ixor, 1), (49, .iand, 1), (50, .aload_n 0, 1), (51, .invokevirtual 324, 3), (54, .iconst (-1), 1), (55, .ixor, 1), (56, .iand, 1), (57, .goto 12, 3), (60, .iload_n 2, 1), (61, .aload_n 0, 1), (62, .iconst 0, 1), (63, .invokevirtual 327, 3), (66, .iconst (-1), 1), (67, .ixor, 1), (68, .iand, 1), (69, .ireturn, 1)]
theorem gdX11_up_l40 : dok cX11_up dX11_up_l40 = true := by decide +kernel
theorem dX11_up_40 : decode cX11_up 40 = .ok (.iload_n 1, 1) := dok_at gdX11_up_l40 0 rfl
theorem dX11_up_41 : decode cX11_up 41 = .ok (.iconst 1, 1) := dok_at gdX11_up_l40 1 rfl
theorem dX11_up_42 : decode cX11_up 42 = .ok (.if_icmp .ne 18, 3) := dok_at gdX11_up_l40 2 rfl
theorem dX11_up_45 : decode cX11_up 45 = .ok (.iload_n 2, 1) := dok_at gdX11_up_l40 3 rfl
theorem dX11_up_46 : decode cX11_up 46 = .ok (.iload_n 3, 1) := dok_at gdX11_up_l40 4 rfl
theorem dX11_up_47 : decode cX11_up 47 = .ok (.iconst (-1), 1) := dok_at gdX11_up_l40 5 rfl
theorem dX11_up_48 : decode cX11_up 48 = .ok (.ixor, 1) := dok_at gdX11_up_l40 6 rfl
theorem dX11_up_49 : decode cX11_up 49 = .ok (.iand, 1) := dok_at gdX11_up_l40 7 rfl
theorem dX11_up_50 : decode cX11_up 50 = .ok (.aload_n 0, 1) := dok_at gdX11_up_l40 8 rfl
theorem dX11_up_51 : decode cX11_up 51 = .ok (.invokevirtual 324, 3) := dok_at gdX11_up_l40 9 rfl
theorem dX11_up_54 : decode cX11_up 54 = .ok (.iconst (-1), 1) := dok_at gdX11_up_l40 10 rfl
theorem dX11_up_55 : decode cX11_up 55 = .ok (.ixor, 1) := dok_at gdX11_up_l40 11 rfl
theorem dX11_up_56 : decode cX11_up 56 = .ok (.iand, 1) := dok_at gdX11_up_l40 12 rfl
theorem dX11_up_57 : decode cX11_up 57 = .ok (.goto 12, 3) := dok_at gdX11_up_l40 13 rfl
theorem dX11_up_60 : decode cX11_up 60 = .ok (.iload_n 2, 1) := dok_at gdX11_up_l40 14 rfl
theorem dX11_up_61 : decode cX11_up 61 = .ok (.aload_n 0, 1) := dok_at gdX11_up_l40 15 rfl
theorem dX11_up_62 : decode cX11_up 62 = .ok (.iconst 0, 1) := dok_at gdX11_up_l40 16 rfl
theorem dX11_up_63 : decode cX11_up 63 = .ok (.invokevirtual 327, 3) := dok_at gdX11_up_l40 17 rfl
theorem dX11_up_66 : decode cX11_up 66 = .ok (.iconst (-1), 1) := dok_at gdX11_up_l40 18 rfl
theorem dX11_up_67 : decode cX11_up 67 = .ok (.ixor, 1) := dok_at gdX11_up_l40 19 rfl
theorem dX11_up_68 : decode cX11_up 68 = .ok (.iand, 1) := dok_at gdX11_up_l40 20 rfl
theorem dX11_up_69 : decode cX11_up 69 = .ok (.ireturn, 1) := dok_at gdX11_up_l40 21 rfl
def dX11_setWaits_l0 : List (Nat × Instr × Nat) := [(0, .iconst 0, 1), (1, .istore_n 1, 1), (2, .iload_n 1, 1), (3, .aload_n 0, 1), (4, .getfield 121, 3), (7, .if_icmp .ge 21, 3), (10, .aload_n 0, 1), (11, .getfield 77, 3), (14, .iload_n 1, 1), (15, .aload_n 0, 1), (16, .iload_n 1, 1), (17, .iconst 5, 1), (18, .invokevirtual 251, 3), (21, .iastore, 1), (22, .iinc 1 1, 3), (25, .goto (-23), 3), (28, .return_, 1)]
theorem gdX11_setWaits_l0 : dok cX11_setWaits dX11_setWaits_l0 = true := by decide +kernel
theorem dX11_setWaits_0 : decode cX11_setWaits 0 = .ok (.iconst 0, 1) := dok_at gdX11_setWaits_l0 0 rfl
theorem dX11_setWaits_1 : decode cX11_setWaits 1 = .ok (.istore_n 1, 1) := dok_at gdX11_setWaits_l0 1 rfl
theorem dX11_setWaits_2 : decode cX11_setWaits 2 = .ok (.iload_n 1, 1) := dok_at gdX11_setWaits_l0 2 rfl
theorem dX11_setWaits_3 : decode cX11_setWaits 3 = .ok (.aload_n 0, 1) := dok_at gdX11_setWaits_l0 3 rfl
theorem dX11_setWaits_4 : decode cX11_setWaits 4 = .ok (.getfield 121, 3) := dok_at gdX11_setWaits_l0 4 rfl
theorem dX11_setWaits_7 : decode cX11_setWaits 7 = .ok (.if_icmp .ge 21, 3) := dok_at gdX11_setWaits_l0 5 rfl
theorem dX11_setWaits_10 : decode cX11_setWaits 10 = .ok (.aload_n 0, 1) := dok_at gdX11_setWaits_l0 6 rfl
theorem dX11_setWaits_11 : decode cX11_setWaits 11 = .ok (.getfield 77, 3) := dok_at gdX11_setWaits_l0 7 rfl
theorem dX11_setWaits_14 : decode cX11_setWaits 14 = .ok (.iload_n 1, 1) := dok_at gdX11_setWaits_l0 8 rfl
theorem dX11_setWaits_15 : decode cX11_setWaits 15 = .ok (.aload_n 0, 1) := dok_at gdX11_setWaits_l0 9 rfl
theorem dX11_setWaits_16 : decode cX11_setWaits 16 = .ok (.iload_n 1, 1) := dok_at gdX11_setWaits_l0 10 rfl
theorem dX11_setWaits_17 : decode cX11_setWaits 17 = .ok (.iconst 5, 1) := dok_at gdX11_setWaits_l0 11 rfl
theorem dX11_setWaits_18 : decode cX11_setWaits 18 = .ok (.invokevirtual 251, 3) := dok_at gdX11_setWaits_l0 12 rfl
theorem dX11_setWaits_21 : decode cX11_setWaits 21 = .ok (.iastore, 1) := dok_at gdX11_setWaits_l0 13 rfl
theorem dX11_setWaits_22 : decode cX11_setWaits 22 = .ok (.iinc 1 1, 3) := dok_at gdX11_setWaits_l0 14 rfl
theorem dX11_setWaits_25 : decode cX11_setWaits 25 = .ok (.goto (-23), 3) := dok_at gdX11_setWaits_l0 15 rfl
theorem dX11_setWaits_28 : decode cX11_setWaits 28 = .ok (.return_, 1) := dok_at gdX11_setWaits_l0 16 rfl
def dX11_setTimes_l0 : List (Nat × Instr × Nat) := [(0, .iconst 0, 1), (1, .istore_n 2, 1), (2, .iload_n 2, 1), (3, .aload_n 0, 1), (4, .getfield 121, 3), (7, .if_icmp .ge 36, 3), (10, .aload_n 0, 1), (11, .getfield 74, 3), (14, .iload_n 2, 1), (15, .iload_n 1, 1), (16, .ifCond .ne 12, 3), (19, .aload_n 0, 1), (20, .getfield 59, 3), (23, .iload_n 2, 1), (24, .iaload, 1), (25, .goto 11, 3), (28, .aload_n 0, 1), (29, .iload_n 2, 1), (30, .iload_n 1, 1), (31, .iconst 1, 1), (32, .isub, 1), (33, .invokevirtual 251, 3), (36, .iastore, 1), (37, .iinc 2 1, 3)]
theorem gdX11_setTimes_l0 : dok cX11_setTimes dX11_setTimes_l0 = true := by decide +kernel
theorem dX11_setTimes_0 : decode cX11_setTimes 0 = .ok (.iconst 0, 1) := dok_at gdX11_setTimes_l0 0 rfl
theorem dX11_setTimes_1 : decode cX11_setTimes 1 = .ok (.istore_n 2, 1) := dok_at gdX11_setTimes_l0 1 rfl
theorem dX11_setTimes_2 : decode cX11_setTimes 2 = .ok (.iload_n 2, 1) := dok_at gdX11_setTimes_l0 2 rfl
theorem dX11_setTimes_3 : decode cX11_setTimes 3 = .ok (.aload_n 0, 1) := dok_at gdX11_setTimes_l0 3 rfl
theorem dX11_setTimes_4 : decode cX11_setTimes 4 = .ok (.getfield 121, 3) := dok_at gdX11_setTimes_l0 4 rfl
theorem dX11_setTimes_7 : decode cX11_setTimes 7 = .ok (.if_icmp .ge 36, 3) := dok_at gdX11_setTimes_l0 5 rfl
theorem dX11_setTimes_10 : decode cX11_setTimes 10 = .ok (.aload_n 0, 1) := dok_at gdX11_setTimes_l0 6 rfl
theorem dX11_setTimes_11 : decode cX11_setTimes 11 = .ok (.getfield 74, 3) := dok_at gdX11_setTimes_l0 7 rfl
theorem dX11_setTimes_14 : decode cX11_setTimes 14 = .ok (.iload_n 2, 1) := dok_at gdX11_setTimes_l0 8 rfl
theorem dX11_setTimes_15 : decode cX11_setTimes 15 = .ok (.iload_n 1, 1) := dok_at gdX11_setTimes_l0 9 rfl
theorem dX11_setTimes_16 : decode cX11_setTimes 16 = .ok (.ifCond .ne 12, 3) := dok_at gdX11_setTimes_l0 10 rfl
theorem dX11_setTimes_19 : decode cX11_setTimes 19 = .ok (.aload_n 0, 1) := dok_at gdX11_setTimes_l0 11 rfl
theorem dX11_setTimes_20 : decode cX11_setTimes 20 = .ok (.getfield 59, 3) := dok_at gdX11_setTimes_l0 12 rfl
theorem dX11_setTimes_23 : decode cX11_setTimes 23 = .ok (.iload_n 2, 1) := dok_at gdX11_setTimes_l0 13 rfl
theorem dX11_setTimes_24 : decode cX11_setTimes 24 = .ok (.iaload, 1) := dok_at gdX11_setTimes_l0 14 rfl
theorem dX11_setTimes_25 : decode cX11_setTimes 25 = .ok (.goto 11, 3) := dok_at gdX11_setTimes_l0 15 rfl
theorem dX11_setTimes_28 : decode cX11_setTimes 28 = .ok (.aload_n 0, 1) := dok_at gdX11_setTimes_l0 16 rfl
theorem dX11_setTimes_29 : decode cX11_setTimes 29 = .ok (.iload_n 2, 1) := dok_at gdX11_setTimes_l0 17 rfl
theorem dX11_setTimes_30 : decode cX11_setTimes 30 = .ok (.iload_n 1, 1) := dok_at gdX11_setTimes_l0 18 rfl
theorem dX11_setTimes_31 : decode cX11_setTimes 31 = .ok (.iconst 1, 1) := dok_at gdX11_setTimes_l0 19 rfl
theorem dX11_setTimes_32 : decode cX11_setTimes 32 = .ok (.isub, 1) := dok_at gdX11_setTimes_l0 20 rfl
theorem dX11_setTimes_33 : decode cX11_setTimes 33 = .ok (.invokevirtual 251, 3) := dok_at gdX11_setTimes_l0 21 rfl
theorem dX11_setTimes_36 : decode cX11_setTimes 36 = .ok (.iastore, 1) := dok_at gdX11_setTimes_l0 22 rfl
theorem dX11_setTimes_37 : decode cX11_setTimes 37 = .ok (.iinc 2 1, 3) := dok_at gdX11_setTimes_l0 23 rfl
def dX11_setTimes_l40 : List (Nat × Instr × Nat) := [(40, .goto (-38), 3), (43, .return_, 1)]
theorem gdX11_setTimes_l40 : dok cX11_setTimes dX11_setTimes_l40 = true := by decide +kernel
theorem dX11_setTimes_40 : decode cX11_setTimes 40 = .ok (.goto (-38), 3) := dok_at gdX11_setTimes_l40 0 rfl
theorem dX11_setTimes_43 : decode cX11_setTimes 43 = .ok (.return_, 1) := dok_at gdX11_setTimes_l40 1 rfl
def dX11_when_l0 : List (Nat × Instr × Nat) := [(0, .aload_n 0, 1), (1, .iload_n 1, 1), (2, .invokevirtual 248, 3), (5, .ifCond .eq 15, 3), (8, .iload_n 2, 1), (9, .i2l, 1), (10, .lconst 0, 1), (11, .ldc2_w 322, 3), (14, .invokestatic 141, 3), (17, .ifCond .ne 5, 3), (20, .iconst (-1), 1), (21, .ireturn, 1), (22, .aload_n 0, 1), (23, .invokevirtual 334, 3), (26, .aload_n 0, 1), (27, .iload_n 2, 1), (28, .invokevirtual 337, 3), (31, .aload_n 0, 1), (32, .invokevirtual 340, 3), (35, .aload_n 0, 1), (36, .getfield 330, 3), (39, .iload_n 1, 1), (40, .ishr, 1), (41, .iconst 1, 1)]
theorem gdX11_when_l0 : dok cX11_when dX11_when_l0 = true := by decide +kernel
theorem dX11_when_0 : decode cX11_when 0 = .ok (.aload_n 0, 1) := dok_at gdX11_when_l0 0 rfl
theorem dX11_when_1 : decode cX11_when 1 = .ok (.iload_n 1, 1) := dok_at gdX11_when_l0 1 rfl
theorem dX11_when_2 : decode cX11_when 2 = .ok (.invokevirtual 248, 3) := dok_at gdX11_when_l0 2 rfl
theorem dX11_when_5 : decode cX11_when 5 = .ok (.ifCond .eq 15, 3) := dok_at gdX11_when_l0 3 rfl
theorem dX11_when_8 : decode cX11_when 8 = .ok (.iload_n 2, 1) := dok_at gdX11_when_l0 4 rfl
theorem dX11_when_9 : decode cX11_when 9 = .ok (.i2l, 1) := dok_at gdX11_when_l0 5 rfl
theorem dX11_when_10 : decode cX11_when 10 = .ok (.lconst 0, 1) := dok_at gdX11_when_l0 6 rfl
theorem dX11_when_11 : decode cX11_when 11 = .ok (.ldc2_w 322, 3) := dok_at gdX11_when_l0 7 rfl
theorem dX11_when_14 : decode cX11_when 14 = .ok (.invokestatic 141, 3) := dok_at gdX11_when_l0 8 rfl
theorem dX11_when_17 : decode cX11_when 17 = .ok (.ifCond .ne 5, 3) := dok_at gdX11_when_l0 9 rfl
theorem dX11_when_20 : decode cX11_when 20 = .ok (.iconst (-1), 1) := dok_at gdX11_when_l0 10 rfl
theorem dX11_when_21 : decode cX11_when 21 = .ok (.ireturn, 1) := dok_at gdX11_when_l0 11 rfl
theorem dX11_when_22 : decode cX11_when 22 = .ok (.aload_n 0, 1) := dok_at gdX11_when_l0 12 rfl
theorem dX11_when_23 : decode cX11_when 23 = .ok (.invokevirtual 334, 3) := dok_at gdX11_when_l0 13 rfl
theorem dX11_when_26 : decode cX11_when 26 = .ok (.aload_n 0, 1) := dok_at gdX11_when_l0 14 rfl
theorem dX11_when_27 : decode cX11_when 27 = .ok (.iload_n 2, 1) := dok_at gdX11_when_l0 15 rfl
theorem dX11_when_28 : decode cX11_when 28 = .ok (.invokevirtual 337, 3) := dok_at gdX11_when_l0 16 rfl
theorem dX11_when_31 : decode cX11_when 31 = .ok (.aload_n 0, 1) := dok_at gdX11_when_l0 17 rfl
theorem dX11_when_32 : decode cX11_when 32 = .ok (.invokevirtual 340, 3) := dok_at gdX11_when_l0 18 rfl
theorem dX11_when_35 : decode cX11_when 35 = .ok (.aload_n 0, 1) := dok_at gdX11_when_l0 19 rfl
theorem dX11_when_36 : decode cX11_when 36 = .ok (.getfield 330, 3) := dok_at gdX11_when_l0 20 rfl
theorem dX11_when_39 : decode cX11_when 39 = .ok (.iload_n 1, 1) := dok_at gdX11_when_l0 21 rfl
theorem dX11_when_40 : decode cX11_when 40 = .ok (.ishr, 1) := dok_at gdX11_when_l0 22 rfl
theorem dX11_when_41 : decode cX11_when 41 = .ok (.iconst 1, 1) := dok_at gdX11_when_l0 23 rfl
def dX11_when_l42 : List (Nat × Instr × Nat) := [(42, .iand, 1), (43, .iconst 1, 1), (44, .if_icmp .ne 12, 3), (47, .aload_n 0, 1), (48, .getfield 71, 3), (51, .iload_n 1, 1), (52, .iaload, 1), (53, .goto 5, 3), (56, .bipush (-4), 2), (58, .ireturn, 1)]
theorem gdX11_when_l42 : dok cX11_when dX11_when_l42 = true := by decide +kernel
theorem dX11_when_42 : decode cX11_when 42 = .ok (.iand, 1) := dok_at gdX11_when_l42 0 rfl
theorem dX11_when_43 : decode cX11_when 43 = .ok (.iconst 1, 1) := dok_at gdX11_when_l42 1 rfl
theorem dX11_when_44 : decode cX11_when 44 = .ok (.if_icmp .ne 12, 3) := dok_at gdX11_when_l42 2 rfl
theorem dX11_when_47 : decode cX11_when 47 = .ok (.aload_n 0, 1) := dok_at gdX11_when_l42 3 rfl
theorem dX11_when_48 : decode cX11_when 48 = .ok (.getfield 71, 3) := dok_at gdX11_when_l42 4 rfl
theorem dX11_when_51 : decode cX11_when 51 = .ok (.iload_n 1, 1) := dok_at gdX11_when_l42 5 rfl
theorem dX11_when_52 : decode cX11_when 52 = .ok (.iaload, 1) := dok_at gdX11_when_l42 6 rfl
theorem dX11_when_53 : decode cX11_when 53 = .ok (.goto 5, 3) := dok_at gdX11_when_l42 7 rfl
theorem dX11_when_56 : decode cX11_when 56 = .ok (.bipush (-4), 2) := dok_at gdX11_when_l42 8 rfl
theorem dX11_when_58 : decode cX11_when 58 = .ok (.ireturn, 1) := dok_at gdX11_when_l42 9 rfl
def dX11_ways_l0 : List (Nat × Instr × Nat) := [(0, .iconst 1, 1), (1, .istore_n 1, 1), (2, .iconst 0, 1), (3, .istore_n 2, 1), (4, .iload_n 2, 1), (5, .aload_n 0, 1), (6, .getfield 121, 3), (9, .if_icmp .ge 38, 3), (12, .iload_n 1, 1), (13, .sipush 20000, 3), (16, .if_icmp .le 7, 3), (19, .iload_n 1, 1), (20, .goto 20, 3), (23, .iload_n 1, 1), (24, .aload_n 0, 1), (25, .iload_n 2, 1), (26, .iconst 1, 1), (27, .invokevirtual 251, 3), (30, .aload_n 0, 1), (31, .iload_n 2, 1), (32, .iconst 0, 1), (33, .invokevirtual 251, 3), (36, .isub, 1), (37, .iconst 1, 1)]
theorem gdX11_ways_l0 : dok cX11_ways dX11_ways_l0 = true := by decide +kernel
theorem dX11_ways_0 : decode cX11_ways 0 = .ok (.iconst 1, 1) := dok_at gdX11_ways_l0 0 rfl
theorem dX11_ways_1 : decode cX11_ways 1 = .ok (.istore_n 1, 1) := dok_at gdX11_ways_l0 1 rfl
theorem dX11_ways_2 : decode cX11_ways 2 = .ok (.iconst 0, 1) := dok_at gdX11_ways_l0 2 rfl
theorem dX11_ways_3 : decode cX11_ways 3 = .ok (.istore_n 2, 1) := dok_at gdX11_ways_l0 3 rfl
theorem dX11_ways_4 : decode cX11_ways 4 = .ok (.iload_n 2, 1) := dok_at gdX11_ways_l0 4 rfl
theorem dX11_ways_5 : decode cX11_ways 5 = .ok (.aload_n 0, 1) := dok_at gdX11_ways_l0 5 rfl
theorem dX11_ways_6 : decode cX11_ways 6 = .ok (.getfield 121, 3) := dok_at gdX11_ways_l0 6 rfl
theorem dX11_ways_9 : decode cX11_ways 9 = .ok (.if_icmp .ge 38, 3) := dok_at gdX11_ways_l0 7 rfl
theorem dX11_ways_12 : decode cX11_ways 12 = .ok (.iload_n 1, 1) := dok_at gdX11_ways_l0 8 rfl
theorem dX11_ways_13 : decode cX11_ways 13 = .ok (.sipush 20000, 3) := dok_at gdX11_ways_l0 9 rfl
theorem dX11_ways_16 : decode cX11_ways 16 = .ok (.if_icmp .le 7, 3) := dok_at gdX11_ways_l0 10 rfl
theorem dX11_ways_19 : decode cX11_ways 19 = .ok (.iload_n 1, 1) := dok_at gdX11_ways_l0 11 rfl
theorem dX11_ways_20 : decode cX11_ways 20 = .ok (.goto 20, 3) := dok_at gdX11_ways_l0 12 rfl
theorem dX11_ways_23 : decode cX11_ways 23 = .ok (.iload_n 1, 1) := dok_at gdX11_ways_l0 13 rfl
theorem dX11_ways_24 : decode cX11_ways 24 = .ok (.aload_n 0, 1) := dok_at gdX11_ways_l0 14 rfl
theorem dX11_ways_25 : decode cX11_ways 25 = .ok (.iload_n 2, 1) := dok_at gdX11_ways_l0 15 rfl
theorem dX11_ways_26 : decode cX11_ways 26 = .ok (.iconst 1, 1) := dok_at gdX11_ways_l0 16 rfl
theorem dX11_ways_27 : decode cX11_ways 27 = .ok (.invokevirtual 251, 3) := dok_at gdX11_ways_l0 17 rfl
theorem dX11_ways_30 : decode cX11_ways 30 = .ok (.aload_n 0, 1) := dok_at gdX11_ways_l0 18 rfl
theorem dX11_ways_31 : decode cX11_ways 31 = .ok (.iload_n 2, 1) := dok_at gdX11_ways_l0 19 rfl
theorem dX11_ways_32 : decode cX11_ways 32 = .ok (.iconst 0, 1) := dok_at gdX11_ways_l0 20 rfl
theorem dX11_ways_33 : decode cX11_ways 33 = .ok (.invokevirtual 251, 3) := dok_at gdX11_ways_l0 21 rfl
theorem dX11_ways_36 : decode cX11_ways 36 = .ok (.isub, 1) := dok_at gdX11_ways_l0 22 rfl
theorem dX11_ways_37 : decode cX11_ways 37 = .ok (.iconst 1, 1) := dok_at gdX11_ways_l0 23 rfl
def dX11_ways_l38 : List (Nat × Instr × Nat) := [(38, .iadd, 1), (39, .imul, 1), (40, .istore_n 1, 1), (41, .iinc 2 1, 3), (44, .goto (-40), 3), (47, .iload_n 1, 1), (48, .ireturn, 1)]
theorem gdX11_ways_l38 : dok cX11_ways dX11_ways_l38 = true := by decide +kernel
theorem dX11_ways_38 : decode cX11_ways 38 = .ok (.iadd, 1) := dok_at gdX11_ways_l38 0 rfl
theorem dX11_ways_39 : decode cX11_ways 39 = .ok (.imul, 1) := dok_at gdX11_ways_l38 1 rfl
theorem dX11_ways_40 : decode cX11_ways 40 = .ok (.istore_n 1, 1) := dok_at gdX11_ways_l38 2 rfl
theorem dX11_ways_41 : decode cX11_ways 41 = .ok (.iinc 2 1, 3) := dok_at gdX11_ways_l38 3 rfl
theorem dX11_ways_44 : decode cX11_ways 44 = .ok (.goto (-40), 3) := dok_at gdX11_ways_l38 4 rfl
theorem dX11_ways_47 : decode cX11_ways 47 = .ok (.iload_n 1, 1) := dok_at gdX11_ways_l38 5 rfl
theorem dX11_ways_48 : decode cX11_ways 48 = .ok (.ireturn, 1) := dok_at gdX11_ways_l38 6 rfl
def dX11_peakNow_l0 : List (Nat × Instr × Nat) := [(0, .iconst (-1), 1), (1, .istore_n 1, 1), (2, .iconst 0, 1), (3, .istore_n 2, 1), (4, .iload_n 2, 1), (5, .sipush 200, 3), (8, .if_icmp .gt 43, 3), (11, .aload_n 0, 1), (12, .iload_n 2, 1), (13, .invokevirtual 350, 3), (16, .istore_n 3, 1), (17, .aload_n 0, 1), (18, .iload_n 3, 1), (19, .iload_n 1, 1), (20, .if_icmp .le 7, 3), (23, .iload_n 2, 1), (24, .goto 7, 3), (27, .aload_n 0, 1), (28, .getfield 353, 3), (31, .putfield 353, 3), (34, .iload_n 3, 1), (35, .iload_n 1, 1), (36, .if_icmp .le 7, 3), (39, .iload_n 3, 1)]
theorem gdX11_peakNow_l0 : dok cX11_peakNow dX11_peakNow_l0 = true := by decide +kernel
theorem dX11_peakNow_0 : decode cX11_peakNow 0 = .ok (.iconst (-1), 1) := dok_at gdX11_peakNow_l0 0 rfl
theorem dX11_peakNow_1 : decode cX11_peakNow 1 = .ok (.istore_n 1, 1) := dok_at gdX11_peakNow_l0 1 rfl
theorem dX11_peakNow_2 : decode cX11_peakNow 2 = .ok (.iconst 0, 1) := dok_at gdX11_peakNow_l0 2 rfl
theorem dX11_peakNow_3 : decode cX11_peakNow 3 = .ok (.istore_n 2, 1) := dok_at gdX11_peakNow_l0 3 rfl
theorem dX11_peakNow_4 : decode cX11_peakNow 4 = .ok (.iload_n 2, 1) := dok_at gdX11_peakNow_l0 4 rfl
theorem dX11_peakNow_5 : decode cX11_peakNow 5 = .ok (.sipush 200, 3) := dok_at gdX11_peakNow_l0 5 rfl
theorem dX11_peakNow_8 : decode cX11_peakNow 8 = .ok (.if_icmp .gt 43, 3) := dok_at gdX11_peakNow_l0 6 rfl
theorem dX11_peakNow_11 : decode cX11_peakNow 11 = .ok (.aload_n 0, 1) := dok_at gdX11_peakNow_l0 7 rfl
theorem dX11_peakNow_12 : decode cX11_peakNow 12 = .ok (.iload_n 2, 1) := dok_at gdX11_peakNow_l0 8 rfl
theorem dX11_peakNow_13 : decode cX11_peakNow 13 = .ok (.invokevirtual 350, 3) := dok_at gdX11_peakNow_l0 9 rfl
theorem dX11_peakNow_16 : decode cX11_peakNow 16 = .ok (.istore_n 3, 1) := dok_at gdX11_peakNow_l0 10 rfl
theorem dX11_peakNow_17 : decode cX11_peakNow 17 = .ok (.aload_n 0, 1) := dok_at gdX11_peakNow_l0 11 rfl
theorem dX11_peakNow_18 : decode cX11_peakNow 18 = .ok (.iload_n 3, 1) := dok_at gdX11_peakNow_l0 12 rfl
theorem dX11_peakNow_19 : decode cX11_peakNow 19 = .ok (.iload_n 1, 1) := dok_at gdX11_peakNow_l0 13 rfl
theorem dX11_peakNow_20 : decode cX11_peakNow 20 = .ok (.if_icmp .le 7, 3) := dok_at gdX11_peakNow_l0 14 rfl
theorem dX11_peakNow_23 : decode cX11_peakNow 23 = .ok (.iload_n 2, 1) := dok_at gdX11_peakNow_l0 15 rfl
theorem dX11_peakNow_24 : decode cX11_peakNow 24 = .ok (.goto 7, 3) := dok_at gdX11_peakNow_l0 16 rfl
theorem dX11_peakNow_27 : decode cX11_peakNow 27 = .ok (.aload_n 0, 1) := dok_at gdX11_peakNow_l0 17 rfl
theorem dX11_peakNow_28 : decode cX11_peakNow 28 = .ok (.getfield 353, 3) := dok_at gdX11_peakNow_l0 18 rfl
theorem dX11_peakNow_31 : decode cX11_peakNow 31 = .ok (.putfield 353, 3) := dok_at gdX11_peakNow_l0 19 rfl
theorem dX11_peakNow_34 : decode cX11_peakNow 34 = .ok (.iload_n 3, 1) := dok_at gdX11_peakNow_l0 20 rfl
theorem dX11_peakNow_35 : decode cX11_peakNow 35 = .ok (.iload_n 1, 1) := dok_at gdX11_peakNow_l0 21 rfl
theorem dX11_peakNow_36 : decode cX11_peakNow 36 = .ok (.if_icmp .le 7, 3) := dok_at gdX11_peakNow_l0 22 rfl
theorem dX11_peakNow_39 : decode cX11_peakNow 39 = .ok (.iload_n 3, 1) := dok_at gdX11_peakNow_l0 23 rfl
def dX11_peakNow_l40 : List (Nat × Instr × Nat) := [(40, .goto 4, 3), (43, .iload_n 1, 1), (44, .istore_n 1, 1), (45, .iinc 2 1, 3), (48, .goto (-44), 3), (51, .iload_n 1, 1), (52, .ireturn, 1)]
theorem gdX11_peakNow_l40 : dok cX11_peakNow dX11_peakNow_l40 = true := by decide +kernel
theorem dX11_peakNow_40 : decode cX11_peakNow 40 = .ok (.goto 4, 3) := dok_at gdX11_peakNow_l40 0 rfl
theorem dX11_peakNow_43 : decode cX11_peakNow 43 = .ok (.iload_n 1, 1) := dok_at gdX11_peakNow_l40 1 rfl
theorem dX11_peakNow_44 : decode cX11_peakNow 44 = .ok (.istore_n 1, 1) := dok_at gdX11_peakNow_l40 2 rfl
theorem dX11_peakNow_45 : decode cX11_peakNow 45 = .ok (.iinc 2 1, 3) := dok_at gdX11_peakNow_l40 3 rfl
theorem dX11_peakNow_48 : decode cX11_peakNow 48 = .ok (.goto (-44), 3) := dok_at gdX11_peakNow_l40 4 rfl
theorem dX11_peakNow_51 : decode cX11_peakNow 51 = .ok (.iload_n 1, 1) := dok_at gdX11_peakNow_l40 5 rfl
theorem dX11_peakNow_52 : decode cX11_peakNow 52 = .ok (.ireturn, 1) := dok_at gdX11_peakNow_l40 6 rfl
def dX11_peak_l0 : List (Nat × Instr × Nat) := [(0, .iload_n 1, 1), (1, .i2l, 1), (2, .lconst 0, 1), (3, .ldc2_w 356, 3), (6, .invokestatic 141, 3), (9, .ifCond .ne 5, 3), (12, .iconst (-1), 1), (13, .ireturn, 1), (14, .iload_n 1, 1), (15, .iconst 1, 1), (16, .if_icmp .le 16, 3), (19, .aload_n 0, 1), (20, .invokevirtual 343, 3), (23, .sipush 20000, 3), (26, .if_icmp .le 6, 3), (29, .bipush (-2), 2), (31, .ireturn, 1), (32, .aload_n 0, 1), (33, .aload_n 0, 1), (34, .invokevirtual 324, 3), (37, .invokevirtual 327, 3), (40, .ifCond .ne 6, 3), (43, .bipush (-4), 2), (45, .ireturn, 1)]
theorem gdX11_peak_l0 : dok cX11_peak dX11_peak_l0 = true := by decide +kernel
theorem dX11_peak_0 : decode cX11_peak 0 = .ok (.iload_n 1, 1) := dok_at gdX11_peak_l0 0 rfl
theorem dX11_peak_1 : decode cX11_peak 1 = .ok (.i2l, 1) := dok_at gdX11_peak_l0 1 rfl
theorem dX11_peak_2 : decode cX11_peak 2 = .ok (.lconst 0, 1) := dok_at gdX11_peak_l0 2 rfl
theorem dX11_peak_3 : decode cX11_peak 3 = .ok (.ldc2_w 356, 3) := dok_at gdX11_peak_l0 3 rfl
theorem dX11_peak_6 : decode cX11_peak 6 = .ok (.invokestatic 141, 3) := dok_at gdX11_peak_l0 4 rfl
theorem dX11_peak_9 : decode cX11_peak 9 = .ok (.ifCond .ne 5, 3) := dok_at gdX11_peak_l0 5 rfl
theorem dX11_peak_12 : decode cX11_peak 12 = .ok (.iconst (-1), 1) := dok_at gdX11_peak_l0 6 rfl
theorem dX11_peak_13 : decode cX11_peak 13 = .ok (.ireturn, 1) := dok_at gdX11_peak_l0 7 rfl
theorem dX11_peak_14 : decode cX11_peak 14 = .ok (.iload_n 1, 1) := dok_at gdX11_peak_l0 8 rfl
theorem dX11_peak_15 : decode cX11_peak 15 = .ok (.iconst 1, 1) := dok_at gdX11_peak_l0 9 rfl
theorem dX11_peak_16 : decode cX11_peak 16 = .ok (.if_icmp .le 16, 3) := dok_at gdX11_peak_l0 10 rfl
theorem dX11_peak_19 : decode cX11_peak 19 = .ok (.aload_n 0, 1) := dok_at gdX11_peak_l0 11 rfl
theorem dX11_peak_20 : decode cX11_peak 20 = .ok (.invokevirtual 343, 3) := dok_at gdX11_peak_l0 12 rfl
theorem dX11_peak_23 : decode cX11_peak 23 = .ok (.sipush 20000, 3) := dok_at gdX11_peak_l0 13 rfl
theorem dX11_peak_26 : decode cX11_peak 26 = .ok (.if_icmp .le 6, 3) := dok_at gdX11_peak_l0 14 rfl
theorem dX11_peak_29 : decode cX11_peak 29 = .ok (.bipush (-2), 2) := dok_at gdX11_peak_l0 15 rfl
theorem dX11_peak_31 : decode cX11_peak 31 = .ok (.ireturn, 1) := dok_at gdX11_peak_l0 16 rfl
theorem dX11_peak_32 : decode cX11_peak 32 = .ok (.aload_n 0, 1) := dok_at gdX11_peak_l0 17 rfl
theorem dX11_peak_33 : decode cX11_peak 33 = .ok (.aload_n 0, 1) := dok_at gdX11_peak_l0 18 rfl
theorem dX11_peak_34 : decode cX11_peak 34 = .ok (.invokevirtual 324, 3) := dok_at gdX11_peak_l0 19 rfl
theorem dX11_peak_37 : decode cX11_peak 37 = .ok (.invokevirtual 327, 3) := dok_at gdX11_peak_l0 20 rfl
theorem dX11_peak_40 : decode cX11_peak 40 = .ok (.ifCond .ne 6, 3) := dok_at gdX11_peak_l0 21 rfl
theorem dX11_peak_43 : decode cX11_peak 43 = .ok (.bipush (-4), 2) := dok_at gdX11_peak_l0 22 rfl
theorem dX11_peak_45 : decode cX11_peak 45 = .ok (.ireturn, 1) := dok_at gdX11_peak_l0 23 rfl
def dX11_peak_l46 : List (Nat × Instr × Nat) := [(46, .aload_n 0, 1), (47, .invokevirtual 334, 3), (50, .iload_n 1, 1), (51, .iconst 2, 1), (52, .if_icmp .ge 30, 3), (55, .aload_n 0, 1), (56, .iconst 0, 1), (57, .invokevirtual 337, 3), (60, .aload_n 0, 1), (61, .invokevirtual 340, 3), (64, .aload_n 0, 1), (65, .invokevirtual 358, 3), (68, .istore_n 2, 1), (69, .iload_n 1, 1), (70, .ifCond .ne 7, 3), (73, .iload_n 2, 1), (74, .goto 7, 3), (77, .aload_n 0, 1), (78, .getfield 353, 3), (81, .ireturn, 1), (82, .aload_n 0, 1), (83, .iconst 1, 1), (84, .invokevirtual 337, 3), (87, .bipush (-4), 2)]
theorem gdX11_peak_l46 : dok cX11_peak dX11_peak_l46 = true := by decide +kernel
theorem dX11_peak_46 : decode cX11_peak 46 = .ok (.aload_n 0, 1) := dok_at gdX11_peak_l46 0 rfl
theorem dX11_peak_47 : decode cX11_peak 47 = .ok (.invokevirtual 334, 3) := dok_at gdX11_peak_l46 1 rfl
theorem dX11_peak_50 : decode cX11_peak 50 = .ok (.iload_n 1, 1) := dok_at gdX11_peak_l46 2 rfl
theorem dX11_peak_51 : decode cX11_peak 51 = .ok (.iconst 2, 1) := dok_at gdX11_peak_l46 3 rfl
theorem dX11_peak_52 : decode cX11_peak 52 = .ok (.if_icmp .ge 30, 3) := dok_at gdX11_peak_l46 4 rfl
theorem dX11_peak_55 : decode cX11_peak 55 = .ok (.aload_n 0, 1) := dok_at gdX11_peak_l46 5 rfl
theorem dX11_peak_56 : decode cX11_peak 56 = .ok (.iconst 0, 1) := dok_at gdX11_peak_l46 6 rfl
theorem dX11_peak_57 : decode cX11_peak 57 = .ok (.invokevirtual 337, 3) := dok_at gdX11_peak_l46 7 rfl
theorem dX11_peak_60 : decode cX11_peak 60 = .ok (.aload_n 0, 1) := dok_at gdX11_peak_l46 8 rfl
theorem dX11_peak_61 : decode cX11_peak 61 = .ok (.invokevirtual 340, 3) := dok_at gdX11_peak_l46 9 rfl
theorem dX11_peak_64 : decode cX11_peak 64 = .ok (.aload_n 0, 1) := dok_at gdX11_peak_l46 10 rfl
theorem dX11_peak_65 : decode cX11_peak 65 = .ok (.invokevirtual 358, 3) := dok_at gdX11_peak_l46 11 rfl
theorem dX11_peak_68 : decode cX11_peak 68 = .ok (.istore_n 2, 1) := dok_at gdX11_peak_l46 12 rfl
theorem dX11_peak_69 : decode cX11_peak 69 = .ok (.iload_n 1, 1) := dok_at gdX11_peak_l46 13 rfl
theorem dX11_peak_70 : decode cX11_peak 70 = .ok (.ifCond .ne 7, 3) := dok_at gdX11_peak_l46 14 rfl
theorem dX11_peak_73 : decode cX11_peak 73 = .ok (.iload_n 2, 1) := dok_at gdX11_peak_l46 15 rfl
theorem dX11_peak_74 : decode cX11_peak 74 = .ok (.goto 7, 3) := dok_at gdX11_peak_l46 16 rfl
theorem dX11_peak_77 : decode cX11_peak 77 = .ok (.aload_n 0, 1) := dok_at gdX11_peak_l46 17 rfl
theorem dX11_peak_78 : decode cX11_peak 78 = .ok (.getfield 353, 3) := dok_at gdX11_peak_l46 18 rfl
theorem dX11_peak_81 : decode cX11_peak 81 = .ok (.ireturn, 1) := dok_at gdX11_peak_l46 19 rfl
theorem dX11_peak_82 : decode cX11_peak 82 = .ok (.aload_n 0, 1) := dok_at gdX11_peak_l46 20 rfl
theorem dX11_peak_83 : decode cX11_peak 83 = .ok (.iconst 1, 1) := dok_at gdX11_peak_l46 21 rfl
theorem dX11_peak_84 : decode cX11_peak 84 = .ok (.invokevirtual 337, 3) := dok_at gdX11_peak_l46 22 rfl
theorem dX11_peak_87 : decode cX11_peak 87 = .ok (.bipush (-4), 2) := dok_at gdX11_peak_l46 23 rfl
def dX11_peak_l89 : List (Nat × Instr × Nat) := [(89, .istore_n 2, 1), (90, .iconst 1, 1), (91, .istore_n 3, 1), (92, .iload_n 3, 1), (93, .ifCond .eq 54, 3), (96, .aload_n 0, 1), (97, .invokevirtual 340, 3), (100, .aload_n 0, 1), (101, .invokevirtual 358, 3), (104, .istore 4, 2), (106, .iload_n 2, 1), (107, .bipush (-4), 2), (109, .if_icmp .eq 23, 3), (112, .iload_n 1, 1), (113, .iconst 2, 1), (114, .if_icmp .ne 12, 3), (117, .iload 4, 2), (119, .iload_n 2, 1), (120, .if_icmp .le 17, 3), (123, .goto 9, 3), (126, .iload 4, 2), (128, .iload_n 2, 1), (129, .if_icmp .ge 8, 3), (132, .iload 4, 2)]
theorem gdX11_peak_l89 : dok cX11_peak dX11_peak_l89 = true := by decide +kernel
theorem dX11_peak_89 : decode cX11_peak 89 = .ok (.istore_n 2, 1) := dok_at gdX11_peak_l89 0 rfl
theorem dX11_peak_90 : decode cX11_peak 90 = .ok (.iconst 1, 1) := dok_at gdX11_peak_l89 1 rfl
theorem dX11_peak_91 : decode cX11_peak 91 = .ok (.istore_n 3, 1) := dok_at gdX11_peak_l89 2 rfl
theorem dX11_peak_92 : decode cX11_peak 92 = .ok (.iload_n 3, 1) := dok_at gdX11_peak_l89 3 rfl
theorem dX11_peak_93 : decode cX11_peak 93 = .ok (.ifCond .eq 54, 3) := dok_at gdX11_peak_l89 4 rfl
theorem dX11_peak_96 : decode cX11_peak 96 = .ok (.aload_n 0, 1) := dok_at gdX11_peak_l89 5 rfl
theorem dX11_peak_97 : decode cX11_peak 97 = .ok (.invokevirtual 340, 3) := dok_at gdX11_peak_l89 6 rfl
theorem dX11_peak_100 : decode cX11_peak 100 = .ok (.aload_n 0, 1) := dok_at gdX11_peak_l89 7 rfl
theorem dX11_peak_101 : decode cX11_peak 101 = .ok (.invokevirtual 358, 3) := dok_at gdX11_peak_l89 8 rfl
theorem dX11_peak_104 : decode cX11_peak 104 = .ok (.istore 4, 2) := dok_at gdX11_peak_l89 9 rfl
theorem dX11_peak_106 : decode cX11_peak 106 = .ok (.iload_n 2, 1) := dok_at gdX11_peak_l89 10 rfl
theorem dX11_peak_107 : decode cX11_peak 107 = .ok (.bipush (-4), 2) := dok_at gdX11_peak_l89 11 rfl
theorem dX11_peak_109 : decode cX11_peak 109 = .ok (.if_icmp .eq 23, 3) := dok_at gdX11_peak_l89 12 rfl
theorem dX11_peak_112 : decode cX11_peak 112 = .ok (.iload_n 1, 1) := dok_at gdX11_peak_l89 13 rfl
theorem dX11_peak_113 : decode cX11_peak 113 = .ok (.iconst 2, 1) := dok_at gdX11_peak_l89 14 rfl
theorem dX11_peak_114 : decode cX11_peak 114 = .ok (.if_icmp .ne 12, 3) := dok_at gdX11_peak_l89 15 rfl
theorem dX11_peak_117 : decode cX11_peak 117 = .ok (.iload 4, 2) := dok_at gdX11_peak_l89 16 rfl
theorem dX11_peak_119 : decode cX11_peak 119 = .ok (.iload_n 2, 1) := dok_at gdX11_peak_l89 17 rfl
theorem dX11_peak_120 : decode cX11_peak 120 = .ok (.if_icmp .le 17, 3) := dok_at gdX11_peak_l89 18 rfl
theorem dX11_peak_123 : decode cX11_peak 123 = .ok (.goto 9, 3) := dok_at gdX11_peak_l89 19 rfl
theorem dX11_peak_126 : decode cX11_peak 126 = .ok (.iload 4, 2) := dok_at gdX11_peak_l89 20 rfl
theorem dX11_peak_128 : decode cX11_peak 128 = .ok (.iload_n 2, 1) := dok_at gdX11_peak_l89 21 rfl
theorem dX11_peak_129 : decode cX11_peak 129 = .ok (.if_icmp .ge 8, 3) := dok_at gdX11_peak_l89 22 rfl
theorem dX11_peak_132 : decode cX11_peak 132 = .ok (.iload 4, 2) := dok_at gdX11_peak_l89 23 rfl
def dX11_peak_l134 : List (Nat × Instr × Nat) := [(134, .goto 4, 3), (137, .iload_n 2, 1), (138, .istore_n 2, 1), (139, .aload_n 0, 1), (140, .invokevirtual 347, 3), (143, .istore_n 3, 1), (144, .goto (-52), 3), (147, .iload_n 2, 1), (148, .ireturn, 1)]
theorem gdX11_peak_l134 : dok cX11_peak dX11_peak_l134 = true := by decide +kernel
theorem dX11_peak_134 : decode cX11_peak 134 = .ok (.goto 4, 3) := dok_at gdX11_peak_l134 0 rfl
theorem dX11_peak_137 : decode cX11_peak 137 = .ok (.iload_n 2, 1) := dok_at gdX11_peak_l134 1 rfl
theorem dX11_peak_138 : decode cX11_peak 138 = .ok (.istore_n 2, 1) := dok_at gdX11_peak_l134 2 rfl
theorem dX11_peak_139 : decode cX11_peak 139 = .ok (.aload_n 0, 1) := dok_at gdX11_peak_l134 3 rfl
theorem dX11_peak_140 : decode cX11_peak 140 = .ok (.invokevirtual 347, 3) := dok_at gdX11_peak_l134 4 rfl
theorem dX11_peak_143 : decode cX11_peak 143 = .ok (.istore_n 3, 1) := dok_at gdX11_peak_l134 5 rfl
theorem dX11_peak_144 : decode cX11_peak 144 = .ok (.goto (-52), 3) := dok_at gdX11_peak_l134 6 rfl
theorem dX11_peak_147 : decode cX11_peak 147 = .ok (.iload_n 2, 1) := dok_at gdX11_peak_l134 7 rfl
theorem dX11_peak_148 : decode cX11_peak 148 = .ok (.ireturn, 1) := dok_at gdX11_peak_l134 8 rfl
def dX11_stagger_l0 : List (Nat × Instr × Nat) := [(0, .iload_n 1, 1), (1, .ifCond .eq 24, 3), (4, .iload_n 1, 1), (5, .i2l, 1), (6, .ldc2_w 367, 3), (9, .bipush 9, 2), (11, .aload_n 0, 1), (12, .getfield 121, 3), (15, .iadd, 1), (16, .i2l, 1), (17, .invokestatic 141, 3), (20, .ifCond .ne 5, 3), (23, .iconst (-1), 1), (24, .ireturn, 1), (25, .aload_n 0, 1), (26, .getfield 121, 3), (29, .bipush 6, 2), (31, .if_icmp .le 6, 3), (34, .bipush (-2), 2), (36, .ireturn, 1), (37, .aload_n 0, 1), (38, .invokevirtual 369, 3), (41, .aload_n 0, 1), (42, .getfield 361, 3)]
theorem gdX11_stagger_l0 : dok cX11_stagger dX11_stagger_l0 = true := by decide +kernel
theorem dX11_stagger_0 : decode cX11_stagger 0 = .ok (.iload_n 1, 1) := dok_at gdX11_stagger_l0 0 rfl
theorem dX11_stagger_1 : decode cX11_stagger 1 = .ok (.ifCond .eq 24, 3) := dok_at gdX11_stagger_l0 1 rfl
theorem dX11_stagger_4 : decode cX11_stagger 4 = .ok (.iload_n 1, 1) := dok_at gdX11_stagger_l0 2 rfl
theorem dX11_stagger_5 : decode cX11_stagger 5 = .ok (.i2l, 1) := dok_at gdX11_stagger_l0 3 rfl
theorem dX11_stagger_6 : decode cX11_stagger 6 = .ok (.ldc2_w 367, 3) := dok_at gdX11_stagger_l0 4 rfl
theorem dX11_stagger_9 : decode cX11_stagger 9 = .ok (.bipush 9, 2) := dok_at gdX11_stagger_l0 5 rfl
theorem dX11_stagger_11 : decode cX11_stagger 11 = .ok (.aload_n 0, 1) := dok_at gdX11_stagger_l0 6 rfl
theorem dX11_stagger_12 : decode cX11_stagger 12 = .ok (.getfield 121, 3) := dok_at gdX11_stagger_l0 7 rfl
theorem dX11_stagger_15 : decode cX11_stagger 15 = .ok (.iadd, 1) := dok_at gdX11_stagger_l0 8 rfl
theorem dX11_stagger_16 : decode cX11_stagger 16 = .ok (.i2l, 1) := dok_at gdX11_stagger_l0 9 rfl
theorem dX11_stagger_17 : decode cX11_stagger 17 = .ok (.invokestatic 141, 3) := dok_at gdX11_stagger_l0 10 rfl
theorem dX11_stagger_20 : decode cX11_stagger 20 = .ok (.ifCond .ne 5, 3) := dok_at gdX11_stagger_l0 11 rfl
theorem dX11_stagger_23 : decode cX11_stagger 23 = .ok (.iconst (-1), 1) := dok_at gdX11_stagger_l0 12 rfl
theorem dX11_stagger_24 : decode cX11_stagger 24 = .ok (.ireturn, 1) := dok_at gdX11_stagger_l0 13 rfl
theorem dX11_stagger_25 : decode cX11_stagger 25 = .ok (.aload_n 0, 1) := dok_at gdX11_stagger_l0 14 rfl
theorem dX11_stagger_26 : decode cX11_stagger 26 = .ok (.getfield 121, 3) := dok_at gdX11_stagger_l0 15 rfl
theorem dX11_stagger_29 : decode cX11_stagger 29 = .ok (.bipush 6, 2) := dok_at gdX11_stagger_l0 16 rfl
theorem dX11_stagger_31 : decode cX11_stagger 31 = .ok (.if_icmp .le 6, 3) := dok_at gdX11_stagger_l0 17 rfl
theorem dX11_stagger_34 : decode cX11_stagger 34 = .ok (.bipush (-2), 2) := dok_at gdX11_stagger_l0 18 rfl
theorem dX11_stagger_36 : decode cX11_stagger 36 = .ok (.ireturn, 1) := dok_at gdX11_stagger_l0 19 rfl
theorem dX11_stagger_37 : decode cX11_stagger 37 = .ok (.aload_n 0, 1) := dok_at gdX11_stagger_l0 20 rfl
theorem dX11_stagger_38 : decode cX11_stagger 38 = .ok (.invokevirtual 369, 3) := dok_at gdX11_stagger_l0 21 rfl
theorem dX11_stagger_41 : decode cX11_stagger 41 = .ok (.aload_n 0, 1) := dok_at gdX11_stagger_l0 22 rfl
theorem dX11_stagger_42 : decode cX11_stagger 42 = .ok (.getfield 361, 3) := dok_at gdX11_stagger_l0 23 rfl
def dX11_stagger_l45 : List (Nat × Instr × Nat) := [(45, .bipush (-4), 2), (47, .if_icmp .ne 8, 3), (50, .bipush (-4), 2), (52, .goto 23, 3), (55, .iload_n 1, 1), (56, .ifCond .ne 10, 3), (59, .aload_n 0, 1), (60, .getfield 361, 3), (63, .goto 12, 3), (66, .aload_n 0, 1), (67, .getfield 80, 3), (70, .iload_n 1, 1), (71, .bipush 10, 2), (73, .isub, 1), (74, .iaload, 1), (75, .ireturn, 1)]
theorem gdX11_stagger_l45 : dok cX11_stagger dX11_stagger_l45 = true := by decide +kernel
theorem dX11_stagger_45 : decode cX11_stagger 45 = .ok (.bipush (-4), 2) := dok_at gdX11_stagger_l45 0 rfl
theorem dX11_stagger_47 : decode cX11_stagger 47 = .ok (.if_icmp .ne 8, 3) := dok_at gdX11_stagger_l45 1 rfl
theorem dX11_stagger_50 : decode cX11_stagger 50 = .ok (.bipush (-4), 2) := dok_at gdX11_stagger_l45 2 rfl
theorem dX11_stagger_52 : decode cX11_stagger 52 = .ok (.goto 23, 3) := dok_at gdX11_stagger_l45 3 rfl
theorem dX11_stagger_55 : decode cX11_stagger 55 = .ok (.iload_n 1, 1) := dok_at gdX11_stagger_l45 4 rfl
theorem dX11_stagger_56 : decode cX11_stagger 56 = .ok (.ifCond .ne 10, 3) := dok_at gdX11_stagger_l45 5 rfl
theorem dX11_stagger_59 : decode cX11_stagger 59 = .ok (.aload_n 0, 1) := dok_at gdX11_stagger_l45 6 rfl
theorem dX11_stagger_60 : decode cX11_stagger 60 = .ok (.getfield 361, 3) := dok_at gdX11_stagger_l45 7 rfl
theorem dX11_stagger_63 : decode cX11_stagger 63 = .ok (.goto 12, 3) := dok_at gdX11_stagger_l45 8 rfl
theorem dX11_stagger_66 : decode cX11_stagger 66 = .ok (.aload_n 0, 1) := dok_at gdX11_stagger_l45 9 rfl
theorem dX11_stagger_67 : decode cX11_stagger 67 = .ok (.getfield 80, 3) := dok_at gdX11_stagger_l45 10 rfl
theorem dX11_stagger_70 : decode cX11_stagger 70 = .ok (.iload_n 1, 1) := dok_at gdX11_stagger_l45 11 rfl
theorem dX11_stagger_71 : decode cX11_stagger 71 = .ok (.bipush 10, 2) := dok_at gdX11_stagger_l45 12 rfl
theorem dX11_stagger_73 : decode cX11_stagger 73 = .ok (.isub, 1) := dok_at gdX11_stagger_l45 13 rfl
theorem dX11_stagger_74 : decode cX11_stagger 74 = .ok (.iaload, 1) := dok_at gdX11_stagger_l45 14 rfl
theorem dX11_stagger_75 : decode cX11_stagger 75 = .ok (.ireturn, 1) := dok_at gdX11_stagger_l45 15 rfl
def dX11_need_l0 : List (Nat × Instr × Nat) := [(0, .aload_n 0, 1), (1, .iload_n 1, 1), (2, .invokevirtual 248, 3), (5, .ifCond .eq 13, 3), (8, .iload_n 2, 1), (9, .i2l, 1), (10, .lconst 0, 1), (11, .lconst 1, 1), (12, .invokestatic 141, 3), (15, .ifCond .ne 5, 3), (18, .iconst (-1), 1), (19, .ireturn, 1), (20, .aload_n 0, 1), (21, .iload_n 1, 1), (22, .aload_n 0, 1), (23, .invokevirtual 324, 3), (26, .invokevirtual 375, 3), (29, .ifCond .ne 6, 3), (32, .bipush (-2), 2), (34, .ireturn, 1), (35, .iconst 1, 1), (36, .aload_n 0, 1), (37, .getfield 121, 3), (40, .ishl, 1)]
theorem gdX11_need_l0 : dok cX11_need dX11_need_l0 = true := by decide +kernel
theorem dX11_need_0 : decode cX11_need 0 = .ok (.aload_n 0, 1) := dok_at gdX11_need_l0 0 rfl
theorem dX11_need_1 : decode cX11_need 1 = .ok (.iload_n 1, 1) := dok_at gdX11_need_l0 1 rfl
theorem dX11_need_2 : decode cX11_need 2 = .ok (.invokevirtual 248, 3) := dok_at gdX11_need_l0 2 rfl
theorem dX11_need_5 : decode cX11_need 5 = .ok (.ifCond .eq 13, 3) := dok_at gdX11_need_l0 3 rfl
theorem dX11_need_8 : decode cX11_need 8 = .ok (.iload_n 2, 1) := dok_at gdX11_need_l0 4 rfl
theorem dX11_need_9 : decode cX11_need 9 = .ok (.i2l, 1) := dok_at gdX11_need_l0 5 rfl
theorem dX11_need_10 : decode cX11_need 10 = .ok (.lconst 0, 1) := dok_at gdX11_need_l0 6 rfl
theorem dX11_need_11 : decode cX11_need 11 = .ok (.lconst 1, 1) := dok_at gdX11_need_l0 7 rfl
theorem dX11_need_12 : decode cX11_need 12 = .ok (.invokestatic 141, 3) := dok_at gdX11_need_l0 8 rfl
theorem dX11_need_15 : decode cX11_need 15 = .ok (.ifCond .ne 5, 3) := dok_at gdX11_need_l0 9 rfl
theorem dX11_need_18 : decode cX11_need 18 = .ok (.iconst (-1), 1) := dok_at gdX11_need_l0 10 rfl
theorem dX11_need_19 : decode cX11_need 19 = .ok (.ireturn, 1) := dok_at gdX11_need_l0 11 rfl
theorem dX11_need_20 : decode cX11_need 20 = .ok (.aload_n 0, 1) := dok_at gdX11_need_l0 12 rfl
theorem dX11_need_21 : decode cX11_need 21 = .ok (.iload_n 1, 1) := dok_at gdX11_need_l0 13 rfl
theorem dX11_need_22 : decode cX11_need 22 = .ok (.aload_n 0, 1) := dok_at gdX11_need_l0 14 rfl
theorem dX11_need_23 : decode cX11_need 23 = .ok (.invokevirtual 324, 3) := dok_at gdX11_need_l0 15 rfl
theorem dX11_need_26 : decode cX11_need 26 = .ok (.invokevirtual 375, 3) := dok_at gdX11_need_l0 16 rfl
theorem dX11_need_29 : decode cX11_need 29 = .ok (.ifCond .ne 6, 3) := dok_at gdX11_need_l0 17 rfl
theorem dX11_need_32 : decode cX11_need 32 = .ok (.bipush (-2), 2) := dok_at gdX11_need_l0 18 rfl
theorem dX11_need_34 : decode cX11_need 34 = .ok (.ireturn, 1) := dok_at gdX11_need_l0 19 rfl
theorem dX11_need_35 : decode cX11_need 35 = .ok (.iconst 1, 1) := dok_at gdX11_need_l0 20 rfl
theorem dX11_need_36 : decode cX11_need 36 = .ok (.aload_n 0, 1) := dok_at gdX11_need_l0 21 rfl
theorem dX11_need_37 : decode cX11_need 37 = .ok (.getfield 121, 3) := dok_at gdX11_need_l0 22 rfl
theorem dX11_need_40 : decode cX11_need 40 = .ok (.ishl, 1) := dok_at gdX11_need_l0 23 rfl
def dX11_need_l41 : List (Nat × Instr × Nat) := [(41, .iconst 1, 1), (42, .isub, 1), (43, .istore_n 3, 1), (44, .iload_n 3, 1), (45, .istore 4, 2), (47, .iconst 0, 1), (48, .istore 5, 2), (50, .iload 5, 2), (52, .iconst 1, 1), (53, .aload_n 0, 1), (54, .getfield 121, 3), (57, .ishl, 1), (58, .if_icmp .ge 73, 3), (61, .iload 5, 2), (63, .aload_n 0, 1), (64, .invokevirtual 324, 3), (67, .iand, 1), (68, .ifCond .ne 26, 3), (71, .iload 4, 2), (73, .iload_n 3, 1), (74, .if_icmp .eq 16, 3), (77, .iload 5, 2), (79, .invokestatic 378, 3), (82, .iload 4, 2)]
theorem gdX11_need_l41 : dok cX11_need dX11_need_l41 = true := by decide +kernel
theorem dX11_need_41 : decode cX11_need 41 = .ok (.iconst 1, 1) := dok_at gdX11_need_l41 0 rfl
theorem dX11_need_42 : decode cX11_need 42 = .ok (.isub, 1) := dok_at gdX11_need_l41 1 rfl
theorem dX11_need_43 : decode cX11_need 43 = .ok (.istore_n 3, 1) := dok_at gdX11_need_l41 2 rfl
theorem dX11_need_44 : decode cX11_need 44 = .ok (.iload_n 3, 1) := dok_at gdX11_need_l41 3 rfl
theorem dX11_need_45 : decode cX11_need 45 = .ok (.istore 4, 2) := dok_at gdX11_need_l41 4 rfl
theorem dX11_need_47 : decode cX11_need 47 = .ok (.iconst 0, 1) := dok_at gdX11_need_l41 5 rfl
theorem dX11_need_48 : decode cX11_need 48 = .ok (.istore 5, 2) := dok_at gdX11_need_l41 6 rfl
theorem dX11_need_50 : decode cX11_need 50 = .ok (.iload 5, 2) := dok_at gdX11_need_l41 7 rfl
theorem dX11_need_52 : decode cX11_need 52 = .ok (.iconst 1, 1) := dok_at gdX11_need_l41 8 rfl
theorem dX11_need_53 : decode cX11_need 53 = .ok (.aload_n 0, 1) := dok_at gdX11_need_l41 9 rfl
theorem dX11_need_54 : decode cX11_need 54 = .ok (.getfield 121, 3) := dok_at gdX11_need_l41 10 rfl
theorem dX11_need_57 : decode cX11_need 57 = .ok (.ishl, 1) := dok_at gdX11_need_l41 11 rfl
theorem dX11_need_58 : decode cX11_need 58 = .ok (.if_icmp .ge 73, 3) := dok_at gdX11_need_l41 12 rfl
theorem dX11_need_61 : decode cX11_need 61 = .ok (.iload 5, 2) := dok_at gdX11_need_l41 13 rfl
theorem dX11_need_63 : decode cX11_need 63 = .ok (.aload_n 0, 1) := dok_at gdX11_need_l41 14 rfl
theorem dX11_need_64 : decode cX11_need 64 = .ok (.invokevirtual 324, 3) := dok_at gdX11_need_l41 15 rfl
theorem dX11_need_67 : decode cX11_need 67 = .ok (.iand, 1) := dok_at gdX11_need_l41 16 rfl
theorem dX11_need_68 : decode cX11_need 68 = .ok (.ifCond .ne 26, 3) := dok_at gdX11_need_l41 17 rfl
theorem dX11_need_71 : decode cX11_need 71 = .ok (.iload 4, 2) := dok_at gdX11_need_l41 18 rfl
theorem dX11_need_73 : decode cX11_need 73 = .ok (.iload_n 3, 1) := dok_at gdX11_need_l41 19 rfl
theorem dX11_need_74 : decode cX11_need 74 = .ok (.if_icmp .eq 16, 3) := dok_at gdX11_need_l41 20 rfl
theorem dX11_need_77 : decode cX11_need 77 = .ok (.iload 5, 2) := dok_at gdX11_need_l41 21 rfl
theorem dX11_need_79 : decode cX11_need 79 = .ok (.invokestatic 378, 3) := dok_at gdX11_need_l41 22 rfl
theorem dX11_need_82 : decode cX11_need 82 = .ok (.iload 4, 2) := dok_at gdX11_need_l41 23 rfl
def dX11_need_l84 : List (Nat × Instr × Nat) := [(84, .invokestatic 378, 3), (87, .if_icmp .ge 7, 3), (90, .iconst 1, 1), (91, .goto 4, 3), (94, .iconst 0, 1), (95, .istore 6, 2), (97, .iload 6, 2), (99, .ifCond .eq 22, 3), (102, .aload_n 0, 1), (103, .iload_n 1, 1), (104, .iload_n 3, 1), (105, .iload 5, 2), (107, .iconst (-1), 1), (108, .ixor, 1), (109, .iand, 1), (110, .invokevirtual 375, 3), (113, .ifCond .eq 8, 3), (116, .iload 5, 2), (118, .goto 5, 3), (121, .iload 4, 2), (123, .istore 4, 2), (125, .iinc 5 1, 3), (128, .goto (-78), 3), (131, .iload_n 2, 1)]
theorem gdX11_need_l84 : dok cX11_need dX11_need_l84 = true := by decide +kernel
theorem dX11_need_84 : decode cX11_need 84 = .ok (.invokestatic 378, 3) := dok_at gdX11_need_l84 0 rfl
theorem dX11_need_87 : decode cX11_need 87 = .ok (.if_icmp .ge 7, 3) := dok_at gdX11_need_l84 1 rfl
theorem dX11_need_90 : decode cX11_need 90 = .ok (.iconst 1, 1) := dok_at gdX11_need_l84 2 rfl
theorem dX11_need_91 : decode cX11_need 91 = .ok (.goto 4, 3) := dok_at gdX11_need_l84 3 rfl
theorem dX11_need_94 : decode cX11_need 94 = .ok (.iconst 0, 1) := dok_at gdX11_need_l84 4 rfl
theorem dX11_need_95 : decode cX11_need 95 = .ok (.istore 6, 2) := dok_at gdX11_need_l84 5 rfl
theorem dX11_need_97 : decode cX11_need 97 = .ok (.iload 6, 2) := dok_at gdX11_need_l84 6 rfl
theorem dX11_need_99 : decode cX11_need 99 = .ok (.ifCond .eq 22, 3) := dok_at gdX11_need_l84 7 rfl
theorem dX11_need_102 : decode cX11_need 102 = .ok (.aload_n 0, 1) := dok_at gdX11_need_l84 8 rfl
theorem dX11_need_103 : decode cX11_need 103 = .ok (.iload_n 1, 1) := dok_at gdX11_need_l84 9 rfl
theorem dX11_need_104 : decode cX11_need 104 = .ok (.iload_n 3, 1) := dok_at gdX11_need_l84 10 rfl
theorem dX11_need_105 : decode cX11_need 105 = .ok (.iload 5, 2) := dok_at gdX11_need_l84 11 rfl
theorem dX11_need_107 : decode cX11_need 107 = .ok (.iconst (-1), 1) := dok_at gdX11_need_l84 12 rfl
theorem dX11_need_108 : decode cX11_need 108 = .ok (.ixor, 1) := dok_at gdX11_need_l84 13 rfl
theorem dX11_need_109 : decode cX11_need 109 = .ok (.iand, 1) := dok_at gdX11_need_l84 14 rfl
theorem dX11_need_110 : decode cX11_need 110 = .ok (.invokevirtual 375, 3) := dok_at gdX11_need_l84 15 rfl
theorem dX11_need_113 : decode cX11_need 113 = .ok (.ifCond .eq 8, 3) := dok_at gdX11_need_l84 16 rfl
theorem dX11_need_116 : decode cX11_need 116 = .ok (.iload 5, 2) := dok_at gdX11_need_l84 17 rfl
theorem dX11_need_118 : decode cX11_need 118 = .ok (.goto 5, 3) := dok_at gdX11_need_l84 18 rfl
theorem dX11_need_121 : decode cX11_need 121 = .ok (.iload 4, 2) := dok_at gdX11_need_l84 19 rfl
theorem dX11_need_123 : decode cX11_need 123 = .ok (.istore 4, 2) := dok_at gdX11_need_l84 20 rfl
theorem dX11_need_125 : decode cX11_need 125 = .ok (.iinc 5 1, 3) := dok_at gdX11_need_l84 21 rfl
theorem dX11_need_128 : decode cX11_need 128 = .ok (.goto (-78), 3) := dok_at gdX11_need_l84 22 rfl
theorem dX11_need_131 : decode cX11_need 131 = .ok (.iload_n 2, 1) := dok_at gdX11_need_l84 23 rfl
def dX11_need_l132 : List (Nat × Instr × Nat) := [(132, .ifCond .ne 11, 3), (135, .iload 4, 2), (137, .invokestatic 378, 3), (140, .goto 5, 3), (143, .iload 4, 2), (145, .ireturn, 1)]
theorem gdX11_need_l132 : dok cX11_need dX11_need_l132 = true := by decide +kernel
theorem dX11_need_132 : decode cX11_need 132 = .ok (.ifCond .ne 11, 3) := dok_at gdX11_need_l132 0 rfl
theorem dX11_need_135 : decode cX11_need 135 = .ok (.iload 4, 2) := dok_at gdX11_need_l132 1 rfl
theorem dX11_need_137 : decode cX11_need 137 = .ok (.invokestatic 378, 3) := dok_at gdX11_need_l132 2 rfl
theorem dX11_need_140 : decode cX11_need 140 = .ok (.goto 5, 3) := dok_at gdX11_need_l132 3 rfl
theorem dX11_need_143 : decode cX11_need 143 = .ok (.iload 4, 2) := dok_at gdX11_need_l132 4 rfl
theorem dX11_need_145 : decode cX11_need 145 = .ok (.ireturn, 1) := dok_at gdX11_need_l132 5 rfl
def dX11_seen_l0 : List (Nat × Instr × Nat) := [(0, .aload_n 0, 1), (1, .iload_n 1, 1), (2, .invokevirtual 372, 3), (5, .ifCond .ne 5, 3), (8, .iconst (-1), 1), (9, .ireturn, 1), (10, .aload_n 0, 1), (11, .iconst 0, 1), (12, .invokevirtual 327, 3), (15, .iload_n 1, 1), (16, .if_icmp .ne 9, 3), (19, .sipush 256, 3), (22, .goto 4, 3), (25, .iconst 0, 1), (26, .istore_n 2, 1), (27, .iconst 0, 1), (28, .istore_n 3, 1), (29, .iload_n 3, 1), (30, .aload_n 0, 1), (31, .getfield 121, 3), (34, .if_icmp .ge 30, 3), (37, .iload_n 2, 1), (38, .aload_n 0, 1), (39, .iconst 1, 1)]
theorem gdX11_seen_l0 : dok cX11_seen dX11_seen_l0 = true := by decide +kernel
theorem dX11_seen_0 : decode cX11_seen 0 = .ok (.aload_n 0, 1) := dok_at gdX11_seen_l0 0 rfl
theorem dX11_seen_1 : decode cX11_seen 1 = .ok (.iload_n 1, 1) := dok_at gdX11_seen_l0 1 rfl
theorem dX11_seen_2 : decode cX11_seen 2 = .ok (.invokevirtual 372, 3) := dok_at gdX11_seen_l0 2 rfl
theorem dX11_seen_5 : decode cX11_seen 5 = .ok (.ifCond .ne 5, 3) := dok_at gdX11_seen_l0 3 rfl
theorem dX11_seen_8 : decode cX11_seen 8 = .ok (.iconst (-1), 1) := dok_at gdX11_seen_l0 4 rfl
theorem dX11_seen_9 : decode cX11_seen 9 = .ok (.ireturn, 1) := dok_at gdX11_seen_l0 5 rfl
theorem dX11_seen_10 : decode cX11_seen 10 = .ok (.aload_n 0, 1) := dok_at gdX11_seen_l0 6 rfl
theorem dX11_seen_11 : decode cX11_seen 11 = .ok (.iconst 0, 1) := dok_at gdX11_seen_l0 7 rfl
theorem dX11_seen_12 : decode cX11_seen 12 = .ok (.invokevirtual 327, 3) := dok_at gdX11_seen_l0 8 rfl
theorem dX11_seen_15 : decode cX11_seen 15 = .ok (.iload_n 1, 1) := dok_at gdX11_seen_l0 9 rfl
theorem dX11_seen_16 : decode cX11_seen 16 = .ok (.if_icmp .ne 9, 3) := dok_at gdX11_seen_l0 10 rfl
theorem dX11_seen_19 : decode cX11_seen 19 = .ok (.sipush 256, 3) := dok_at gdX11_seen_l0 11 rfl
theorem dX11_seen_22 : decode cX11_seen 22 = .ok (.goto 4, 3) := dok_at gdX11_seen_l0 12 rfl
theorem dX11_seen_25 : decode cX11_seen 25 = .ok (.iconst 0, 1) := dok_at gdX11_seen_l0 13 rfl
theorem dX11_seen_26 : decode cX11_seen 26 = .ok (.istore_n 2, 1) := dok_at gdX11_seen_l0 14 rfl
theorem dX11_seen_27 : decode cX11_seen 27 = .ok (.iconst 0, 1) := dok_at gdX11_seen_l0 15 rfl
theorem dX11_seen_28 : decode cX11_seen 28 = .ok (.istore_n 3, 1) := dok_at gdX11_seen_l0 16 rfl
theorem dX11_seen_29 : decode cX11_seen 29 = .ok (.iload_n 3, 1) := dok_at gdX11_seen_l0 17 rfl
theorem dX11_seen_30 : decode cX11_seen 30 = .ok (.aload_n 0, 1) := dok_at gdX11_seen_l0 18 rfl
theorem dX11_seen_31 : decode cX11_seen 31 = .ok (.getfield 121, 3) := dok_at gdX11_seen_l0 19 rfl
theorem dX11_seen_34 : decode cX11_seen 34 = .ok (.if_icmp .ge 30, 3) := dok_at gdX11_seen_l0 20 rfl
theorem dX11_seen_37 : decode cX11_seen 37 = .ok (.iload_n 2, 1) := dok_at gdX11_seen_l0 21 rfl
theorem dX11_seen_38 : decode cX11_seen 38 = .ok (.aload_n 0, 1) := dok_at gdX11_seen_l0 22 rfl
theorem dX11_seen_39 : decode cX11_seen 39 = .ok (.iconst 1, 1) := dok_at gdX11_seen_l0 23 rfl
def dX11_seen_l40 : List (Nat × Instr × Nat) := [(40, .iload_n 3, 1), (41, .ishl, 1), (42, .invokevirtual 327, 3), (45, .iload_n 1, 1), (46, .if_icmp .ne 9, 3), (49, .iconst 1, 1), (50, .iload_n 3, 1), (51, .ishl, 1), (52, .goto 4, 3), (55, .iconst 0, 1), (56, .ior, 1), (57, .istore_n 2, 1), (58, .iinc 3 1, 3), (61, .goto (-32), 3), (64, .iload_n 2, 1), (65, .ireturn, 1)]
theorem gdX11_seen_l40 : dok cX11_seen dX11_seen_l40 = true := by decide +kernel
theorem dX11_seen_40 : decode cX11_seen 40 = .ok (.iload_n 3, 1) := dok_at gdX11_seen_l40 0 rfl
theorem dX11_seen_41 : decode cX11_seen 41 = .ok (.ishl, 1) := dok_at gdX11_seen_l40 1 rfl
theorem dX11_seen_42 : decode cX11_seen 42 = .ok (.invokevirtual 327, 3) := dok_at gdX11_seen_l40 2 rfl
theorem dX11_seen_45 : decode cX11_seen 45 = .ok (.iload_n 1, 1) := dok_at gdX11_seen_l40 3 rfl
theorem dX11_seen_46 : decode cX11_seen 46 = .ok (.if_icmp .ne 9, 3) := dok_at gdX11_seen_l40 4 rfl
theorem dX11_seen_49 : decode cX11_seen 49 = .ok (.iconst 1, 1) := dok_at gdX11_seen_l40 5 rfl
theorem dX11_seen_50 : decode cX11_seen 50 = .ok (.iload_n 3, 1) := dok_at gdX11_seen_l40 6 rfl
theorem dX11_seen_51 : decode cX11_seen 51 = .ok (.ishl, 1) := dok_at gdX11_seen_l40 7 rfl
theorem dX11_seen_52 : decode cX11_seen 52 = .ok (.goto 4, 3) := dok_at gdX11_seen_l40 8 rfl
theorem dX11_seen_55 : decode cX11_seen 55 = .ok (.iconst 0, 1) := dok_at gdX11_seen_l40 9 rfl
theorem dX11_seen_56 : decode cX11_seen 56 = .ok (.ior, 1) := dok_at gdX11_seen_l40 10 rfl
theorem dX11_seen_57 : decode cX11_seen 57 = .ok (.istore_n 2, 1) := dok_at gdX11_seen_l40 11 rfl
theorem dX11_seen_58 : decode cX11_seen 58 = .ok (.iinc 3 1, 3) := dok_at gdX11_seen_l40 12 rfl
theorem dX11_seen_61 : decode cX11_seen 61 = .ok (.goto (-32), 3) := dok_at gdX11_seen_l40 13 rfl
theorem dX11_seen_64 : decode cX11_seen 64 = .ok (.iload_n 2, 1) := dok_at gdX11_seen_l40 14 rfl
theorem dX11_seen_65 : decode cX11_seen 65 = .ok (.ireturn, 1) := dok_at gdX11_seen_l40 15 rfl
def dX11_sheet_l0 : List (Nat × Instr × Nat) := [(0, .iload_n 1, 1), (1, .iload_n 2, 1), (2, .invokestatic 381, 3), (5, .ifCond .eq 9, 3), (8, .iload_n 3, 1), (9, .bipush 40, 2), (11, .if_icmp .le 5, 3), (14, .iconst (-1), 1), (15, .ireturn, 1), (16, .iload_n 3, 1), (17, .ifCond .ge 6, 3), (20, .bipush (-14), 2), (22, .ireturn, 1), (23, .aload_n 0, 1), (24, .getfield 83, 3), (27, .iload_n 1, 1), (28, .iload_n 2, 1), (29, .iastore, 1), (30, .aload_n 0, 1), (31, .getfield 86, 3), (34, .iload_n 1, 1), (35, .iload_n 3, 1), (36, .iastore, 1), (37, .iconst 0, 1)]
theorem gdX11_sheet_l0 : dok cX11_sheet dX11_sheet_l0 = true := by decide +kernel
theorem dX11_sheet_0 : decode cX11_sheet 0 = .ok (.iload_n 1, 1) := dok_at gdX11_sheet_l0 0 rfl
theorem dX11_sheet_1 : decode cX11_sheet 1 = .ok (.iload_n 2, 1) := dok_at gdX11_sheet_l0 1 rfl
theorem dX11_sheet_2 : decode cX11_sheet 2 = .ok (.invokestatic 381, 3) := dok_at gdX11_sheet_l0 2 rfl
theorem dX11_sheet_5 : decode cX11_sheet 5 = .ok (.ifCond .eq 9, 3) := dok_at gdX11_sheet_l0 3 rfl
theorem dX11_sheet_8 : decode cX11_sheet 8 = .ok (.iload_n 3, 1) := dok_at gdX11_sheet_l0 4 rfl
theorem dX11_sheet_9 : decode cX11_sheet 9 = .ok (.bipush 40, 2) := dok_at gdX11_sheet_l0 5 rfl
theorem dX11_sheet_11 : decode cX11_sheet 11 = .ok (.if_icmp .le 5, 3) := dok_at gdX11_sheet_l0 6 rfl
theorem dX11_sheet_14 : decode cX11_sheet 14 = .ok (.iconst (-1), 1) := dok_at gdX11_sheet_l0 7 rfl
theorem dX11_sheet_15 : decode cX11_sheet 15 = .ok (.ireturn, 1) := dok_at gdX11_sheet_l0 8 rfl
theorem dX11_sheet_16 : decode cX11_sheet 16 = .ok (.iload_n 3, 1) := dok_at gdX11_sheet_l0 9 rfl
theorem dX11_sheet_17 : decode cX11_sheet 17 = .ok (.ifCond .ge 6, 3) := dok_at gdX11_sheet_l0 10 rfl
theorem dX11_sheet_20 : decode cX11_sheet 20 = .ok (.bipush (-14), 2) := dok_at gdX11_sheet_l0 11 rfl
theorem dX11_sheet_22 : decode cX11_sheet 22 = .ok (.ireturn, 1) := dok_at gdX11_sheet_l0 12 rfl
theorem dX11_sheet_23 : decode cX11_sheet 23 = .ok (.aload_n 0, 1) := dok_at gdX11_sheet_l0 13 rfl
theorem dX11_sheet_24 : decode cX11_sheet 24 = .ok (.getfield 83, 3) := dok_at gdX11_sheet_l0 14 rfl
theorem dX11_sheet_27 : decode cX11_sheet 27 = .ok (.iload_n 1, 1) := dok_at gdX11_sheet_l0 15 rfl
theorem dX11_sheet_28 : decode cX11_sheet 28 = .ok (.iload_n 2, 1) := dok_at gdX11_sheet_l0 16 rfl
theorem dX11_sheet_29 : decode cX11_sheet 29 = .ok (.iastore, 1) := dok_at gdX11_sheet_l0 17 rfl
theorem dX11_sheet_30 : decode cX11_sheet 30 = .ok (.aload_n 0, 1) := dok_at gdX11_sheet_l0 18 rfl
theorem dX11_sheet_31 : decode cX11_sheet 31 = .ok (.getfield 86, 3) := dok_at gdX11_sheet_l0 19 rfl
theorem dX11_sheet_34 : decode cX11_sheet 34 = .ok (.iload_n 1, 1) := dok_at gdX11_sheet_l0 20 rfl
theorem dX11_sheet_35 : decode cX11_sheet 35 = .ok (.iload_n 3, 1) := dok_at gdX11_sheet_l0 21 rfl
theorem dX11_sheet_36 : decode cX11_sheet 36 = .ok (.iastore, 1) := dok_at gdX11_sheet_l0 22 rfl
theorem dX11_sheet_37 : decode cX11_sheet 37 = .ok (.iconst 0, 1) := dok_at gdX11_sheet_l0 23 rfl
def dX11_sheet_l38 : List (Nat × Instr × Nat) := [(38, .istore 4, 2), (40, .iload 4, 2), (42, .bipush 40, 2), (44, .if_icmp .ge 22, 3), (47, .aload_n 0, 1), (48, .getfield 89, 3), (51, .bipush 40, 2), (53, .iload_n 1, 1), (54, .imul, 1), (55, .iload 4, 2), (57, .iadd, 1), (58, .iconst 0, 1), (59, .iastore, 1), (60, .iinc 4 1, 3), (63, .goto (-23), 3), (66, .iconst 1, 1), (67, .ireturn, 1)]
theorem gdX11_sheet_l38 : dok cX11_sheet dX11_sheet_l38 = true := by decide +kernel
theorem dX11_sheet_38 : decode cX11_sheet 38 = .ok (.istore 4, 2) := dok_at gdX11_sheet_l38 0 rfl
theorem dX11_sheet_40 : decode cX11_sheet 40 = .ok (.iload 4, 2) := dok_at gdX11_sheet_l38 1 rfl
theorem dX11_sheet_42 : decode cX11_sheet 42 = .ok (.bipush 40, 2) := dok_at gdX11_sheet_l38 2 rfl
theorem dX11_sheet_44 : decode cX11_sheet 44 = .ok (.if_icmp .ge 22, 3) := dok_at gdX11_sheet_l38 3 rfl
theorem dX11_sheet_47 : decode cX11_sheet 47 = .ok (.aload_n 0, 1) := dok_at gdX11_sheet_l38 4 rfl
theorem dX11_sheet_48 : decode cX11_sheet 48 = .ok (.getfield 89, 3) := dok_at gdX11_sheet_l38 5 rfl
theorem dX11_sheet_51 : decode cX11_sheet 51 = .ok (.bipush 40, 2) := dok_at gdX11_sheet_l38 6 rfl
theorem dX11_sheet_53 : decode cX11_sheet 53 = .ok (.iload_n 1, 1) := dok_at gdX11_sheet_l38 7 rfl
theorem dX11_sheet_54 : decode cX11_sheet 54 = .ok (.imul, 1) := dok_at gdX11_sheet_l38 8 rfl
theorem dX11_sheet_55 : decode cX11_sheet 55 = .ok (.iload 4, 2) := dok_at gdX11_sheet_l38 9 rfl
theorem dX11_sheet_57 : decode cX11_sheet 57 = .ok (.iadd, 1) := dok_at gdX11_sheet_l38 10 rfl
theorem dX11_sheet_58 : decode cX11_sheet 58 = .ok (.iconst 0, 1) := dok_at gdX11_sheet_l38 11 rfl
theorem dX11_sheet_59 : decode cX11_sheet 59 = .ok (.iastore, 1) := dok_at gdX11_sheet_l38 12 rfl
theorem dX11_sheet_60 : decode cX11_sheet 60 = .ok (.iinc 4 1, 3) := dok_at gdX11_sheet_l38 13 rfl
theorem dX11_sheet_63 : decode cX11_sheet 63 = .ok (.goto (-23), 3) := dok_at gdX11_sheet_l38 14 rfl
theorem dX11_sheet_66 : decode cX11_sheet 66 = .ok (.iconst 1, 1) := dok_at gdX11_sheet_l38 15 rfl
theorem dX11_sheet_67 : decode cX11_sheet 67 = .ok (.ireturn, 1) := dok_at gdX11_sheet_l38 16 rfl
