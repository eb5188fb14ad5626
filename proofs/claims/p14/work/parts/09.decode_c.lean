def dX11_init_l0 : List (Nat × Instr × Nat) := [(0, .aload_n 0, 1), (1, .invokespecial 1, 3), (4, .aload_n 0, 1), (5, .bipush 56, 2), (7, .newarray .int, 2), (9, .putfield 7, 3), (12, .aload_n 0, 1), (13, .bipush 8, 2), (15, .newarray .int, 2), (17, .putfield 13, 3), (20, .aload_n 0, 1), (21, .sipush 4096, 3), (24, .newarray .boolean, 2), (26, .putfield 16, 3), (29, .aload_n 0, 1), (30, .bipush 56, 2), (32, .newarray .int, 2), (34, .putfield 20, 3), (37, .aload_n 0, 1), (38, .bipush 8, 2), (40, .newarray .int, 2), (42, .putfield 23, 3), (45, .aload_n 0, 1), (46, .sipush 4096, 3)]
theorem gdX11_init_l0 : dok cX11_init dX11_init_l0 = true := by decide +kernel
theorem dX11_init_0 : decode cX11_init 0 = .ok (.aload_n 0, 1) := dok_at gdX11_init_l0 0 rfl
theorem dX11_init_1 : decode cX11_init 1 = .ok (.invokespecial 1, 3) := dok_at gdX11_init_l0 1 rfl
theorem dX11_init_4 : decode cX11_init 4 = .ok (.aload_n 0, 1) := dok_at gdX11_init_l0 2 rfl
theorem dX11_init_5 : decode cX11_init 5 = .ok (.bipush 56, 2) := dok_at gdX11_init_l0 3 rfl
theorem dX11_init_7 : decode cX11_init 7 = .ok (.newarray .int, 2) := dok_at gdX11_init_l0 4 rfl
theorem dX11_init_9 : decode cX11_init 9 = .ok (.putfield 7, 3) := dok_at gdX11_init_l0 5 rfl
theorem dX11_init_12 : decode cX11_init 12 = .ok (.aload_n 0, 1) := dok_at gdX11_init_l0 6 rfl
theorem dX11_init_13 : decode cX11_init 13 = .ok (.bipush 8, 2) := dok_at gdX11_init_l0 7 rfl
theorem dX11_init_15 : decode cX11_init 15 = .ok (.newarray .int, 2) := dok_at gdX11_init_l0 8 rfl
theorem dX11_init_17 : decode cX11_init 17 = .ok (.putfield 13, 3) := dok_at gdX11_init_l0 9 rfl
theorem dX11_init_20 : decode cX11_init 20 = .ok (.aload_n 0, 1) := dok_at gdX11_init_l0 10 rfl
theorem dX11_init_21 : decode cX11_init 21 = .ok (.sipush 4096, 3) := dok_at gdX11_init_l0 11 rfl
theorem dX11_init_24 : decode cX11_init 24 = .ok (.newarray .boolean, 2) := dok_at gdX11_init_l0 12 rfl
theorem dX11_init_26 : decode cX11_init 26 = .ok (.putfield 16, 3) := dok_at gdX11_init_l0 13 rfl
theorem dX11_init_29 : decode cX11_init 29 = .ok (.aload_n 0, 1) := dok_at gdX11_init_l0 14 rfl
theorem dX11_init_30 : decode cX11_init 30 = .ok (.bipush 56, 2) := dok_at gdX11_init_l0 15 rfl
theorem dX11_init_32 : decode cX11_init 32 = .ok (.newarray .int, 2) := dok_at gdX11_init_l0 16 rfl
theorem dX11_init_34 : decode cX11_init 34 = .ok (.putfield 20, 3) := dok_at gdX11_init_l0 17 rfl
theorem dX11_init_37 : decode cX11_init 37 = .ok (.aload_n 0, 1) := dok_at gdX11_init_l0 18 rfl
theorem dX11_init_38 : decode cX11_init 38 = .ok (.bipush 8, 2) := dok_at gdX11_init_l0 19 rfl
theorem dX11_init_40 : decode cX11_init 40 = .ok (.newarray .int, 2) := dok_at gdX11_init_l0 20 rfl
theorem dX11_init_42 : decode cX11_init 42 = .ok (.putfield 23, 3) := dok_at gdX11_init_l0 21 rfl
theorem dX11_init_45 : decode cX11_init 45 = .ok (.aload_n 0, 1) := dok_at gdX11_init_l0 22 rfl
theorem dX11_init_46 : decode cX11_init 46 = .ok (.sipush 4096, 3) := dok_at gdX11_init_l0 23 rfl
def dX11_init_l49 : List (Nat × Instr × Nat) := [(49, .newarray .boolean, 2), (51, .putfield 26, 3), (54, .aload_n 0, 1), (55, .sipush 400, 3), (58, .newarray .int, 2), (60, .putfield 29, 3), (63, .aload_n 0, 1), (64, .sipush 400, 3), (67, .newarray .int, 2), (69, .putfield 32, 3), (72, .aload_n 0, 1), (73, .sipush 400, 3), (76, .newarray .int, 2), (78, .putfield 35, 3), (81, .aload_n 0, 1), (82, .sipush 400, 3), (85, .newarray .int, 2), (87, .putfield 38, 3), (90, .aload_n 0, 1), (91, .sipush 400, 3), (94, .newarray .boolean, 2), (96, .putfield 41, 3), (99, .aload_n 0, 1), (100, .sipush 400, 3)]
theorem gdX11_init_l49 : dok cX11_init dX11_init_l49 = true := by decide +kernel
theorem dX11_init_49 : decode cX11_init 49 = .ok (.newarray .boolean, 2) := dok_at gdX11_init_l49 0 rfl
theorem dX11_init_51 : decode cX11_init 51 = .ok (.putfield 26, 3) := dok_at gdX11_init_l49 1 rfl
theorem dX11_init_54 : decode cX11_init 54 = .ok (.aload_n 0, 1) := dok_at gdX11_init_l49 2 rfl
theorem dX11_init_55 : decode cX11_init 55 = .ok (.sipush 400, 3) := dok_at gdX11_init_l49 3 rfl
theorem dX11_init_58 : decode cX11_init 58 = .ok (.newarray .int, 2) := dok_at gdX11_init_l49 4 rfl
theorem dX11_init_60 : decode cX11_init 60 = .ok (.putfield 29, 3) := dok_at gdX11_init_l49 5 rfl
theorem dX11_init_63 : decode cX11_init 63 = .ok (.aload_n 0, 1) := dok_at gdX11_init_l49 6 rfl
theorem dX11_init_64 : decode cX11_init 64 = .ok (.sipush 400, 3) := dok_at gdX11_init_l49 7 rfl
theorem dX11_init_67 : decode cX11_init 67 = .ok (.newarray .int, 2) := dok_at gdX11_init_l49 8 rfl
theorem dX11_init_69 : decode cX11_init 69 = .ok (.putfield 32, 3) := dok_at gdX11_init_l49 9 rfl
theorem dX11_init_72 : decode cX11_init 72 = .ok (.aload_n 0, 1) := dok_at gdX11_init_l49 10 rfl
theorem dX11_init_73 : decode cX11_init 73 = .ok (.sipush 400, 3) := dok_at gdX11_init_l49 11 rfl
theorem dX11_init_76 : decode cX11_init 76 = .ok (.newarray .int, 2) := dok_at gdX11_init_l49 12 rfl
theorem dX11_init_78 : decode cX11_init 78 = .ok (.putfield 35, 3) := dok_at gdX11_init_l49 13 rfl
theorem dX11_init_81 : decode cX11_init 81 = .ok (.aload_n 0, 1) := dok_at gdX11_init_l49 14 rfl
theorem dX11_init_82 : decode cX11_init 82 = .ok (.sipush 400, 3) := dok_at gdX11_init_l49 15 rfl
theorem dX11_init_85 : decode cX11_init 85 = .ok (.newarray .int, 2) := dok_at gdX11_init_l49 16 rfl
theorem dX11_init_87 : decode cX11_init 87 = .ok (.putfield 38, 3) := dok_at gdX11_init_l49 17 rfl
theorem dX11_init_90 : decode cX11_init 90 = .ok (.aload_n 0, 1) := dok_at gdX11_init_l49 18 rfl
theorem dX11_init_91 : decode cX11_init 91 = .ok (.sipush 400, 3) := dok_at gdX11_init_l49 19 rfl
theorem dX11_init_94 : decode cX11_init 94 = .ok (.newarray .boolean, 2) := dok_at gdX11_init_l49 20 rfl
theorem dX11_init_96 : decode cX11_init 96 = .ok (.putfield 41, 3) := dok_at gdX11_init_l49 21 rfl
theorem dX11_init_99 : decode cX11_init 99 = .ok (.aload_n 0, 1) := dok_at gdX11_init_l49 22 rfl
theorem dX11_init_100 : decode cX11_init 100 = .ok (.sipush 400, 3) := dok_at gdX11_init_l49 23 rfl
def dX11_init_l103 : List (Nat × Instr × Nat) := [(103, .newarray .int, 2), (105, .putfield 44, 3), (108, .aload_n 0, 1), (109, .bipush 8, 2), (111, .newarray .int, 2), (113, .putfield 47, 3), (116, .aload_n 0, 1), (117, .bipush 8, 2), (119, .newarray .int, 2), (121, .putfield 50, 3), (124, .aload_n 0, 1), (125, .bipush 8, 2), (127, .newarray .int, 2), (129, .putfield 53, 3), (132, .aload_n 0, 1), (133, .bipush 8, 2), (135, .newarray .boolean, 2), (137, .putfield 56, 3), (140, .aload_n 0, 1), (141, .bipush 8, 2), (143, .newarray .int, 2), (145, .putfield 59, 3), (148, .aload_n 0, 1), (149, .bipush 8, 2)]
theorem gdX11_init_l103 : dok cX11_init dX11_init_l103 = true := by decide +kernel
theorem dX11_init_103 : decode cX11_init 103 = .ok (.newarray .int, 2) := dok_at gdX11_init_l103 0 rfl
theorem dX11_init_105 : decode cX11_init 105 = .ok (.putfield 44, 3) := dok_at gdX11_init_l103 1 rfl
theorem dX11_init_108 : decode cX11_init 108 = .ok (.aload_n 0, 1) := dok_at gdX11_init_l103 2 rfl
theorem dX11_init_109 : decode cX11_init 109 = .ok (.bipush 8, 2) := dok_at gdX11_init_l103 3 rfl
theorem dX11_init_111 : decode cX11_init 111 = .ok (.newarray .int, 2) := dok_at gdX11_init_l103 4 rfl
theorem dX11_init_113 : decode cX11_init 113 = .ok (.putfield 47, 3) := dok_at gdX11_init_l103 5 rfl
theorem dX11_init_116 : decode cX11_init 116 = .ok (.aload_n 0, 1) := dok_at gdX11_init_l103 6 rfl
theorem dX11_init_117 : decode cX11_init 117 = .ok (.bipush 8, 2) := dok_at gdX11_init_l103 7 rfl
theorem dX11_init_119 : decode cX11_init 119 = .ok (.newarray .int, 2) := dok_at gdX11_init_l103 8 rfl
theorem dX11_init_121 : decode cX11_init 121 = .ok (.putfield 50, 3) := dok_at gdX11_init_l103 9 rfl
theorem dX11_init_124 : decode cX11_init 124 = .ok (.aload_n 0, 1) := dok_at gdX11_init_l103 10 rfl
theorem dX11_init_125 : decode cX11_init 125 = .ok (.bipush 8, 2) := dok_at gdX11_init_l103 11 rfl
theorem dX11_init_127 : decode cX11_init 127 = .ok (.newarray .int, 2) := dok_at gdX11_init_l103 12 rfl
theorem dX11_init_129 : decode cX11_init 129 = .ok (.putfield 53, 3) := dok_at gdX11_init_l103 13 rfl
theorem dX11_init_132 : decode cX11_init 132 = .ok (.aload_n 0, 1) := dok_at gdX11_init_l103 14 rfl
theorem dX11_init_133 : decode cX11_init 133 = .ok (.bipush 8, 2) := dok_at gdX11_init_l103 15 rfl
theorem dX11_init_135 : decode cX11_init 135 = .ok (.newarray .boolean, 2) := dok_at gdX11_init_l103 16 rfl
theorem dX11_init_137 : decode cX11_init 137 = .ok (.putfield 56, 3) := dok_at gdX11_init_l103 17 rfl
theorem dX11_init_140 : decode cX11_init 140 = .ok (.aload_n 0, 1) := dok_at gdX11_init_l103 18 rfl
theorem dX11_init_141 : decode cX11_init 141 = .ok (.bipush 8, 2) := dok_at gdX11_init_l103 19 rfl
theorem dX11_init_143 : decode cX11_init 143 = .ok (.newarray .int, 2) := dok_at gdX11_init_l103 20 rfl
theorem dX11_init_145 : decode cX11_init 145 = .ok (.putfield 59, 3) := dok_at gdX11_init_l103 21 rfl
theorem dX11_init_148 : decode cX11_init 148 = .ok (.aload_n 0, 1) := dok_at gdX11_init_l103 22 rfl
theorem dX11_init_149 : decode cX11_init 149 = .ok (.bipush 8, 2) := dok_at gdX11_init_l103 23 rfl
def dX11_init_l151 : List (Nat × Instr × Nat) := [(151, .newarray .int, 2), (153, .putfield 62, 3), (156, .aload_n 0, 1), (157, .sipush 192, 3), (160, .newarray .int, 2), (162, .putfield 65, 3), (165, .aload_n 0, 1), (166, .bipush 8, 2), (168, .newarray .int, 2), (170, .putfield 68, 3), (173, .aload_n 0, 1), (174, .bipush 8, 2), (176, .newarray .int, 2), (178, .putfield 71, 3), (181, .aload_n 0, 1), (182, .bipush 8, 2), (184, .newarray .int, 2), (186, .putfield 74, 3), (189, .aload_n 0, 1), (190, .bipush 8, 2), (192, .newarray .int, 2), (194, .putfield 77, 3), (197, .aload_n 0, 1), (198, .bipush 8, 2)]
theorem gdX11_init_l151 : dok cX11_init dX11_init_l151 = true := by decide +kernel
theorem dX11_init_151 : decode cX11_init 151 = .ok (.newarray .int, 2) := dok_at gdX11_init_l151 0 rfl
theorem dX11_init_153 : decode cX11_init 153 = .ok (.putfield 62, 3) := dok_at gdX11_init_l151 1 rfl
theorem dX11_init_156 : decode cX11_init 156 = .ok (.aload_n 0, 1) := dok_at gdX11_init_l151 2 rfl
theorem dX11_init_157 : decode cX11_init 157 = .ok (.sipush 192, 3) := dok_at gdX11_init_l151 3 rfl
theorem dX11_init_160 : decode cX11_init 160 = .ok (.newarray .int, 2) := dok_at gdX11_init_l151 4 rfl
theorem dX11_init_162 : decode cX11_init 162 = .ok (.putfield 65, 3) := dok_at gdX11_init_l151 5 rfl
theorem dX11_init_165 : decode cX11_init 165 = .ok (.aload_n 0, 1) := dok_at gdX11_init_l151 6 rfl
theorem dX11_init_166 : decode cX11_init 166 = .ok (.bipush 8, 2) := dok_at gdX11_init_l151 7 rfl
theorem dX11_init_168 : decode cX11_init 168 = .ok (.newarray .int, 2) := dok_at gdX11_init_l151 8 rfl
theorem dX11_init_170 : decode cX11_init 170 = .ok (.putfield 68, 3) := dok_at gdX11_init_l151 9 rfl
theorem dX11_init_173 : decode cX11_init 173 = .ok (.aload_n 0, 1) := dok_at gdX11_init_l151 10 rfl
theorem dX11_init_174 : decode cX11_init 174 = .ok (.bipush 8, 2) := dok_at gdX11_init_l151 11 rfl
theorem dX11_init_176 : decode cX11_init 176 = .ok (.newarray .int, 2) := dok_at gdX11_init_l151 12 rfl
theorem dX11_init_178 : decode cX11_init 178 = .ok (.putfield 71, 3) := dok_at gdX11_init_l151 13 rfl
theorem dX11_init_181 : decode cX11_init 181 = .ok (.aload_n 0, 1) := dok_at gdX11_init_l151 14 rfl
theorem dX11_init_182 : decode cX11_init 182 = .ok (.bipush 8, 2) := dok_at gdX11_init_l151 15 rfl
theorem dX11_init_184 : decode cX11_init 184 = .ok (.newarray .int, 2) := dok_at gdX11_init_l151 16 rfl
theorem dX11_init_186 : decode cX11_init 186 = .ok (.putfield 74, 3) := dok_at gdX11_init_l151 17 rfl
theorem dX11_init_189 : decode cX11_init 189 = .ok (.aload_n 0, 1) := dok_at gdX11_init_l151 18 rfl
theorem dX11_init_190 : decode cX11_init 190 = .ok (.bipush 8, 2) := dok_at gdX11_init_l151 19 rfl
theorem dX11_init_192 : decode cX11_init 192 = .ok (.newarray .int, 2) := dok_at gdX11_init_l151 20 rfl
theorem dX11_init_194 : decode cX11_init 194 = .ok (.putfield 77, 3) := dok_at gdX11_init_l151 21 rfl
theorem dX11_init_197 : decode cX11_init 197 = .ok (.aload_n 0, 1) := dok_at gdX11_init_l151 22 rfl
theorem dX11_init_198 : decode cX11_init 198 = .ok (.bipush 8, 2) := dok_at gdX11_init_l151 23 rfl
def dX11_init_l200 : List (Nat × Instr × Nat) := [(200, .newarray .int, 2), (202, .putfield 80, 3), (205, .aload_n 0, 1), (206, .iconst 4, 1), (207, .newarray .int, 2), (209, .putfield 83, 3), (212, .aload_n 0, 1), (213, .iconst 4, 1), (214, .newarray .int, 2), (216, .putfield 86, 3), (219, .aload_n 0, 1), (220, .sipush 160, 3), (223, .newarray .int, 2), (225, .putfield 89, 3), (228, .iconst 0, 1), (229, .istore_n 1, 1), (230, .iload_n 1, 1), (231, .iconst 4, 1), (232, .if_icmp .ge 17, 3), (235, .aload_n 0, 1), (236, .getfield 83, 3), (239, .iload_n 1, 1), (240, .bipush (-4), 2), (242, .iastore, 1)]
theorem gdX11_init_l200 : dok cX11_init dX11_init_l200 = true := by decide +kernel
theorem dX11_init_200 : decode cX11_init 200 = .ok (.newarray .int, 2) := dok_at gdX11_init_l200 0 rfl
theorem dX11_init_202 : decode cX11_init 202 = .ok (.putfield 80, 3) := dok_at gdX11_init_l200 1 rfl
theorem dX11_init_205 : decode cX11_init 205 = .ok (.aload_n 0, 1) := dok_at gdX11_init_l200 2 rfl
theorem dX11_init_206 : decode cX11_init 206 = .ok (.iconst 4, 1) := dok_at gdX11_init_l200 3 rfl
theorem dX11_init_207 : decode cX11_init 207 = .ok (.newarray .int, 2) := dok_at gdX11_init_l200 4 rfl
theorem dX11_init_209 : decode cX11_init 209 = .ok (.putfield 83, 3) := dok_at gdX11_init_l200 5 rfl
theorem dX11_init_212 : decode cX11_init 212 = .ok (.aload_n 0, 1) := dok_at gdX11_init_l200 6 rfl
theorem dX11_init_213 : decode cX11_init 213 = .ok (.iconst 4, 1) := dok_at gdX11_init_l200 7 rfl
theorem dX11_init_214 : decode cX11_init 214 = .ok (.newarray .int, 2) := dok_at gdX11_init_l200 8 rfl
theorem dX11_init_216 : decode cX11_init 216 = .ok (.putfield 86, 3) := dok_at gdX11_init_l200 9 rfl
theorem dX11_init_219 : decode cX11_init 219 = .ok (.aload_n 0, 1) := dok_at gdX11_init_l200 10 rfl
theorem dX11_init_220 : decode cX11_init 220 = .ok (.sipush 160, 3) := dok_at gdX11_init_l200 11 rfl
theorem dX11_init_223 : decode cX11_init 223 = .ok (.newarray .int, 2) := dok_at gdX11_init_l200 12 rfl
theorem dX11_init_225 : decode cX11_init 225 = .ok (.putfield 89, 3) := dok_at gdX11_init_l200 13 rfl
theorem dX11_init_228 : decode cX11_init 228 = .ok (.iconst 0, 1) := dok_at gdX11_init_l200 14 rfl
theorem dX11_init_229 : decode cX11_init 229 = .ok (.istore_n 1, 1) := dok_at gdX11_init_l200 15 rfl
theorem dX11_init_230 : decode cX11_init 230 = .ok (.iload_n 1, 1) := dok_at gdX11_init_l200 16 rfl
theorem dX11_init_231 : decode cX11_init 231 = .ok (.iconst 4, 1) := dok_at gdX11_init_l200 17 rfl
theorem dX11_init_232 : decode cX11_init 232 = .ok (.if_icmp .ge 17, 3) := dok_at gdX11_init_l200 18 rfl
theorem dX11_init_235 : decode cX11_init 235 = .ok (.aload_n 0, 1) := dok_at gdX11_init_l200 19 rfl
theorem dX11_init_236 : decode cX11_init 236 = .ok (.getfield 83, 3) := dok_at gdX11_init_l200 20 rfl
theorem dX11_init_239 : decode cX11_init 239 = .ok (.iload_n 1, 1) := dok_at gdX11_init_l200 21 rfl
theorem dX11_init_240 : decode cX11_init 240 = .ok (.bipush (-4), 2) := dok_at gdX11_init_l200 22 rfl
theorem dX11_init_242 : decode cX11_init 242 = .ok (.iastore, 1) := dok_at gdX11_init_l200 23 rfl
def dX11_init_l243 : List (Nat × Instr × Nat) := [(243, .iinc 1 1, 3), (246, .goto (-16), 3), (249, .aload_n 0, 1), (250, .invokevirtual 92, 3), (253, .aload_n 0, 1), (254, .invokevirtual 95, 3), (257, .return_, 1)]
theorem gdX11_init_l243 : dok cX11_init dX11_init_l243 = true := by decide +kernel
theorem dX11_init_243 : decode cX11_init 243 = .ok (.iinc 1 1, 3) := dok_at gdX11_init_l243 0 rfl
theorem dX11_init_246 : decode cX11_init 246 = .ok (.goto (-16), 3) := dok_at gdX11_init_l243 1 rfl
theorem dX11_init_249 : decode cX11_init 249 = .ok (.aload_n 0, 1) := dok_at gdX11_init_l243 2 rfl
theorem dX11_init_250 : decode cX11_init 250 = .ok (.invokevirtual 92, 3) := dok_at gdX11_init_l243 3 rfl
theorem dX11_init_253 : decode cX11_init 253 = .ok (.aload_n 0, 1) := dok_at gdX11_init_l243 4 rfl
theorem dX11_init_254 : decode cX11_init 254 = .ok (.invokevirtual 95, 3) := dok_at gdX11_init_l243 5 rfl
theorem dX11_init_257 : decode cX11_init 257 = .ok (.return_, 1) := dok_at gdX11_init_l243 6 rfl
def dX11_in_l0 : List (Nat × Instr × Nat) := [(0, .lload_n 0, 1), (1, .lload_n 2, 1), (2, .lcmp, 1), (3, .ifCond .lt 14, 3), (6, .lload_n 0, 1), (7, .lload 4, 2), (9, .lcmp, 1), (10, .ifCond .gt 7, 3), (13, .iconst 1, 1), (14, .goto 4, 3), (17, .iconst 0, 1), (18, .ireturn, 1)]
theorem gdX11_in_l0 : dok cX11_in dX11_in_l0 = true := by decide +kernel
theorem dX11_in_0 : decode cX11_in 0 = .ok (.lload_n 0, 1) := dok_at gdX11_in_l0 0 rfl
theorem dX11_in_1 : decode cX11_in 1 = .ok (.lload_n 2, 1) := dok_at gdX11_in_l0 1 rfl
theorem dX11_in_2 : decode cX11_in 2 = .ok (.lcmp, 1) := dok_at gdX11_in_l0 2 rfl
theorem dX11_in_3 : decode cX11_in 3 = .ok (.ifCond .lt 14, 3) := dok_at gdX11_in_l0 3 rfl
theorem dX11_in_6 : decode cX11_in 6 = .ok (.lload_n 0, 1) := dok_at gdX11_in_l0 4 rfl
theorem dX11_in_7 : decode cX11_in 7 = .ok (.lload 4, 2) := dok_at gdX11_in_l0 5 rfl
theorem dX11_in_9 : decode cX11_in 9 = .ok (.lcmp, 1) := dok_at gdX11_in_l0 6 rfl
theorem dX11_in_10 : decode cX11_in 10 = .ok (.ifCond .gt 7, 3) := dok_at gdX11_in_l0 7 rfl
theorem dX11_in_13 : decode cX11_in 13 = .ok (.iconst 1, 1) := dok_at gdX11_in_l0 8 rfl
theorem dX11_in_14 : decode cX11_in 14 = .ok (.goto 4, 3) := dok_at gdX11_in_l0 9 rfl
theorem dX11_in_17 : decode cX11_in 17 = .ok (.iconst 0, 1) := dok_at gdX11_in_l0 10 rfl
theorem dX11_in_18 : decode cX11_in 18 = .ok (.ireturn, 1) := dok_at gdX11_in_l0 11 rfl
def dX11_flag_l0 : List (Nat × Instr × Nat) := [(0, .iload_n 0, 1), (1, .ifCond .eq 7, 3), (4, .iconst 1, 1), (5, .goto 4, 3), (8, .iconst 0, 1), (9, .ireturn, 1)]
theorem gdX11_flag_l0 : dok cX11_flag dX11_flag_l0 = true := by decide +kernel
theorem dX11_flag_0 : decode cX11_flag 0 = .ok (.iload_n 0, 1) := dok_at gdX11_flag_l0 0 rfl
theorem dX11_flag_1 : decode cX11_flag 1 = .ok (.ifCond .eq 7, 3) := dok_at gdX11_flag_l0 1 rfl
theorem dX11_flag_4 : decode cX11_flag 4 = .ok (.iconst 1, 1) := dok_at gdX11_flag_l0 2 rfl
theorem dX11_flag_5 : decode cX11_flag 5 = .ok (.goto 4, 3) := dok_at gdX11_flag_l0 3 rfl
theorem dX11_flag_8 : decode cX11_flag 8 = .ok (.iconst 0, 1) := dok_at gdX11_flag_l0 4 rfl
theorem dX11_flag_9 : decode cX11_flag 9 = .ok (.ireturn, 1) := dok_at gdX11_flag_l0 5 rfl
def dX11_countOf_l0 : List (Nat × Instr × Nat) := [(0, .iconst 0, 1), (1, .istore_n 1, 1), (2, .iconst 0, 1), (3, .istore_n 2, 1), (4, .iload_n 2, 1), (5, .bipush 9, 2), (7, .if_icmp .ge 17, 3), (10, .iload_n 1, 1), (11, .iload_n 0, 1), (12, .iload_n 2, 1), (13, .ishr, 1), (14, .iconst 1, 1), (15, .iand, 1), (16, .iadd, 1), (17, .istore_n 1, 1), (18, .iinc 2 1, 3), (21, .goto (-17), 3), (24, .iload_n 1, 1), (25, .ireturn, 1)]
theorem gdX11_countOf_l0 : dok cX11_countOf dX11_countOf_l0 = true := by decide +kernel
theorem dX11_countOf_0 : decode cX11_countOf 0 = .ok (.iconst 0, 1) := dok_at gdX11_countOf_l0 0 rfl
theorem dX11_countOf_1 : decode cX11_countOf 1 = .ok (.istore_n 1, 1) := dok_at gdX11_countOf_l0 1 rfl
theorem dX11_countOf_2 : decode cX11_countOf 2 = .ok (.iconst 0, 1) := dok_at gdX11_countOf_l0 2 rfl
theorem dX11_countOf_3 : decode cX11_countOf 3 = .ok (.istore_n 2, 1) := dok_at gdX11_countOf_l0 3 rfl
theorem dX11_countOf_4 : decode cX11_countOf 4 = .ok (.iload_n 2, 1) := dok_at gdX11_countOf_l0 4 rfl
theorem dX11_countOf_5 : decode cX11_countOf 5 = .ok (.bipush 9, 2) := dok_at gdX11_countOf_l0 5 rfl
theorem dX11_countOf_7 : decode cX11_countOf 7 = .ok (.if_icmp .ge 17, 3) := dok_at gdX11_countOf_l0 6 rfl
theorem dX11_countOf_10 : decode cX11_countOf 10 = .ok (.iload_n 1, 1) := dok_at gdX11_countOf_l0 7 rfl
theorem dX11_countOf_11 : decode cX11_countOf 11 = .ok (.iload_n 0, 1) := dok_at gdX11_countOf_l0 8 rfl
theorem dX11_countOf_12 : decode cX11_countOf 12 = .ok (.iload_n 2, 1) := dok_at gdX11_countOf_l0 9 rfl
theorem dX11_countOf_13 : decode cX11_countOf 13 = .ok (.ishr, 1) := dok_at gdX11_countOf_l0 10 rfl
theorem dX11_countOf_14 : decode cX11_countOf 14 = .ok (.iconst 1, 1) := dok_at gdX11_countOf_l0 11 rfl
theorem dX11_countOf_15 : decode cX11_countOf 15 = .ok (.iand, 1) := dok_at gdX11_countOf_l0 12 rfl
theorem dX11_countOf_16 : decode cX11_countOf 16 = .ok (.iadd, 1) := dok_at gdX11_countOf_l0 13 rfl
theorem dX11_countOf_17 : decode cX11_countOf 17 = .ok (.istore_n 1, 1) := dok_at gdX11_countOf_l0 14 rfl
theorem dX11_countOf_18 : decode cX11_countOf 18 = .ok (.iinc 2 1, 3) := dok_at gdX11_countOf_l0 15 rfl
theorem dX11_countOf_21 : decode cX11_countOf 21 = .ok (.goto (-17), 3) := dok_at gdX11_countOf_l0 16 rfl
theorem dX11_countOf_24 : decode cX11_countOf 24 = .ok (.iload_n 1, 1) := dok_at gdX11_countOf_l0 17 rfl
theorem dX11_countOf_25 : decode cX11_countOf 25 = .ok (.ireturn, 1) := dok_at gdX11_countOf_l0 18 rfl
def dX11_firstDraft_l0 : List (Nat × Instr × Nat) := [(0, .aload_n 0, 1), (1, .iconst 0, 1), (2, .putfield 98, 3), (5, .aload_n 0, 1), (6, .sipush 999, 3), (9, .putfield 102, 3), (12, .aload_n 0, 1), (13, .iconst 0, 1), (14, .putfield 105, 3), (17, .aload_n 0, 1), (18, .iconst 5, 1), (19, .putfield 108, 3), (22, .aload_n 0, 1), (23, .iconst 0, 1), (24, .putfield 111, 3), (27, .aload_n 0, 1), (28, .iconst 0, 1), (29, .putfield 115, 3), (32, .aload_n 0, 1), (33, .iconst 0, 1), (34, .putfield 118, 3), (37, .return_, 1)]
theorem gdX11_firstDraft_l0 : dok cX11_firstDraft dX11_firstDraft_l0 = true := by decide +kernel
theorem dX11_firstDraft_0 : decode cX11_firstDraft 0 = .ok (.aload_n 0, 1) := dok_at gdX11_firstDraft_l0 0 rfl
theorem dX11_firstDraft_1 : decode cX11_firstDraft 1 = .ok (.iconst 0, 1) := dok_at gdX11_firstDraft_l0 1 rfl
theorem dX11_firstDraft_2 : decode cX11_firstDraft 2 = .ok (.putfield 98, 3) := dok_at gdX11_firstDraft_l0 2 rfl
theorem dX11_firstDraft_5 : decode cX11_firstDraft 5 = .ok (.aload_n 0, 1) := dok_at gdX11_firstDraft_l0 3 rfl
theorem dX11_firstDraft_6 : decode cX11_firstDraft 6 = .ok (.sipush 999, 3) := dok_at gdX11_firstDraft_l0 4 rfl
theorem dX11_firstDraft_9 : decode cX11_firstDraft 9 = .ok (.putfield 102, 3) := dok_at gdX11_firstDraft_l0 5 rfl
theorem dX11_firstDraft_12 : decode cX11_firstDraft 12 = .ok (.aload_n 0, 1) := dok_at gdX11_firstDraft_l0 6 rfl
theorem dX11_firstDraft_13 : decode cX11_firstDraft 13 = .ok (.iconst 0, 1) := dok_at gdX11_firstDraft_l0 7 rfl
theorem dX11_firstDraft_14 : decode cX11_firstDraft 14 = .ok (.putfield 105, 3) := dok_at gdX11_firstDraft_l0 8 rfl
theorem dX11_firstDraft_17 : decode cX11_firstDraft 17 = .ok (.aload_n 0, 1) := dok_at gdX11_firstDraft_l0 9 rfl
theorem dX11_firstDraft_18 : decode cX11_firstDraft 18 = .ok (.iconst 5, 1) := dok_at gdX11_firstDraft_l0 10 rfl
theorem dX11_firstDraft_19 : decode cX11_firstDraft 19 = .ok (.putfield 108, 3) := dok_at gdX11_firstDraft_l0 11 rfl
theorem dX11_firstDraft_22 : decode cX11_firstDraft 22 = .ok (.aload_n 0, 1) := dok_at gdX11_firstDraft_l0 12 rfl
theorem dX11_firstDraft_23 : decode cX11_firstDraft 23 = .ok (.iconst 0, 1) := dok_at gdX11_firstDraft_l0 13 rfl
theorem dX11_firstDraft_24 : decode cX11_firstDraft 24 = .ok (.putfield 111, 3) := dok_at gdX11_firstDraft_l0 14 rfl
theorem dX11_firstDraft_27 : decode cX11_firstDraft 27 = .ok (.aload_n 0, 1) := dok_at gdX11_firstDraft_l0 15 rfl
theorem dX11_firstDraft_28 : decode cX11_firstDraft 28 = .ok (.iconst 0, 1) := dok_at gdX11_firstDraft_l0 16 rfl
theorem dX11_firstDraft_29 : decode cX11_firstDraft 29 = .ok (.putfield 115, 3) := dok_at gdX11_firstDraft_l0 17 rfl
theorem dX11_firstDraft_32 : decode cX11_firstDraft 32 = .ok (.aload_n 0, 1) := dok_at gdX11_firstDraft_l0 18 rfl
theorem dX11_firstDraft_33 : decode cX11_firstDraft 33 = .ok (.iconst 0, 1) := dok_at gdX11_firstDraft_l0 19 rfl
theorem dX11_firstDraft_34 : decode cX11_firstDraft 34 = .ok (.putfield 118, 3) := dok_at gdX11_firstDraft_l0 20 rfl
theorem dX11_firstDraft_37 : decode cX11_firstDraft 37 = .ok (.return_, 1) := dok_at gdX11_firstDraft_l0 21 rfl
def dX11_keepDraft_l0 : List (Nat × Instr × Nat) := [(0, .aload_n 0, 1), (1, .aload_n 0, 1), (2, .getfield 98, 3), (5, .putfield 121, 3), (8, .aload_n 0, 1), (9, .aload_n 0, 1), (10, .getfield 102, 3), (13, .putfield 124, 3), (16, .aload_n 0, 1), (17, .aload_n 0, 1), (18, .getfield 105, 3), (21, .putfield 127, 3), (24, .aload_n 0, 1), (25, .aload_n 0, 1), (26, .getfield 108, 3), (29, .putfield 130, 3), (32, .iconst 0, 1), (33, .istore_n 1, 1), (34, .iload_n 1, 1), (35, .bipush 56, 2), (37, .if_icmp .ge 21, 3), (40, .aload_n 0, 1), (41, .getfield 7, 3), (44, .iload_n 1, 1)]
theorem gdX11_keepDraft_l0 : dok cX11_keepDraft dX11_keepDraft_l0 = true := by decide +kernel
theorem dX11_keepDraft_0 : decode cX11_keepDraft 0 = .ok (.aload_n 0, 1) := dok_at gdX11_keepDraft_l0 0 rfl
theorem dX11_keepDraft_1 : decode cX11_keepDraft 1 = .ok (.aload_n 0, 1) := dok_at gdX11_keepDraft_l0 1 rfl
theorem dX11_keepDraft_2 : decode cX11_keepDraft 2 = .ok (.getfield 98, 3) := dok_at gdX11_keepDraft_l0 2 rfl
theorem dX11_keepDraft_5 : decode cX11_keepDraft 5 = .ok (.putfield 121, 3) := dok_at gdX11_keepDraft_l0 3 rfl
theorem dX11_keepDraft_8 : decode cX11_keepDraft 8 = .ok (.aload_n 0, 1) := dok_at gdX11_keepDraft_l0 4 rfl
theorem dX11_keepDraft_9 : decode cX11_keepDraft 9 = .ok (.aload_n 0, 1) := dok_at gdX11_keepDraft_l0 5 rfl
theorem dX11_keepDraft_10 : decode cX11_keepDraft 10 = .ok (.getfield 102, 3) := dok_at gdX11_keepDraft_l0 6 rfl
theorem dX11_keepDraft_13 : decode cX11_keepDraft 13 = .ok (.putfield 124, 3) := dok_at gdX11_keepDraft_l0 7 rfl
theorem dX11_keepDraft_16 : decode cX11_keepDraft 16 = .ok (.aload_n 0, 1) := dok_at gdX11_keepDraft_l0 8 rfl
theorem dX11_keepDraft_17 : decode cX11_keepDraft 17 = .ok (.aload_n 0, 1) := dok_at gdX11_keepDraft_l0 9 rfl
theorem dX11_keepDraft_18 : decode cX11_keepDraft 18 = .ok (.getfield 105, 3) := dok_at gdX11_keepDraft_l0 10 rfl
theorem dX11_keepDraft_21 : decode cX11_keepDraft 21 = .ok (.putfield 127, 3) := dok_at gdX11_keepDraft_l0 11 rfl
theorem dX11_keepDraft_24 : decode cX11_keepDraft 24 = .ok (.aload_n 0, 1) := dok_at gdX11_keepDraft_l0 12 rfl
theorem dX11_keepDraft_25 : decode cX11_keepDraft 25 = .ok (.aload_n 0, 1) := dok_at gdX11_keepDraft_l0 13 rfl
theorem dX11_keepDraft_26 : decode cX11_keepDraft 26 = .ok (.getfield 108, 3) := dok_at gdX11_keepDraft_l0 14 rfl
theorem dX11_keepDraft_29 : decode cX11_keepDraft 29 = .ok (.putfield 130, 3) := dok_at gdX11_keepDraft_l0 15 rfl
theorem dX11_keepDraft_32 : decode cX11_keepDraft 32 = .ok (.iconst 0, 1) := dok_at gdX11_keepDraft_l0 16 rfl
theorem dX11_keepDraft_33 : decode cX11_keepDraft 33 = .ok (.istore_n 1, 1) := dok_at gdX11_keepDraft_l0 17 rfl
theorem dX11_keepDraft_34 : decode cX11_keepDraft 34 = .ok (.iload_n 1, 1) := dok_at gdX11_keepDraft_l0 18 rfl
theorem dX11_keepDraft_35 : decode cX11_keepDraft 35 = .ok (.bipush 56, 2) := dok_at gdX11_keepDraft_l0 19 rfl
theorem dX11_keepDraft_37 : decode cX11_keepDraft 37 = .ok (.if_icmp .ge 21, 3) := dok_at gdX11_keepDraft_l0 20 rfl
theorem dX11_keepDraft_40 : decode cX11_keepDraft 40 = .ok (.aload_n 0, 1) := dok_at gdX11_keepDraft_l0 21 rfl
theorem dX11_keepDraft_41 : decode cX11_keepDraft 41 = .ok (.getfield 7, 3) := dok_at gdX11_keepDraft_l0 22 rfl
theorem dX11_keepDraft_44 : decode cX11_keepDraft 44 = .ok (.iload_n 1, 1) := dok_at gdX11_keepDraft_l0 23 rfl
def dX11_keepDraft_l45 : List (Nat × Instr × Nat) := [(45, .aload_n 0, 1), (46, .getfield 20, 3), (49, .iload_n 1, 1), (50, .iaload, 1), (51, .iastore, 1), (52, .iinc 1 1, 3), (55, .goto (-21), 3), (58, .iconst 0, 1), (59, .istore_n 1, 1), (60, .iload_n 1, 1), (61, .bipush 8, 2), (63, .if_icmp .ge 21, 3), (66, .aload_n 0, 1), (67, .getfield 13, 3), (70, .iload_n 1, 1), (71, .aload_n 0, 1), (72, .getfield 23, 3), (75, .iload_n 1, 1), (76, .iaload, 1), (77, .iastore, 1), (78, .iinc 1 1, 3), (81, .goto (-21), 3), (84, .iconst 0, 1), (85, .istore_n 1, 1)]
theorem gdX11_keepDraft_l45 : dok cX11_keepDraft dX11_keepDraft_l45 = true := by decide +kernel
theorem dX11_keepDraft_45 : decode cX11_keepDraft 45 = .ok (.aload_n 0, 1) := dok_at gdX11_keepDraft_l45 0 rfl
theorem dX11_keepDraft_46 : decode cX11_keepDraft 46 = .ok (.getfield 20, 3) := dok_at gdX11_keepDraft_l45 1 rfl
theorem dX11_keepDraft_49 : decode cX11_keepDraft 49 = .ok (.iload_n 1, 1) := dok_at gdX11_keepDraft_l45 2 rfl
theorem dX11_keepDraft_50 : decode cX11_keepDraft 50 = .ok (.iaload, 1) := dok_at gdX11_keepDraft_l45 3 rfl
theorem dX11_keepDraft_51 : decode cX11_keepDraft 51 = .ok (.iastore, 1) := dok_at gdX11_keepDraft_l45 4 rfl
theorem dX11_keepDraft_52 : decode cX11_keepDraft 52 = .ok (.iinc 1 1, 3) := dok_at gdX11_keepDraft_l45 5 rfl
theorem dX11_keepDraft_55 : decode cX11_keepDraft 55 = .ok (.goto (-21), 3) := dok_at gdX11_keepDraft_l45 6 rfl
theorem dX11_keepDraft_58 : decode cX11_keepDraft 58 = .ok (.iconst 0, 1) := dok_at gdX11_keepDraft_l45 7 rfl
theorem dX11_keepDraft_59 : decode cX11_keepDraft 59 = .ok (.istore_n 1, 1) := dok_at gdX11_keepDraft_l45 8 rfl
theorem dX11_keepDraft_60 : decode cX11_keepDraft 60 = .ok (.iload_n 1, 1) := dok_at gdX11_keepDraft_l45 9 rfl
theorem dX11_keepDraft_61 : decode cX11_keepDraft 61 = .ok (.bipush 8, 2) := dok_at gdX11_keepDraft_l45 10 rfl
theorem dX11_keepDraft_63 : decode cX11_keepDraft 63 = .ok (.if_icmp .ge 21, 3) := dok_at gdX11_keepDraft_l45 11 rfl
theorem dX11_keepDraft_66 : decode cX11_keepDraft 66 = .ok (.aload_n 0, 1) := dok_at gdX11_keepDraft_l45 12 rfl
theorem dX11_keepDraft_67 : decode cX11_keepDraft 67 = .ok (.getfield 13, 3) := dok_at gdX11_keepDraft_l45 13 rfl
theorem dX11_keepDraft_70 : decode cX11_keepDraft 70 = .ok (.iload_n 1, 1) := dok_at gdX11_keepDraft_l45 14 rfl
theorem dX11_keepDraft_71 : decode cX11_keepDraft 71 = .ok (.aload_n 0, 1) := dok_at gdX11_keepDraft_l45 15 rfl
theorem dX11_keepDraft_72 : decode cX11_keepDraft 72 = .ok (.getfield 23, 3) := dok_at gdX11_keepDraft_l45 16 rfl
theorem dX11_keepDraft_75 : decode cX11_keepDraft 75 = .ok (.iload_n 1, 1) := dok_at gdX11_keepDraft_l45 17 rfl
theorem dX11_keepDraft_76 : decode cX11_keepDraft 76 = .ok (.iaload, 1) := dok_at gdX11_keepDraft_l45 18 rfl
theorem dX11_keepDraft_77 : decode cX11_keepDraft 77 = .ok (.iastore, 1) := dok_at gdX11_keepDraft_l45 19 rfl
theorem dX11_keepDraft_78 : decode cX11_keepDraft 78 = .ok (.iinc 1 1, 3) := dok_at gdX11_keepDraft_l45 20 rfl
theorem dX11_keepDraft_81 : decode cX11_keepDraft 81 = .ok (.goto (-21), 3) := dok_at gdX11_keepDraft_l45 21 rfl
theorem dX11_keepDraft_84 : decode cX11_keepDraft 84 = .ok (.iconst 0, 1) := dok_at gdX11_keepDraft_l45 22 rfl
theorem dX11_keepDraft_85 : decode cX11_keepDraft 85 = .ok (.istore_n 1, 1) := dok_at gdX11_keepDraft_l45 23 rfl
def dX11_keepDraft_l86 : List (Nat × Instr × Nat) := [(86, .iload_n 1, 1), (87, .sipush 4096, 3), (90, .if_icmp .ge 21, 3), (93, .aload_n 0, 1), (94, .getfield 16, 3), (97, .iload_n 1, 1), (98, .aload_n 0, 1), (99, .getfield 26, 3), (102, .iload_n 1, 1), (103, .baload, 1), (104, .bastore, 1), (105, .iinc 1 1, 3), (108, .goto (-22), 3), (111, .aload_n 0, 1), (112, .invokevirtual 133, 3), (115, .return_, 1)]
theorem gdX11_keepDraft_l86 : dok cX11_keepDraft dX11_keepDraft_l86 = true := by decide +kernel
theorem dX11_keepDraft_86 : decode cX11_keepDraft 86 = .ok (.iload_n 1, 1) := dok_at gdX11_keepDraft_l86 0 rfl
theorem dX11_keepDraft_87 : decode cX11_keepDraft 87 = .ok (.sipush 4096, 3) := dok_at gdX11_keepDraft_l86 1 rfl
theorem dX11_keepDraft_90 : decode cX11_keepDraft 90 = .ok (.if_icmp .ge 21, 3) := dok_at gdX11_keepDraft_l86 2 rfl
theorem dX11_keepDraft_93 : decode cX11_keepDraft 93 = .ok (.aload_n 0, 1) := dok_at gdX11_keepDraft_l86 3 rfl
theorem dX11_keepDraft_94 : decode cX11_keepDraft 94 = .ok (.getfield 16, 3) := dok_at gdX11_keepDraft_l86 4 rfl
theorem dX11_keepDraft_97 : decode cX11_keepDraft 97 = .ok (.iload_n 1, 1) := dok_at gdX11_keepDraft_l86 5 rfl
theorem dX11_keepDraft_98 : decode cX11_keepDraft 98 = .ok (.aload_n 0, 1) := dok_at gdX11_keepDraft_l86 6 rfl
theorem dX11_keepDraft_99 : decode cX11_keepDraft 99 = .ok (.getfield 26, 3) := dok_at gdX11_keepDraft_l86 7 rfl
theorem dX11_keepDraft_102 : decode cX11_keepDraft 102 = .ok (.iload_n 1, 1) := dok_at gdX11_keepDraft_l86 8 rfl
theorem dX11_keepDraft_103 : decode cX11_keepDraft 103 = .ok (.baload, 1) := dok_at gdX11_keepDraft_l86 9 rfl
theorem dX11_keepDraft_104 : decode cX11_keepDraft 104 = .ok (.bastore, 1) := dok_at gdX11_keepDraft_l86 10 rfl
theorem dX11_keepDraft_105 : decode cX11_keepDraft 105 = .ok (.iinc 1 1, 3) := dok_at gdX11_keepDraft_l86 11 rfl
theorem dX11_keepDraft_108 : decode cX11_keepDraft 108 = .ok (.goto (-22), 3) := dok_at gdX11_keepDraft_l86 12 rfl
theorem dX11_keepDraft_111 : decode cX11_keepDraft 111 = .ok (.aload_n 0, 1) := dok_at gdX11_keepDraft_l86 13 rfl
theorem dX11_keepDraft_112 : decode cX11_keepDraft 112 = .ok (.invokevirtual 133, 3) := dok_at gdX11_keepDraft_l86 14 rfl
theorem dX11_keepDraft_115 : decode cX11_keepDraft 115 = .ok (.return_, 1) := dok_at gdX11_keepDraft_l86 15 rfl
def dX11_feed_l0 : List (Nat × Instr × Nat) := [(0, .aload_n 0, 1), (1, .getfield 136, 3), (4, .bipush 8, 2), (6, .iadd, 1), (7, .sipush 400, 3), (10, .if_icmp .le 6, 3), (13, .bipush (-3), 2), (15, .ireturn, 1), (16, .bipush 56, 2), (18, .istore_n 3, 1), (19, .iload_n 3, 1), (20, .ifCond .lt 36, 3), (23, .aload_n 0, 1), (24, .getfield 44, 3), (27, .aload_n 0, 1), (28, .getfield 136, 3), (31, .lload_n 1, 1), (32, .iload_n 3, 1), (33, .lshr, 1), (34, .ldc2_w 139, 3), (37, .land, 1), (38, .l2i, 1), (39, .iastore, 1), (40, .aload_n 0, 1)]
theorem gdX11_feed_l0 : dok cX11_feed dX11_feed_l0 = true := by decide +kernel
theorem dX11_feed_0 : decode cX11_feed 0 = .ok (.aload_n 0, 1) := dok_at gdX11_feed_l0 0 rfl
theorem dX11_feed_1 : decode cX11_feed 1 = .ok (.getfield 136, 3) := dok_at gdX11_feed_l0 1 rfl
theorem dX11_feed_4 : decode cX11_feed 4 = .ok (.bipush 8, 2) := dok_at gdX11_feed_l0 2 rfl
theorem dX11_feed_6 : decode cX11_feed 6 = .ok (.iadd, 1) := dok_at gdX11_feed_l0 3 rfl
theorem dX11_feed_7 : decode cX11_feed 7 = .ok (.sipush 400, 3) := dok_at gdX11_feed_l0 4 rfl
theorem dX11_feed_10 : decode cX11_feed 10 = .ok (.if_icmp .le 6, 3) := dok_at gdX11_feed_l0 5 rfl
theorem dX11_feed_13 : decode cX11_feed 13 = .ok (.bipush (-3), 2) := dok_at gdX11_feed_l0 6 rfl
theorem dX11_feed_15 : decode cX11_feed 15 = .ok (.ireturn, 1) := dok_at gdX11_feed_l0 7 rfl
theorem dX11_feed_16 : decode cX11_feed 16 = .ok (.bipush 56, 2) := dok_at gdX11_feed_l0 8 rfl
theorem dX11_feed_18 : decode cX11_feed 18 = .ok (.istore_n 3, 1) := dok_at gdX11_feed_l0 9 rfl
theorem dX11_feed_19 : decode cX11_feed 19 = .ok (.iload_n 3, 1) := dok_at gdX11_feed_l0 10 rfl
theorem dX11_feed_20 : decode cX11_feed 20 = .ok (.ifCond .lt 36, 3) := dok_at gdX11_feed_l0 11 rfl
theorem dX11_feed_23 : decode cX11_feed 23 = .ok (.aload_n 0, 1) := dok_at gdX11_feed_l0 12 rfl
theorem dX11_feed_24 : decode cX11_feed 24 = .ok (.getfield 44, 3) := dok_at gdX11_feed_l0 13 rfl
theorem dX11_feed_27 : decode cX11_feed 27 = .ok (.aload_n 0, 1) := dok_at gdX11_feed_l0 14 rfl
theorem dX11_feed_28 : decode cX11_feed 28 = .ok (.getfield 136, 3) := dok_at gdX11_feed_l0 15 rfl
theorem dX11_feed_31 : decode cX11_feed 31 = .ok (.lload_n 1, 1) := dok_at gdX11_feed_l0 16 rfl
theorem dX11_feed_32 : decode cX11_feed 32 = .ok (.iload_n 3, 1) := dok_at gdX11_feed_l0 17 rfl
theorem dX11_feed_33 : decode cX11_feed 33 = .ok (.lshr, 1) := dok_at gdX11_feed_l0 18 rfl
theorem dX11_feed_34 : decode cX11_feed 34 = .ok (.ldc2_w 139, 3) := dok_at gdX11_feed_l0 19 rfl
theorem dX11_feed_37 : decode cX11_feed 37 = .ok (.land, 1) := dok_at gdX11_feed_l0 20 rfl
theorem dX11_feed_38 : decode cX11_feed 38 = .ok (.l2i, 1) := dok_at gdX11_feed_l0 21 rfl
theorem dX11_feed_39 : decode cX11_feed 39 = .ok (.iastore, 1) := dok_at gdX11_feed_l0 22 rfl
theorem dX11_feed_40 : decode cX11_feed 40 = .ok (.aload_n 0, 1) := dok_at gdX11_feed_l0 23 rfl
def dX11_feed_l41 : List (Nat × Instr × Nat) := [(41, .dup, 1), (42, .getfield 136, 3), (45, .iconst 1, 1), (46, .iadd, 1), (47, .putfield 136, 3), (50, .iinc 3 (-8), 3), (53, .goto (-34), 3), (56, .aload_n 0, 1), (57, .getfield 136, 3), (60, .ireturn, 1)]
theorem gdX11_feed_l41 : dok cX11_feed dX11_feed_l41 = true := by decide +kernel
theorem dX11_feed_41 : decode cX11_feed 41 = .ok (.dup, 1) := dok_at gdX11_feed_l41 0 rfl
theorem dX11_feed_42 : decode cX11_feed 42 = .ok (.getfield 136, 3) := dok_at gdX11_feed_l41 1 rfl
theorem dX11_feed_45 : decode cX11_feed 45 = .ok (.iconst 1, 1) := dok_at gdX11_feed_l41 2 rfl
theorem dX11_feed_46 : decode cX11_feed 46 = .ok (.iadd, 1) := dok_at gdX11_feed_l41 3 rfl
theorem dX11_feed_47 : decode cX11_feed 47 = .ok (.putfield 136, 3) := dok_at gdX11_feed_l41 4 rfl
theorem dX11_feed_50 : decode cX11_feed 50 = .ok (.iinc 3 (-8), 3) := dok_at gdX11_feed_l41 5 rfl
theorem dX11_feed_53 : decode cX11_feed 53 = .ok (.goto (-34), 3) := dok_at gdX11_feed_l41 6 rfl
theorem dX11_feed_56 : decode cX11_feed 56 = .ok (.aload_n 0, 1) := dok_at gdX11_feed_l41 7 rfl
theorem dX11_feed_57 : decode cX11_feed 57 = .ok (.getfield 136, 3) := dok_at gdX11_feed_l41 8 rfl
theorem dX11_feed_60 : decode cX11_feed 60 = .ok (.ireturn, 1) := dok_at gdX11_feed_l41 9 rfl
def dX11_end_l0 : List (Nat × Instr × Nat) := [(0, .iload_n 1, 1), (1, .i2l, 1), (2, .lconst 0, 1), (3, .aload_n 0, 1), (4, .getfield 136, 3), (7, .i2l, 1), (8, .invokestatic 141, 3), (11, .ifCond .ne 5, 3), (14, .iconst (-1), 1), (15, .ireturn, 1), (16, .aload_n 0, 1), (17, .getfield 136, 3), (20, .istore_n 2, 1), (21, .aload_n 0, 1), (22, .iload_n 1, 1), (23, .putfield 136, 3), (26, .iload_n 2, 1), (27, .ireturn, 1)]
theorem gdX11_end_l0 : dok cX11_end dX11_end_l0 = true := by decide +kernel
theorem dX11_end_0 : decode cX11_end 0 = .ok (.iload_n 1, 1) := dok_at gdX11_end_l0 0 rfl
theorem dX11_end_1 : decode cX11_end 1 = .ok (.i2l, 1) := dok_at gdX11_end_l0 1 rfl
theorem dX11_end_2 : decode cX11_end 2 = .ok (.lconst 0, 1) := dok_at gdX11_end_l0 2 rfl
theorem dX11_end_3 : decode cX11_end 3 = .ok (.aload_n 0, 1) := dok_at gdX11_end_l0 3 rfl
theorem dX11_end_4 : decode cX11_end 4 = .ok (.getfield 136, 3) := dok_at gdX11_end_l0 4 rfl
theorem dX11_end_7 : decode cX11_end 7 = .ok (.i2l, 1) := dok_at gdX11_end_l0 5 rfl
theorem dX11_end_8 : decode cX11_end 8 = .ok (.invokestatic 141, 3) := dok_at gdX11_end_l0 6 rfl
theorem dX11_end_11 : decode cX11_end 11 = .ok (.ifCond .ne 5, 3) := dok_at gdX11_end_l0 7 rfl
theorem dX11_end_14 : decode cX11_end 14 = .ok (.iconst (-1), 1) := dok_at gdX11_end_l0 8 rfl
theorem dX11_end_15 : decode cX11_end 15 = .ok (.ireturn, 1) := dok_at gdX11_end_l0 9 rfl
theorem dX11_end_16 : decode cX11_end 16 = .ok (.aload_n 0, 1) := dok_at gdX11_end_l0 10 rfl
theorem dX11_end_17 : decode cX11_end 17 = .ok (.getfield 136, 3) := dok_at gdX11_end_l0 11 rfl
theorem dX11_end_20 : decode cX11_end 20 = .ok (.istore_n 2, 1) := dok_at gdX11_end_l0 12 rfl
theorem dX11_end_21 : decode cX11_end 21 = .ok (.aload_n 0, 1) := dok_at gdX11_end_l0 13 rfl
theorem dX11_end_22 : decode cX11_end 22 = .ok (.iload_n 1, 1) := dok_at gdX11_end_l0 14 rfl
theorem dX11_end_23 : decode cX11_end 23 = .ok (.putfield 136, 3) := dok_at gdX11_end_l0 15 rfl
theorem dX11_end_26 : decode cX11_end 26 = .ok (.iload_n 2, 1) := dok_at gdX11_end_l0 16 rfl
theorem dX11_end_27 : decode cX11_end 27 = .ok (.ireturn, 1) := dok_at gdX11_end_l0 17 rfl
def dX11_look_l0 : List (Nat × Instr × Nat) := [(0, .iload_n 1, 1), (1, .aload_n 0, 1), (2, .getfield 136, 3), (5, .if_icmp .ge 12, 3), (8, .aload_n 0, 1), (9, .getfield 44, 3), (12, .iload_n 1, 1), (13, .iaload, 1), (14, .goto 4, 3), (17, .iconst (-1), 1), (18, .ireturn, 1)]
theorem gdX11_look_l0 : dok cX11_look dX11_look_l0 = true := by decide +kernel
theorem dX11_look_0 : decode cX11_look 0 = .ok (.iload_n 1, 1) := dok_at gdX11_look_l0 0 rfl
theorem dX11_look_1 : decode cX11_look 1 = .ok (.aload_n 0, 1) := dok_at gdX11_look_l0 1 rfl
theorem dX11_look_2 : decode cX11_look 2 = .ok (.getfield 136, 3) := dok_at gdX11_look_l0 2 rfl
theorem dX11_look_5 : decode cX11_look 5 = .ok (.if_icmp .ge 12, 3) := dok_at gdX11_look_l0 3 rfl
theorem dX11_look_8 : decode cX11_look 8 = .ok (.aload_n 0, 1) := dok_at gdX11_look_l0 4 rfl
theorem dX11_look_9 : decode cX11_look 9 = .ok (.getfield 44, 3) := dok_at gdX11_look_l0 5 rfl
theorem dX11_look_12 : decode cX11_look 12 = .ok (.iload_n 1, 1) := dok_at gdX11_look_l0 6 rfl
theorem dX11_look_13 : decode cX11_look 13 = .ok (.iaload, 1) := dok_at gdX11_look_l0 7 rfl
theorem dX11_look_14 : decode cX11_look 14 = .ok (.goto 4, 3) := dok_at gdX11_look_l0 8 rfl
theorem dX11_look_17 : decode cX11_look 17 = .ok (.iconst (-1), 1) := dok_at gdX11_look_l0 9 rfl
theorem dX11_look_18 : decode cX11_look 18 = .ok (.ireturn, 1) := dok_at gdX11_look_l0 10 rfl
def dX11_is_l0 : List (Nat × Instr × Nat) := [(0, .aload_n 0, 1), (1, .getfield 154, 3), (4, .aload_n 0, 1), (5, .getfield 148, 3), (8, .isub, 1), (9, .iload_n 1, 1), (10, .if_icmp .ne 68, 3), (13, .aload_n 0, 1), (14, .aload_n 0, 1), (15, .getfield 148, 3), (18, .invokevirtual 157, 3), (21, .iload_n 2, 1), (22, .if_icmp .ne 56, 3), (25, .aload_n 0, 1), (26, .aload_n 0, 1), (27, .getfield 148, 3), (30, .iconst 1, 1), (31, .iadd, 1), (32, .invokevirtual 157, 3), (35, .iload_n 3, 1), (36, .if_icmp .ne 42, 3), (39, .aload_n 0, 1), (40, .aload_n 0, 1), (41, .getfield 148, 3)]
theorem gdX11_is_l0 : dok cX11_is dX11_is_l0 = true := by decide +kernel
theorem dX11_is_0 : decode cX11_is 0 = .ok (.aload_n 0, 1) := dok_at gdX11_is_l0 0 rfl
theorem dX11_is_1 : decode cX11_is 1 = .ok (.getfield 154, 3) := dok_at gdX11_is_l0 1 rfl
theorem dX11_is_4 : decode cX11_is 4 = .ok (.aload_n 0, 1) := dok_at gdX11_is_l0 2 rfl
theorem dX11_is_5 : decode cX11_is 5 = .ok (.getfield 148, 3) := dok_at gdX11_is_l0 3 rfl
theorem dX11_is_8 : decode cX11_is 8 = .ok (.isub, 1) := dok_at gdX11_is_l0 4 rfl
theorem dX11_is_9 : decode cX11_is 9 = .ok (.iload_n 1, 1) := dok_at gdX11_is_l0 5 rfl
theorem dX11_is_10 : decode cX11_is 10 = .ok (.if_icmp .ne 68, 3) := dok_at gdX11_is_l0 6 rfl
theorem dX11_is_13 : decode cX11_is 13 = .ok (.aload_n 0, 1) := dok_at gdX11_is_l0 7 rfl
theorem dX11_is_14 : decode cX11_is 14 = .ok (.aload_n 0, 1) := dok_at gdX11_is_l0 8 rfl
theorem dX11_is_15 : decode cX11_is 15 = .ok (.getfield 148, 3) := dok_at gdX11_is_l0 9 rfl
theorem dX11_is_18 : decode cX11_is 18 = .ok (.invokevirtual 157, 3) := dok_at gdX11_is_l0 10 rfl
theorem dX11_is_21 : decode cX11_is 21 = .ok (.iload_n 2, 1) := dok_at gdX11_is_l0 11 rfl
theorem dX11_is_22 : decode cX11_is 22 = .ok (.if_icmp .ne 56, 3) := dok_at gdX11_is_l0 12 rfl
theorem dX11_is_25 : decode cX11_is 25 = .ok (.aload_n 0, 1) := dok_at gdX11_is_l0 13 rfl
theorem dX11_is_26 : decode cX11_is 26 = .ok (.aload_n 0, 1) := dok_at gdX11_is_l0 14 rfl
theorem dX11_is_27 : decode cX11_is 27 = .ok (.getfield 148, 3) := dok_at gdX11_is_l0 15 rfl
theorem dX11_is_30 : decode cX11_is 30 = .ok (.iconst 1, 1) := dok_at gdX11_is_l0 16 rfl
theorem dX11_is_31 : decode cX11_is 31 = .ok (.iadd, 1) := dok_at gdX11_is_l0 17 rfl
theorem dX11_is_32 : decode cX11_is 32 = .ok (.invokevirtual 157, 3) := dok_at gdX11_is_l0 18 rfl
theorem dX11_is_35 : decode cX11_is 35 = .ok (.iload_n 3, 1) := dok_at gdX11_is_l0 19 rfl
theorem dX11_is_36 : decode cX11_is 36 = .ok (.if_icmp .ne 42, 3) := dok_at gdX11_is_l0 20 rfl
theorem dX11_is_39 : decode cX11_is 39 = .ok (.aload_n 0, 1) := dok_at gdX11_is_l0 21 rfl
theorem dX11_is_40 : decode cX11_is 40 = .ok (.aload_n 0, 1) := dok_at gdX11_is_l0 22 rfl
theorem dX11_is_41 : decode cX11_is 41 = .ok (.getfield 148, 3) := dok_at gdX11_is_l0 23 rfl
def dX11_is_l44 : List (Nat × Instr × Nat) := [(44, .iconst 2, 1), (45, .iadd, 1), (46, .invokevirtual 157, 3), (49, .iload 4, 2), (51, .if_icmp .ne 27, 3), (54, .iload_n 1, 1), (55, .iconst 4, 1), (56, .if_icmp .lt 18, 3), (59, .aload_n 0, 1), (60, .aload_n 0, 1), (61, .getfield 148, 3), (64, .iconst 3, 1), (65, .iadd, 1), (66, .invokevirtual 157, 3), (69, .iload 5, 2), (71, .if_icmp .ne 7, 3), (74, .iconst 1, 1), (75, .goto 4, 3), (78, .iconst 0, 1), (79, .ireturn, 1)]
theorem gdX11_is_l44 : dok cX11_is dX11_is_l44 = true := by decide +kernel
theorem dX11_is_44 : decode cX11_is 44 = .ok (.iconst 2, 1) := dok_at gdX11_is_l44 0 rfl
theorem dX11_is_45 : decode cX11_is 45 = .ok (.iadd, 1) := dok_at gdX11_is_l44 1 rfl
theorem dX11_is_46 : decode cX11_is 46 = .ok (.invokevirtual 157, 3) := dok_at gdX11_is_l44 2 rfl
theorem dX11_is_49 : decode cX11_is 49 = .ok (.iload 4, 2) := dok_at gdX11_is_l44 3 rfl
theorem dX11_is_51 : decode cX11_is 51 = .ok (.if_icmp .ne 27, 3) := dok_at gdX11_is_l44 4 rfl
theorem dX11_is_54 : decode cX11_is 54 = .ok (.iload_n 1, 1) := dok_at gdX11_is_l44 5 rfl
theorem dX11_is_55 : decode cX11_is 55 = .ok (.iconst 4, 1) := dok_at gdX11_is_l44 6 rfl
theorem dX11_is_56 : decode cX11_is 56 = .ok (.if_icmp .lt 18, 3) := dok_at gdX11_is_l44 7 rfl
theorem dX11_is_59 : decode cX11_is 59 = .ok (.aload_n 0, 1) := dok_at gdX11_is_l44 8 rfl
theorem dX11_is_60 : decode cX11_is 60 = .ok (.aload_n 0, 1) := dok_at gdX11_is_l44 9 rfl
theorem dX11_is_61 : decode cX11_is 61 = .ok (.getfield 148, 3) := dok_at gdX11_is_l44 10 rfl
theorem dX11_is_64 : decode cX11_is 64 = .ok (.iconst 3, 1) := dok_at gdX11_is_l44 11 rfl
theorem dX11_is_65 : decode cX11_is 65 = .ok (.iadd, 1) := dok_at gdX11_is_l44 12 rfl
theorem dX11_is_66 : decode cX11_is 66 = .ok (.invokevirtual 157, 3) := dok_at gdX11_is_l44 13 rfl
theorem dX11_is_69 : decode cX11_is 69 = .ok (.iload 5, 2) := dok_at gdX11_is_l44 14 rfl
theorem dX11_is_71 : decode cX11_is 71 = .ok (.if_icmp .ne 7, 3) := dok_at gdX11_is_l44 15 rfl
theorem dX11_is_74 : decode cX11_is 74 = .ok (.iconst 1, 1) := dok_at gdX11_is_l44 16 rfl
theorem dX11_is_75 : decode cX11_is 75 = .ok (.goto 4, 3) := dok_at gdX11_is_l44 17 rfl
theorem dX11_is_78 : decode cX11_is 78 = .ok (.iconst 0, 1) := dok_at gdX11_is_l44 18 rfl
theorem dX11_is_79 : decode cX11_is 79 = .ok (.ireturn, 1) := dok_at gdX11_is_l44 19 rfl
def dX11_done_l0 : List (Nat × Instr × Nat) := [(0, .aload_n 0, 1), (1, .getfield 195, 3), (4, .ifCond .le 75, 3), (7, .aload_n 0, 1), (8, .getfield 38, 3), (11, .aload_n 0, 1), (12, .getfield 195, 3), (15, .iconst 1, 1), (16, .isub, 1), (17, .iaload, 1), (18, .bipush 12, 2), (20, .if_icmp .eq 59, 3), (23, .aload_n 0, 1), (24, .getfield 38, 3), (27, .aload_n 0, 1), (28, .getfield 195, 3), (31, .iconst 1, 1), (32, .isub, 1), (33, .iaload, 1), (34, .iload_n 1, 1), (35, .if_icmp .gt 44, 3), (38, .aload_n 0, 1), (39, .dup, 1), (40, .getfield 195, 3)]
theorem gdX11_done_l0 : dok cX11_done dX11_done_l0 = true := by decide +kernel
theorem dX11_done_0 : decode cX11_done 0 = .ok (.aload_n 0, 1) := dok_at gdX11_done_l0 0 rfl
theorem dX11_done_1 : decode cX11_done 1 = .ok (.getfield 195, 3) := dok_at gdX11_done_l0 1 rfl
theorem dX11_done_4 : decode cX11_done 4 = .ok (.ifCond .le 75, 3) := dok_at gdX11_done_l0 2 rfl
theorem dX11_done_7 : decode cX11_done 7 = .ok (.aload_n 0, 1) := dok_at gdX11_done_l0 3 rfl
theorem dX11_done_8 : decode cX11_done 8 = .ok (.getfield 38, 3) := dok_at gdX11_done_l0 4 rfl
theorem dX11_done_11 : decode cX11_done 11 = .ok (.aload_n 0, 1) := dok_at gdX11_done_l0 5 rfl
theorem dX11_done_12 : decode cX11_done 12 = .ok (.getfield 195, 3) := dok_at gdX11_done_l0 6 rfl
theorem dX11_done_15 : decode cX11_done 15 = .ok (.iconst 1, 1) := dok_at gdX11_done_l0 7 rfl
theorem dX11_done_16 : decode cX11_done 16 = .ok (.isub, 1) := dok_at gdX11_done_l0 8 rfl
theorem dX11_done_17 : decode cX11_done 17 = .ok (.iaload, 1) := dok_at gdX11_done_l0 9 rfl
theorem dX11_done_18 : decode cX11_done 18 = .ok (.bipush 12, 2) := dok_at gdX11_done_l0 10 rfl
theorem dX11_done_20 : decode cX11_done 20 = .ok (.if_icmp .eq 59, 3) := dok_at gdX11_done_l0 11 rfl
theorem dX11_done_23 : decode cX11_done 23 = .ok (.aload_n 0, 1) := dok_at gdX11_done_l0 12 rfl
theorem dX11_done_24 : decode cX11_done 24 = .ok (.getfield 38, 3) := dok_at gdX11_done_l0 13 rfl
theorem dX11_done_27 : decode cX11_done 27 = .ok (.aload_n 0, 1) := dok_at gdX11_done_l0 14 rfl
theorem dX11_done_28 : decode cX11_done 28 = .ok (.getfield 195, 3) := dok_at gdX11_done_l0 15 rfl
theorem dX11_done_31 : decode cX11_done 31 = .ok (.iconst 1, 1) := dok_at gdX11_done_l0 16 rfl
theorem dX11_done_32 : decode cX11_done 32 = .ok (.isub, 1) := dok_at gdX11_done_l0 17 rfl
theorem dX11_done_33 : decode cX11_done 33 = .ok (.iaload, 1) := dok_at gdX11_done_l0 18 rfl
theorem dX11_done_34 : decode cX11_done 34 = .ok (.iload_n 1, 1) := dok_at gdX11_done_l0 19 rfl
theorem dX11_done_35 : decode cX11_done 35 = .ok (.if_icmp .gt 44, 3) := dok_at gdX11_done_l0 20 rfl
theorem dX11_done_38 : decode cX11_done 38 = .ok (.aload_n 0, 1) := dok_at gdX11_done_l0 21 rfl
theorem dX11_done_39 : decode cX11_done 39 = .ok (.dup, 1) := dok_at gdX11_done_l0 22 rfl
theorem dX11_done_40 : decode cX11_done 40 = .ok (.getfield 195, 3) := dok_at gdX11_done_l0 23 rfl
def dX11_done_l43 : List (Nat × Instr × Nat) := [(43, .iconst 1, 1), (44, .isub, 1), (45, .putfield 195, 3), (48, .aload_n 0, 1), (49, .getfield 35, 3), (52, .aload_n 0, 1), (53, .getfield 192, 3), (56, .aload_n 0, 1), (57, .getfield 38, 3), (60, .aload_n 0, 1), (61, .getfield 195, 3), (64, .iaload, 1), (65, .iastore, 1), (66, .aload_n 0, 1), (67, .dup, 1), (68, .getfield 192, 3), (71, .iconst 1, 1), (72, .iadd, 1), (73, .putfield 192, 3), (76, .goto (-76), 3), (79, .return_, 1)]
theorem gdX11_done_l43 : dok cX11_done dX11_done_l43 = true := by decide +kernel
theorem dX11_done_43 : decode cX11_done 43 = .ok (.iconst 1, 1) := dok_at gdX11_done_l43 0 rfl
theorem dX11_done_44 : decode cX11_done 44 = .ok (.isub, 1) := dok_at gdX11_done_l43 1 rfl
theorem dX11_done_45 : decode cX11_done 45 = .ok (.putfield 195, 3) := dok_at gdX11_done_l43 2 rfl
theorem dX11_done_48 : decode cX11_done 48 = .ok (.aload_n 0, 1) := dok_at gdX11_done_l43 3 rfl
theorem dX11_done_49 : decode cX11_done 49 = .ok (.getfield 35, 3) := dok_at gdX11_done_l43 4 rfl
theorem dX11_done_52 : decode cX11_done 52 = .ok (.aload_n 0, 1) := dok_at gdX11_done_l43 5 rfl
theorem dX11_done_53 : decode cX11_done 53 = .ok (.getfield 192, 3) := dok_at gdX11_done_l43 6 rfl
theorem dX11_done_56 : decode cX11_done 56 = .ok (.aload_n 0, 1) := dok_at gdX11_done_l43 7 rfl
theorem dX11_done_57 : decode cX11_done 57 = .ok (.getfield 38, 3) := dok_at gdX11_done_l43 8 rfl
theorem dX11_done_60 : decode cX11_done 60 = .ok (.aload_n 0, 1) := dok_at gdX11_done_l43 9 rfl
theorem dX11_done_61 : decode cX11_done 61 = .ok (.getfield 195, 3) := dok_at gdX11_done_l43 10 rfl
theorem dX11_done_64 : decode cX11_done 64 = .ok (.iaload, 1) := dok_at gdX11_done_l43 11 rfl
theorem dX11_done_65 : decode cX11_done 65 = .ok (.iastore, 1) := dok_at gdX11_done_l43 12 rfl
theorem dX11_done_66 : decode cX11_done 66 = .ok (.aload_n 0, 1) := dok_at gdX11_done_l43 13 rfl
theorem dX11_done_67 : decode cX11_done 67 = .ok (.dup, 1) := dok_at gdX11_done_l43 14 rfl
theorem dX11_done_68 : decode cX11_done 68 = .ok (.getfield 192, 3) := dok_at gdX11_done_l43 15 rfl
theorem dX11_done_71 : decode cX11_done 71 = .ok (.iconst 1, 1) := dok_at gdX11_done_l43 16 rfl
theorem dX11_done_72 : decode cX11_done 72 = .ok (.iadd, 1) := dok_at gdX11_done_l43 17 rfl
theorem dX11_done_73 : decode cX11_done 73 = .ok (.putfield 192, 3) := dok_at gdX11_done_l43 18 rfl
theorem dX11_done_76 : decode cX11_done 76 = .ok (.goto (-76), 3) := dok_at gdX11_done_l43 19 rfl
theorem dX11_done_79 : decode cX11_done 79 = .ok (.return_, 1) := dok_at gdX11_done_l43 20 rfl
def dX11_holdsBack_l0 : List (Nat × Instr × Nat) := [(0, .aload_n 0, 1), (1, .getfield 38, 3), (4, .aload_n 0, 1), (5, .getfield 195, 3), (8, .iload_n 1, 1), (9, .iastore, 1), (10, .aload_n 0, 1), (11, .dup, 1), (12, .getfield 195, 3), (15, .iconst 1, 1), (16, .iadd, 1), (17, .putfield 195, 3), (20, .return_, 1)]
theorem gdX11_holdsBack_l0 : dok cX11_holdsBack dX11_holdsBack_l0 = true := by decide +kernel
theorem dX11_holdsBack_0 : decode cX11_holdsBack 0 = .ok (.aload_n 0, 1) := dok_at gdX11_holdsBack_l0 0 rfl
theorem dX11_holdsBack_1 : decode cX11_holdsBack 1 = .ok (.getfield 38, 3) := dok_at gdX11_holdsBack_l0 1 rfl
theorem dX11_holdsBack_4 : decode cX11_holdsBack 4 = .ok (.aload_n 0, 1) := dok_at gdX11_holdsBack_l0 2 rfl
theorem dX11_holdsBack_5 : decode cX11_holdsBack 5 = .ok (.getfield 195, 3) := dok_at gdX11_holdsBack_l0 3 rfl
theorem dX11_holdsBack_8 : decode cX11_holdsBack 8 = .ok (.iload_n 1, 1) := dok_at gdX11_holdsBack_l0 4 rfl
theorem dX11_holdsBack_9 : decode cX11_holdsBack 9 = .ok (.iastore, 1) := dok_at gdX11_holdsBack_l0 5 rfl
theorem dX11_holdsBack_10 : decode cX11_holdsBack 10 = .ok (.aload_n 0, 1) := dok_at gdX11_holdsBack_l0 6 rfl
theorem dX11_holdsBack_11 : decode cX11_holdsBack 11 = .ok (.dup, 1) := dok_at gdX11_holdsBack_l0 7 rfl
theorem dX11_holdsBack_12 : decode cX11_holdsBack 12 = .ok (.getfield 195, 3) := dok_at gdX11_holdsBack_l0 8 rfl
theorem dX11_holdsBack_15 : decode cX11_holdsBack 15 = .ok (.iconst 1, 1) := dok_at gdX11_holdsBack_l0 9 rfl
theorem dX11_holdsBack_16 : decode cX11_holdsBack 16 = .ok (.iadd, 1) := dok_at gdX11_holdsBack_l0 10 rfl
theorem dX11_holdsBack_17 : decode cX11_holdsBack 17 = .ok (.putfield 195, 3) := dok_at gdX11_holdsBack_l0 11 rfl
theorem dX11_holdsBack_20 : decode cX11_holdsBack 20 = .ok (.return_, 1) := dok_at gdX11_holdsBack_l0 12 rfl
def dX11_keepFormula_l0 : List (Nat × Instr × Nat) := [(0, .aload_n 0, 1), (1, .getfield 23, 3), (4, .aload_n 0, 1), (5, .getfield 98, 3), (8, .iconst 0, 1), (9, .iastore, 1), (10, .iconst 0, 1), (11, .istore_n 1, 1), (12, .iload_n 1, 1), (13, .aload_n 0, 1), (14, .getfield 192, 3), (17, .if_icmp .ge 44, 3), (20, .aload_n 0, 1), (21, .getfield 23, 3), (24, .aload_n 0, 1), (25, .getfield 98, 3), (28, .dup2, 1), (29, .iaload, 1), (30, .aload_n 0, 1), (31, .getfield 35, 3), (34, .iload_n 1, 1), (35, .iaload, 1), (36, .bipush 9, 2), (38, .if_icmp .ge 14, 3)]
theorem gdX11_keepFormula_l0 : dok cX11_keepFormula dX11_keepFormula_l0 = true := by decide +kernel
theorem dX11_keepFormula_0 : decode cX11_keepFormula 0 = .ok (.aload_n 0, 1) := dok_at gdX11_keepFormula_l0 0 rfl
theorem dX11_keepFormula_1 : decode cX11_keepFormula 1 = .ok (.getfield 23, 3) := dok_at gdX11_keepFormula_l0 1 rfl
theorem dX11_keepFormula_4 : decode cX11_keepFormula 4 = .ok (.aload_n 0, 1) := dok_at gdX11_keepFormula_l0 2 rfl
theorem dX11_keepFormula_5 : decode cX11_keepFormula 5 = .ok (.getfield 98, 3) := dok_at gdX11_keepFormula_l0 3 rfl
theorem dX11_keepFormula_8 : decode cX11_keepFormula 8 = .ok (.iconst 0, 1) := dok_at gdX11_keepFormula_l0 4 rfl
theorem dX11_keepFormula_9 : decode cX11_keepFormula 9 = .ok (.iastore, 1) := dok_at gdX11_keepFormula_l0 5 rfl
theorem dX11_keepFormula_10 : decode cX11_keepFormula 10 = .ok (.iconst 0, 1) := dok_at gdX11_keepFormula_l0 6 rfl
theorem dX11_keepFormula_11 : decode cX11_keepFormula 11 = .ok (.istore_n 1, 1) := dok_at gdX11_keepFormula_l0 7 rfl
theorem dX11_keepFormula_12 : decode cX11_keepFormula 12 = .ok (.iload_n 1, 1) := dok_at gdX11_keepFormula_l0 8 rfl
theorem dX11_keepFormula_13 : decode cX11_keepFormula 13 = .ok (.aload_n 0, 1) := dok_at gdX11_keepFormula_l0 9 rfl
theorem dX11_keepFormula_14 : decode cX11_keepFormula 14 = .ok (.getfield 192, 3) := dok_at gdX11_keepFormula_l0 10 rfl
theorem dX11_keepFormula_17 : decode cX11_keepFormula 17 = .ok (.if_icmp .ge 44, 3) := dok_at gdX11_keepFormula_l0 11 rfl
theorem dX11_keepFormula_20 : decode cX11_keepFormula 20 = .ok (.aload_n 0, 1) := dok_at gdX11_keepFormula_l0 12 rfl
theorem dX11_keepFormula_21 : decode cX11_keepFormula 21 = .ok (.getfield 23, 3) := dok_at gdX11_keepFormula_l0 13 rfl
theorem dX11_keepFormula_24 : decode cX11_keepFormula 24 = .ok (.aload_n 0, 1) := dok_at gdX11_keepFormula_l0 14 rfl
theorem dX11_keepFormula_25 : decode cX11_keepFormula 25 = .ok (.getfield 98, 3) := dok_at gdX11_keepFormula_l0 15 rfl
theorem dX11_keepFormula_28 : decode cX11_keepFormula 28 = .ok (.dup2, 1) := dok_at gdX11_keepFormula_l0 16 rfl
theorem dX11_keepFormula_29 : decode cX11_keepFormula 29 = .ok (.iaload, 1) := dok_at gdX11_keepFormula_l0 17 rfl
theorem dX11_keepFormula_30 : decode cX11_keepFormula 30 = .ok (.aload_n 0, 1) := dok_at gdX11_keepFormula_l0 18 rfl
theorem dX11_keepFormula_31 : decode cX11_keepFormula 31 = .ok (.getfield 35, 3) := dok_at gdX11_keepFormula_l0 19 rfl
theorem dX11_keepFormula_34 : decode cX11_keepFormula 34 = .ok (.iload_n 1, 1) := dok_at gdX11_keepFormula_l0 20 rfl
theorem dX11_keepFormula_35 : decode cX11_keepFormula 35 = .ok (.iaload, 1) := dok_at gdX11_keepFormula_l0 21 rfl
theorem dX11_keepFormula_36 : decode cX11_keepFormula 36 = .ok (.bipush 9, 2) := dok_at gdX11_keepFormula_l0 22 rfl
theorem dX11_keepFormula_38 : decode cX11_keepFormula 38 = .ok (.if_icmp .ge 14, 3) := dok_at gdX11_keepFormula_l0 23 rfl
def dX11_keepFormula_l41 : List (Nat × Instr × Nat) := [(41, .iconst 1, 1), (42, .aload_n 0, 1), (43, .getfield 35, 3), (46, .iload_n 1, 1), (47, .iaload, 1), (48, .ishl, 1), (49, .goto 4, 3), (52, .iconst 0, 1), (53, .ior, 1), (54, .iastore, 1), (55, .iinc 1 1, 3), (58, .goto (-46), 3), (61, .iconst 0, 1), (62, .istore_n 1, 1), (63, .iload_n 1, 1), (64, .sipush 512, 3), (67, .if_icmp .ge 29, 3), (70, .aload_n 0, 1), (71, .getfield 26, 3), (74, .sipush 512, 3), (77, .aload_n 0, 1), (78, .getfield 98, 3), (81, .imul, 1), (82, .iload_n 1, 1)]
theorem gdX11_keepFormula_l41 : dok cX11_keepFormula dX11_keepFormula_l41 = true := by decide +kernel
theorem dX11_keepFormula_41 : decode cX11_keepFormula 41 = .ok (.iconst 1, 1) := dok_at gdX11_keepFormula_l41 0 rfl
theorem dX11_keepFormula_42 : decode cX11_keepFormula 42 = .ok (.aload_n 0, 1) := dok_at gdX11_keepFormula_l41 1 rfl
theorem dX11_keepFormula_43 : decode cX11_keepFormula 43 = .ok (.getfield 35, 3) := dok_at gdX11_keepFormula_l41 2 rfl
theorem dX11_keepFormula_46 : decode cX11_keepFormula 46 = .ok (.iload_n 1, 1) := dok_at gdX11_keepFormula_l41 3 rfl
theorem dX11_keepFormula_47 : decode cX11_keepFormula 47 = .ok (.iaload, 1) := dok_at gdX11_keepFormula_l41 4 rfl
theorem dX11_keepFormula_48 : decode cX11_keepFormula 48 = .ok (.ishl, 1) := dok_at gdX11_keepFormula_l41 5 rfl
theorem dX11_keepFormula_49 : decode cX11_keepFormula 49 = .ok (.goto 4, 3) := dok_at gdX11_keepFormula_l41 6 rfl
theorem dX11_keepFormula_52 : decode cX11_keepFormula 52 = .ok (.iconst 0, 1) := dok_at gdX11_keepFormula_l41 7 rfl
theorem dX11_keepFormula_53 : decode cX11_keepFormula 53 = .ok (.ior, 1) := dok_at gdX11_keepFormula_l41 8 rfl
theorem dX11_keepFormula_54 : decode cX11_keepFormula 54 = .ok (.iastore, 1) := dok_at gdX11_keepFormula_l41 9 rfl
theorem dX11_keepFormula_55 : decode cX11_keepFormula 55 = .ok (.iinc 1 1, 3) := dok_at gdX11_keepFormula_l41 10 rfl
theorem dX11_keepFormula_58 : decode cX11_keepFormula 58 = .ok (.goto (-46), 3) := dok_at gdX11_keepFormula_l41 11 rfl
theorem dX11_keepFormula_61 : decode cX11_keepFormula 61 = .ok (.iconst 0, 1) := dok_at gdX11_keepFormula_l41 12 rfl
theorem dX11_keepFormula_62 : decode cX11_keepFormula 62 = .ok (.istore_n 1, 1) := dok_at gdX11_keepFormula_l41 13 rfl
theorem dX11_keepFormula_63 : decode cX11_keepFormula 63 = .ok (.iload_n 1, 1) := dok_at gdX11_keepFormula_l41 14 rfl
theorem dX11_keepFormula_64 : decode cX11_keepFormula 64 = .ok (.sipush 512, 3) := dok_at gdX11_keepFormula_l41 15 rfl
theorem dX11_keepFormula_67 : decode cX11_keepFormula 67 = .ok (.if_icmp .ge 29, 3) := dok_at gdX11_keepFormula_l41 16 rfl
theorem dX11_keepFormula_70 : decode cX11_keepFormula 70 = .ok (.aload_n 0, 1) := dok_at gdX11_keepFormula_l41 17 rfl
theorem dX11_keepFormula_71 : decode cX11_keepFormula 71 = .ok (.getfield 26, 3) := dok_at gdX11_keepFormula_l41 18 rfl
theorem dX11_keepFormula_74 : decode cX11_keepFormula 74 = .ok (.sipush 512, 3) := dok_at gdX11_keepFormula_l41 19 rfl
theorem dX11_keepFormula_77 : decode cX11_keepFormula 77 = .ok (.aload_n 0, 1) := dok_at gdX11_keepFormula_l41 20 rfl
theorem dX11_keepFormula_78 : decode cX11_keepFormula 78 = .ok (.getfield 98, 3) := dok_at gdX11_keepFormula_l41 21 rfl
theorem dX11_keepFormula_81 : decode cX11_keepFormula 81 = .ok (.imul, 1) := dok_at gdX11_keepFormula_l41 22 rfl
theorem dX11_keepFormula_82 : decode cX11_keepFormula 82 = .ok (.iload_n 1, 1) := dok_at gdX11_keepFormula_l41 23 rfl
def dX11_keepFormula_l83 : List (Nat × Instr × Nat) := [(83, .iadd, 1), (84, .aload_n 0, 1), (85, .iload_n 1, 1), (86, .invokevirtual 214, 3), (89, .bastore, 1), (90, .iinc 1 1, 3), (93, .goto (-30), 3), (96, .return_, 1)]
theorem gdX11_keepFormula_l83 : dok cX11_keepFormula dX11_keepFormula_l83 = true := by decide +kernel
theorem dX11_keepFormula_83 : decode cX11_keepFormula 83 = .ok (.iadd, 1) := dok_at gdX11_keepFormula_l83 0 rfl
theorem dX11_keepFormula_84 : decode cX11_keepFormula 84 = .ok (.aload_n 0, 1) := dok_at gdX11_keepFormula_l83 1 rfl
theorem dX11_keepFormula_85 : decode cX11_keepFormula 85 = .ok (.iload_n 1, 1) := dok_at gdX11_keepFormula_l83 2 rfl
theorem dX11_keepFormula_86 : decode cX11_keepFormula 86 = .ok (.invokevirtual 214, 3) := dok_at gdX11_keepFormula_l83 3 rfl
theorem dX11_keepFormula_89 : decode cX11_keepFormula 89 = .ok (.bastore, 1) := dok_at gdX11_keepFormula_l83 4 rfl
theorem dX11_keepFormula_90 : decode cX11_keepFormula 90 = .ok (.iinc 1 1, 3) := dok_at gdX11_keepFormula_l83 5 rfl
theorem dX11_keepFormula_93 : decode cX11_keepFormula 93 = .ok (.goto (-30), 3) := dok_at gdX11_keepFormula_l83 6 rfl
theorem dX11_keepFormula_96 : decode cX11_keepFormula 96 = .ok (.return_, 1) := dok_at gdX11_keepFormula_l83 7 rfl
def dX11_fault_l0 : List (Nat × Instr × Nat) := [(0, .aload_n 0, 1), (1, .getfield 145, 3), (4, .ireturn, 1)]
theorem gdX11_fault_l0 : dok cX11_fault dX11_fault_l0 = true := by decide +kernel
theorem dX11_fault_0 : decode cX11_fault 0 = .ok (.aload_n 0, 1) := dok_at gdX11_fault_l0 0 rfl
theorem dX11_fault_1 : decode cX11_fault 1 = .ok (.getfield 145, 3) := dok_at gdX11_fault_l0 1 rfl
theorem dX11_fault_4 : decode cX11_fault 4 = .ok (.ireturn, 1) := dok_at gdX11_fault_l0 2 rfl
def dX11_isRail_l0 : List (Nat × Instr × Nat) := [(0, .iload_n 1, 1), (1, .i2l, 1), (2, .lconst 0, 1), (3, .aload_n 0, 1), (4, .getfield 121, 3), (7, .iconst 1, 1), (8, .isub, 1), (9, .i2l, 1), (10, .invokestatic 141, 3), (13, .ireturn, 1)]
theorem gdX11_isRail_l0 : dok cX11_isRail dX11_isRail_l0 = true := by decide +kernel
theorem dX11_isRail_0 : decode cX11_isRail 0 = .ok (.iload_n 1, 1) := dok_at gdX11_isRail_l0 0 rfl
theorem dX11_isRail_1 : decode cX11_isRail 1 = .ok (.i2l, 1) := dok_at gdX11_isRail_l0 1 rfl
theorem dX11_isRail_2 : decode cX11_isRail 2 = .ok (.lconst 0, 1) := dok_at gdX11_isRail_l0 2 rfl
theorem dX11_isRail_3 : decode cX11_isRail 3 = .ok (.aload_n 0, 1) := dok_at gdX11_isRail_l0 3 rfl
theorem dX11_isRail_4 : decode cX11_isRail 4 = .ok (.getfield 121, 3) := dok_at gdX11_isRail_l0 4 rfl
theorem dX11_isRail_7 : decode cX11_isRail 7 = .ok (.iconst 1, 1) := dok_at gdX11_isRail_l0 5 rfl
theorem dX11_isRail_8 : decode cX11_isRail 8 = .ok (.isub, 1) := dok_at gdX11_isRail_l0 6 rfl
theorem dX11_isRail_9 : decode cX11_isRail 9 = .ok (.i2l, 1) := dok_at gdX11_isRail_l0 7 rfl
theorem dX11_isRail_10 : decode cX11_isRail 10 = .ok (.invokestatic 141, 3) := dok_at gdX11_isRail_l0 8 rfl
theorem dX11_isRail_13 : decode cX11_isRail 13 = .ok (.ireturn, 1) := dok_at gdX11_isRail_l0 9 rfl
def dX11_areRails_l0 : List (Nat × Instr × Nat) := [(0, .iload_n 1, 1), (1, .i2l, 1), (2, .lconst 0, 1), (3, .iconst 1, 1), (4, .aload_n 0, 1), (5, .getfield 121, 3), (8, .ishl, 1), (9, .iconst 1, 1), (10, .isub, 1), (11, .i2l, 1), (12, .invokestatic 141, 3), (15, .ireturn, 1)]
theorem gdX11_areRails_l0 : dok cX11_areRails dX11_areRails_l0 = true := by decide +kernel
theorem dX11_areRails_0 : decode cX11_areRails 0 = .ok (.iload_n 1, 1) := dok_at gdX11_areRails_l0 0 rfl
theorem dX11_areRails_1 : decode cX11_areRails 1 = .ok (.i2l, 1) := dok_at gdX11_areRails_l0 1 rfl
theorem dX11_areRails_2 : decode cX11_areRails 2 = .ok (.lconst 0, 1) := dok_at gdX11_areRails_l0 2 rfl
theorem dX11_areRails_3 : decode cX11_areRails 3 = .ok (.iconst 1, 1) := dok_at gdX11_areRails_l0 3 rfl
theorem dX11_areRails_4 : decode cX11_areRails 4 = .ok (.aload_n 0, 1) := dok_at gdX11_areRails_l0 4 rfl
theorem dX11_areRails_5 : decode cX11_areRails 5 = .ok (.getfield 121, 3) := dok_at gdX11_areRails_l0 5 rfl
theorem dX11_areRails_8 : decode cX11_areRails 8 = .ok (.ishl, 1) := dok_at gdX11_areRails_l0 6 rfl
theorem dX11_areRails_9 : decode cX11_areRails 9 = .ok (.iconst 1, 1) := dok_at gdX11_areRails_l0 7 rfl
theorem dX11_areRails_10 : decode cX11_areRails 10 = .ok (.isub, 1) := dok_at gdX11_areRails_l0 8 rfl
theorem dX11_areRails_11 : decode cX11_areRails 11 = .ok (.i2l, 1) := dok_at gdX11_areRails_l0 9 rfl
theorem dX11_areRails_12 : decode cX11_areRails 12 = .ok (.invokestatic 141, 3) := dok_at gdX11_areRails_l0 10 rfl
theorem dX11_areRails_15 : decode cX11_areRails 15 = .ok (.ireturn, 1) := dok_at gdX11_areRails_l0 11 rfl
def dX11_isSo_l0 : List (Nat × Instr × Nat) := [(0, .aload_n 0, 1), (1, .getfield 16, 3), (4, .sipush 512, 3), (7, .iload_n 1, 1), (8, .imul, 1), (9, .iload_n 2, 1), (10, .iadd, 1), (11, .baload, 1), (12, .ireturn, 1)]
theorem gdX11_isSo_l0 : dok cX11_isSo dX11_isSo_l0 = true := by decide +kernel
theorem dX11_isSo_0 : decode cX11_isSo 0 = .ok (.aload_n 0, 1) := dok_at gdX11_isSo_l0 0 rfl
theorem dX11_isSo_1 : decode cX11_isSo 1 = .ok (.getfield 16, 3) := dok_at gdX11_isSo_l0 1 rfl
theorem dX11_isSo_4 : decode cX11_isSo 4 = .ok (.sipush 512, 3) := dok_at gdX11_isSo_l0 2 rfl
theorem dX11_isSo_7 : decode cX11_isSo 7 = .ok (.iload_n 1, 1) := dok_at gdX11_isSo_l0 3 rfl
theorem dX11_isSo_8 : decode cX11_isSo 8 = .ok (.imul, 1) := dok_at gdX11_isSo_l0 4 rfl
theorem dX11_isSo_9 : decode cX11_isSo 9 = .ok (.iload_n 2, 1) := dok_at gdX11_isSo_l0 5 rfl
theorem dX11_isSo_10 : decode cX11_isSo 10 = .ok (.iadd, 1) := dok_at gdX11_isSo_l0 6 rfl
theorem dX11_isSo_11 : decode cX11_isSo 11 = .ok (.baload, 1) := dok_at gdX11_isSo_l0 7 rfl
theorem dX11_isSo_12 : decode cX11_isSo 12 = .ok (.ireturn, 1) := dok_at gdX11_isSo_l0 8 rfl
def dX11_holds_l0 : List (Nat × Instr × Nat) := [(0, .aload_n 0, 1), (1, .iload_n 1, 1), (2, .invokevirtual 248, 3), (5, .ifCond .eq 27, 3), (8, .iload_n 2, 1), (9, .i2l, 1), (10, .lconst 0, 1), (11, .ldc2_w 254, 3), (14, .invokestatic 141, 3), (17, .ifCond .eq 15, 3), (20, .aload_n 0, 1), (21, .iload_n 1, 1), (22, .iload_n 2, 1), (23, .invokevirtual 256, 3), (26, .invokestatic 260, 3), (29, .goto 4, 3), (32, .iconst (-1), 1), (33, .ireturn, 1)]
theorem gdX11_holds_l0 : dok cX11_holds dX11_holds_l0 = true := by decide +kernel
theorem dX11_holds_0 : decode cX11_holds 0 = .ok (.aload_n 0, 1) := dok_at gdX11_holds_l0 0 rfl
theorem dX11_holds_1 : decode cX11_holds 1 = .ok (.iload_n 1, 1) := dok_at gdX11_holds_l0 1 rfl
theorem dX11_holds_2 : decode cX11_holds 2 = .ok (.invokevirtual 248, 3) := dok_at gdX11_holds_l0 2 rfl
theorem dX11_holds_5 : decode cX11_holds 5 = .ok (.ifCond .eq 27, 3) := dok_at gdX11_holds_l0 3 rfl
theorem dX11_holds_8 : decode cX11_holds 8 = .ok (.iload_n 2, 1) := dok_at gdX11_holds_l0 4 rfl
theorem dX11_holds_9 : decode cX11_holds 9 = .ok (.i2l, 1) := dok_at gdX11_holds_l0 5 rfl
theorem dX11_holds_10 : decode cX11_holds 10 = .ok (.lconst 0, 1) := dok_at gdX11_holds_l0 6 rfl
theorem dX11_holds_11 : decode cX11_holds 11 = .ok (.ldc2_w 254, 3) := dok_at gdX11_holds_l0 7 rfl
theorem dX11_holds_14 : decode cX11_holds 14 = .ok (.invokestatic 141, 3) := dok_at gdX11_holds_l0 8 rfl
theorem dX11_holds_17 : decode cX11_holds 17 = .ok (.ifCond .eq 15, 3) := dok_at gdX11_holds_l0 9 rfl
theorem dX11_holds_20 : decode cX11_holds 20 = .ok (.aload_n 0, 1) := dok_at gdX11_holds_l0 10 rfl
theorem dX11_holds_21 : decode cX11_holds 21 = .ok (.iload_n 1, 1) := dok_at gdX11_holds_l0 11 rfl
theorem dX11_holds_22 : decode cX11_holds 22 = .ok (.iload_n 2, 1) := dok_at gdX11_holds_l0 12 rfl
theorem dX11_holds_23 : decode cX11_holds 23 = .ok (.invokevirtual 256, 3) := dok_at gdX11_holds_l0 13 rfl
theorem dX11_holds_26 : decode cX11_holds 26 = .ok (.invokestatic 260, 3) := dok_at gdX11_holds_l0 14 rfl
theorem dX11_holds_29 : decode cX11_holds 29 = .ok (.goto 4, 3) := dok_at gdX11_holds_l0 15 rfl
theorem dX11_holds_32 : decode cX11_holds 32 = .ok (.iconst (-1), 1) := dok_at gdX11_holds_l0 16 rfl
theorem dX11_holds_33 : decode cX11_holds 33 = .ok (.ireturn, 1) := dok_at gdX11_holds_l0 17 rfl
def dX11_isLeast_l0 : List (Nat × Instr × Nat) := [(0, .aload_n 0, 1), (1, .iload_n 1, 1), (2, .iload_n 2, 1), (3, .invokevirtual 256, 3), (6, .istore_n 3, 1), (7, .iconst 0, 1), (8, .istore 4, 2), (10, .iload 4, 2), (12, .bipush 9, 2), (14, .if_icmp .ge 44, 3), (17, .iload_n 3, 1), (18, .ifCond .eq 32, 3), (21, .iload_n 2, 1), (22, .iload 4, 2), (24, .ishr, 1), (25, .iconst 1, 1), (26, .iand, 1), (27, .ifCond .eq 19, 3), (30, .aload_n 0, 1), (31, .iload_n 1, 1), (32, .iload_n 2, 1), (33, .iconst 1, 1), (34, .iload 4, 2), (36, .ishl, 1)]
theorem gdX11_isLeast_l0 : dok cX11_isLeast dX11_isLeast_l0 = true := by decide +kernel
theorem dX11_isLeast_0 : decode cX11_isLeast 0 = .ok (.aload_n 0, 1) := dok_at gdX11_isLeast_l0 0 rfl
theorem dX11_isLeast_1 : decode cX11_isLeast 1 = .ok (.iload_n 1, 1) := dok_at gdX11_isLeast_l0 1 rfl
theorem dX11_isLeast_2 : decode cX11_isLeast 2 = .ok (.iload_n 2, 1) := dok_at gdX11_isLeast_l0 2 rfl
theorem dX11_isLeast_3 : decode cX11_isLeast 3 = .ok (.invokevirtual 256, 3) := dok_at gdX11_isLeast_l0 3 rfl
theorem dX11_isLeast_6 : decode cX11_isLeast 6 = .ok (.istore_n 3, 1) := dok_at gdX11_isLeast_l0 4 rfl
theorem dX11_isLeast_7 : decode cX11_isLeast 7 = .ok (.iconst 0, 1) := dok_at gdX11_isLeast_l0 5 rfl
theorem dX11_isLeast_8 : decode cX11_isLeast 8 = .ok (.istore 4, 2) := dok_at gdX11_isLeast_l0 6 rfl
theorem dX11_isLeast_10 : decode cX11_isLeast 10 = .ok (.iload 4, 2) := dok_at gdX11_isLeast_l0 7 rfl
theorem dX11_isLeast_12 : decode cX11_isLeast 12 = .ok (.bipush 9, 2) := dok_at gdX11_isLeast_l0 8 rfl
theorem dX11_isLeast_14 : decode cX11_isLeast 14 = .ok (.if_icmp .ge 44, 3) := dok_at gdX11_isLeast_l0 9 rfl
theorem dX11_isLeast_17 : decode cX11_isLeast 17 = .ok (.iload_n 3, 1) := dok_at gdX11_isLeast_l0 10 rfl
theorem dX11_isLeast_18 : decode cX11_isLeast 18 = .ok (.ifCond .eq 32, 3) := dok_at gdX11_isLeast_l0 11 rfl
theorem dX11_isLeast_21 : decode cX11_isLeast 21 = .ok (.iload_n 2, 1) := dok_at gdX11_isLeast_l0 12 rfl
theorem dX11_isLeast_22 : decode cX11_isLeast 22 = .ok (.iload 4, 2) := dok_at gdX11_isLeast_l0 13 rfl
theorem dX11_isLeast_24 : decode cX11_isLeast 24 = .ok (.ishr, 1) := dok_at gdX11_isLeast_l0 14 rfl
theorem dX11_isLeast_25 : decode cX11_isLeast 25 = .ok (.iconst 1, 1) := dok_at gdX11_isLeast_l0 15 rfl
theorem dX11_isLeast_26 : decode cX11_isLeast 26 = .ok (.iand, 1) := dok_at gdX11_isLeast_l0 16 rfl
theorem dX11_isLeast_27 : decode cX11_isLeast 27 = .ok (.ifCond .eq 19, 3) := dok_at gdX11_isLeast_l0 17 rfl
theorem dX11_isLeast_30 : decode cX11_isLeast 30 = .ok (.aload_n 0, 1) := dok_at gdX11_isLeast_l0 18 rfl
theorem dX11_isLeast_31 : decode cX11_isLeast 31 = .ok (.iload_n 1, 1) := dok_at gdX11_isLeast_l0 19 rfl
theorem dX11_isLeast_32 : decode cX11_isLeast 32 = .ok (.iload_n 2, 1) := dok_at gdX11_isLeast_l0 20 rfl
theorem dX11_isLeast_33 : decode cX11_isLeast 33 = .ok (.iconst 1, 1) := dok_at gdX11_isLeast_l0 21 rfl
theorem dX11_isLeast_34 : decode cX11_isLeast 34 = .ok (.iload 4, 2) := dok_at gdX11_isLeast_l0 22 rfl
theorem dX11_isLeast_36 : decode cX11_isLeast 36 = .ok (.ishl, 1) := dok_at gdX11_isLeast_l0 23 rfl
def dX11_isLeast_l37 : List (Nat × Instr × Nat) := [(37, .iconst (-1), 1), (38, .ixor, 1), (39, .iand, 1), (40, .invokevirtual 256, 3), (43, .ifCond .ne 7, 3), (46, .iconst 1, 1), (47, .goto 4, 3), (50, .iconst 0, 1), (51, .istore_n 3, 1), (52, .iinc 4 1, 3), (55, .goto (-45), 3), (58, .iload_n 3, 1), (59, .ireturn, 1)]
theorem gdX11_isLeast_l37 : dok cX11_isLeast dX11_isLeast_l37 = true := by decide +kernel
theorem dX11_isLeast_37 : decode cX11_isLeast 37 = .ok (.iconst (-1), 1) := dok_at gdX11_isLeast_l37 0 rfl
theorem dX11_isLeast_38 : decode cX11_isLeast 38 = .ok (.ixor, 1) := dok_at gdX11_isLeast_l37 1 rfl
theorem dX11_isLeast_39 : decode cX11_isLeast 39 = .ok (.iand, 1) := dok_at gdX11_isLeast_l37 2 rfl
theorem dX11_isLeast_40 : decode cX11_isLeast 40 = .ok (.invokevirtual 256, 3) := dok_at gdX11_isLeast_l37 3 rfl
theorem dX11_isLeast_43 : decode cX11_isLeast 43 = .ok (.ifCond .ne 7, 3) := dok_at gdX11_isLeast_l37 4 rfl
theorem dX11_isLeast_46 : decode cX11_isLeast 46 = .ok (.iconst 1, 1) := dok_at gdX11_isLeast_l37 5 rfl
theorem dX11_isLeast_47 : decode cX11_isLeast 47 = .ok (.goto 4, 3) := dok_at gdX11_isLeast_l37 6 rfl
theorem dX11_isLeast_50 : decode cX11_isLeast 50 = .ok (.iconst 0, 1) := dok_at gdX11_isLeast_l37 7 rfl
theorem dX11_isLeast_51 : decode cX11_isLeast 51 = .ok (.istore_n 3, 1) := dok_at gdX11_isLeast_l37 8 rfl
theorem dX11_isLeast_52 : decode cX11_isLeast 52 = .ok (.iinc 4 1, 3) := dok_at gdX11_isLeast_l37 9 rfl
theorem dX11_isLeast_55 : decode cX11_isLeast 55 = .ok (.goto (-45), 3) := dok_at gdX11_isLeast_l37 10 rfl
theorem dX11_isLeast_58 : decode cX11_isLeast 58 = .ok (.iload_n 3, 1) := dok_at gdX11_isLeast_l37 11 rfl
theorem dX11_isLeast_59 : decode cX11_isLeast 59 = .ok (.ireturn, 1) := dok_at gdX11_isLeast_l37 12 rfl
def dX11_begins_l0 : List (Nat × Instr × Nat) := [(0, .aload_n 0, 1), (1, .iconst 0, 1), (2, .putfield 267, 3), (5, .aload_n 0, 1), (6, .iconst 0, 1), (7, .putfield 270, 3), (10, .aload_n 0, 1), (11, .iconst 0, 1), (12, .putfield 273, 3), (15, .aload_n 0, 1), (16, .aload_n 0, 1), (17, .getfield 127, 3), (20, .putfield 276, 3), (23, .aload_n 0, 1), (24, .iconst 0, 1), (25, .putfield 279, 3), (28, .aload_n 0, 1), (29, .iconst 0, 1), (30, .putfield 282, 3), (33, .aload_n 0, 1), (34, .iconst 0, 1), (35, .putfield 285, 3), (38, .aload_n 0, 1), (39, .iconst 0, 1)]
theorem gdX11_begins_l0 : dok cX11_begins dX11_begins_l0 = true := by decide +kernel
theorem dX11_begins_0 : decode cX11_begins 0 = .ok (.aload_n 0, 1) := dok_at gdX11_begins_l0 0 rfl
theorem dX11_begins_1 : decode cX11_begins 1 = .ok (.iconst 0, 1) := dok_at gdX11_begins_l0 1 rfl
theorem dX11_begins_2 : decode cX11_begins 2 = .ok (.putfield 267, 3) := dok_at gdX11_begins_l0 2 rfl
theorem dX11_begins_5 : decode cX11_begins 5 = .ok (.aload_n 0, 1) := dok_at gdX11_begins_l0 3 rfl
theorem dX11_begins_6 : decode cX11_begins 6 = .ok (.iconst 0, 1) := dok_at gdX11_begins_l0 4 rfl
theorem dX11_begins_7 : decode cX11_begins 7 = .ok (.putfield 270, 3) := dok_at gdX11_begins_l0 5 rfl
theorem dX11_begins_10 : decode cX11_begins 10 = .ok (.aload_n 0, 1) := dok_at gdX11_begins_l0 6 rfl
theorem dX11_begins_11 : decode cX11_begins 11 = .ok (.iconst 0, 1) := dok_at gdX11_begins_l0 7 rfl
theorem dX11_begins_12 : decode cX11_begins 12 = .ok (.putfield 273, 3) := dok_at gdX11_begins_l0 8 rfl
theorem dX11_begins_15 : decode cX11_begins 15 = .ok (.aload_n 0, 1) := dok_at gdX11_begins_l0 9 rfl
theorem dX11_begins_16 : decode cX11_begins 16 = .ok (.aload_n 0, 1) := dok_at gdX11_begins_l0 10 rfl
theorem dX11_begins_17 : decode cX11_begins 17 = .ok (.getfield 127, 3) := dok_at gdX11_begins_l0 11 rfl
theorem dX11_begins_20 : decode cX11_begins 20 = .ok (.putfield 276, 3) := dok_at gdX11_begins_l0 12 rfl
theorem dX11_begins_23 : decode cX11_begins 23 = .ok (.aload_n 0, 1) := dok_at gdX11_begins_l0 13 rfl
theorem dX11_begins_24 : decode cX11_begins 24 = .ok (.iconst 0, 1) := dok_at gdX11_begins_l0 14 rfl
theorem dX11_begins_25 : decode cX11_begins 25 = .ok (.putfield 279, 3) := dok_at gdX11_begins_l0 15 rfl
theorem dX11_begins_28 : decode cX11_begins 28 = .ok (.aload_n 0, 1) := dok_at gdX11_begins_l0 16 rfl
theorem dX11_begins_29 : decode cX11_begins 29 = .ok (.iconst 0, 1) := dok_at gdX11_begins_l0 17 rfl
theorem dX11_begins_30 : decode cX11_begins 30 = .ok (.putfield 282, 3) := dok_at gdX11_begins_l0 18 rfl
theorem dX11_begins_33 : decode cX11_begins 33 = .ok (.aload_n 0, 1) := dok_at gdX11_begins_l0 19 rfl
theorem dX11_begins_34 : decode cX11_begins 34 = .ok (.iconst 0, 1) := dok_at gdX11_begins_l0 20 rfl
theorem dX11_begins_35 : decode cX11_begins 35 = .ok (.putfield 285, 3) := dok_at gdX11_begins_l0 21 rfl
theorem dX11_begins_38 : decode cX11_begins 38 = .ok (.aload_n 0, 1) := dok_at gdX11_begins_l0 22 rfl
theorem dX11_begins_39 : decode cX11_begins 39 = .ok (.iconst 0, 1) := dok_at gdX11_begins_l0 23 rfl
def dX11_begins_l40 : List (Nat × Instr × Nat) := [(40, .putfield 288, 3), (43, .iconst 0, 1), (44, .istore_n 1, 1), (45, .iload_n 1, 1), (46, .bipush 8, 2), (48, .if_icmp .ge 68, 3), (51, .aload_n 0, 1), (52, .getfield 47, 3), (55, .iload_n 1, 1), (56, .iconst 0, 1), (57, .iastore, 1), (58, .aload_n 0, 1), (59, .getfield 50, 3), (62, .iload_n 1, 1), (63, .iconst 0, 1), (64, .iastore, 1), (65, .aload_n 0, 1), (66, .getfield 53, 3), (69, .iload_n 1, 1), (70, .iconst 0, 1), (71, .iastore, 1), (72, .aload_n 0, 1), (73, .getfield 56, 3), (76, .iload_n 1, 1)]
theorem gdX11_begins_l40 : dok cX11_begins dX11_begins_l40 = true := by decide +kernel
theorem dX11_begins_40 : decode cX11_begins 40 = .ok (.putfield 288, 3) := dok_at gdX11_begins_l40 0 rfl
theorem dX11_begins_43 : decode cX11_begins 43 = .ok (.iconst 0, 1) := dok_at gdX11_begins_l40 1 rfl
theorem dX11_begins_44 : decode cX11_begins 44 = .ok (.istore_n 1, 1) := dok_at gdX11_begins_l40 2 rfl
theorem dX11_begins_45 : decode cX11_begins 45 = .ok (.iload_n 1, 1) := dok_at gdX11_begins_l40 3 rfl
theorem dX11_begins_46 : decode cX11_begins 46 = .ok (.bipush 8, 2) := dok_at gdX11_begins_l40 4 rfl
theorem dX11_begins_48 : decode cX11_begins 48 = .ok (.if_icmp .ge 68, 3) := dok_at gdX11_begins_l40 5 rfl
theorem dX11_begins_51 : decode cX11_begins 51 = .ok (.aload_n 0, 1) := dok_at gdX11_begins_l40 6 rfl
theorem dX11_begins_52 : decode cX11_begins 52 = .ok (.getfield 47, 3) := dok_at gdX11_begins_l40 7 rfl
theorem dX11_begins_55 : decode cX11_begins 55 = .ok (.iload_n 1, 1) := dok_at gdX11_begins_l40 8 rfl
theorem dX11_begins_56 : decode cX11_begins 56 = .ok (.iconst 0, 1) := dok_at gdX11_begins_l40 9 rfl
theorem dX11_begins_57 : decode cX11_begins 57 = .ok (.iastore, 1) := dok_at gdX11_begins_l40 10 rfl
theorem dX11_begins_58 : decode cX11_begins 58 = .ok (.aload_n 0, 1) := dok_at gdX11_begins_l40 11 rfl
theorem dX11_begins_59 : decode cX11_begins 59 = .ok (.getfield 50, 3) := dok_at gdX11_begins_l40 12 rfl
theorem dX11_begins_62 : decode cX11_begins 62 = .ok (.iload_n 1, 1) := dok_at gdX11_begins_l40 13 rfl
theorem dX11_begins_63 : decode cX11_begins 63 = .ok (.iconst 0, 1) := dok_at gdX11_begins_l40 14 rfl
theorem dX11_begins_64 : decode cX11_begins 64 = .ok (.iastore, 1) := dok_at gdX11_begins_l40 15 rfl
theorem dX11_begins_65 : decode cX11_begins 65 = .ok (.aload_n 0, 1) := dok_at gdX11_begins_l40 16 rfl
theorem dX11_begins_66 : decode cX11_begins 66 = .ok (.getfield 53, 3) := dok_at gdX11_begins_l40 17 rfl
theorem dX11_begins_69 : decode cX11_begins 69 = .ok (.iload_n 1, 1) := dok_at gdX11_begins_l40 18 rfl
theorem dX11_begins_70 : decode cX11_begins 70 = .ok (.iconst 0, 1) := dok_at gdX11_begins_l40 19 rfl
theorem dX11_begins_71 : decode cX11_begins 71 = .ok (.iastore, 1) := dok_at gdX11_begins_l40 20 rfl
theorem dX11_begins_72 : decode cX11_begins 72 = .ok (.aload_n 0, 1) := dok_at gdX11_begins_l40 21 rfl
theorem dX11_begins_73 : decode cX11_begins 73 = .ok (.getfield 56, 3) := dok_at gdX11_begins_l40 22 rfl
theorem dX11_begins_76 : decode cX11_begins 76 = .ok (.iload_n 1, 1) := dok_at gdX11_begins_l40 23 rfl
def dX11_begins_l77 : List (Nat × Instr × Nat) := [(77, .iconst 0, 1), (78, .bastore, 1), (79, .aload_n 0, 1), (80, .getfield 59, 3), (83, .iload_n 1, 1), (84, .iload_n 1, 1), (85, .aload_n 0, 1), (86, .getfield 121, 3), (89, .if_icmp .ge 12, 3), (92, .aload_n 0, 1), (93, .iload_n 1, 1), (94, .iconst 0, 1), (95, .invokevirtual 251, 3), (98, .goto 4, 3), (101, .iconst 0, 1), (102, .iastore, 1), (103, .aload_n 0, 1), (104, .getfield 62, 3), (107, .iload_n 1, 1), (108, .iconst 0, 1), (109, .iastore, 1), (110, .iinc 1 1, 3), (113, .goto (-68), 3), (116, .return_, 1)]
theorem gdX11_begins_l77 : dok cX11_begins dX11_begins_l77 = true := by decide +kernel
theorem dX11_begins_77 : decode cX11_begins 77 = .ok (.iconst 0, 1) := dok_at gdX11_begins_l77 0 rfl
theorem dX11_begins_78 : decode cX11_begins 78 = .ok (.bastore, 1) := dok_at gdX11_begins_l77 1 rfl
theorem dX11_begins_79 : decode cX11_begins 79 = .ok (.aload_n 0, 1) := dok_at gdX11_begins_l77 2 rfl
theorem dX11_begins_80 : decode cX11_begins 80 = .ok (.getfield 59, 3) := dok_at gdX11_begins_l77 3 rfl
theorem dX11_begins_83 : decode cX11_begins 83 = .ok (.iload_n 1, 1) := dok_at gdX11_begins_l77 4 rfl
theorem dX11_begins_84 : decode cX11_begins 84 = .ok (.iload_n 1, 1) := dok_at gdX11_begins_l77 5 rfl
theorem dX11_begins_85 : decode cX11_begins 85 = .ok (.aload_n 0, 1) := dok_at gdX11_begins_l77 6 rfl
theorem dX11_begins_86 : decode cX11_begins 86 = .ok (.getfield 121, 3) := dok_at gdX11_begins_l77 7 rfl
theorem dX11_begins_89 : decode cX11_begins 89 = .ok (.if_icmp .ge 12, 3) := dok_at gdX11_begins_l77 8 rfl
theorem dX11_begins_92 : decode cX11_begins 92 = .ok (.aload_n 0, 1) := dok_at gdX11_begins_l77 9 rfl
theorem dX11_begins_93 : decode cX11_begins 93 = .ok (.iload_n 1, 1) := dok_at gdX11_begins_l77 10 rfl
theorem dX11_begins_94 : decode cX11_begins 94 = .ok (.iconst 0, 1) := dok_at gdX11_begins_l77 11 rfl
theorem dX11_begins_95 : decode cX11_begins 95 = .ok (.invokevirtual 251, 3) := dok_at gdX11_begins_l77 12 rfl
theorem dX11_begins_98 : decode cX11_begins 98 = .ok (.goto 4, 3) := dok_at gdX11_begins_l77 13 rfl
theorem dX11_begins_101 : decode cX11_begins 101 = .ok (.iconst 0, 1) := dok_at gdX11_begins_l77 14 rfl
theorem dX11_begins_102 : decode cX11_begins 102 = .ok (.iastore, 1) := dok_at gdX11_begins_l77 15 rfl
theorem dX11_begins_103 : decode cX11_begins 103 = .ok (.aload_n 0, 1) := dok_at gdX11_begins_l77 16 rfl
theorem dX11_begins_104 : decode cX11_begins 104 = .ok (.getfield 62, 3) := dok_at gdX11_begins_l77 17 rfl
theorem dX11_begins_107 : decode cX11_begins 107 = .ok (.iload_n 1, 1) := dok_at gdX11_begins_l77 18 rfl
theorem dX11_begins_108 : decode cX11_begins 108 = .ok (.iconst 0, 1) := dok_at gdX11_begins_l77 19 rfl
theorem dX11_begins_109 : decode cX11_begins 109 = .ok (.iastore, 1) := dok_at gdX11_begins_l77 20 rfl
theorem dX11_begins_110 : decode cX11_begins 110 = .ok (.iinc 1 1, 3) := dok_at gdX11_begins_l77 21 rfl
theorem dX11_begins_113 : decode cX11_begins 113 = .ok (.goto (-68), 3) := dok_at gdX11_begins_l77 22 rfl
theorem dX11_begins_116 : decode cX11_begins 116 = .ok (.return_, 1) := dok_at gdX11_begins_l77 23 rfl
def dX11_happens_l0 : List (Nat × Instr × Nat) := [(0, .aload_n 0, 1), (1, .getfield 288, 3), (4, .bipush 64, 2), (6, .if_icmp .ge 56, 3), (9, .aload_n 0, 1), (10, .getfield 65, 3), (13, .iconst 3, 1), (14, .aload_n 0, 1), (15, .getfield 288, 3), (18, .imul, 1), (19, .aload_n 0, 1), (20, .getfield 267, 3), (23, .iastore, 1), (24, .aload_n 0, 1), (25, .getfield 65, 3), (28, .iconst 3, 1), (29, .aload_n 0, 1), (30, .getfield 288, 3), (33, .imul, 1), (34, .iconst 1, 1), (35, .iadd, 1), (36, .iload_n 1, 1), (37, .iastore, 1), (38, .aload_n 0, 1)]
theorem gdX11_happens_l0 : dok cX11_happens dX11_happens_l0 = true := by decide +kernel
theorem dX11_happens_0 : decode cX11_happens 0 = .ok (.aload_n 0, 1) := dok_at gdX11_happens_l0 0 rfl
theorem dX11_happens_1 : decode cX11_happens 1 = .ok (.getfield 288, 3) := dok_at gdX11_happens_l0 1 rfl
theorem dX11_happens_4 : decode cX11_happens 4 = .ok (.bipush 64, 2) := dok_at gdX11_happens_l0 2 rfl
theorem dX11_happens_6 : decode cX11_happens 6 = .ok (.if_icmp .ge 56, 3) := dok_at gdX11_happens_l0 3 rfl
theorem dX11_happens_9 : decode cX11_happens 9 = .ok (.aload_n 0, 1) := dok_at gdX11_happens_l0 4 rfl
theorem dX11_happens_10 : decode cX11_happens 10 = .ok (.getfield 65, 3) := dok_at gdX11_happens_l0 5 rfl
theorem dX11_happens_13 : decode cX11_happens 13 = .ok (.iconst 3, 1) := dok_at gdX11_happens_l0 6 rfl
theorem dX11_happens_14 : decode cX11_happens 14 = .ok (.aload_n 0, 1) := dok_at gdX11_happens_l0 7 rfl
theorem dX11_happens_15 : decode cX11_happens 15 = .ok (.getfield 288, 3) := dok_at gdX11_happens_l0 8 rfl
theorem dX11_happens_18 : decode cX11_happens 18 = .ok (.imul, 1) := dok_at gdX11_happens_l0 9 rfl
theorem dX11_happens_19 : decode cX11_happens 19 = .ok (.aload_n 0, 1) := dok_at gdX11_happens_l0 10 rfl
theorem dX11_happens_20 : decode cX11_happens 20 = .ok (.getfield 267, 3) := dok_at gdX11_happens_l0 11 rfl
theorem dX11_happens_23 : decode cX11_happens 23 = .ok (.iastore, 1) := dok_at gdX11_happens_l0 12 rfl
theorem dX11_happens_24 : decode cX11_happens 24 = .ok (.aload_n 0, 1) := dok_at gdX11_happens_l0 13 rfl
theorem dX11_happens_25 : decode cX11_happens 25 = .ok (.getfield 65, 3) := dok_at gdX11_happens_l0 14 rfl
theorem dX11_happens_28 : decode cX11_happens 28 = .ok (.iconst 3, 1) := dok_at gdX11_happens_l0 15 rfl
theorem dX11_happens_29 : decode cX11_happens 29 = .ok (.aload_n 0, 1) := dok_at gdX11_happens_l0 16 rfl
theorem dX11_happens_30 : decode cX11_happens 30 = .ok (.getfield 288, 3) := dok_at gdX11_happens_l0 17 rfl
theorem dX11_happens_33 : decode cX11_happens 33 = .ok (.imul, 1) := dok_at gdX11_happens_l0 18 rfl
theorem dX11_happens_34 : decode cX11_happens 34 = .ok (.iconst 1, 1) := dok_at gdX11_happens_l0 19 rfl
theorem dX11_happens_35 : decode cX11_happens 35 = .ok (.iadd, 1) := dok_at gdX11_happens_l0 20 rfl
theorem dX11_happens_36 : decode cX11_happens 36 = .ok (.iload_n 1, 1) := dok_at gdX11_happens_l0 21 rfl
theorem dX11_happens_37 : decode cX11_happens 37 = .ok (.iastore, 1) := dok_at gdX11_happens_l0 22 rfl
theorem dX11_happens_38 : decode cX11_happens 38 = .ok (.aload_n 0, 1) := dok_at gdX11_happens_l0 23 rfl
def dX11_happens_l39 : List (Nat × Instr × Nat) := [(39, .getfield 65, 3), (42, .iconst 3, 1), (43, .aload_n 0, 1), (44, .getfield 288, 3), (47, .imul, 1), (48, .iconst 2, 1), (49, .iadd, 1), (50, .iload_n 2, 1), (51, .iastore, 1), (52, .aload_n 0, 1), (53, .dup, 1), (54, .getfield 288, 3), (57, .iconst 1, 1), (58, .iadd, 1), (59, .putfield 288, 3), (62, .return_, 1)]
theorem gdX11_happens_l39 : dok cX11_happens dX11_happens_l39 = true := by decide +kernel
theorem dX11_happens_39 : decode cX11_happens 39 = .ok (.getfield 65, 3) := dok_at gdX11_happens_l39 0 rfl
theorem dX11_happens_42 : decode cX11_happens 42 = .ok (.iconst 3, 1) := dok_at gdX11_happens_l39 1 rfl
theorem dX11_happens_43 : decode cX11_happens 43 = .ok (.aload_n 0, 1) := dok_at gdX11_happens_l39 2 rfl
theorem dX11_happens_44 : decode cX11_happens 44 = .ok (.getfield 288, 3) := dok_at gdX11_happens_l39 3 rfl
theorem dX11_happens_47 : decode cX11_happens 47 = .ok (.imul, 1) := dok_at gdX11_happens_l39 4 rfl
theorem dX11_happens_48 : decode cX11_happens 48 = .ok (.iconst 2, 1) := dok_at gdX11_happens_l39 5 rfl
theorem dX11_happens_49 : decode cX11_happens 49 = .ok (.iadd, 1) := dok_at gdX11_happens_l39 6 rfl
theorem dX11_happens_50 : decode cX11_happens 50 = .ok (.iload_n 2, 1) := dok_at gdX11_happens_l39 7 rfl
theorem dX11_happens_51 : decode cX11_happens 51 = .ok (.iastore, 1) := dok_at gdX11_happens_l39 8 rfl
theorem dX11_happens_52 : decode cX11_happens 52 = .ok (.aload_n 0, 1) := dok_at gdX11_happens_l39 9 rfl
theorem dX11_happens_53 : decode cX11_happens 53 = .ok (.dup, 1) := dok_at gdX11_happens_l39 10 rfl
theorem dX11_happens_54 : decode cX11_happens 54 = .ok (.getfield 288, 3) := dok_at gdX11_happens_l39 11 rfl
theorem dX11_happens_57 : decode cX11_happens 57 = .ok (.iconst 1, 1) := dok_at gdX11_happens_l39 12 rfl
theorem dX11_happens_58 : decode cX11_happens 58 = .ok (.iadd, 1) := dok_at gdX11_happens_l39 13 rfl
theorem dX11_happens_59 : decode cX11_happens 59 = .ok (.putfield 288, 3) := dok_at gdX11_happens_l39 14 rfl
theorem dX11_happens_62 : decode cX11_happens 62 = .ok (.return_, 1) := dok_at gdX11_happens_l39 15 rfl
def dX11_key_l0 : List (Nat × Instr × Nat) := [(0, .aload_n 0, 1), (1, .getfield 270, 3), (4, .invokestatic 260, 3), (7, .istore_n 2, 1), (8, .aload_n 0, 1), (9, .iload_n 1, 1), (10, .putfield 270, 3), (13, .iload_n 1, 1), (14, .ifCond .ne 32, 3), (17, .aload_n 0, 1), (18, .aload_n 0, 1), (19, .getfield 273, 3), (22, .bipush (-4), 2), (24, .if_icmp .ne 7, 3), (27, .iconst 0, 1), (28, .goto 7, 3), (31, .aload_n 0, 1), (32, .getfield 273, 3), (35, .putfield 273, 3), (38, .aload_n 0, 1), (39, .aload_n 0, 1), (40, .getfield 127, 3), (43, .putfield 276, 3), (46, .iload_n 2, 1)]
theorem gdX11_key_l0 : dok cX11_key dX11_key_l0 = true := by decide +kernel
theorem dX11_key_0 : decode cX11_key 0 = .ok (.aload_n 0, 1) := dok_at gdX11_key_l0 0 rfl
theorem dX11_key_1 : decode cX11_key 1 = .ok (.getfield 270, 3) := dok_at gdX11_key_l0 1 rfl
theorem dX11_key_4 : decode cX11_key 4 = .ok (.invokestatic 260, 3) := dok_at gdX11_key_l0 2 rfl
theorem dX11_key_7 : decode cX11_key 7 = .ok (.istore_n 2, 1) := dok_at gdX11_key_l0 3 rfl
theorem dX11_key_8 : decode cX11_key 8 = .ok (.aload_n 0, 1) := dok_at gdX11_key_l0 4 rfl
theorem dX11_key_9 : decode cX11_key 9 = .ok (.iload_n 1, 1) := dok_at gdX11_key_l0 5 rfl
theorem dX11_key_10 : decode cX11_key 10 = .ok (.putfield 270, 3) := dok_at gdX11_key_l0 6 rfl
theorem dX11_key_13 : decode cX11_key 13 = .ok (.iload_n 1, 1) := dok_at gdX11_key_l0 7 rfl
theorem dX11_key_14 : decode cX11_key 14 = .ok (.ifCond .ne 32, 3) := dok_at gdX11_key_l0 8 rfl
theorem dX11_key_17 : decode cX11_key 17 = .ok (.aload_n 0, 1) := dok_at gdX11_key_l0 9 rfl
theorem dX11_key_18 : decode cX11_key 18 = .ok (.aload_n 0, 1) := dok_at gdX11_key_l0 10 rfl
theorem dX11_key_19 : decode cX11_key 19 = .ok (.getfield 273, 3) := dok_at gdX11_key_l0 11 rfl
theorem dX11_key_22 : decode cX11_key 22 = .ok (.bipush (-4), 2) := dok_at gdX11_key_l0 12 rfl
theorem dX11_key_24 : decode cX11_key 24 = .ok (.if_icmp .ne 7, 3) := dok_at gdX11_key_l0 13 rfl
theorem dX11_key_27 : decode cX11_key 27 = .ok (.iconst 0, 1) := dok_at gdX11_key_l0 14 rfl
theorem dX11_key_28 : decode cX11_key 28 = .ok (.goto 7, 3) := dok_at gdX11_key_l0 15 rfl
theorem dX11_key_31 : decode cX11_key 31 = .ok (.aload_n 0, 1) := dok_at gdX11_key_l0 16 rfl
theorem dX11_key_32 : decode cX11_key 32 = .ok (.getfield 273, 3) := dok_at gdX11_key_l0 17 rfl
theorem dX11_key_35 : decode cX11_key 35 = .ok (.putfield 273, 3) := dok_at gdX11_key_l0 18 rfl
theorem dX11_key_38 : decode cX11_key 38 = .ok (.aload_n 0, 1) := dok_at gdX11_key_l0 19 rfl
theorem dX11_key_39 : decode cX11_key 39 = .ok (.aload_n 0, 1) := dok_at gdX11_key_l0 20 rfl
theorem dX11_key_40 : decode cX11_key 40 = .ok (.getfield 127, 3) := dok_at gdX11_key_l0 21 rfl
theorem dX11_key_43 : decode cX11_key 43 = .ok (.putfield 276, 3) := dok_at gdX11_key_l0 22 rfl
theorem dX11_key_46 : decode cX11_key 46 = .ok (.iload_n 2, 1) := dok_at gdX11_key_l0 23 rfl
def dX11_key_l47 : List (Nat × Instr × Nat) := [(47, .ireturn, 1)]
theorem gdX11_key_l47 : dok cX11_key dX11_key_l47 = true := by decide +kernel
theorem dX11_key_47 : decode cX11_key 47 = .ok (.ireturn, 1) := dok_at gdX11_key_l47 0 rfl
def dX11_dead_l0 : List (Nat × Instr × Nat) := [(0, .aload_n 0, 1), (1, .iload_n 1, 1), (2, .invokevirtual 248, 3), (5, .ifCond .ne 5, 3), (8, .iconst (-1), 1), (9, .ireturn, 1), (10, .aload_n 0, 1), (11, .getfield 56, 3), (14, .iload_n 1, 1), (15, .baload, 1), (16, .invokestatic 260, 3), (19, .istore_n 3, 1), (20, .aload_n 0, 1), (21, .getfield 56, 3), (24, .iload_n 1, 1), (25, .iload_n 2, 1), (26, .bastore, 1), (27, .iload_n 3, 1), (28, .ireturn, 1)]
theorem gdX11_dead_l0 : dok cX11_dead dX11_dead_l0 = true := by decide +kernel
theorem dX11_dead_0 : decode cX11_dead 0 = .ok (.aload_n 0, 1) := dok_at gdX11_dead_l0 0 rfl
theorem dX11_dead_1 : decode cX11_dead 1 = .ok (.iload_n 1, 1) := dok_at gdX11_dead_l0 1 rfl
theorem dX11_dead_2 : decode cX11_dead 2 = .ok (.invokevirtual 248, 3) := dok_at gdX11_dead_l0 2 rfl
theorem dX11_dead_5 : decode cX11_dead 5 = .ok (.ifCond .ne 5, 3) := dok_at gdX11_dead_l0 3 rfl
theorem dX11_dead_8 : decode cX11_dead 8 = .ok (.iconst (-1), 1) := dok_at gdX11_dead_l0 4 rfl
theorem dX11_dead_9 : decode cX11_dead 9 = .ok (.ireturn, 1) := dok_at gdX11_dead_l0 5 rfl
theorem dX11_dead_10 : decode cX11_dead 10 = .ok (.aload_n 0, 1) := dok_at gdX11_dead_l0 6 rfl
theorem dX11_dead_11 : decode cX11_dead 11 = .ok (.getfield 56, 3) := dok_at gdX11_dead_l0 7 rfl
theorem dX11_dead_14 : decode cX11_dead 14 = .ok (.iload_n 1, 1) := dok_at gdX11_dead_l0 8 rfl
theorem dX11_dead_15 : decode cX11_dead 15 = .ok (.baload, 1) := dok_at gdX11_dead_l0 9 rfl
theorem dX11_dead_16 : decode cX11_dead 16 = .ok (.invokestatic 260, 3) := dok_at gdX11_dead_l0 10 rfl
theorem dX11_dead_19 : decode cX11_dead 19 = .ok (.istore_n 3, 1) := dok_at gdX11_dead_l0 11 rfl
theorem dX11_dead_20 : decode cX11_dead 20 = .ok (.aload_n 0, 1) := dok_at gdX11_dead_l0 12 rfl
theorem dX11_dead_21 : decode cX11_dead 21 = .ok (.getfield 56, 3) := dok_at gdX11_dead_l0 13 rfl
theorem dX11_dead_24 : decode cX11_dead 24 = .ok (.iload_n 1, 1) := dok_at gdX11_dead_l0 14 rfl
theorem dX11_dead_25 : decode cX11_dead 25 = .ok (.iload_n 2, 1) := dok_at gdX11_dead_l0 15 rfl
theorem dX11_dead_26 : decode cX11_dead 26 = .ok (.bastore, 1) := dok_at gdX11_dead_l0 16 rfl
theorem dX11_dead_27 : decode cX11_dead 27 = .ok (.iload_n 3, 1) := dok_at gdX11_dead_l0 17 rfl
theorem dX11_dead_28 : decode cX11_dead 28 = .ok (.ireturn, 1) := dok_at gdX11_dead_l0 18 rfl
def dX11_allIn_l0 : List (Nat × Instr × Nat) := [(0, .iconst 0, 1), (1, .istore_n 2, 1), (2, .iconst 0, 1), (3, .istore_n 3, 1), (4, .iload_n 3, 1), (5, .aload_n 0, 1), (6, .getfield 121, 3), (9, .if_icmp .ge 29, 3), (12, .iload_n 2, 1), (13, .aload_n 0, 1), (14, .getfield 47, 3), (17, .iload_n 3, 1), (18, .iaload, 1), (19, .iload_n 1, 1), (20, .if_icmp .ne 9, 3), (23, .iconst 1, 1), (24, .iload_n 3, 1), (25, .ishl, 1), (26, .goto 4, 3), (29, .iconst 0, 1), (30, .ior, 1), (31, .istore_n 2, 1), (32, .iinc 3 1, 3), (35, .goto (-31), 3)]
theorem gdX11_allIn_l0 : dok cX11_allIn dX11_allIn_l0 = true := by decide +kernel
theorem dX11_allIn_0 : decode cX11_allIn 0 = .ok (.iconst 0, 1) := dok_at gdX11_allIn_l0 0 rfl
theorem dX11_allIn_1 : decode cX11_allIn 1 = .ok (.istore_n 2, 1) := dok_at gdX11_allIn_l0 1 rfl
theorem dX11_allIn_2 : decode cX11_allIn 2 = .ok (.iconst 0, 1) := dok_at gdX11_allIn_l0 2 rfl
theorem dX11_allIn_3 : decode cX11_allIn 3 = .ok (.istore_n 3, 1) := dok_at gdX11_allIn_l0 3 rfl
theorem dX11_allIn_4 : decode cX11_allIn 4 = .ok (.iload_n 3, 1) := dok_at gdX11_allIn_l0 4 rfl
theorem dX11_allIn_5 : decode cX11_allIn 5 = .ok (.aload_n 0, 1) := dok_at gdX11_allIn_l0 5 rfl
theorem dX11_allIn_6 : decode cX11_allIn 6 = .ok (.getfield 121, 3) := dok_at gdX11_allIn_l0 6 rfl
theorem dX11_allIn_9 : decode cX11_allIn 9 = .ok (.if_icmp .ge 29, 3) := dok_at gdX11_allIn_l0 7 rfl
theorem dX11_allIn_12 : decode cX11_allIn 12 = .ok (.iload_n 2, 1) := dok_at gdX11_allIn_l0 8 rfl
theorem dX11_allIn_13 : decode cX11_allIn 13 = .ok (.aload_n 0, 1) := dok_at gdX11_allIn_l0 9 rfl
theorem dX11_allIn_14 : decode cX11_allIn 14 = .ok (.getfield 47, 3) := dok_at gdX11_allIn_l0 10 rfl
theorem dX11_allIn_17 : decode cX11_allIn 17 = .ok (.iload_n 3, 1) := dok_at gdX11_allIn_l0 11 rfl
theorem dX11_allIn_18 : decode cX11_allIn 18 = .ok (.iaload, 1) := dok_at gdX11_allIn_l0 12 rfl
theorem dX11_allIn_19 : decode cX11_allIn 19 = .ok (.iload_n 1, 1) := dok_at gdX11_allIn_l0 13 rfl
theorem dX11_allIn_20 : decode cX11_allIn 20 = .ok (.if_icmp .ne 9, 3) := dok_at gdX11_allIn_l0 14 rfl
theorem dX11_allIn_23 : decode cX11_allIn 23 = .ok (.iconst 1, 1) := dok_at gdX11_allIn_l0 15 rfl
theorem dX11_allIn_24 : decode cX11_allIn 24 = .ok (.iload_n 3, 1) := dok_at gdX11_allIn_l0 16 rfl
theorem dX11_allIn_25 : decode cX11_allIn 25 = .ok (.ishl, 1) := dok_at gdX11_allIn_l0 17 rfl
theorem dX11_allIn_26 : decode cX11_allIn 26 = .ok (.goto 4, 3) := dok_at gdX11_allIn_l0 18 rfl
theorem dX11_allIn_29 : decode cX11_allIn 29 = .ok (.iconst 0, 1) := dok_at gdX11_allIn_l0 19 rfl
theorem dX11_allIn_30 : decode cX11_allIn 30 = .ok (.ior, 1) := dok_at gdX11_allIn_l0 20 rfl
theorem dX11_allIn_31 : decode cX11_allIn 31 = .ok (.istore_n 2, 1) := dok_at gdX11_allIn_l0 21 rfl
theorem dX11_allIn_32 : decode cX11_allIn 32 = .ok (.iinc 3 1, 3) := dok_at gdX11_allIn_l0 22 rfl
theorem dX11_allIn_35 : decode cX11_allIn 35 = .ok (.goto (-31), 3) := dok_at gdX11_allIn_l0 23 rfl
def dX11_allIn_l38 : List (Nat × Instr × Nat) := [(38, .iload_n 2, 1), (39, .ireturn, 1)]
theorem gdX11_allIn_l38 : dok cX11_allIn dX11_allIn_l38 = true := by decide +kernel
theorem dX11_allIn_38 : decode cX11_allIn 38 = .ok (.iload_n 2, 1) := dok_at gdX11_allIn_l38 0 rfl
theorem dX11_allIn_39 : decode cX11_allIn 39 = .ok (.ireturn, 1) := dok_at gdX11_allIn_l38 1 rfl
def dX11_becomes_l0 : List (Nat × Instr × Nat) := [(0, .aload_n 0, 1), (1, .getfield 47, 3), (4, .iload_n 1, 1), (5, .iaload, 1), (6, .tableswitch 130 0 3 #[30, 41, 71, 110], 30), (36, .iload_n 2, 1), (37, .ifCond .eq 7, 3), (40, .iconst 1, 1), (41, .goto 5, 3), (44, .bipush (-4), 2), (46, .ireturn, 1), (47, .iload_n 2, 1), (48, .ifCond .ne 7, 3), (51, .iconst 0, 1), (52, .goto 24, 3), (55, .aload_n 0, 1), (56, .getfield 50, 3), (59, .iload_n 1, 1), (60, .iaload, 1), (61, .aload_n 0, 1), (62, .iload_n 1, 1), (63, .iconst 5, 1), (64, .invokevirtual 251, 3), (67, .if_icmp .lt 7, 3)]
theorem gdX11_becomes_l0 : dok cX11_becomes dX11_becomes_l0 = true := by decide +kernel
theorem dX11_becomes_0 : decode cX11_becomes 0 = .ok (.aload_n 0, 1) := dok_at gdX11_becomes_l0 0 rfl
theorem dX11_becomes_1 : decode cX11_becomes 1 = .ok (.getfield 47, 3) := dok_at gdX11_becomes_l0 1 rfl
theorem dX11_becomes_4 : decode cX11_becomes 4 = .ok (.iload_n 1, 1) := dok_at gdX11_becomes_l0 2 rfl
theorem dX11_becomes_5 : decode cX11_becomes 5 = .ok (.iaload, 1) := dok_at gdX11_becomes_l0 3 rfl
theorem dX11_becomes_6 : decode cX11_becomes 6 = .ok (.tableswitch 130 0 3 #[30, 41, 71, 110], 30) := dok_at gdX11_becomes_l0 4 rfl
theorem dX11_becomes_36 : decode cX11_becomes 36 = .ok (.iload_n 2, 1) := dok_at gdX11_becomes_l0 5 rfl
theorem dX11_becomes_37 : decode cX11_becomes 37 = .ok (.ifCond .eq 7, 3) := dok_at gdX11_becomes_l0 6 rfl
theorem dX11_becomes_40 : decode cX11_becomes 40 = .ok (.iconst 1, 1) := dok_at gdX11_becomes_l0 7 rfl
theorem dX11_becomes_41 : decode cX11_becomes 41 = .ok (.goto 5, 3) := dok_at gdX11_becomes_l0 8 rfl
theorem dX11_becomes_44 : decode cX11_becomes 44 = .ok (.bipush (-4), 2) := dok_at gdX11_becomes_l0 9 rfl
theorem dX11_becomes_46 : decode cX11_becomes 46 = .ok (.ireturn, 1) := dok_at gdX11_becomes_l0 10 rfl
theorem dX11_becomes_47 : decode cX11_becomes 47 = .ok (.iload_n 2, 1) := dok_at gdX11_becomes_l0 11 rfl
theorem dX11_becomes_48 : decode cX11_becomes 48 = .ok (.ifCond .ne 7, 3) := dok_at gdX11_becomes_l0 12 rfl
theorem dX11_becomes_51 : decode cX11_becomes 51 = .ok (.iconst 0, 1) := dok_at gdX11_becomes_l0 13 rfl
theorem dX11_becomes_52 : decode cX11_becomes 52 = .ok (.goto 24, 3) := dok_at gdX11_becomes_l0 14 rfl
theorem dX11_becomes_55 : decode cX11_becomes 55 = .ok (.aload_n 0, 1) := dok_at gdX11_becomes_l0 15 rfl
theorem dX11_becomes_56 : decode cX11_becomes 56 = .ok (.getfield 50, 3) := dok_at gdX11_becomes_l0 16 rfl
theorem dX11_becomes_59 : decode cX11_becomes 59 = .ok (.iload_n 1, 1) := dok_at gdX11_becomes_l0 17 rfl
theorem dX11_becomes_60 : decode cX11_becomes 60 = .ok (.iaload, 1) := dok_at gdX11_becomes_l0 18 rfl
theorem dX11_becomes_61 : decode cX11_becomes 61 = .ok (.aload_n 0, 1) := dok_at gdX11_becomes_l0 19 rfl
theorem dX11_becomes_62 : decode cX11_becomes 62 = .ok (.iload_n 1, 1) := dok_at gdX11_becomes_l0 20 rfl
theorem dX11_becomes_63 : decode cX11_becomes 63 = .ok (.iconst 5, 1) := dok_at gdX11_becomes_l0 21 rfl
theorem dX11_becomes_64 : decode cX11_becomes 64 = .ok (.invokevirtual 251, 3) := dok_at gdX11_becomes_l0 22 rfl
theorem dX11_becomes_67 : decode cX11_becomes 67 = .ok (.if_icmp .lt 7, 3) := dok_at gdX11_becomes_l0 23 rfl
def dX11_becomes_l70 : List (Nat × Instr × Nat) := [(70, .iconst 2, 1), (71, .goto 5, 3), (74, .bipush (-4), 2), (76, .ireturn, 1), (77, .iload_n 2, 1), (78, .ifCond .ne 7, 3), (81, .iconst 4, 1), (82, .goto 33, 3), (85, .aload_n 0, 1), (86, .getfield 56, 3), (89, .iload_n 1, 1), (90, .baload, 1), (91, .ifCond .ne 22, 3), (94, .aload_n 0, 1), (95, .getfield 50, 3), (98, .iload_n 1, 1), (99, .iaload, 1), (100, .aload_n 0, 1), (101, .getfield 59, 3), (104, .iload_n 1, 1), (105, .iaload, 1), (106, .if_icmp .lt 7, 3), (109, .iconst 3, 1), (110, .goto 5, 3)]
theorem gdX11_becomes_l70 : dok cX11_becomes dX11_becomes_l70 = true := by decide +kernel
theorem dX11_becomes_70 : decode cX11_becomes 70 = .ok (.iconst 2, 1) := dok_at gdX11_becomes_l70 0 rfl
theorem dX11_becomes_71 : decode cX11_becomes 71 = .ok (.goto 5, 3) := dok_at gdX11_becomes_l70 1 rfl
theorem dX11_becomes_74 : decode cX11_becomes 74 = .ok (.bipush (-4), 2) := dok_at gdX11_becomes_l70 2 rfl
theorem dX11_becomes_76 : decode cX11_becomes 76 = .ok (.ireturn, 1) := dok_at gdX11_becomes_l70 3 rfl
theorem dX11_becomes_77 : decode cX11_becomes 77 = .ok (.iload_n 2, 1) := dok_at gdX11_becomes_l70 4 rfl
theorem dX11_becomes_78 : decode cX11_becomes 78 = .ok (.ifCond .ne 7, 3) := dok_at gdX11_becomes_l70 5 rfl
theorem dX11_becomes_81 : decode cX11_becomes 81 = .ok (.iconst 4, 1) := dok_at gdX11_becomes_l70 6 rfl
theorem dX11_becomes_82 : decode cX11_becomes 82 = .ok (.goto 33, 3) := dok_at gdX11_becomes_l70 7 rfl
theorem dX11_becomes_85 : decode cX11_becomes 85 = .ok (.aload_n 0, 1) := dok_at gdX11_becomes_l70 8 rfl
theorem dX11_becomes_86 : decode cX11_becomes 86 = .ok (.getfield 56, 3) := dok_at gdX11_becomes_l70 9 rfl
theorem dX11_becomes_89 : decode cX11_becomes 89 = .ok (.iload_n 1, 1) := dok_at gdX11_becomes_l70 10 rfl
theorem dX11_becomes_90 : decode cX11_becomes 90 = .ok (.baload, 1) := dok_at gdX11_becomes_l70 11 rfl
theorem dX11_becomes_91 : decode cX11_becomes 91 = .ok (.ifCond .ne 22, 3) := dok_at gdX11_becomes_l70 12 rfl
theorem dX11_becomes_94 : decode cX11_becomes 94 = .ok (.aload_n 0, 1) := dok_at gdX11_becomes_l70 13 rfl
theorem dX11_becomes_95 : decode cX11_becomes 95 = .ok (.getfield 50, 3) := dok_at gdX11_becomes_l70 14 rfl
theorem dX11_becomes_98 : decode cX11_becomes 98 = .ok (.iload_n 1, 1) := dok_at gdX11_becomes_l70 15 rfl
theorem dX11_becomes_99 : decode cX11_becomes 99 = .ok (.iaload, 1) := dok_at gdX11_becomes_l70 16 rfl
theorem dX11_becomes_100 : decode cX11_becomes 100 = .ok (.aload_n 0, 1) := dok_at gdX11_becomes_l70 17 rfl
theorem dX11_becomes_101 : decode cX11_becomes 101 = .ok (.getfield 59, 3) := dok_at gdX11_becomes_l70 18 rfl
theorem dX11_becomes_104 : decode cX11_becomes 104 = .ok (.iload_n 1, 1) := dok_at gdX11_becomes_l70 19 rfl
theorem dX11_becomes_105 : decode cX11_becomes 105 = .ok (.iaload, 1) := dok_at gdX11_becomes_l70 20 rfl
theorem dX11_becomes_106 : decode cX11_becomes 106 = .ok (.if_icmp .lt 7, 3) := dok_at gdX11_becomes_l70 21 rfl
theorem dX11_becomes_109 : decode cX11_becomes 109 = .ok (.iconst 3, 1) := dok_at gdX11_becomes_l70 22 rfl
theorem dX11_becomes_110 : decode cX11_becomes 110 = .ok (.goto 5, 3) := dok_at gdX11_becomes_l70 23 rfl
def dX11_becomes_l113 : List (Nat × Instr × Nat) := [(113, .bipush (-4), 2), (115, .ireturn, 1), (116, .iload_n 2, 1), (117, .ifCond .eq 12, 3), (120, .aload_n 0, 1), (121, .getfield 56, 3), (124, .iload_n 1, 1), (125, .baload, 1), (126, .ifCond .eq 7, 3), (129, .iconst 4, 1), (130, .goto 5, 3), (133, .bipush (-4), 2), (135, .ireturn, 1), (136, .aload_n 0, 1), (137, .getfield 50, 3), (140, .iload_n 1, 1), (141, .iaload, 1), (142, .aload_n 0, 1), (143, .iload_n 1, 1), (144, .iconst 2, 1), (145, .invokevirtual 251, 3), (148, .if_icmp .lt 7, 3), (151, .iconst 0, 1), (152, .goto 5, 3)]
theorem gdX11_becomes_l113 : dok cX11_becomes dX11_becomes_l113 = true := by decide +kernel
theorem dX11_becomes_113 : decode cX11_becomes 113 = .ok (.bipush (-4), 2) := dok_at gdX11_becomes_l113 0 rfl
theorem dX11_becomes_115 : decode cX11_becomes 115 = .ok (.ireturn, 1) := dok_at gdX11_becomes_l113 1 rfl
theorem dX11_becomes_116 : decode cX11_becomes 116 = .ok (.iload_n 2, 1) := dok_at gdX11_becomes_l113 2 rfl
theorem dX11_becomes_117 : decode cX11_becomes 117 = .ok (.ifCond .eq 12, 3) := dok_at gdX11_becomes_l113 3 rfl
theorem dX11_becomes_120 : decode cX11_becomes 120 = .ok (.aload_n 0, 1) := dok_at gdX11_becomes_l113 4 rfl
theorem dX11_becomes_121 : decode cX11_becomes 121 = .ok (.getfield 56, 3) := dok_at gdX11_becomes_l113 5 rfl
theorem dX11_becomes_124 : decode cX11_becomes 124 = .ok (.iload_n 1, 1) := dok_at gdX11_becomes_l113 6 rfl
theorem dX11_becomes_125 : decode cX11_becomes 125 = .ok (.baload, 1) := dok_at gdX11_becomes_l113 7 rfl
theorem dX11_becomes_126 : decode cX11_becomes 126 = .ok (.ifCond .eq 7, 3) := dok_at gdX11_becomes_l113 8 rfl
theorem dX11_becomes_129 : decode cX11_becomes 129 = .ok (.iconst 4, 1) := dok_at gdX11_becomes_l113 9 rfl
theorem dX11_becomes_130 : decode cX11_becomes 130 = .ok (.goto 5, 3) := dok_at gdX11_becomes_l113 10 rfl
theorem dX11_becomes_133 : decode cX11_becomes 133 = .ok (.bipush (-4), 2) := dok_at gdX11_becomes_l113 11 rfl
theorem dX11_becomes_135 : decode cX11_becomes 135 = .ok (.ireturn, 1) := dok_at gdX11_becomes_l113 12 rfl
theorem dX11_becomes_136 : decode cX11_becomes 136 = .ok (.aload_n 0, 1) := dok_at gdX11_becomes_l113 13 rfl
theorem dX11_becomes_137 : decode cX11_becomes 137 = .ok (.getfield 50, 3) := dok_at gdX11_becomes_l113 14 rfl
theorem dX11_becomes_140 : decode cX11_becomes 140 = .ok (.iload_n 1, 1) := dok_at gdX11_becomes_l113 15 rfl
theorem dX11_becomes_141 : decode cX11_becomes 141 = .ok (.iaload, 1) := dok_at gdX11_becomes_l113 16 rfl
theorem dX11_becomes_142 : decode cX11_becomes 142 = .ok (.aload_n 0, 1) := dok_at gdX11_becomes_l113 17 rfl
theorem dX11_becomes_143 : decode cX11_becomes 143 = .ok (.iload_n 1, 1) := dok_at gdX11_becomes_l113 18 rfl
theorem dX11_becomes_144 : decode cX11_becomes 144 = .ok (.iconst 2, 1) := dok_at gdX11_becomes_l113 19 rfl
theorem dX11_becomes_145 : decode cX11_becomes 145 = .ok (.invokevirtual 251, 3) := dok_at gdX11_becomes_l113 20 rfl
theorem dX11_becomes_148 : decode cX11_becomes 148 = .ok (.if_icmp .lt 7, 3) := dok_at gdX11_becomes_l113 21 rfl
theorem dX11_becomes_151 : decode cX11_becomes 151 = .ok (.iconst 0, 1) := dok_at gdX11_becomes_l113 22 rfl
theorem dX11_becomes_152 : decode cX11_becomes 152 = .ok (.goto 5, 3) := dok_at gdX11_becomes_l113 23 rfl
def dX11_becomes_l155 : List (Nat × Instr × Nat) := [(155, .bipush (-4), 2), (157, .ireturn, 1)]
theorem gdX11_becomes_l155 : dok cX11_becomes dX11_becomes_l155 = true := by decide +kernel
theorem dX11_becomes_155 : decode cX11_becomes 155 = .ok (.bipush (-4), 2) := dok_at gdX11_becomes_l155 0 rfl
theorem dX11_becomes_157 : decode cX11_becomes 157 = .ok (.ireturn, 1) := dok_at gdX11_becomes_l155 1 rfl
def dX11_drawnOf_l0 : List (Nat × Instr × Nat) := [(0, .iconst 0, 1), (1, .istore_n 3, 1), (2, .iconst 0, 1), (3, .istore 4, 2), (5, .iload 4, 2), (7, .aload_n 0, 1), (8, .getfield 121, 3), (11, .if_icmp .ge 53, 3), (14, .iload_n 3, 1), (15, .iload_n 1, 1), (16, .iload 4, 2), (18, .ishr, 1), (19, .iconst 1, 1), (20, .iand, 1), (21, .iconst 1, 1), (22, .if_icmp .ne 13, 3), (25, .aload_n 0, 1), (26, .iload 4, 2), (28, .iconst 3, 1), (29, .invokevirtual 251, 3), (32, .goto 24, 3), (35, .iload_n 2, 1), (36, .iload 4, 2), (38, .ishr, 1)]
theorem gdX11_drawnOf_l0 : dok cX11_drawnOf dX11_drawnOf_l0 = true := by decide +kernel
theorem dX11_drawnOf_0 : decode cX11_drawnOf 0 = .ok (.iconst 0, 1) := dok_at gdX11_drawnOf_l0 0 rfl
theorem dX11_drawnOf_1 : decode cX11_drawnOf 1 = .ok (.istore_n 3, 1) := dok_at gdX11_drawnOf_l0 1 rfl
theorem dX11_drawnOf_2 : decode cX11_drawnOf 2 = .ok (.iconst 0, 1) := dok_at gdX11_drawnOf_l0 2 rfl
theorem dX11_drawnOf_3 : decode cX11_drawnOf 3 = .ok (.istore 4, 2) := dok_at gdX11_drawnOf_l0 3 rfl
theorem dX11_drawnOf_5 : decode cX11_drawnOf 5 = .ok (.iload 4, 2) := dok_at gdX11_drawnOf_l0 4 rfl
theorem dX11_drawnOf_7 : decode cX11_drawnOf 7 = .ok (.aload_n 0, 1) := dok_at gdX11_drawnOf_l0 5 rfl
theorem dX11_drawnOf_8 : decode cX11_drawnOf 8 = .ok (.getfield 121, 3) := dok_at gdX11_drawnOf_l0 6 rfl
theorem dX11_drawnOf_11 : decode cX11_drawnOf 11 = .ok (.if_icmp .ge 53, 3) := dok_at gdX11_drawnOf_l0 7 rfl
theorem dX11_drawnOf_14 : decode cX11_drawnOf 14 = .ok (.iload_n 3, 1) := dok_at gdX11_drawnOf_l0 8 rfl
theorem dX11_drawnOf_15 : decode cX11_drawnOf 15 = .ok (.iload_n 1, 1) := dok_at gdX11_drawnOf_l0 9 rfl
theorem dX11_drawnOf_16 : decode cX11_drawnOf 16 = .ok (.iload 4, 2) := dok_at gdX11_drawnOf_l0 10 rfl
theorem dX11_drawnOf_18 : decode cX11_drawnOf 18 = .ok (.ishr, 1) := dok_at gdX11_drawnOf_l0 11 rfl
theorem dX11_drawnOf_19 : decode cX11_drawnOf 19 = .ok (.iconst 1, 1) := dok_at gdX11_drawnOf_l0 12 rfl
theorem dX11_drawnOf_20 : decode cX11_drawnOf 20 = .ok (.iand, 1) := dok_at gdX11_drawnOf_l0 13 rfl
theorem dX11_drawnOf_21 : decode cX11_drawnOf 21 = .ok (.iconst 1, 1) := dok_at gdX11_drawnOf_l0 14 rfl
theorem dX11_drawnOf_22 : decode cX11_drawnOf 22 = .ok (.if_icmp .ne 13, 3) := dok_at gdX11_drawnOf_l0 15 rfl
theorem dX11_drawnOf_25 : decode cX11_drawnOf 25 = .ok (.aload_n 0, 1) := dok_at gdX11_drawnOf_l0 16 rfl
theorem dX11_drawnOf_26 : decode cX11_drawnOf 26 = .ok (.iload 4, 2) := dok_at gdX11_drawnOf_l0 17 rfl
theorem dX11_drawnOf_28 : decode cX11_drawnOf 28 = .ok (.iconst 3, 1) := dok_at gdX11_drawnOf_l0 18 rfl
theorem dX11_drawnOf_29 : decode cX11_drawnOf 29 = .ok (.invokevirtual 251, 3) := dok_at gdX11_drawnOf_l0 19 rfl
theorem dX11_drawnOf_32 : decode cX11_drawnOf 32 = .ok (.goto 24, 3) := dok_at gdX11_drawnOf_l0 20 rfl
theorem dX11_drawnOf_35 : decode cX11_drawnOf 35 = .ok (.iload_n 2, 1) := dok_at gdX11_drawnOf_l0 21 rfl
theorem dX11_drawnOf_36 : decode cX11_drawnOf 36 = .ok (.iload 4, 2) := dok_at gdX11_drawnOf_l0 22 rfl
theorem dX11_drawnOf_38 : decode cX11_drawnOf 38 = .ok (.ishr, 1) := dok_at gdX11_drawnOf_l0 23 rfl
def dX11_drawnOf_l39 : List (Nat × Instr × Nat) := [(39, .iconst 1, 1), (40, .iand, 1), (41, .iconst 1, 1), (42, .if_icmp .ne 13, 3), (45, .aload_n 0, 1), (46, .iload 4, 2), (48, .iconst 4, 1), (49, .invokevirtual 251, 3), (52, .goto 4, 3), (55, .iconst 0, 1), (56, .iadd, 1), (57, .istore_n 3, 1), (58, .iinc 4 1, 3), (61, .goto (-56), 3), (64, .iload_n 3, 1), (65, .ireturn, 1)]
theorem gdX11_drawnOf_l39 : dok cX11_drawnOf dX11_drawnOf_l39 = true := by decide +kernel
theorem dX11_drawnOf_39 : decode cX11_drawnOf 39 = .ok (.iconst 1, 1) := dok_at gdX11_drawnOf_l39 0 rfl
theorem dX11_drawnOf_40 : decode cX11_drawnOf 40 = .ok (.iand, 1) := dok_at gdX11_drawnOf_l39 1 rfl
theorem dX11_drawnOf_41 : decode cX11_drawnOf 41 = .ok (.iconst 1, 1) := dok_at gdX11_drawnOf_l39 2 rfl
theorem dX11_drawnOf_42 : decode cX11_drawnOf 42 = .ok (.if_icmp .ne 13, 3) := dok_at gdX11_drawnOf_l39 3 rfl
theorem dX11_drawnOf_45 : decode cX11_drawnOf 45 = .ok (.aload_n 0, 1) := dok_at gdX11_drawnOf_l39 4 rfl
theorem dX11_drawnOf_46 : decode cX11_drawnOf 46 = .ok (.iload 4, 2) := dok_at gdX11_drawnOf_l39 5 rfl
theorem dX11_drawnOf_48 : decode cX11_drawnOf 48 = .ok (.iconst 4, 1) := dok_at gdX11_drawnOf_l39 6 rfl
theorem dX11_drawnOf_49 : decode cX11_drawnOf 49 = .ok (.invokevirtual 251, 3) := dok_at gdX11_drawnOf_l39 7 rfl
theorem dX11_drawnOf_52 : decode cX11_drawnOf 52 = .ok (.goto 4, 3) := dok_at gdX11_drawnOf_l39 8 rfl
theorem dX11_drawnOf_55 : decode cX11_drawnOf 55 = .ok (.iconst 0, 1) := dok_at gdX11_drawnOf_l39 9 rfl
theorem dX11_drawnOf_56 : decode cX11_drawnOf 56 = .ok (.iadd, 1) := dok_at gdX11_drawnOf_l39 10 rfl
theorem dX11_drawnOf_57 : decode cX11_drawnOf 57 = .ok (.istore_n 3, 1) := dok_at gdX11_drawnOf_l39 11 rfl
theorem dX11_drawnOf_58 : decode cX11_drawnOf 58 = .ok (.iinc 4 1, 3) := dok_at gdX11_drawnOf_l39 12 rfl
theorem dX11_drawnOf_61 : decode cX11_drawnOf 61 = .ok (.goto (-56), 3) := dok_at gdX11_drawnOf_l39 13 rfl
theorem dX11_drawnOf_64 : decode cX11_drawnOf 64 = .ok (.iload_n 3, 1) := dok_at gdX11_drawnOf_l39 14 rfl
theorem dX11_drawnOf_65 : decode cX11_drawnOf 65 = .ok (.ireturn, 1) := dok_at gdX11_drawnOf_l39 15 rfl
def dX11_aTick_l0 : List (Nat × Instr × Nat) := [(0, .aload_n 0, 1), (1, .invokevirtual 306, 3), (4, .aload_n 0, 1), (5, .aload_n 0, 1), (6, .aload_n 0, 1), (7, .iconst 3, 1), (8, .invokevirtual 291, 3), (11, .aload_n 0, 1), (12, .iconst 2, 1), (13, .invokevirtual 291, 3), (16, .invokevirtual 309, 3), (19, .putfield 279, 3), (22, .aload_n 0, 1), (23, .aload_n 0, 1), (24, .getfield 279, 3), (27, .aload_n 0, 1), (28, .getfield 282, 3), (31, .if_icmp .le 10, 3), (34, .aload_n 0, 1), (35, .getfield 279, 3), (38, .goto 7, 3), (41, .aload_n 0, 1), (42, .getfield 282, 3), (45, .putfield 282, 3)]
theorem gdX11_aTick_l0 : dok cX11_aTick dX11_aTick_l0 = true := by decide +kernel
theorem dX11_aTick_0 : decode cX11_aTick 0 = .ok (.aload_n 0, 1) := dok_at gdX11_aTick_l0 0 rfl
theorem dX11_aTick_1 : decode cX11_aTick 1 = .ok (.invokevirtual 306, 3) := dok_at gdX11_aTick_l0 1 rfl
theorem dX11_aTick_4 : decode cX11_aTick 4 = .ok (.aload_n 0, 1) := dok_at gdX11_aTick_l0 2 rfl
theorem dX11_aTick_5 : decode cX11_aTick 5 = .ok (.aload_n 0, 1) := dok_at gdX11_aTick_l0 3 rfl
theorem dX11_aTick_6 : decode cX11_aTick 6 = .ok (.aload_n 0, 1) := dok_at gdX11_aTick_l0 4 rfl
theorem dX11_aTick_7 : decode cX11_aTick 7 = .ok (.iconst 3, 1) := dok_at gdX11_aTick_l0 5 rfl
theorem dX11_aTick_8 : decode cX11_aTick 8 = .ok (.invokevirtual 291, 3) := dok_at gdX11_aTick_l0 6 rfl
theorem dX11_aTick_11 : decode cX11_aTick 11 = .ok (.aload_n 0, 1) := dok_at gdX11_aTick_l0 7 rfl
theorem dX11_aTick_12 : decode cX11_aTick 12 = .ok (.iconst 2, 1) := dok_at gdX11_aTick_l0 8 rfl
theorem dX11_aTick_13 : decode cX11_aTick 13 = .ok (.invokevirtual 291, 3) := dok_at gdX11_aTick_l0 9 rfl
theorem dX11_aTick_16 : decode cX11_aTick 16 = .ok (.invokevirtual 309, 3) := dok_at gdX11_aTick_l0 10 rfl
theorem dX11_aTick_19 : decode cX11_aTick 19 = .ok (.putfield 279, 3) := dok_at gdX11_aTick_l0 11 rfl
theorem dX11_aTick_22 : decode cX11_aTick 22 = .ok (.aload_n 0, 1) := dok_at gdX11_aTick_l0 12 rfl
theorem dX11_aTick_23 : decode cX11_aTick 23 = .ok (.aload_n 0, 1) := dok_at gdX11_aTick_l0 13 rfl
theorem dX11_aTick_24 : decode cX11_aTick 24 = .ok (.getfield 279, 3) := dok_at gdX11_aTick_l0 14 rfl
theorem dX11_aTick_27 : decode cX11_aTick 27 = .ok (.aload_n 0, 1) := dok_at gdX11_aTick_l0 15 rfl
theorem dX11_aTick_28 : decode cX11_aTick 28 = .ok (.getfield 282, 3) := dok_at gdX11_aTick_l0 16 rfl
theorem dX11_aTick_31 : decode cX11_aTick 31 = .ok (.if_icmp .le 10, 3) := dok_at gdX11_aTick_l0 17 rfl
theorem dX11_aTick_34 : decode cX11_aTick 34 = .ok (.aload_n 0, 1) := dok_at gdX11_aTick_l0 18 rfl
theorem dX11_aTick_35 : decode cX11_aTick 35 = .ok (.getfield 279, 3) := dok_at gdX11_aTick_l0 19 rfl
theorem dX11_aTick_38 : decode cX11_aTick 38 = .ok (.goto 7, 3) := dok_at gdX11_aTick_l0 20 rfl
theorem dX11_aTick_41 : decode cX11_aTick 41 = .ok (.aload_n 0, 1) := dok_at gdX11_aTick_l0 21 rfl
theorem dX11_aTick_42 : decode cX11_aTick 42 = .ok (.getfield 282, 3) := dok_at gdX11_aTick_l0 22 rfl
theorem dX11_aTick_45 : decode cX11_aTick 45 = .ok (.putfield 282, 3) := dok_at gdX11_aTick_l0 23 rfl
def dX11_aTick_l48 : List (Nat × Instr × Nat) := [(48, .aload_n 0, 1), (49, .invokevirtual 312, 3), (52, .istore_n 1, 1), (53, .iload_n 1, 1), (54, .ifCond .le 67, 3), (57, .aload_n 0, 1), (58, .dup, 1), (59, .getfield 285, 3), (62, .iconst 1, 1), (63, .iadd, 1), (64, .putfield 285, 3), (67, .aload_n 0, 1), (68, .bipush (-4), 2), (70, .iconst 5, 1), (71, .iload_n 1, 1), (72, .iadd, 1), (73, .invokevirtual 298, 3), (76, .aload_n 0, 1), (77, .aload_n 0, 1), (78, .getfield 276, 3), (81, .ifCond .le 10, 3), (84, .aload_n 0, 1), (85, .getfield 130, 3), (88, .goto 5, 3)]
theorem gdX11_aTick_l48 : dok cX11_aTick dX11_aTick_l48 = true := by decide +kernel
theorem dX11_aTick_48 : decode cX11_aTick 48 = .ok (.aload_n 0, 1) := dok_at gdX11_aTick_l48 0 rfl
theorem dX11_aTick_49 : decode cX11_aTick 49 = .ok (.invokevirtual 312, 3) := dok_at gdX11_aTick_l48 1 rfl
theorem dX11_aTick_52 : decode cX11_aTick 52 = .ok (.istore_n 1, 1) := dok_at gdX11_aTick_l48 2 rfl
theorem dX11_aTick_53 : decode cX11_aTick 53 = .ok (.iload_n 1, 1) := dok_at gdX11_aTick_l48 3 rfl
theorem dX11_aTick_54 : decode cX11_aTick 54 = .ok (.ifCond .le 67, 3) := dok_at gdX11_aTick_l48 4 rfl
theorem dX11_aTick_57 : decode cX11_aTick 57 = .ok (.aload_n 0, 1) := dok_at gdX11_aTick_l48 5 rfl
theorem dX11_aTick_58 : decode cX11_aTick 58 = .ok (.dup, 1) := dok_at gdX11_aTick_l48 6 rfl
theorem dX11_aTick_59 : decode cX11_aTick 59 = .ok (.getfield 285, 3) := dok_at gdX11_aTick_l48 7 rfl
theorem dX11_aTick_62 : decode cX11_aTick 62 = .ok (.iconst 1, 1) := dok_at gdX11_aTick_l48 8 rfl
theorem dX11_aTick_63 : decode cX11_aTick 63 = .ok (.iadd, 1) := dok_at gdX11_aTick_l48 9 rfl
theorem dX11_aTick_64 : decode cX11_aTick 64 = .ok (.putfield 285, 3) := dok_at gdX11_aTick_l48 10 rfl
theorem dX11_aTick_67 : decode cX11_aTick 67 = .ok (.aload_n 0, 1) := dok_at gdX11_aTick_l48 11 rfl
theorem dX11_aTick_68 : decode cX11_aTick 68 = .ok (.bipush (-4), 2) := dok_at gdX11_aTick_l48 12 rfl
theorem dX11_aTick_70 : decode cX11_aTick 70 = .ok (.iconst 5, 1) := dok_at gdX11_aTick_l48 13 rfl
theorem dX11_aTick_71 : decode cX11_aTick 71 = .ok (.iload_n 1, 1) := dok_at gdX11_aTick_l48 14 rfl
theorem dX11_aTick_72 : decode cX11_aTick 72 = .ok (.iadd, 1) := dok_at gdX11_aTick_l48 15 rfl
theorem dX11_aTick_73 : decode cX11_aTick 73 = .ok (.invokevirtual 298, 3) := dok_at gdX11_aTick_l48 16 rfl
theorem dX11_aTick_76 : decode cX11_aTick 76 = .ok (.aload_n 0, 1) := dok_at gdX11_aTick_l48 17 rfl
theorem dX11_aTick_77 : decode cX11_aTick 77 = .ok (.aload_n 0, 1) := dok_at gdX11_aTick_l48 18 rfl
theorem dX11_aTick_78 : decode cX11_aTick 78 = .ok (.getfield 276, 3) := dok_at gdX11_aTick_l48 19 rfl
theorem dX11_aTick_81 : decode cX11_aTick 81 = .ok (.ifCond .le 10, 3) := dok_at gdX11_aTick_l48 20 rfl
theorem dX11_aTick_84 : decode cX11_aTick 84 = .ok (.aload_n 0, 1) := dok_at gdX11_aTick_l48 21 rfl
theorem dX11_aTick_85 : decode cX11_aTick 85 = .ok (.getfield 130, 3) := dok_at gdX11_aTick_l48 22 rfl
theorem dX11_aTick_88 : decode cX11_aTick 88 = .ok (.goto 5, 3) := dok_at gdX11_aTick_l48 23 rfl
def dX11_aTick_l91 : List (Nat × Instr × Nat) := [(91, .bipush (-4), 2), (93, .putfield 273, 3), (96, .aload_n 0, 1), (97, .dup, 1), (98, .getfield 276, 3), (101, .aload_n 0, 1), (102, .getfield 276, 3), (105, .ifCond .le 7, 3), (108, .iconst 1, 1), (109, .goto 4, 3), (112, .iconst 0, 1), (113, .isub, 1), (114, .putfield 276, 3), (117, .aload_n 0, 1), (118, .invokevirtual 306, 3), (121, .iconst 0, 1), (122, .istore_n 2, 1), (123, .iload_n 2, 1), (124, .aload_n 0, 1), (125, .getfield 121, 3), (128, .if_icmp .ge 29, 3), (131, .aload_n 0, 1), (132, .getfield 50, 3), (135, .iload_n 2, 1)]
theorem gdX11_aTick_l91 : dok cX11_aTick dX11_aTick_l91 = true := by decide +kernel
theorem dX11_aTick_91 : decode cX11_aTick 91 = .ok (.bipush (-4), 2) := dok_at gdX11_aTick_l91 0 rfl
theorem dX11_aTick_93 : decode cX11_aTick 93 = .ok (.putfield 273, 3) := dok_at gdX11_aTick_l91 1 rfl
theorem dX11_aTick_96 : decode cX11_aTick 96 = .ok (.aload_n 0, 1) := dok_at gdX11_aTick_l91 2 rfl
theorem dX11_aTick_97 : decode cX11_aTick 97 = .ok (.dup, 1) := dok_at gdX11_aTick_l91 3 rfl
theorem dX11_aTick_98 : decode cX11_aTick 98 = .ok (.getfield 276, 3) := dok_at gdX11_aTick_l91 4 rfl
theorem dX11_aTick_101 : decode cX11_aTick 101 = .ok (.aload_n 0, 1) := dok_at gdX11_aTick_l91 5 rfl
theorem dX11_aTick_102 : decode cX11_aTick 102 = .ok (.getfield 276, 3) := dok_at gdX11_aTick_l91 6 rfl
theorem dX11_aTick_105 : decode cX11_aTick 105 = .ok (.ifCond .le 7, 3) := dok_at gdX11_aTick_l91 7 rfl
theorem dX11_aTick_108 : decode cX11_aTick 108 = .ok (.iconst 1, 1) := dok_at gdX11_aTick_l91 8 rfl
theorem dX11_aTick_109 : decode cX11_aTick 109 = .ok (.goto 4, 3) := dok_at gdX11_aTick_l91 9 rfl
theorem dX11_aTick_112 : decode cX11_aTick 112 = .ok (.iconst 0, 1) := dok_at gdX11_aTick_l91 10 rfl
theorem dX11_aTick_113 : decode cX11_aTick 113 = .ok (.isub, 1) := dok_at gdX11_aTick_l91 11 rfl
theorem dX11_aTick_114 : decode cX11_aTick 114 = .ok (.putfield 276, 3) := dok_at gdX11_aTick_l91 12 rfl
theorem dX11_aTick_117 : decode cX11_aTick 117 = .ok (.aload_n 0, 1) := dok_at gdX11_aTick_l91 13 rfl
theorem dX11_aTick_118 : decode cX11_aTick 118 = .ok (.invokevirtual 306, 3) := dok_at gdX11_aTick_l91 14 rfl
theorem dX11_aTick_121 : decode cX11_aTick 121 = .ok (.iconst 0, 1) := dok_at gdX11_aTick_l91 15 rfl
theorem dX11_aTick_122 : decode cX11_aTick 122 = .ok (.istore_n 2, 1) := dok_at gdX11_aTick_l91 16 rfl
theorem dX11_aTick_123 : decode cX11_aTick 123 = .ok (.iload_n 2, 1) := dok_at gdX11_aTick_l91 17 rfl
theorem dX11_aTick_124 : decode cX11_aTick 124 = .ok (.aload_n 0, 1) := dok_at gdX11_aTick_l91 18 rfl
theorem dX11_aTick_125 : decode cX11_aTick 125 = .ok (.getfield 121, 3) := dok_at gdX11_aTick_l91 19 rfl
theorem dX11_aTick_128 : decode cX11_aTick 128 = .ok (.if_icmp .ge 29, 3) := dok_at gdX11_aTick_l91 20 rfl
theorem dX11_aTick_131 : decode cX11_aTick 131 = .ok (.aload_n 0, 1) := dok_at gdX11_aTick_l91 21 rfl
theorem dX11_aTick_132 : decode cX11_aTick 132 = .ok (.getfield 50, 3) := dok_at gdX11_aTick_l91 22 rfl
theorem dX11_aTick_135 : decode cX11_aTick 135 = .ok (.iload_n 2, 1) := dok_at gdX11_aTick_l91 23 rfl
def dX11_aTick_l136 : List (Nat × Instr × Nat) := [(136, .dup2, 1), (137, .iaload, 1), (138, .iconst 1, 1), (139, .iadd, 1), (140, .iastore, 1), (141, .aload_n 0, 1), (142, .getfield 53, 3), (145, .iload_n 2, 1), (146, .dup2, 1), (147, .iaload, 1), (148, .iconst 1, 1), (149, .iadd, 1), (150, .iastore, 1), (151, .iinc 2 1, 3), (154, .goto (-31), 3), (157, .aload_n 0, 1), (158, .dup, 1), (159, .getfield 273, 3), (162, .aload_n 0, 1), (163, .getfield 273, 3), (166, .ifCond .le 7, 3), (169, .iconst 1, 1), (170, .goto 4, 3), (173, .iconst 0, 1)]
theorem gdX11_aTick_l136 : dok cX11_aTick dX11_aTick_l136 = true := by decide +kernel
theorem dX11_aTick_136 : decode cX11_aTick 136 = .ok (.dup2, 1) := dok_at gdX11_aTick_l136 0 rfl
theorem dX11_aTick_137 : decode cX11_aTick 137 = .ok (.iaload, 1) := dok_at gdX11_aTick_l136 1 rfl
theorem dX11_aTick_138 : decode cX11_aTick 138 = .ok (.iconst 1, 1) := dok_at gdX11_aTick_l136 2 rfl
theorem dX11_aTick_139 : decode cX11_aTick 139 = .ok (.iadd, 1) := dok_at gdX11_aTick_l136 3 rfl
theorem dX11_aTick_140 : decode cX11_aTick 140 = .ok (.iastore, 1) := dok_at gdX11_aTick_l136 4 rfl
theorem dX11_aTick_141 : decode cX11_aTick 141 = .ok (.aload_n 0, 1) := dok_at gdX11_aTick_l136 5 rfl
theorem dX11_aTick_142 : decode cX11_aTick 142 = .ok (.getfield 53, 3) := dok_at gdX11_aTick_l136 6 rfl
theorem dX11_aTick_145 : decode cX11_aTick 145 = .ok (.iload_n 2, 1) := dok_at gdX11_aTick_l136 7 rfl
theorem dX11_aTick_146 : decode cX11_aTick 146 = .ok (.dup2, 1) := dok_at gdX11_aTick_l136 8 rfl
theorem dX11_aTick_147 : decode cX11_aTick 147 = .ok (.iaload, 1) := dok_at gdX11_aTick_l136 9 rfl
theorem dX11_aTick_148 : decode cX11_aTick 148 = .ok (.iconst 1, 1) := dok_at gdX11_aTick_l136 10 rfl
theorem dX11_aTick_149 : decode cX11_aTick 149 = .ok (.iadd, 1) := dok_at gdX11_aTick_l136 11 rfl
theorem dX11_aTick_150 : decode cX11_aTick 150 = .ok (.iastore, 1) := dok_at gdX11_aTick_l136 12 rfl
theorem dX11_aTick_151 : decode cX11_aTick 151 = .ok (.iinc 2 1, 3) := dok_at gdX11_aTick_l136 13 rfl
theorem dX11_aTick_154 : decode cX11_aTick 154 = .ok (.goto (-31), 3) := dok_at gdX11_aTick_l136 14 rfl
theorem dX11_aTick_157 : decode cX11_aTick 157 = .ok (.aload_n 0, 1) := dok_at gdX11_aTick_l136 15 rfl
theorem dX11_aTick_158 : decode cX11_aTick 158 = .ok (.dup, 1) := dok_at gdX11_aTick_l136 16 rfl
theorem dX11_aTick_159 : decode cX11_aTick 159 = .ok (.getfield 273, 3) := dok_at gdX11_aTick_l136 17 rfl
theorem dX11_aTick_162 : decode cX11_aTick 162 = .ok (.aload_n 0, 1) := dok_at gdX11_aTick_l136 18 rfl
theorem dX11_aTick_163 : decode cX11_aTick 163 = .ok (.getfield 273, 3) := dok_at gdX11_aTick_l136 19 rfl
theorem dX11_aTick_166 : decode cX11_aTick 166 = .ok (.ifCond .le 7, 3) := dok_at gdX11_aTick_l136 20 rfl
theorem dX11_aTick_169 : decode cX11_aTick 169 = .ok (.iconst 1, 1) := dok_at gdX11_aTick_l136 21 rfl
theorem dX11_aTick_170 : decode cX11_aTick 170 = .ok (.goto 4, 3) := dok_at gdX11_aTick_l136 22 rfl
theorem dX11_aTick_173 : decode cX11_aTick 173 = .ok (.iconst 0, 1) := dok_at gdX11_aTick_l136 23 rfl
def dX11_aTick_l174 : List (Nat × Instr × Nat) := [(174, .isub, 1), (175, .putfield 273, 3), (178, .aload_n 0, 1), (179, .dup, 1), (180, .getfield 267, 3), (183, .iconst 1, 1), (184, .iadd, 1), (185, .putfield 267, 3), (188, .return_, 1)]
theorem gdX11_aTick_l174 : dok cX11_aTick dX11_aTick_l174 = true := by decide +kernel
theorem dX11_aTick_174 : decode cX11_aTick 174 = .ok (.isub, 1) := dok_at gdX11_aTick_l174 0 rfl
theorem dX11_aTick_175 : decode cX11_aTick 175 = .ok (.putfield 273, 3) := dok_at gdX11_aTick_l174 1 rfl
theorem dX11_aTick_178 : decode cX11_aTick 178 = .ok (.aload_n 0, 1) := dok_at gdX11_aTick_l174 2 rfl
theorem dX11_aTick_179 : decode cX11_aTick 179 = .ok (.dup, 1) := dok_at gdX11_aTick_l174 3 rfl
theorem dX11_aTick_180 : decode cX11_aTick 180 = .ok (.getfield 267, 3) := dok_at gdX11_aTick_l174 4 rfl
theorem dX11_aTick_183 : decode cX11_aTick 183 = .ok (.iconst 1, 1) := dok_at gdX11_aTick_l174 5 rfl
theorem dX11_aTick_184 : decode cX11_aTick 184 = .ok (.iadd, 1) := dok_at gdX11_aTick_l174 6 rfl
theorem dX11_aTick_185 : decode cX11_aTick 185 = .ok (.putfield 267, 3) := dok_at gdX11_aTick_l174 7 rfl
theorem dX11_aTick_188 : decode cX11_aTick 188 = .ok (.return_, 1) := dok_at gdX11_aTick_l174 8 rfl
def dX11_go_l0 : List (Nat × Instr × Nat) := [(0, .iload_n 1, 1), (1, .i2l, 1), (2, .lconst 1, 1), (3, .ldc2_w 315, 3), (6, .invokestatic 141, 3), (9, .ifCond .ne 5, 3), (12, .iconst (-1), 1), (13, .ireturn, 1), (14, .aload_n 0, 1), (15, .getfield 285, 3), (18, .istore_n 2, 1), (19, .iconst 0, 1), (20, .istore_n 3, 1), (21, .iload_n 3, 1), (22, .iload_n 1, 1), (23, .if_icmp .ge 13, 3), (26, .aload_n 0, 1), (27, .invokevirtual 317, 3), (30, .iinc 3 1, 3), (33, .goto (-12), 3), (36, .aload_n 0, 1), (37, .getfield 285, 3), (40, .iload_n 2, 1), (41, .isub, 1)]
theorem gdX11_go_l0 : dok cX11_go dX11_go_l0 = true := by decide +kernel
theorem dX11_go_0 : decode cX11_go 0 = .ok (.iload_n 1, 1) := dok_at gdX11_go_l0 0 rfl
theorem dX11_go_1 : decode cX11_go 1 = .ok (.i2l, 1) := dok_at gdX11_go_l0 1 rfl
theorem dX11_go_2 : decode cX11_go 2 = .ok (.lconst 1, 1) := dok_at gdX11_go_l0 2 rfl
theorem dX11_go_3 : decode cX11_go 3 = .ok (.ldc2_w 315, 3) := dok_at gdX11_go_l0 3 rfl
theorem dX11_go_6 : decode cX11_go 6 = .ok (.invokestatic 141, 3) := dok_at gdX11_go_l0 4 rfl
theorem dX11_go_9 : decode cX11_go 9 = .ok (.ifCond .ne 5, 3) := dok_at gdX11_go_l0 5 rfl
theorem dX11_go_12 : decode cX11_go 12 = .ok (.iconst (-1), 1) := dok_at gdX11_go_l0 6 rfl
theorem dX11_go_13 : decode cX11_go 13 = .ok (.ireturn, 1) := dok_at gdX11_go_l0 7 rfl
theorem dX11_go_14 : decode cX11_go 14 = .ok (.aload_n 0, 1) := dok_at gdX11_go_l0 8 rfl
theorem dX11_go_15 : decode cX11_go 15 = .ok (.getfield 285, 3) := dok_at gdX11_go_l0 9 rfl
theorem dX11_go_18 : decode cX11_go 18 = .ok (.istore_n 2, 1) := dok_at gdX11_go_l0 10 rfl
theorem dX11_go_19 : decode cX11_go 19 = .ok (.iconst 0, 1) := dok_at gdX11_go_l0 11 rfl
theorem dX11_go_20 : decode cX11_go 20 = .ok (.istore_n 3, 1) := dok_at gdX11_go_l0 12 rfl
theorem dX11_go_21 : decode cX11_go 21 = .ok (.iload_n 3, 1) := dok_at gdX11_go_l0 13 rfl
theorem dX11_go_22 : decode cX11_go 22 = .ok (.iload_n 1, 1) := dok_at gdX11_go_l0 14 rfl
theorem dX11_go_23 : decode cX11_go 23 = .ok (.if_icmp .ge 13, 3) := dok_at gdX11_go_l0 15 rfl
theorem dX11_go_26 : decode cX11_go 26 = .ok (.aload_n 0, 1) := dok_at gdX11_go_l0 16 rfl
theorem dX11_go_27 : decode cX11_go 27 = .ok (.invokevirtual 317, 3) := dok_at gdX11_go_l0 17 rfl
theorem dX11_go_30 : decode cX11_go 30 = .ok (.iinc 3 1, 3) := dok_at gdX11_go_l0 18 rfl
theorem dX11_go_33 : decode cX11_go 33 = .ok (.goto (-12), 3) := dok_at gdX11_go_l0 19 rfl
theorem dX11_go_36 : decode cX11_go 36 = .ok (.aload_n 0, 1) := dok_at gdX11_go_l0 20 rfl
theorem dX11_go_37 : decode cX11_go 37 = .ok (.getfield 285, 3) := dok_at gdX11_go_l0 21 rfl
theorem dX11_go_40 : decode cX11_go 40 = .ok (.iload_n 2, 1) := dok_at gdX11_go_l0 22 rfl
theorem dX11_go_41 : decode cX11_go 41 = .ok (.isub, 1) := dok_at gdX11_go_l0 23 rfl
def dX11_go_l42 : List (Nat × Instr × Nat) := [(42, .ireturn, 1)]
theorem gdX11_go_l42 : dok cX11_go dX11_go_l42 = true := by decide +kernel
theorem dX11_go_42 : decode cX11_go 42 = .ok (.ireturn, 1) := dok_at gdX11_go_l42 0 rfl
def dX11_is__l0 : List (Nat × Instr × Nat) := [(0, .aload_n 0, 1), (1, .iload_n 1, 1), (2, .invokevirtual 248, 3), (5, .ifCond .eq 15, 3), (8, .iload_n 2, 1), (9, .i2l, 1), (10, .lconst 0, 1), (11, .ldc2_w 320, 3), (14, .invokestatic 141, 3), (17, .ifCond .ne 5, 3), (20, .iconst (-1), 1), (21, .ireturn, 1), (22, .iload_n 2, 1), (23, .ifCond .ne 12, 3), (26, .aload_n 0, 1), (27, .getfield 47, 3), (30, .iload_n 1, 1), (31, .iaload, 1), (32, .goto 54, 3), (35, .iload_n 2, 1), (36, .iconst 1, 1), (37, .if_icmp .ne 12, 3), (40, .aload_n 0, 1), (41, .getfield 50, 3)]
theorem gdX11_is__l0 : dok cX11_is_ dX11_is__l0 = true := by decide +kernel
theorem dX11_is__0 : decode cX11_is_ 0 = .ok (.aload_n 0, 1) := dok_at gdX11_is__l0 0 rfl
theorem dX11_is__1 : decode cX11_is_ 1 = .ok (.iload_n 1, 1) := dok_at gdX11_is__l0 1 rfl
theorem dX11_is__2 : decode cX11_is_ 2 = .ok (.invokevirtual 248, 3) := dok_at gdX11_is__l0 2 rfl
theorem dX11_is__5 : decode cX11_is_ 5 = .ok (.ifCond .eq 15, 3) := dok_at gdX11_is__l0 3 rfl
theorem dX11_is__8 : decode cX11_is_ 8 = .ok (.iload_n 2, 1) := dok_at gdX11_is__l0 4 rfl
theorem dX11_is__9 : decode cX11_is_ 9 = .ok (.i2l, 1) := dok_at gdX11_is__l0 5 rfl
theorem dX11_is__10 : decode cX11_is_ 10 = .ok (.lconst 0, 1) := dok_at gdX11_is__l0 6 rfl
theorem dX11_is__11 : decode cX11_is_ 11 = .ok (.ldc2_w 320, 3) := dok_at gdX11_is__l0 7 rfl
theorem dX11_is__14 : decode cX11_is_ 14 = .ok (.invokestatic 141, 3) := dok_at gdX11_is__l0 8 rfl
theorem dX11_is__17 : decode cX11_is_ 17 = .ok (.ifCond .ne 5, 3) := dok_at gdX11_is__l0 9 rfl
theorem dX11_is__20 : decode cX11_is_ 20 = .ok (.iconst (-1), 1) := dok_at gdX11_is__l0 10 rfl
theorem dX11_is__21 : decode cX11_is_ 21 = .ok (.ireturn, 1) := dok_at gdX11_is__l0 11 rfl
theorem dX11_is__22 : decode cX11_is_ 22 = .ok (.iload_n 2, 1) := dok_at gdX11_is__l0 12 rfl
theorem dX11_is__23 : decode cX11_is_ 23 = .ok (.ifCond .ne 12, 3) := dok_at gdX11_is__l0 13 rfl
theorem dX11_is__26 : decode cX11_is_ 26 = .ok (.aload_n 0, 1) := dok_at gdX11_is__l0 14 rfl
theorem dX11_is__27 : decode cX11_is_ 27 = .ok (.getfield 47, 3) := dok_at gdX11_is__l0 15 rfl
theorem dX11_is__30 : decode cX11_is_ 30 = .ok (.iload_n 1, 1) := dok_at gdX11_is__l0 16 rfl
theorem dX11_is__31 : decode cX11_is_ 31 = .ok (.iaload, 1) := dok_at gdX11_is__l0 17 rfl
theorem dX11_is__32 : decode cX11_is_ 32 = .ok (.goto 54, 3) := dok_at gdX11_is__l0 18 rfl
theorem dX11_is__35 : decode cX11_is_ 35 = .ok (.iload_n 2, 1) := dok_at gdX11_is__l0 19 rfl
theorem dX11_is__36 : decode cX11_is_ 36 = .ok (.iconst 1, 1) := dok_at gdX11_is__l0 20 rfl
theorem dX11_is__37 : decode cX11_is_ 37 = .ok (.if_icmp .ne 12, 3) := dok_at gdX11_is__l0 21 rfl
theorem dX11_is__40 : decode cX11_is_ 40 = .ok (.aload_n 0, 1) := dok_at gdX11_is__l0 22 rfl
theorem dX11_is__41 : decode cX11_is_ 41 = .ok (.getfield 50, 3) := dok_at gdX11_is__l0 23 rfl
def dX11_is__l44 : List (Nat × Instr × Nat) := [(44, .iload_n 1, 1), (45, .iaload, 1), (46, .goto 40, 3), (49, .iload_n 2, 1), (50, .iconst 2, 1), (51, .if_icmp .ne 15, 3), (54, .aload_n 0, 1), (55, .getfield 56, 3), (58, .iload_n 1, 1), (59, .baload, 1), (60, .invokestatic 260, 3), (63, .goto 23, 3), (66, .iload_n 2, 1), (67, .iconst 3, 1), (68, .if_icmp .ne 12, 3), (71, .aload_n 0, 1), (72, .getfield 59, 3), (75, .iload_n 1, 1), (76, .iaload, 1), (77, .goto 9, 3), (80, .aload_n 0, 1), (81, .getfield 62, 3), (84, .iload_n 1, 1), (85, .iaload, 1)]
theorem gdX11_is__l44 : dok cX11_is_ dX11_is__l44 = true := by decide +kernel
theorem dX11_is__44 : decode cX11_is_ 44 = .ok (.iload_n 1, 1) := dok_at gdX11_is__l44 0 rfl
theorem dX11_is__45 : decode cX11_is_ 45 = .ok (.iaload, 1) := dok_at gdX11_is__l44 1 rfl
theorem dX11_is__46 : decode cX11_is_ 46 = .ok (.goto 40, 3) := dok_at gdX11_is__l44 2 rfl
theorem dX11_is__49 : decode cX11_is_ 49 = .ok (.iload_n 2, 1) := dok_at gdX11_is__l44 3 rfl
theorem dX11_is__50 : decode cX11_is_ 50 = .ok (.iconst 2, 1) := dok_at gdX11_is__l44 4 rfl
theorem dX11_is__51 : decode cX11_is_ 51 = .ok (.if_icmp .ne 15, 3) := dok_at gdX11_is__l44 5 rfl
theorem dX11_is__54 : decode cX11_is_ 54 = .ok (.aload_n 0, 1) := dok_at gdX11_is__l44 6 rfl
theorem dX11_is__55 : decode cX11_is_ 55 = .ok (.getfield 56, 3) := dok_at gdX11_is__l44 7 rfl
theorem dX11_is__58 : decode cX11_is_ 58 = .ok (.iload_n 1, 1) := dok_at gdX11_is__l44 8 rfl
theorem dX11_is__59 : decode cX11_is_ 59 = .ok (.baload, 1) := dok_at gdX11_is__l44 9 rfl
theorem dX11_is__60 : decode cX11_is_ 60 = .ok (.invokestatic 260, 3) := dok_at gdX11_is__l44 10 rfl
theorem dX11_is__63 : decode cX11_is_ 63 = .ok (.goto 23, 3) := dok_at gdX11_is__l44 11 rfl
theorem dX11_is__66 : decode cX11_is_ 66 = .ok (.iload_n 2, 1) := dok_at gdX11_is__l44 12 rfl
theorem dX11_is__67 : decode cX11_is_ 67 = .ok (.iconst 3, 1) := dok_at gdX11_is__l44 13 rfl
theorem dX11_is__68 : decode cX11_is_ 68 = .ok (.if_icmp .ne 12, 3) := dok_at gdX11_is__l44 14 rfl
theorem dX11_is__71 : decode cX11_is_ 71 = .ok (.aload_n 0, 1) := dok_at gdX11_is__l44 15 rfl
theorem dX11_is__72 : decode cX11_is_ 72 = .ok (.getfield 59, 3) := dok_at gdX11_is__l44 16 rfl
theorem dX11_is__75 : decode cX11_is_ 75 = .ok (.iload_n 1, 1) := dok_at gdX11_is__l44 17 rfl
theorem dX11_is__76 : decode cX11_is_ 76 = .ok (.iaload, 1) := dok_at gdX11_is__l44 18 rfl
theorem dX11_is__77 : decode cX11_is_ 77 = .ok (.goto 9, 3) := dok_at gdX11_is__l44 19 rfl
theorem dX11_is__80 : decode cX11_is_ 80 = .ok (.aload_n 0, 1) := dok_at gdX11_is__l44 20 rfl
theorem dX11_is__81 : decode cX11_is_ 81 = .ok (.getfield 62, 3) := dok_at gdX11_is__l44 21 rfl
theorem dX11_is__84 : decode cX11_is_ 84 = .ok (.iload_n 1, 1) := dok_at gdX11_is__l44 22 rfl
theorem dX11_is__85 : decode cX11_is_ 85 = .ok (.iaload, 1) := dok_at gdX11_is__l44 23 rfl
def dX11_is__l86 : List (Nat × Instr × Nat) := [(86, .ireturn, 1)]
theorem gdX11_is__l86 : dok cX11_is_ dX11_is__l86 = true := by decide +kernel
theorem dX11_is__86 : decode cX11_is_ 86 = .ok (.ireturn, 1) := dok_at gdX11_is__l86 0 rfl
def dX11_happened_l0 : List (Nat × Instr × Nat) := [(0, .iload_n 1, 1), (1, .i2l, 1), (2, .lconst 0, 1), (3, .aload_n 0, 1), (4, .getfield 288, 3), (7, .iconst 1, 1), (8, .isub, 1), (9, .i2l, 1), (10, .invokestatic 141, 3), (13, .ifCond .eq 28, 3), (16, .iload_n 2, 1), (17, .i2l, 1), (18, .lconst 0, 1), (19, .ldc2_w 322, 3), (22, .invokestatic 141, 3), (25, .ifCond .eq 16, 3), (28, .aload_n 0, 1), (29, .getfield 65, 3), (32, .iconst 3, 1), (33, .iload_n 1, 1), (34, .imul, 1), (35, .iload_n 2, 1), (36, .iadd, 1), (37, .iaload, 1)]
theorem gdX11_happened_l0 : dok cX11_happened dX11_happened_l0 = true := by decide +kernel
theorem dX11_happened_0 : decode cX11_happened 0 = .ok (.iload_n 1, 1) := dok_at gdX11_happened_l0 0 rfl
theorem dX11_happened_1 : decode cX11_happened 1 = .ok (.i2l, 1) := dok_at gdX11_happened_l0 1 rfl
theorem dX11_happened_2 : decode cX11_happened 2 = .ok (.lconst 0, 1) := dok_at gdX11_happened_l0 2 rfl
theorem dX11_happened_3 : decode cX11_happened 3 = .ok (.aload_n 0, 1) := dok_at gdX11_happened_l0 3 rfl
theorem dX11_happened_4 : decode cX11_happened 4 = .ok (.getfield 288, 3) := dok_at gdX11_happened_l0 4 rfl
theorem dX11_happened_7 : decode cX11_happened 7 = .ok (.iconst 1, 1) := dok_at gdX11_happened_l0 5 rfl
theorem dX11_happened_8 : decode cX11_happened 8 = .ok (.isub, 1) := dok_at gdX11_happened_l0 6 rfl
theorem dX11_happened_9 : decode cX11_happened 9 = .ok (.i2l, 1) := dok_at gdX11_happened_l0 7 rfl
theorem dX11_happened_10 : decode cX11_happened 10 = .ok (.invokestatic 141, 3) := dok_at gdX11_happened_l0 8 rfl
theorem dX11_happened_13 : decode cX11_happened 13 = .ok (.ifCond .eq 28, 3) := dok_at gdX11_happened_l0 9 rfl
theorem dX11_happened_16 : decode cX11_happened 16 = .ok (.iload_n 2, 1) := dok_at gdX11_happened_l0 10 rfl
theorem dX11_happened_17 : decode cX11_happened 17 = .ok (.i2l, 1) := dok_at gdX11_happened_l0 11 rfl
theorem dX11_happened_18 : decode cX11_happened 18 = .ok (.lconst 0, 1) := dok_at gdX11_happened_l0 12 rfl
theorem dX11_happened_19 : decode cX11_happened 19 = .ok (.ldc2_w 322, 3) := dok_at gdX11_happened_l0 13 rfl
theorem dX11_happened_22 : decode cX11_happened 22 = .ok (.invokestatic 141, 3) := dok_at gdX11_happened_l0 14 rfl
theorem dX11_happened_25 : decode cX11_happened 25 = .ok (.ifCond .eq 16, 3) := dok_at gdX11_happened_l0 15 rfl
theorem dX11_happened_28 : decode cX11_happened 28 = .ok (.aload_n 0, 1) := dok_at gdX11_happened_l0 16 rfl
theorem dX11_happened_29 : decode cX11_happened 29 = .ok (.getfield 65, 3) := dok_at gdX11_happened_l0 17 rfl
theorem dX11_happened_32 : decode cX11_happened 32 = .ok (.iconst 3, 1) := dok_at gdX11_happened_l0 18 rfl
theorem dX11_happened_33 : decode cX11_happened 33 = .ok (.iload_n 1, 1) := dok_at gdX11_happened_l0 19 rfl
theorem dX11_happened_34 : decode cX11_happened 34 = .ok (.imul, 1) := dok_at gdX11_happened_l0 20 rfl
theorem dX11_happened_35 : decode cX11_happened 35 = .ok (.iload_n 2, 1) := dok_at gdX11_happened_l0 21 rfl
theorem dX11_happened_36 : decode cX11_happened 36 = .ok (.iadd, 1) := dok_at gdX11_happened_l0 22 rfl
theorem dX11_happened_37 : decode cX11_happened 37 = .ok (.iaload, 1) := dok_at gdX11_happened_l0 23 rfl
def dX11_happened_l38 : List (Nat × Instr × Nat) := [(38, .goto 4, 3), (41, .iconst (-1), 1), (42, .ireturn, 1)]
theorem gdX11_happened_l38 : dok cX11_happened dX11_happened_l38 = true := by decide +kernel
theorem dX11_happened_38 : decode cX11_happened 38 = .ok (.goto 4, 3) := dok_at gdX11_happened_l38 0 rfl
theorem dX11_happened_41 : decode cX11_happened 41 = .ok (.iconst (-1), 1) := dok_at gdX11_happened_l38 1 rfl
theorem dX11_happened_42 : decode cX11_happened 42 = .ok (.ireturn, 1) := dok_at gdX11_happened_l38 2 rfl
def dX11_deadOnes_l0 : List (Nat × Instr × Nat) := [(0, .iconst 0, 1), (1, .istore_n 1, 1), (2, .iconst 0, 1), (3, .istore_n 2, 1), (4, .iload_n 2, 1), (5, .aload_n 0, 1), (6, .getfield 121, 3), (9, .if_icmp .ge 28, 3), (12, .iload_n 1, 1), (13, .aload_n 0, 1), (14, .getfield 56, 3), (17, .iload_n 2, 1), (18, .baload, 1), (19, .ifCond .eq 9, 3), (22, .iconst 1, 1), (23, .iload_n 2, 1), (24, .ishl, 1), (25, .goto 4, 3), (28, .iconst 0, 1), (29, .ior, 1), (30, .istore_n 1, 1), (31, .iinc 2 1, 3), (34, .goto (-30), 3), (37, .iload_n 1, 1)]
theorem gdX11_deadOnes_l0 : dok cX11_deadOnes dX11_deadOnes_l0 = true := by decide +kernel
theorem dX11_deadOnes_0 : decode cX11_deadOnes 0 = .ok (.iconst 0, 1) := dok_at gdX11_deadOnes_l0 0 rfl
theorem dX11_deadOnes_1 : decode cX11_deadOnes 1 = .ok (.istore_n 1, 1) := dok_at gdX11_deadOnes_l0 1 rfl
theorem dX11_deadOnes_2 : decode cX11_deadOnes 2 = .ok (.iconst 0, 1) := dok_at gdX11_deadOnes_l0 2 rfl
theorem dX11_deadOnes_3 : decode cX11_deadOnes 3 = .ok (.istore_n 2, 1) := dok_at gdX11_deadOnes_l0 3 rfl
theorem dX11_deadOnes_4 : decode cX11_deadOnes 4 = .ok (.iload_n 2, 1) := dok_at gdX11_deadOnes_l0 4 rfl
theorem dX11_deadOnes_5 : decode cX11_deadOnes 5 = .ok (.aload_n 0, 1) := dok_at gdX11_deadOnes_l0 5 rfl
theorem dX11_deadOnes_6 : decode cX11_deadOnes 6 = .ok (.getfield 121, 3) := dok_at gdX11_deadOnes_l0 6 rfl
theorem dX11_deadOnes_9 : decode cX11_deadOnes 9 = .ok (.if_icmp .ge 28, 3) := dok_at gdX11_deadOnes_l0 7 rfl
theorem dX11_deadOnes_12 : decode cX11_deadOnes 12 = .ok (.iload_n 1, 1) := dok_at gdX11_deadOnes_l0 8 rfl
theorem dX11_deadOnes_13 : decode cX11_deadOnes 13 = .ok (.aload_n 0, 1) := dok_at gdX11_deadOnes_l0 9 rfl
theorem dX11_deadOnes_14 : decode cX11_deadOnes 14 = .ok (.getfield 56, 3) := dok_at gdX11_deadOnes_l0 10 rfl
theorem dX11_deadOnes_17 : decode cX11_deadOnes 17 = .ok (.iload_n 2, 1) := dok_at gdX11_deadOnes_l0 11 rfl
theorem dX11_deadOnes_18 : decode cX11_deadOnes 18 = .ok (.baload, 1) := dok_at gdX11_deadOnes_l0 12 rfl
theorem dX11_deadOnes_19 : decode cX11_deadOnes 19 = .ok (.ifCond .eq 9, 3) := dok_at gdX11_deadOnes_l0 13 rfl
theorem dX11_deadOnes_22 : decode cX11_deadOnes 22 = .ok (.iconst 1, 1) := dok_at gdX11_deadOnes_l0 14 rfl
theorem dX11_deadOnes_23 : decode cX11_deadOnes 23 = .ok (.iload_n 2, 1) := dok_at gdX11_deadOnes_l0 15 rfl
theorem dX11_deadOnes_24 : decode cX11_deadOnes 24 = .ok (.ishl, 1) := dok_at gdX11_deadOnes_l0 16 rfl
theorem dX11_deadOnes_25 : decode cX11_deadOnes 25 = .ok (.goto 4, 3) := dok_at gdX11_deadOnes_l0 17 rfl
theorem dX11_deadOnes_28 : decode cX11_deadOnes 28 = .ok (.iconst 0, 1) := dok_at gdX11_deadOnes_l0 18 rfl
theorem dX11_deadOnes_29 : decode cX11_deadOnes 29 = .ok (.ior, 1) := dok_at gdX11_deadOnes_l0 19 rfl
theorem dX11_deadOnes_30 : decode cX11_deadOnes 30 = .ok (.istore_n 1, 1) := dok_at gdX11_deadOnes_l0 20 rfl
theorem dX11_deadOnes_31 : decode cX11_deadOnes 31 = .ok (.iinc 2 1, 3) := dok_at gdX11_deadOnes_l0 21 rfl
theorem dX11_deadOnes_34 : decode cX11_deadOnes 34 = .ok (.goto (-30), 3) := dok_at gdX11_deadOnes_l0 22 rfl
theorem dX11_deadOnes_37 : decode cX11_deadOnes 37 = .ok (.iload_n 1, 1) := dok_at gdX11_deadOnes_l0 23 rfl
def dX11_deadOnes_l38 : List (Nat × Instr × Nat) := [(38, .ireturn, 1)]
theorem gdX11_deadOnes_l38 : dok cX11_deadOnes dX11_deadOnes_l38 = true := by decide +kernel
theorem dX11_deadOnes_38 : decode cX11_deadOnes 38 = .ok (.ireturn, 1) := dok_at gdX11_deadOnes_l38 0 rfl
def dX11_findTimes_l0 : List (Nat × Instr × Nat) := [(0, .aload_n 0, 1), (1, .aload_n 0, 1), (2, .aload_n 0, 1), (3, .invokevirtual 324, 3), (6, .invokevirtual 327, 3), (9, .putfield 330, 3), (12, .iconst 0, 1), (13, .istore_n 1, 1), (14, .iload_n 1, 1), (15, .bipush 8, 2), (17, .if_icmp .ge 27, 3), (20, .aload_n 0, 1), (21, .getfield 68, 3), (24, .iload_n 1, 1), (25, .ldc_w 333, 3), (28, .iastore, 1), (29, .aload_n 0, 1), (30, .getfield 71, 3), (33, .iload_n 1, 1), (34, .ldc_w 333, 3), (37, .iastore, 1), (38, .iinc 1 1, 3), (41, .goto (-27), 3), (44, .iconst 0, 1)]
theorem gdX11_findTimes_l0 : dok cX11_findTimes dX11_findTimes_l0 = true := by decide +kernel
theorem dX11_findTimes_0 : decode cX11_findTimes 0 = .ok (.aload_n 0, 1) := dok_at gdX11_findTimes_l0 0 rfl
theorem dX11_findTimes_1 : decode cX11_findTimes 1 = .ok (.aload_n 0, 1) := dok_at gdX11_findTimes_l0 1 rfl
theorem dX11_findTimes_2 : decode cX11_findTimes 2 = .ok (.aload_n 0, 1) := dok_at gdX11_findTimes_l0 2 rfl
theorem dX11_findTimes_3 : decode cX11_findTimes 3 = .ok (.invokevirtual 324, 3) := dok_at gdX11_findTimes_l0 3 rfl
theorem dX11_findTimes_6 : decode cX11_findTimes 6 = .ok (.invokevirtual 327, 3) := dok_at gdX11_findTimes_l0 4 rfl
theorem dX11_findTimes_9 : decode cX11_findTimes 9 = .ok (.putfield 330, 3) := dok_at gdX11_findTimes_l0 5 rfl
theorem dX11_findTimes_12 : decode cX11_findTimes 12 = .ok (.iconst 0, 1) := dok_at gdX11_findTimes_l0 6 rfl
theorem dX11_findTimes_13 : decode cX11_findTimes 13 = .ok (.istore_n 1, 1) := dok_at gdX11_findTimes_l0 7 rfl
theorem dX11_findTimes_14 : decode cX11_findTimes 14 = .ok (.iload_n 1, 1) := dok_at gdX11_findTimes_l0 8 rfl
theorem dX11_findTimes_15 : decode cX11_findTimes 15 = .ok (.bipush 8, 2) := dok_at gdX11_findTimes_l0 9 rfl
theorem dX11_findTimes_17 : decode cX11_findTimes 17 = .ok (.if_icmp .ge 27, 3) := dok_at gdX11_findTimes_l0 10 rfl
theorem dX11_findTimes_20 : decode cX11_findTimes 20 = .ok (.aload_n 0, 1) := dok_at gdX11_findTimes_l0 11 rfl
theorem dX11_findTimes_21 : decode cX11_findTimes 21 = .ok (.getfield 68, 3) := dok_at gdX11_findTimes_l0 12 rfl
theorem dX11_findTimes_24 : decode cX11_findTimes 24 = .ok (.iload_n 1, 1) := dok_at gdX11_findTimes_l0 13 rfl
theorem dX11_findTimes_25 : decode cX11_findTimes 25 = .ok (.ldc_w 333, 3) := dok_at gdX11_findTimes_l0 14 rfl
theorem dX11_findTimes_28 : decode cX11_findTimes 28 = .ok (.iastore, 1) := dok_at gdX11_findTimes_l0 15 rfl
theorem dX11_findTimes_29 : decode cX11_findTimes 29 = .ok (.aload_n 0, 1) := dok_at gdX11_findTimes_l0 16 rfl
theorem dX11_findTimes_30 : decode cX11_findTimes 30 = .ok (.getfield 71, 3) := dok_at gdX11_findTimes_l0 17 rfl
theorem dX11_findTimes_33 : decode cX11_findTimes 33 = .ok (.iload_n 1, 1) := dok_at gdX11_findTimes_l0 18 rfl
theorem dX11_findTimes_34 : decode cX11_findTimes 34 = .ok (.ldc_w 333, 3) := dok_at gdX11_findTimes_l0 19 rfl
theorem dX11_findTimes_37 : decode cX11_findTimes 37 = .ok (.iastore, 1) := dok_at gdX11_findTimes_l0 20 rfl
theorem dX11_findTimes_38 : decode cX11_findTimes 38 = .ok (.iinc 1 1, 3) := dok_at gdX11_findTimes_l0 21 rfl
theorem dX11_findTimes_41 : decode cX11_findTimes 41 = .ok (.goto (-27), 3) := dok_at gdX11_findTimes_l0 22 rfl
theorem dX11_findTimes_44 : decode cX11_findTimes 44 = .ok (.iconst 0, 1) := dok_at gdX11_findTimes_l0 23 rfl
def dX11_findTimes_l45 : List (Nat × Instr × Nat) := [(45, .istore_n 1, 1), (46, .iload_n 1, 1), (47, .sipush 200, 3), (50, .if_icmp .gt 126, 3), (53, .sipush 256, 3), (56, .istore_n 2, 1), (57, .iconst 0, 1), (58, .istore_n 3, 1), (59, .iload_n 3, 1), (60, .aload_n 0, 1), (61, .getfield 121, 3), (64, .if_icmp .ge 29, 3), (67, .iload_n 2, 1), (68, .aload_n 0, 1), (69, .getfield 71, 3), (72, .iload_n 3, 1), (73, .iaload, 1), (74, .iload_n 1, 1), (75, .if_icmp .gt 9, 3), (78, .iconst 1, 1), (79, .iload_n 3, 1), (80, .ishl, 1), (81, .goto 4, 3), (84, .iconst 0, 1)]
theorem gdX11_findTimes_l45 : dok cX11_findTimes dX11_findTimes_l45 = true := by decide +kernel
theorem dX11_findTimes_45 : decode cX11_findTimes 45 = .ok (.istore_n 1, 1) := dok_at gdX11_findTimes_l45 0 rfl
theorem dX11_findTimes_46 : decode cX11_findTimes 46 = .ok (.iload_n 1, 1) := dok_at gdX11_findTimes_l45 1 rfl
theorem dX11_findTimes_47 : decode cX11_findTimes 47 = .ok (.sipush 200, 3) := dok_at gdX11_findTimes_l45 2 rfl
theorem dX11_findTimes_50 : decode cX11_findTimes 50 = .ok (.if_icmp .gt 126, 3) := dok_at gdX11_findTimes_l45 3 rfl
theorem dX11_findTimes_53 : decode cX11_findTimes 53 = .ok (.sipush 256, 3) := dok_at gdX11_findTimes_l45 4 rfl
theorem dX11_findTimes_56 : decode cX11_findTimes 56 = .ok (.istore_n 2, 1) := dok_at gdX11_findTimes_l45 5 rfl
theorem dX11_findTimes_57 : decode cX11_findTimes 57 = .ok (.iconst 0, 1) := dok_at gdX11_findTimes_l45 6 rfl
theorem dX11_findTimes_58 : decode cX11_findTimes 58 = .ok (.istore_n 3, 1) := dok_at gdX11_findTimes_l45 7 rfl
theorem dX11_findTimes_59 : decode cX11_findTimes 59 = .ok (.iload_n 3, 1) := dok_at gdX11_findTimes_l45 8 rfl
theorem dX11_findTimes_60 : decode cX11_findTimes 60 = .ok (.aload_n 0, 1) := dok_at gdX11_findTimes_l45 9 rfl
theorem dX11_findTimes_61 : decode cX11_findTimes 61 = .ok (.getfield 121, 3) := dok_at gdX11_findTimes_l45 10 rfl
theorem dX11_findTimes_64 : decode cX11_findTimes 64 = .ok (.if_icmp .ge 29, 3) := dok_at gdX11_findTimes_l45 11 rfl
theorem dX11_findTimes_67 : decode cX11_findTimes 67 = .ok (.iload_n 2, 1) := dok_at gdX11_findTimes_l45 12 rfl
theorem dX11_findTimes_68 : decode cX11_findTimes 68 = .ok (.aload_n 0, 1) := dok_at gdX11_findTimes_l45 13 rfl
theorem dX11_findTimes_69 : decode cX11_findTimes 69 = .ok (.getfield 71, 3) := dok_at gdX11_findTimes_l45 14 rfl
theorem dX11_findTimes_72 : decode cX11_findTimes 72 = .ok (.iload_n 3, 1) := dok_at gdX11_findTimes_l45 15 rfl
theorem dX11_findTimes_73 : decode cX11_findTimes 73 = .ok (.iaload, 1) := dok_at gdX11_findTimes_l45 16 rfl
theorem dX11_findTimes_74 : decode cX11_findTimes 74 = .ok (.iload_n 1, 1) := dok_at gdX11_findTimes_l45 17 rfl
theorem dX11_findTimes_75 : decode cX11_findTimes 75 = .ok (.if_icmp .gt 9, 3) := dok_at gdX11_findTimes_l45 18 rfl
theorem dX11_findTimes_78 : decode cX11_findTimes 78 = .ok (.iconst 1, 1) := dok_at gdX11_findTimes_l45 19 rfl
theorem dX11_findTimes_79 : decode cX11_findTimes 79 = .ok (.iload_n 3, 1) := dok_at gdX11_findTimes_l45 20 rfl
theorem dX11_findTimes_80 : decode cX11_findTimes 80 = .ok (.ishl, 1) := dok_at gdX11_findTimes_l45 21 rfl
theorem dX11_findTimes_81 : decode cX11_findTimes 81 = .ok (.goto 4, 3) := dok_at gdX11_findTimes_l45 22 rfl
theorem dX11_findTimes_84 : decode cX11_findTimes 84 = .ok (.iconst 0, 1) := dok_at gdX11_findTimes_l45 23 rfl
def dX11_findTimes_l85 : List (Nat × Instr × Nat) := [(85, .ior, 1), (86, .istore_n 2, 1), (87, .iinc 3 1, 3), (90, .goto (-31), 3), (93, .iconst 0, 1), (94, .istore_n 3, 1), (95, .iload_n 3, 1), (96, .aload_n 0, 1), (97, .getfield 121, 3), (100, .if_icmp .ge 70, 3), (103, .aload_n 0, 1), (104, .getfield 68, 3), (107, .iload_n 3, 1), (108, .iaload, 1), (109, .ldc_w 333, 3), (112, .if_icmp .ne 52, 3), (115, .aload_n 0, 1), (116, .getfield 330, 3), (119, .iload_n 3, 1), (120, .ishr, 1), (121, .iconst 1, 1), (122, .iand, 1), (123, .iconst 1, 1), (124, .if_icmp .ne 40, 3)]
theorem gdX11_findTimes_l85 : dok cX11_findTimes dX11_findTimes_l85 = true := by decide +kernel
theorem dX11_findTimes_85 : decode cX11_findTimes 85 = .ok (.ior, 1) := dok_at gdX11_findTimes_l85 0 rfl
theorem dX11_findTimes_86 : decode cX11_findTimes 86 = .ok (.istore_n 2, 1) := dok_at gdX11_findTimes_l85 1 rfl
theorem dX11_findTimes_87 : decode cX11_findTimes 87 = .ok (.iinc 3 1, 3) := dok_at gdX11_findTimes_l85 2 rfl
theorem dX11_findTimes_90 : decode cX11_findTimes 90 = .ok (.goto (-31), 3) := dok_at gdX11_findTimes_l85 3 rfl
theorem dX11_findTimes_93 : decode cX11_findTimes 93 = .ok (.iconst 0, 1) := dok_at gdX11_findTimes_l85 4 rfl
theorem dX11_findTimes_94 : decode cX11_findTimes 94 = .ok (.istore_n 3, 1) := dok_at gdX11_findTimes_l85 5 rfl
theorem dX11_findTimes_95 : decode cX11_findTimes 95 = .ok (.iload_n 3, 1) := dok_at gdX11_findTimes_l85 6 rfl
theorem dX11_findTimes_96 : decode cX11_findTimes 96 = .ok (.aload_n 0, 1) := dok_at gdX11_findTimes_l85 7 rfl
theorem dX11_findTimes_97 : decode cX11_findTimes 97 = .ok (.getfield 121, 3) := dok_at gdX11_findTimes_l85 8 rfl
theorem dX11_findTimes_100 : decode cX11_findTimes 100 = .ok (.if_icmp .ge 70, 3) := dok_at gdX11_findTimes_l85 9 rfl
theorem dX11_findTimes_103 : decode cX11_findTimes 103 = .ok (.aload_n 0, 1) := dok_at gdX11_findTimes_l85 10 rfl
theorem dX11_findTimes_104 : decode cX11_findTimes 104 = .ok (.getfield 68, 3) := dok_at gdX11_findTimes_l85 11 rfl
theorem dX11_findTimes_107 : decode cX11_findTimes 107 = .ok (.iload_n 3, 1) := dok_at gdX11_findTimes_l85 12 rfl
theorem dX11_findTimes_108 : decode cX11_findTimes 108 = .ok (.iaload, 1) := dok_at gdX11_findTimes_l85 13 rfl
theorem dX11_findTimes_109 : decode cX11_findTimes 109 = .ok (.ldc_w 333, 3) := dok_at gdX11_findTimes_l85 14 rfl
theorem dX11_findTimes_112 : decode cX11_findTimes 112 = .ok (.if_icmp .ne 52, 3) := dok_at gdX11_findTimes_l85 15 rfl
theorem dX11_findTimes_115 : decode cX11_findTimes 115 = .ok (.aload_n 0, 1) := dok_at gdX11_findTimes_l85 16 rfl
theorem dX11_findTimes_116 : decode cX11_findTimes 116 = .ok (.getfield 330, 3) := dok_at gdX11_findTimes_l85 17 rfl
theorem dX11_findTimes_119 : decode cX11_findTimes 119 = .ok (.iload_n 3, 1) := dok_at gdX11_findTimes_l85 18 rfl
theorem dX11_findTimes_120 : decode cX11_findTimes 120 = .ok (.ishr, 1) := dok_at gdX11_findTimes_l85 19 rfl
theorem dX11_findTimes_121 : decode cX11_findTimes 121 = .ok (.iconst 1, 1) := dok_at gdX11_findTimes_l85 20 rfl
theorem dX11_findTimes_122 : decode cX11_findTimes 122 = .ok (.iand, 1) := dok_at gdX11_findTimes_l85 21 rfl
theorem dX11_findTimes_123 : decode cX11_findTimes 123 = .ok (.iconst 1, 1) := dok_at gdX11_findTimes_l85 22 rfl
theorem dX11_findTimes_124 : decode cX11_findTimes 124 = .ok (.if_icmp .ne 40, 3) := dok_at gdX11_findTimes_l85 23 rfl
def dX11_findTimes_l127 : List (Nat × Instr × Nat) := [(127, .aload_n 0, 1), (128, .iload_n 3, 1), (129, .iload_n 2, 1), (130, .invokevirtual 256, 3), (133, .ifCond .eq 31, 3), (136, .aload_n 0, 1), (137, .getfield 68, 3), (140, .iload_n 3, 1), (141, .iload_n 1, 1), (142, .iastore, 1), (143, .aload_n 0, 1), (144, .getfield 71, 3), (147, .iload_n 3, 1), (148, .iload_n 1, 1), (149, .aload_n 0, 1), (150, .getfield 77, 3), (153, .iload_n 3, 1), (154, .iaload, 1), (155, .iadd, 1), (156, .aload_n 0, 1), (157, .getfield 74, 3), (160, .iload_n 3, 1), (161, .iaload, 1), (162, .iadd, 1)]
theorem gdX11_findTimes_l127 : dok cX11_findTimes dX11_findTimes_l127 = true := by decide +kernel
theorem dX11_findTimes_127 : decode cX11_findTimes 127 = .ok (.aload_n 0, 1) := dok_at gdX11_findTimes_l127 0 rfl
theorem dX11_findTimes_128 : decode cX11_findTimes 128 = .ok (.iload_n 3, 1) := dok_at gdX11_findTimes_l127 1 rfl
theorem dX11_findTimes_129 : decode cX11_findTimes 129 = .ok (.iload_n 2, 1) := dok_at gdX11_findTimes_l127 2 rfl
theorem dX11_findTimes_130 : decode cX11_findTimes 130 = .ok (.invokevirtual 256, 3) := dok_at gdX11_findTimes_l127 3 rfl
theorem dX11_findTimes_133 : decode cX11_findTimes 133 = .ok (.ifCond .eq 31, 3) := dok_at gdX11_findTimes_l127 4 rfl
theorem dX11_findTimes_136 : decode cX11_findTimes 136 = .ok (.aload_n 0, 1) := dok_at gdX11_findTimes_l127 5 rfl
theorem dX11_findTimes_137 : decode cX11_findTimes 137 = .ok (.getfield 68, 3) := dok_at gdX11_findTimes_l127 6 rfl
theorem dX11_findTimes_140 : decode cX11_findTimes 140 = .ok (.iload_n 3, 1) := dok_at gdX11_findTimes_l127 7 rfl
theorem dX11_findTimes_141 : decode cX11_findTimes 141 = .ok (.iload_n 1, 1) := dok_at gdX11_findTimes_l127 8 rfl
theorem dX11_findTimes_142 : decode cX11_findTimes 142 = .ok (.iastore, 1) := dok_at gdX11_findTimes_l127 9 rfl
theorem dX11_findTimes_143 : decode cX11_findTimes 143 = .ok (.aload_n 0, 1) := dok_at gdX11_findTimes_l127 10 rfl
theorem dX11_findTimes_144 : decode cX11_findTimes 144 = .ok (.getfield 71, 3) := dok_at gdX11_findTimes_l127 11 rfl
theorem dX11_findTimes_147 : decode cX11_findTimes 147 = .ok (.iload_n 3, 1) := dok_at gdX11_findTimes_l127 12 rfl
theorem dX11_findTimes_148 : decode cX11_findTimes 148 = .ok (.iload_n 1, 1) := dok_at gdX11_findTimes_l127 13 rfl
theorem dX11_findTimes_149 : decode cX11_findTimes 149 = .ok (.aload_n 0, 1) := dok_at gdX11_findTimes_l127 14 rfl
theorem dX11_findTimes_150 : decode cX11_findTimes 150 = .ok (.getfield 77, 3) := dok_at gdX11_findTimes_l127 15 rfl
theorem dX11_findTimes_153 : decode cX11_findTimes 153 = .ok (.iload_n 3, 1) := dok_at gdX11_findTimes_l127 16 rfl
theorem dX11_findTimes_154 : decode cX11_findTimes 154 = .ok (.iaload, 1) := dok_at gdX11_findTimes_l127 17 rfl
theorem dX11_findTimes_155 : decode cX11_findTimes 155 = .ok (.iadd, 1) := dok_at gdX11_findTimes_l127 18 rfl
theorem dX11_findTimes_156 : decode cX11_findTimes 156 = .ok (.aload_n 0, 1) := dok_at gdX11_findTimes_l127 19 rfl
theorem dX11_findTimes_157 : decode cX11_findTimes 157 = .ok (.getfield 74, 3) := dok_at gdX11_findTimes_l127 20 rfl
theorem dX11_findTimes_160 : decode cX11_findTimes 160 = .ok (.iload_n 3, 1) := dok_at gdX11_findTimes_l127 21 rfl
theorem dX11_findTimes_161 : decode cX11_findTimes 161 = .ok (.iaload, 1) := dok_at gdX11_findTimes_l127 22 rfl
theorem dX11_findTimes_162 : decode cX11_findTimes 162 = .ok (.iadd, 1) := dok_at gdX11_findTimes_l127 23 rfl
def dX11_findTimes_l163 : List (Nat × Instr × Nat) := [(163, .iastore, 1), (164, .iinc 3 1, 3), (167, .goto (-72), 3), (170, .iinc 1 1, 3), (173, .goto (-127), 3), (176, .return_, 1)]
theorem gdX11_findTimes_l163 : dok cX11_findTimes dX11_findTimes_l163 = true := by decide +kernel
theorem dX11_findTimes_163 : decode cX11_findTimes 163 = .ok (.iastore, 1) := dok_at gdX11_findTimes_l163 0 rfl
theorem dX11_findTimes_164 : decode cX11_findTimes 164 = .ok (.iinc 3 1, 3) := dok_at gdX11_findTimes_l163 1 rfl
theorem dX11_findTimes_167 : decode cX11_findTimes 167 = .ok (.goto (-72), 3) := dok_at gdX11_findTimes_l163 2 rfl
theorem dX11_findTimes_170 : decode cX11_findTimes 170 = .ok (.iinc 1 1, 3) := dok_at gdX11_findTimes_l163 3 rfl
theorem dX11_findTimes_173 : decode cX11_findTimes 173 = .ok (.goto (-127), 3) := dok_at gdX11_findTimes_l163 4 rfl
theorem dX11_findTimes_176 : decode cX11_findTimes 176 = .ok (.return_, 1) := dok_at gdX11_findTimes_l163 5 rfl
def dX11_goesOn_l0 : List (Nat × Instr × Nat) := [(0, .iconst 0, 1), (1, .istore_n 1, 1), (2, .iload_n 1, 1), (3, .aload_n 0, 1), (4, .getfield 121, 3), (7, .if_icmp .ge 36, 3), (10, .aload_n 0, 1), (11, .getfield 74, 3), (14, .iload_n 1, 1), (15, .iaload, 1), (16, .aload_n 0, 1), (17, .iload_n 1, 1), (18, .iconst 1, 1), (19, .invokevirtual 251, 3), (22, .if_icmp .ne 21, 3), (25, .aload_n 0, 1), (26, .getfield 74, 3), (29, .iload_n 1, 1), (30, .aload_n 0, 1), (31, .iload_n 1, 1), (32, .iconst 0, 1), (33, .invokevirtual 251, 3), (36, .iastore, 1), (37, .iinc 1 1, 3)]
theorem gdX11_goesOn_l0 : dok cX11_goesOn dX11_goesOn_l0 = true := by decide +kernel
theorem dX11_goesOn_0 : decode cX11_goesOn 0 = .ok (.iconst 0, 1) := dok_at gdX11_goesOn_l0 0 rfl
theorem dX11_goesOn_1 : decode cX11_goesOn 1 = .ok (.istore_n 1, 1) := dok_at gdX11_goesOn_l0 1 rfl
theorem dX11_goesOn_2 : decode cX11_goesOn 2 = .ok (.iload_n 1, 1) := dok_at gdX11_goesOn_l0 2 rfl
theorem dX11_goesOn_3 : decode cX11_goesOn 3 = .ok (.aload_n 0, 1) := dok_at gdX11_goesOn_l0 3 rfl
theorem dX11_goesOn_4 : decode cX11_goesOn 4 = .ok (.getfield 121, 3) := dok_at gdX11_goesOn_l0 4 rfl
theorem dX11_goesOn_7 : decode cX11_goesOn 7 = .ok (.if_icmp .ge 36, 3) := dok_at gdX11_goesOn_l0 5 rfl
theorem dX11_goesOn_10 : decode cX11_goesOn 10 = .ok (.aload_n 0, 1) := dok_at gdX11_goesOn_l0 6 rfl
theorem dX11_goesOn_11 : decode cX11_goesOn 11 = .ok (.getfield 74, 3) := dok_at gdX11_goesOn_l0 7 rfl
theorem dX11_goesOn_14 : decode cX11_goesOn 14 = .ok (.iload_n 1, 1) := dok_at gdX11_goesOn_l0 8 rfl
theorem dX11_goesOn_15 : decode cX11_goesOn 15 = .ok (.iaload, 1) := dok_at gdX11_goesOn_l0 9 rfl
theorem dX11_goesOn_16 : decode cX11_goesOn 16 = .ok (.aload_n 0, 1) := dok_at gdX11_goesOn_l0 10 rfl
theorem dX11_goesOn_17 : decode cX11_goesOn 17 = .ok (.iload_n 1, 1) := dok_at gdX11_goesOn_l0 11 rfl
theorem dX11_goesOn_18 : decode cX11_goesOn 18 = .ok (.iconst 1, 1) := dok_at gdX11_goesOn_l0 12 rfl
theorem dX11_goesOn_19 : decode cX11_goesOn 19 = .ok (.invokevirtual 251, 3) := dok_at gdX11_goesOn_l0 13 rfl
theorem dX11_goesOn_22 : decode cX11_goesOn 22 = .ok (.if_icmp .ne 21, 3) := dok_at gdX11_goesOn_l0 14 rfl
theorem dX11_goesOn_25 : decode cX11_goesOn 25 = .ok (.aload_n 0, 1) := dok_at gdX11_goesOn_l0 15 rfl
theorem dX11_goesOn_26 : decode cX11_goesOn 26 = .ok (.getfield 74, 3) := dok_at gdX11_goesOn_l0 16 rfl
theorem dX11_goesOn_29 : decode cX11_goesOn 29 = .ok (.iload_n 1, 1) := dok_at gdX11_goesOn_l0 17 rfl
theorem dX11_goesOn_30 : decode cX11_goesOn 30 = .ok (.aload_n 0, 1) := dok_at gdX11_goesOn_l0 18 rfl
theorem dX11_goesOn_31 : decode cX11_goesOn 31 = .ok (.iload_n 1, 1) := dok_at gdX11_goesOn_l0 19 rfl
theorem dX11_goesOn_32 : decode cX11_goesOn 32 = .ok (.iconst 0, 1) := dok_at gdX11_goesOn_l0 20 rfl
theorem dX11_goesOn_33 : decode cX11_goesOn 33 = .ok (.invokevirtual 251, 3) := dok_at gdX11_goesOn_l0 21 rfl
theorem dX11_goesOn_36 : decode cX11_goesOn 36 = .ok (.iastore, 1) := dok_at gdX11_goesOn_l0 22 rfl
theorem dX11_goesOn_37 : decode cX11_goesOn 37 = .ok (.iinc 1 1, 3) := dok_at gdX11_goesOn_l0 23 rfl
def dX11_goesOn_l40 : List (Nat × Instr × Nat) := [(40, .goto (-38), 3), (43, .iload_n 1, 1), (44, .aload_n 0, 1), (45, .getfield 121, 3), (48, .if_icmp .ge 13, 3), (51, .aload_n 0, 1), (52, .getfield 74, 3), (55, .iload_n 1, 1), (56, .dup2, 1), (57, .iaload, 1), (58, .iconst 1, 1), (59, .iadd, 1), (60, .iastore, 1), (61, .iload_n 1, 1), (62, .aload_n 0, 1), (63, .getfield 121, 3), (66, .if_icmp .ge 7, 3), (69, .iconst 1, 1), (70, .goto 4, 3), (73, .iconst 0, 1), (74, .ireturn, 1)]
theorem gdX11_goesOn_l40 : dok cX11_goesOn dX11_goesOn_l40 = true := by decide +kernel
theorem dX11_goesOn_40 : decode cX11_goesOn 40 = .ok (.goto (-38), 3) := dok_at gdX11_goesOn_l40 0 rfl
theorem dX11_goesOn_43 : decode cX11_goesOn 43 = .ok (.iload_n 1, 1) := dok_at gdX11_goesOn_l40 1 rfl
theorem dX11_goesOn_44 : decode cX11_goesOn 44 = .ok (.aload_n 0, 1) := dok_at gdX11_goesOn_l40 2 rfl
theorem dX11_goesOn_45 : decode cX11_goesOn 45 = .ok (.getfield 121, 3) := dok_at gdX11_goesOn_l40 3 rfl
theorem dX11_goesOn_48 : decode cX11_goesOn 48 = .ok (.if_icmp .ge 13, 3) := dok_at gdX11_goesOn_l40 4 rfl
theorem dX11_goesOn_51 : decode cX11_goesOn 51 = .ok (.aload_n 0, 1) := dok_at gdX11_goesOn_l40 5 rfl
theorem dX11_goesOn_52 : decode cX11_goesOn 52 = .ok (.getfield 74, 3) := dok_at gdX11_goesOn_l40 6 rfl
theorem dX11_goesOn_55 : decode cX11_goesOn 55 = .ok (.iload_n 1, 1) := dok_at gdX11_goesOn_l40 7 rfl
theorem dX11_goesOn_56 : decode cX11_goesOn 56 = .ok (.dup2, 1) := dok_at gdX11_goesOn_l40 8 rfl
theorem dX11_goesOn_57 : decode cX11_goesOn 57 = .ok (.iaload, 1) := dok_at gdX11_goesOn_l40 9 rfl
theorem dX11_goesOn_58 : decode cX11_goesOn 58 = .ok (.iconst 1, 1) := dok_at gdX11_goesOn_l40 10 rfl
theorem dX11_goesOn_59 : decode cX11_goesOn 59 = .ok (.iadd, 1) := dok_at gdX11_goesOn_l40 11 rfl
theorem dX11_goesOn_60 : decode cX11_goesOn 60 = .ok (.iastore, 1) := dok_at gdX11_goesOn_l40 12 rfl
theorem dX11_goesOn_61 : decode cX11_goesOn 61 = .ok (.iload_n 1, 1) := dok_at gdX11_goesOn_l40 13 rfl
theorem dX11_goesOn_62 : decode cX11_goesOn 62 = .ok (.aload_n 0, 1) := dok_at gdX11_goesOn_l40 14 rfl
theorem dX11_goesOn_63 : decode cX11_goesOn 63 = .ok (.getfield 121, 3) := dok_at gdX11_goesOn_l40 15 rfl
theorem dX11_goesOn_66 : decode cX11_goesOn 66 = .ok (.if_icmp .ge 7, 3) := dok_at gdX11_goesOn_l40 16 rfl
theorem dX11_goesOn_69 : decode cX11_goesOn 69 = .ok (.iconst 1, 1) := dok_at gdX11_goesOn_l40 17 rfl
theorem dX11_goesOn_70 : decode cX11_goesOn 70 = .ok (.goto 4, 3) := dok_at gdX11_goesOn_l40 18 rfl
theorem dX11_goesOn_73 : decode cX11_goesOn 73 = .ok (.iconst 0, 1) := dok_at gdX11_goesOn_l40 19 rfl
theorem dX11_goesOn_74 : decode cX11_goesOn 74 = .ok (.ireturn, 1) := dok_at gdX11_goesOn_l40 20 rfl
def dX11_ahead_l0 : List (Nat × Instr × Nat) := [(0, .aload_n 0, 1), (1, .iload_n 1, 1), (2, .invokevirtual 248, 3), (5, .ifCond .eq 26, 3), (8, .aload_n 0, 1), (9, .iload_n 2, 1), (10, .invokevirtual 248, 3), (13, .ifCond .eq 18, 3), (16, .iload_n 1, 1), (17, .iload_n 2, 1), (18, .if_icmp .eq 13, 3), (21, .iload_n 3, 1), (22, .i2l, 1), (23, .lconst 0, 1), (24, .lconst 1, 1), (25, .invokestatic 141, 3), (28, .ifCond .ne 7, 3), (31, .sipush (-1000), 3), (34, .ireturn, 1), (35, .aload_n 0, 1), (36, .invokevirtual 343, 3), (39, .sipush 20000, 3), (42, .if_icmp .le 7, 3), (45, .sipush (-1002), 3)]
theorem gdX11_ahead_l0 : dok cX11_ahead dX11_ahead_l0 = true := by decide +kernel
theorem dX11_ahead_0 : decode cX11_ahead 0 = .ok (.aload_n 0, 1) := dok_at gdX11_ahead_l0 0 rfl
theorem dX11_ahead_1 : decode cX11_ahead 1 = .ok (.iload_n 1, 1) := dok_at gdX11_ahead_l0 1 rfl
theorem dX11_ahead_2 : decode cX11_ahead 2 = .ok (.invokevirtual 248, 3) := dok_at gdX11_ahead_l0 2 rfl
theorem dX11_ahead_5 : decode cX11_ahead 5 = .ok (.ifCond .eq 26, 3) := dok_at gdX11_ahead_l0 3 rfl
theorem dX11_ahead_8 : decode cX11_ahead 8 = .ok (.aload_n 0, 1) := dok_at gdX11_ahead_l0 4 rfl
theorem dX11_ahead_9 : decode cX11_ahead 9 = .ok (.iload_n 2, 1) := dok_at gdX11_ahead_l0 5 rfl
theorem dX11_ahead_10 : decode cX11_ahead 10 = .ok (.invokevirtual 248, 3) := dok_at gdX11_ahead_l0 6 rfl
theorem dX11_ahead_13 : decode cX11_ahead 13 = .ok (.ifCond .eq 18, 3) := dok_at gdX11_ahead_l0 7 rfl
theorem dX11_ahead_16 : decode cX11_ahead 16 = .ok (.iload_n 1, 1) := dok_at gdX11_ahead_l0 8 rfl
theorem dX11_ahead_17 : decode cX11_ahead 17 = .ok (.iload_n 2, 1) := dok_at gdX11_ahead_l0 9 rfl
theorem dX11_ahead_18 : decode cX11_ahead 18 = .ok (.if_icmp .eq 13, 3) := dok_at gdX11_ahead_l0 10 rfl
theorem dX11_ahead_21 : decode cX11_ahead 21 = .ok (.iload_n 3, 1) := dok_at gdX11_ahead_l0 11 rfl
theorem dX11_ahead_22 : decode cX11_ahead 22 = .ok (.i2l, 1) := dok_at gdX11_ahead_l0 12 rfl
theorem dX11_ahead_23 : decode cX11_ahead 23 = .ok (.lconst 0, 1) := dok_at gdX11_ahead_l0 13 rfl
theorem dX11_ahead_24 : decode cX11_ahead 24 = .ok (.lconst 1, 1) := dok_at gdX11_ahead_l0 14 rfl
theorem dX11_ahead_25 : decode cX11_ahead 25 = .ok (.invokestatic 141, 3) := dok_at gdX11_ahead_l0 15 rfl
theorem dX11_ahead_28 : decode cX11_ahead 28 = .ok (.ifCond .ne 7, 3) := dok_at gdX11_ahead_l0 16 rfl
theorem dX11_ahead_31 : decode cX11_ahead 31 = .ok (.sipush (-1000), 3) := dok_at gdX11_ahead_l0 17 rfl
theorem dX11_ahead_34 : decode cX11_ahead 34 = .ok (.ireturn, 1) := dok_at gdX11_ahead_l0 18 rfl
theorem dX11_ahead_35 : decode cX11_ahead 35 = .ok (.aload_n 0, 1) := dok_at gdX11_ahead_l0 19 rfl
theorem dX11_ahead_36 : decode cX11_ahead 36 = .ok (.invokevirtual 343, 3) := dok_at gdX11_ahead_l0 20 rfl
theorem dX11_ahead_39 : decode cX11_ahead 39 = .ok (.sipush 20000, 3) := dok_at gdX11_ahead_l0 21 rfl
theorem dX11_ahead_42 : decode cX11_ahead 42 = .ok (.if_icmp .le 7, 3) := dok_at gdX11_ahead_l0 22 rfl
theorem dX11_ahead_45 : decode cX11_ahead 45 = .ok (.sipush (-1002), 3) := dok_at gdX11_ahead_l0 23 rfl
def dX11_ahead_l48 : List (Nat × Instr × Nat) := [(48, .ireturn, 1), (49, .aload_n 0, 1), (50, .aload_n 0, 1), (51, .invokevirtual 324, 3), (54, .invokevirtual 327, 3), (57, .istore 4, 2), (59, .iload 4, 2), (61, .iload_n 1, 1), (62, .ishr, 1), (63, .iconst 1, 1), (64, .iand, 1), (65, .ifCond .eq 12, 3), (68, .iload 4, 2), (70, .iload_n 2, 1), (71, .ishr, 1), (72, .iconst 1, 1), (73, .iand, 1), (74, .ifCond .ne 7, 3), (77, .sipush (-1004), 3), (80, .ireturn, 1), (81, .aload_n 0, 1), (82, .invokevirtual 334, 3), (85, .aload_n 0, 1), (86, .iconst 1, 1)]
theorem gdX11_ahead_l48 : dok cX11_ahead dX11_ahead_l48 = true := by decide +kernel
theorem dX11_ahead_48 : decode cX11_ahead 48 = .ok (.ireturn, 1) := dok_at gdX11_ahead_l48 0 rfl
theorem dX11_ahead_49 : decode cX11_ahead 49 = .ok (.aload_n 0, 1) := dok_at gdX11_ahead_l48 1 rfl
theorem dX11_ahead_50 : decode cX11_ahead 50 = .ok (.aload_n 0, 1) := dok_at gdX11_ahead_l48 2 rfl
theorem dX11_ahead_51 : decode cX11_ahead 51 = .ok (.invokevirtual 324, 3) := dok_at gdX11_ahead_l48 3 rfl
theorem dX11_ahead_54 : decode cX11_ahead 54 = .ok (.invokevirtual 327, 3) := dok_at gdX11_ahead_l48 4 rfl
theorem dX11_ahead_57 : decode cX11_ahead 57 = .ok (.istore 4, 2) := dok_at gdX11_ahead_l48 5 rfl
theorem dX11_ahead_59 : decode cX11_ahead 59 = .ok (.iload 4, 2) := dok_at gdX11_ahead_l48 6 rfl
theorem dX11_ahead_61 : decode cX11_ahead 61 = .ok (.iload_n 1, 1) := dok_at gdX11_ahead_l48 7 rfl
theorem dX11_ahead_62 : decode cX11_ahead 62 = .ok (.ishr, 1) := dok_at gdX11_ahead_l48 8 rfl
theorem dX11_ahead_63 : decode cX11_ahead 63 = .ok (.iconst 1, 1) := dok_at gdX11_ahead_l48 9 rfl
theorem dX11_ahead_64 : decode cX11_ahead 64 = .ok (.iand, 1) := dok_at gdX11_ahead_l48 10 rfl
theorem dX11_ahead_65 : decode cX11_ahead 65 = .ok (.ifCond .eq 12, 3) := dok_at gdX11_ahead_l48 11 rfl
theorem dX11_ahead_68 : decode cX11_ahead 68 = .ok (.iload 4, 2) := dok_at gdX11_ahead_l48 12 rfl
theorem dX11_ahead_70 : decode cX11_ahead 70 = .ok (.iload_n 2, 1) := dok_at gdX11_ahead_l48 13 rfl
theorem dX11_ahead_71 : decode cX11_ahead 71 = .ok (.ishr, 1) := dok_at gdX11_ahead_l48 14 rfl
theorem dX11_ahead_72 : decode cX11_ahead 72 = .ok (.iconst 1, 1) := dok_at gdX11_ahead_l48 15 rfl
theorem dX11_ahead_73 : decode cX11_ahead 73 = .ok (.iand, 1) := dok_at gdX11_ahead_l48 16 rfl
theorem dX11_ahead_74 : decode cX11_ahead 74 = .ok (.ifCond .ne 7, 3) := dok_at gdX11_ahead_l48 17 rfl
theorem dX11_ahead_77 : decode cX11_ahead 77 = .ok (.sipush (-1004), 3) := dok_at gdX11_ahead_l48 18 rfl
theorem dX11_ahead_80 : decode cX11_ahead 80 = .ok (.ireturn, 1) := dok_at gdX11_ahead_l48 19 rfl
theorem dX11_ahead_81 : decode cX11_ahead 81 = .ok (.aload_n 0, 1) := dok_at gdX11_ahead_l48 20 rfl
theorem dX11_ahead_82 : decode cX11_ahead 82 = .ok (.invokevirtual 334, 3) := dok_at gdX11_ahead_l48 21 rfl
theorem dX11_ahead_85 : decode cX11_ahead 85 = .ok (.aload_n 0, 1) := dok_at gdX11_ahead_l48 22 rfl
theorem dX11_ahead_86 : decode cX11_ahead 86 = .ok (.iconst 1, 1) := dok_at gdX11_ahead_l48 23 rfl
def dX11_ahead_l87 : List (Nat × Instr × Nat) := [(87, .invokevirtual 337, 3), (90, .ldc_w 346, 3), (93, .istore 5, 2), (95, .iconst 1, 1), (96, .istore 6, 2), (98, .iload 6, 2), (100, .ifCond .eq 54, 3), (103, .aload_n 0, 1), (104, .invokevirtual 340, 3), (107, .aload_n 0, 1), (108, .getfield 71, 3), (111, .iload_n 1, 1), (112, .iaload, 1), (113, .aload_n 0, 1), (114, .getfield 71, 3), (117, .iload_n 2, 1), (118, .iaload, 1), (119, .isub, 1), (120, .iload 5, 2), (122, .if_icmp .le 19, 3), (125, .aload_n 0, 1), (126, .getfield 71, 3), (129, .iload_n 1, 1), (130, .iaload, 1)]
theorem gdX11_ahead_l87 : dok cX11_ahead dX11_ahead_l87 = true := by decide +kernel
theorem dX11_ahead_87 : decode cX11_ahead 87 = .ok (.invokevirtual 337, 3) := dok_at gdX11_ahead_l87 0 rfl
theorem dX11_ahead_90 : decode cX11_ahead 90 = .ok (.ldc_w 346, 3) := dok_at gdX11_ahead_l87 1 rfl
theorem dX11_ahead_93 : decode cX11_ahead 93 = .ok (.istore 5, 2) := dok_at gdX11_ahead_l87 2 rfl
theorem dX11_ahead_95 : decode cX11_ahead 95 = .ok (.iconst 1, 1) := dok_at gdX11_ahead_l87 3 rfl
theorem dX11_ahead_96 : decode cX11_ahead 96 = .ok (.istore 6, 2) := dok_at gdX11_ahead_l87 4 rfl
theorem dX11_ahead_98 : decode cX11_ahead 98 = .ok (.iload 6, 2) := dok_at gdX11_ahead_l87 5 rfl
theorem dX11_ahead_100 : decode cX11_ahead 100 = .ok (.ifCond .eq 54, 3) := dok_at gdX11_ahead_l87 6 rfl
theorem dX11_ahead_103 : decode cX11_ahead 103 = .ok (.aload_n 0, 1) := dok_at gdX11_ahead_l87 7 rfl
theorem dX11_ahead_104 : decode cX11_ahead 104 = .ok (.invokevirtual 340, 3) := dok_at gdX11_ahead_l87 8 rfl
theorem dX11_ahead_107 : decode cX11_ahead 107 = .ok (.aload_n 0, 1) := dok_at gdX11_ahead_l87 9 rfl
theorem dX11_ahead_108 : decode cX11_ahead 108 = .ok (.getfield 71, 3) := dok_at gdX11_ahead_l87 10 rfl
theorem dX11_ahead_111 : decode cX11_ahead 111 = .ok (.iload_n 1, 1) := dok_at gdX11_ahead_l87 11 rfl
theorem dX11_ahead_112 : decode cX11_ahead 112 = .ok (.iaload, 1) := dok_at gdX11_ahead_l87 12 rfl
theorem dX11_ahead_113 : decode cX11_ahead 113 = .ok (.aload_n 0, 1) := dok_at gdX11_ahead_l87 13 rfl
theorem dX11_ahead_114 : decode cX11_ahead 114 = .ok (.getfield 71, 3) := dok_at gdX11_ahead_l87 14 rfl
theorem dX11_ahead_117 : decode cX11_ahead 117 = .ok (.iload_n 2, 1) := dok_at gdX11_ahead_l87 15 rfl
theorem dX11_ahead_118 : decode cX11_ahead 118 = .ok (.iaload, 1) := dok_at gdX11_ahead_l87 16 rfl
theorem dX11_ahead_119 : decode cX11_ahead 119 = .ok (.isub, 1) := dok_at gdX11_ahead_l87 17 rfl
theorem dX11_ahead_120 : decode cX11_ahead 120 = .ok (.iload 5, 2) := dok_at gdX11_ahead_l87 18 rfl
theorem dX11_ahead_122 : decode cX11_ahead 122 = .ok (.if_icmp .le 19, 3) := dok_at gdX11_ahead_l87 19 rfl
theorem dX11_ahead_125 : decode cX11_ahead 125 = .ok (.aload_n 0, 1) := dok_at gdX11_ahead_l87 20 rfl
theorem dX11_ahead_126 : decode cX11_ahead 126 = .ok (.getfield 71, 3) := dok_at gdX11_ahead_l87 21 rfl
theorem dX11_ahead_129 : decode cX11_ahead 129 = .ok (.iload_n 1, 1) := dok_at gdX11_ahead_l87 22 rfl
theorem dX11_ahead_130 : decode cX11_ahead 130 = .ok (.iaload, 1) := dok_at gdX11_ahead_l87 23 rfl
def dX11_ahead_l131 : List (Nat × Instr × Nat) := [(131, .aload_n 0, 1), (132, .getfield 71, 3), (135, .iload_n 2, 1), (136, .iaload, 1), (137, .isub, 1), (138, .goto 5, 3), (141, .iload 5, 2), (143, .istore 5, 2), (145, .aload_n 0, 1), (146, .invokevirtual 347, 3), (149, .istore 6, 2), (151, .goto (-53), 3), (154, .iload_n 3, 1), (155, .iconst 1, 1), (156, .if_icmp .ne 8, 3), (159, .iload 5, 2), (161, .goto 22, 3), (164, .iload 5, 2), (166, .ifCond .ge 7, 3), (169, .iconst 2, 1), (170, .goto 13, 3), (173, .iload 5, 2), (175, .ifCond .ne 7, 3), (178, .iconst 1, 1)]
theorem gdX11_ahead_l131 : dok cX11_ahead dX11_ahead_l131 = true := by decide +kernel
theorem dX11_ahead_131 : decode cX11_ahead 131 = .ok (.aload_n 0, 1) := dok_at gdX11_ahead_l131 0 rfl
theorem dX11_ahead_132 : decode cX11_ahead 132 = .ok (.getfield 71, 3) := dok_at gdX11_ahead_l131 1 rfl
theorem dX11_ahead_135 : decode cX11_ahead 135 = .ok (.iload_n 2, 1) := dok_at gdX11_ahead_l131 2 rfl
theorem dX11_ahead_136 : decode cX11_ahead 136 = .ok (.iaload, 1) := dok_at gdX11_ahead_l131 3 rfl
theorem dX11_ahead_137 : decode cX11_ahead 137 = .ok (.isub, 1) := dok_at gdX11_ahead_l131 4 rfl
theorem dX11_ahead_138 : decode cX11_ahead 138 = .ok (.goto 5, 3) := dok_at gdX11_ahead_l131 5 rfl
theorem dX11_ahead_141 : decode cX11_ahead 141 = .ok (.iload 5, 2) := dok_at gdX11_ahead_l131 6 rfl
theorem dX11_ahead_143 : decode cX11_ahead 143 = .ok (.istore 5, 2) := dok_at gdX11_ahead_l131 7 rfl
theorem dX11_ahead_145 : decode cX11_ahead 145 = .ok (.aload_n 0, 1) := dok_at gdX11_ahead_l131 8 rfl
theorem dX11_ahead_146 : decode cX11_ahead 146 = .ok (.invokevirtual 347, 3) := dok_at gdX11_ahead_l131 9 rfl
theorem dX11_ahead_149 : decode cX11_ahead 149 = .ok (.istore 6, 2) := dok_at gdX11_ahead_l131 10 rfl
theorem dX11_ahead_151 : decode cX11_ahead 151 = .ok (.goto (-53), 3) := dok_at gdX11_ahead_l131 11 rfl
theorem dX11_ahead_154 : decode cX11_ahead 154 = .ok (.iload_n 3, 1) := dok_at gdX11_ahead_l131 12 rfl
theorem dX11_ahead_155 : decode cX11_ahead 155 = .ok (.iconst 1, 1) := dok_at gdX11_ahead_l131 13 rfl
theorem dX11_ahead_156 : decode cX11_ahead 156 = .ok (.if_icmp .ne 8, 3) := dok_at gdX11_ahead_l131 14 rfl
theorem dX11_ahead_159 : decode cX11_ahead 159 = .ok (.iload 5, 2) := dok_at gdX11_ahead_l131 15 rfl
theorem dX11_ahead_161 : decode cX11_ahead 161 = .ok (.goto 22, 3) := dok_at gdX11_ahead_l131 16 rfl
theorem dX11_ahead_164 : decode cX11_ahead 164 = .ok (.iload 5, 2) := dok_at gdX11_ahead_l131 17 rfl
theorem dX11_ahead_166 : decode cX11_ahead 166 = .ok (.ifCond .ge 7, 3) := dok_at gdX11_ahead_l131 18 rfl
theorem dX11_ahead_169 : decode cX11_ahead 169 = .ok (.iconst 2, 1) := dok_at gdX11_ahead_l131 19 rfl
theorem dX11_ahead_170 : decode cX11_ahead 170 = .ok (.goto 13, 3) := dok_at gdX11_ahead_l131 20 rfl
theorem dX11_ahead_173 : decode cX11_ahead 173 = .ok (.iload 5, 2) := dok_at gdX11_ahead_l131 21 rfl
theorem dX11_ahead_175 : decode cX11_ahead 175 = .ok (.ifCond .ne 7, 3) := dok_at gdX11_ahead_l131 22 rfl
theorem dX11_ahead_178 : decode cX11_ahead 178 = .ok (.iconst 1, 1) := dok_at gdX11_ahead_l131 23 rfl
def dX11_ahead_l179 : List (Nat × Instr × Nat) := [(179, .goto 4, 3), (182, .iconst 0, 1), (183, .ireturn, 1)]
theorem gdX11_ahead_l179 : dok cX11_ahead dX11_ahead_l179 = true := by decide +kernel
theorem dX11_ahead_179 : decode cX11_ahead 179 = .ok (.goto 4, 3) := dok_at gdX11_ahead_l179 0 rfl
theorem dX11_ahead_182 : decode cX11_ahead 182 = .ok (.iconst 0, 1) := dok_at gdX11_ahead_l179 1 rfl
theorem dX11_ahead_183 : decode cX11_ahead 183 = .ok (.ireturn, 1) := dok_at gdX11_ahead_l179 2 rfl
def dX11_drawnAt_l0 : List (Nat × Instr × Nat) := [(0, .iconst 0, 1), (1, .istore_n 2, 1), (2, .iconst 0, 1), (3, .istore_n 3, 1), (4, .iconst 0, 1), (5, .istore 4, 2), (7, .iload 4, 2), (9, .aload_n 0, 1), (10, .getfield 121, 3), (13, .if_icmp .ge 85, 3), (16, .iload_n 2, 1), (17, .aload_n 0, 1), (18, .getfield 71, 3), (21, .iload 4, 2), (23, .iaload, 1), (24, .iload_n 1, 1), (25, .if_icmp .gt 10, 3), (28, .iconst 1, 1), (29, .iload 4, 2), (31, .ishl, 1), (32, .goto 4, 3), (35, .iconst 0, 1), (36, .ior, 1), (37, .istore_n 2, 1)]
theorem gdX11_drawnAt_l0 : dok cX11_drawnAt dX11_drawnAt_l0 = true := by decide +kernel
theorem dX11_drawnAt_0 : decode cX11_drawnAt 0 = .ok (.iconst 0, 1) := dok_at gdX11_drawnAt_l0 0 rfl
theorem dX11_drawnAt_1 : decode cX11_drawnAt 1 = .ok (.istore_n 2, 1) := dok_at gdX11_drawnAt_l0 1 rfl
theorem dX11_drawnAt_2 : decode cX11_drawnAt 2 = .ok (.iconst 0, 1) := dok_at gdX11_drawnAt_l0 2 rfl
theorem dX11_drawnAt_3 : decode cX11_drawnAt 3 = .ok (.istore_n 3, 1) := dok_at gdX11_drawnAt_l0 3 rfl
theorem dX11_drawnAt_4 : decode cX11_drawnAt 4 = .ok (.iconst 0, 1) := dok_at gdX11_drawnAt_l0 4 rfl
theorem dX11_drawnAt_5 : decode cX11_drawnAt 5 = .ok (.istore 4, 2) := dok_at gdX11_drawnAt_l0 5 rfl
theorem dX11_drawnAt_7 : decode cX11_drawnAt 7 = .ok (.iload 4, 2) := dok_at gdX11_drawnAt_l0 6 rfl
theorem dX11_drawnAt_9 : decode cX11_drawnAt 9 = .ok (.aload_n 0, 1) := dok_at gdX11_drawnAt_l0 7 rfl
theorem dX11_drawnAt_10 : decode cX11_drawnAt 10 = .ok (.getfield 121, 3) := dok_at gdX11_drawnAt_l0 8 rfl
theorem dX11_drawnAt_13 : decode cX11_drawnAt 13 = .ok (.if_icmp .ge 85, 3) := dok_at gdX11_drawnAt_l0 9 rfl
theorem dX11_drawnAt_16 : decode cX11_drawnAt 16 = .ok (.iload_n 2, 1) := dok_at gdX11_drawnAt_l0 10 rfl
theorem dX11_drawnAt_17 : decode cX11_drawnAt 17 = .ok (.aload_n 0, 1) := dok_at gdX11_drawnAt_l0 11 rfl
theorem dX11_drawnAt_18 : decode cX11_drawnAt 18 = .ok (.getfield 71, 3) := dok_at gdX11_drawnAt_l0 12 rfl
theorem dX11_drawnAt_21 : decode cX11_drawnAt 21 = .ok (.iload 4, 2) := dok_at gdX11_drawnAt_l0 13 rfl
theorem dX11_drawnAt_23 : decode cX11_drawnAt 23 = .ok (.iaload, 1) := dok_at gdX11_drawnAt_l0 14 rfl
theorem dX11_drawnAt_24 : decode cX11_drawnAt 24 = .ok (.iload_n 1, 1) := dok_at gdX11_drawnAt_l0 15 rfl
theorem dX11_drawnAt_25 : decode cX11_drawnAt 25 = .ok (.if_icmp .gt 10, 3) := dok_at gdX11_drawnAt_l0 16 rfl
theorem dX11_drawnAt_28 : decode cX11_drawnAt 28 = .ok (.iconst 1, 1) := dok_at gdX11_drawnAt_l0 17 rfl
theorem dX11_drawnAt_29 : decode cX11_drawnAt 29 = .ok (.iload 4, 2) := dok_at gdX11_drawnAt_l0 18 rfl
theorem dX11_drawnAt_31 : decode cX11_drawnAt 31 = .ok (.ishl, 1) := dok_at gdX11_drawnAt_l0 19 rfl
theorem dX11_drawnAt_32 : decode cX11_drawnAt 32 = .ok (.goto 4, 3) := dok_at gdX11_drawnAt_l0 20 rfl
theorem dX11_drawnAt_35 : decode cX11_drawnAt 35 = .ok (.iconst 0, 1) := dok_at gdX11_drawnAt_l0 21 rfl
theorem dX11_drawnAt_36 : decode cX11_drawnAt 36 = .ok (.ior, 1) := dok_at gdX11_drawnAt_l0 22 rfl
theorem dX11_drawnAt_37 : decode cX11_drawnAt 37 = .ok (.istore_n 2, 1) := dok_at gdX11_drawnAt_l0 23 rfl
def dX11_drawnAt_l38 : List (Nat × Instr × Nat) := [(38, .iload_n 3, 1), (39, .aload_n 0, 1), (40, .getfield 68, 3), (43, .iload 4, 2), (45, .iaload, 1), (46, .ldc_w 333, 3), (49, .if_icmp .ge 40, 3), (52, .aload_n 0, 1), (53, .getfield 68, 3), (56, .iload 4, 2), (58, .iaload, 1), (59, .aload_n 0, 1), (60, .getfield 77, 3), (63, .iload 4, 2), (65, .iaload, 1), (66, .iadd, 1), (67, .iload_n 1, 1), (68, .if_icmp .gt 21, 3), (71, .aload_n 0, 1), (72, .getfield 71, 3), (75, .iload 4, 2), (77, .iaload, 1), (78, .iload_n 1, 1), (79, .if_icmp .le 10, 3)]
theorem gdX11_drawnAt_l38 : dok cX11_drawnAt dX11_drawnAt_l38 = true := by decide +kernel
theorem dX11_drawnAt_38 : decode cX11_drawnAt 38 = .ok (.iload_n 3, 1) := dok_at gdX11_drawnAt_l38 0 rfl
theorem dX11_drawnAt_39 : decode cX11_drawnAt 39 = .ok (.aload_n 0, 1) := dok_at gdX11_drawnAt_l38 1 rfl
theorem dX11_drawnAt_40 : decode cX11_drawnAt 40 = .ok (.getfield 68, 3) := dok_at gdX11_drawnAt_l38 2 rfl
theorem dX11_drawnAt_43 : decode cX11_drawnAt 43 = .ok (.iload 4, 2) := dok_at gdX11_drawnAt_l38 3 rfl
theorem dX11_drawnAt_45 : decode cX11_drawnAt 45 = .ok (.iaload, 1) := dok_at gdX11_drawnAt_l38 4 rfl
theorem dX11_drawnAt_46 : decode cX11_drawnAt 46 = .ok (.ldc_w 333, 3) := dok_at gdX11_drawnAt_l38 5 rfl
theorem dX11_drawnAt_49 : decode cX11_drawnAt 49 = .ok (.if_icmp .ge 40, 3) := dok_at gdX11_drawnAt_l38 6 rfl
theorem dX11_drawnAt_52 : decode cX11_drawnAt 52 = .ok (.aload_n 0, 1) := dok_at gdX11_drawnAt_l38 7 rfl
theorem dX11_drawnAt_53 : decode cX11_drawnAt 53 = .ok (.getfield 68, 3) := dok_at gdX11_drawnAt_l38 8 rfl
theorem dX11_drawnAt_56 : decode cX11_drawnAt 56 = .ok (.iload 4, 2) := dok_at gdX11_drawnAt_l38 9 rfl
theorem dX11_drawnAt_58 : decode cX11_drawnAt 58 = .ok (.iaload, 1) := dok_at gdX11_drawnAt_l38 10 rfl
theorem dX11_drawnAt_59 : decode cX11_drawnAt 59 = .ok (.aload_n 0, 1) := dok_at gdX11_drawnAt_l38 11 rfl
theorem dX11_drawnAt_60 : decode cX11_drawnAt 60 = .ok (.getfield 77, 3) := dok_at gdX11_drawnAt_l38 12 rfl
theorem dX11_drawnAt_63 : decode cX11_drawnAt 63 = .ok (.iload 4, 2) := dok_at gdX11_drawnAt_l38 13 rfl
theorem dX11_drawnAt_65 : decode cX11_drawnAt 65 = .ok (.iaload, 1) := dok_at gdX11_drawnAt_l38 14 rfl
theorem dX11_drawnAt_66 : decode cX11_drawnAt 66 = .ok (.iadd, 1) := dok_at gdX11_drawnAt_l38 15 rfl
theorem dX11_drawnAt_67 : decode cX11_drawnAt 67 = .ok (.iload_n 1, 1) := dok_at gdX11_drawnAt_l38 16 rfl
theorem dX11_drawnAt_68 : decode cX11_drawnAt 68 = .ok (.if_icmp .gt 21, 3) := dok_at gdX11_drawnAt_l38 17 rfl
theorem dX11_drawnAt_71 : decode cX11_drawnAt 71 = .ok (.aload_n 0, 1) := dok_at gdX11_drawnAt_l38 18 rfl
theorem dX11_drawnAt_72 : decode cX11_drawnAt 72 = .ok (.getfield 71, 3) := dok_at gdX11_drawnAt_l38 19 rfl
theorem dX11_drawnAt_75 : decode cX11_drawnAt 75 = .ok (.iload 4, 2) := dok_at gdX11_drawnAt_l38 20 rfl
theorem dX11_drawnAt_77 : decode cX11_drawnAt 77 = .ok (.iaload, 1) := dok_at gdX11_drawnAt_l38 21 rfl
theorem dX11_drawnAt_78 : decode cX11_drawnAt 78 = .ok (.iload_n 1, 1) := dok_at gdX11_drawnAt_l38 22 rfl
theorem dX11_drawnAt_79 : decode cX11_drawnAt 79 = .ok (.if_icmp .le 10, 3) := dok_at gdX11_drawnAt_l38 23 rfl
def dX11_drawnAt_l82 : List (Nat × Instr × Nat) := [(82, .iconst 1, 1), (83, .iload 4, 2), (85, .ishl, 1), (86, .goto 4, 3), (89, .iconst 0, 1), (90, .ior, 1), (91, .istore_n 3, 1), (92, .iinc 4 1, 3), (95, .goto (-88), 3), (98, .aload_n 0, 1), (99, .iload_n 2, 1), (100, .iload_n 3, 1), (101, .invokevirtual 309, 3), (104, .ireturn, 1)]
theorem gdX11_drawnAt_l82 : dok cX11_drawnAt dX11_drawnAt_l82 = true := by decide +kernel
theorem dX11_drawnAt_82 : decode cX11_drawnAt 82 = .ok (.iconst 1, 1) := dok_at gdX11_drawnAt_l82 0 rfl
theorem dX11_drawnAt_83 : decode cX11_drawnAt 83 = .ok (.iload 4, 2) := dok_at gdX11_drawnAt_l82 1 rfl
theorem dX11_drawnAt_85 : decode cX11_drawnAt 85 = .ok (.ishl, 1) := dok_at gdX11_drawnAt_l82 2 rfl
theorem dX11_drawnAt_86 : decode cX11_drawnAt 86 = .ok (.goto 4, 3) := dok_at gdX11_drawnAt_l82 3 rfl
theorem dX11_drawnAt_89 : decode cX11_drawnAt 89 = .ok (.iconst 0, 1) := dok_at gdX11_drawnAt_l82 4 rfl
theorem dX11_drawnAt_90 : decode cX11_drawnAt 90 = .ok (.ior, 1) := dok_at gdX11_drawnAt_l82 5 rfl
theorem dX11_drawnAt_91 : decode cX11_drawnAt 91 = .ok (.istore_n 3, 1) := dok_at gdX11_drawnAt_l82 6 rfl
theorem dX11_drawnAt_92 : decode cX11_drawnAt 92 = .ok (.iinc 4 1, 3) := dok_at gdX11_drawnAt_l82 7 rfl
theorem dX11_drawnAt_95 : decode cX11_drawnAt 95 = .ok (.goto (-88), 3) := dok_at gdX11_drawnAt_l82 8 rfl
theorem dX11_drawnAt_98 : decode cX11_drawnAt 98 = .ok (.aload_n 0, 1) := dok_at gdX11_drawnAt_l82 9 rfl
theorem dX11_drawnAt_99 : decode cX11_drawnAt 99 = .ok (.iload_n 2, 1) := dok_at gdX11_drawnAt_l82 10 rfl
theorem dX11_drawnAt_100 : decode cX11_drawnAt 100 = .ok (.iload_n 3, 1) := dok_at gdX11_drawnAt_l82 11 rfl
theorem dX11_drawnAt_101 : decode cX11_drawnAt 101 = .ok (.invokevirtual 309, 3) := dok_at gdX11_drawnAt_l82 12 rfl
theorem dX11_drawnAt_104 : decode cX11_drawnAt 104 = .ok (.ireturn, 1) := dok_at gdX11_drawnAt_l82 13 rfl
def dX11_drawn_l0 : List (Nat × Instr × Nat) := [(0, .iload_n 1, 1), (1, .i2l, 1), (2, .lconst 0, 1), (3, .ldc2_w 315, 3), (6, .invokestatic 141, 3), (9, .ifCond .ne 5, 3), (12, .iconst (-1), 1), (13, .ireturn, 1), (14, .aload_n 0, 1), (15, .invokevirtual 334, 3), (18, .aload_n 0, 1), (19, .iconst 0, 1), (20, .invokevirtual 337, 3), (23, .aload_n 0, 1), (24, .invokevirtual 340, 3), (27, .aload_n 0, 1), (28, .iload_n 1, 1), (29, .invokevirtual 350, 3), (32, .ireturn, 1)]
theorem gdX11_drawn_l0 : dok cX11_drawn dX11_drawn_l0 = true := by decide +kernel
theorem dX11_drawn_0 : decode cX11_drawn 0 = .ok (.iload_n 1, 1) := dok_at gdX11_drawn_l0 0 rfl
theorem dX11_drawn_1 : decode cX11_drawn 1 = .ok (.i2l, 1) := dok_at gdX11_drawn_l0 1 rfl
theorem dX11_drawn_2 : decode cX11_drawn 2 = .ok (.lconst 0, 1) := dok_at gdX11_drawn_l0 2 rfl
theorem dX11_drawn_3 : decode cX11_drawn 3 = .ok (.ldc2_w 315, 3) := dok_at gdX11_drawn_l0 3 rfl
theorem dX11_drawn_6 : decode cX11_drawn 6 = .ok (.invokestatic 141, 3) := dok_at gdX11_drawn_l0 4 rfl
theorem dX11_drawn_9 : decode cX11_drawn 9 = .ok (.ifCond .ne 5, 3) := dok_at gdX11_drawn_l0 5 rfl
theorem dX11_drawn_12 : decode cX11_drawn 12 = .ok (.iconst (-1), 1) := dok_at gdX11_drawn_l0 6 rfl
theorem dX11_drawn_13 : decode cX11_drawn 13 = .ok (.ireturn, 1) := dok_at gdX11_drawn_l0 7 rfl
theorem dX11_drawn_14 : decode cX11_drawn 14 = .ok (.aload_n 0, 1) := dok_at gdX11_drawn_l0 8 rfl
theorem dX11_drawn_15 : decode cX11_drawn 15 = .ok (.invokevirtual 334, 3) := dok_at gdX11_drawn_l0 9 rfl
theorem dX11_drawn_18 : decode cX11_drawn 18 = .ok (.aload_n 0, 1) := dok_at gdX11_drawn_l0 10 rfl
theorem dX11_drawn_19 : decode cX11_drawn 19 = .ok (.iconst 0, 1) := dok_at gdX11_drawn_l0 11 rfl
theorem dX11_drawn_20 : decode cX11_drawn 20 = .ok (.invokevirtual 337, 3) := dok_at gdX11_drawn_l0 12 rfl
theorem dX11_drawn_23 : decode cX11_drawn 23 = .ok (.aload_n 0, 1) := dok_at gdX11_drawn_l0 13 rfl
theorem dX11_drawn_24 : decode cX11_drawn 24 = .ok (.invokevirtual 340, 3) := dok_at gdX11_drawn_l0 14 rfl
theorem dX11_drawn_27 : decode cX11_drawn 27 = .ok (.aload_n 0, 1) := dok_at gdX11_drawn_l0 15 rfl
theorem dX11_drawn_28 : decode cX11_drawn 28 = .ok (.iload_n 1, 1) := dok_at gdX11_drawn_l0 16 rfl
theorem dX11_drawn_29 : decode cX11_drawn 29 = .ok (.invokevirtual 350, 3) := dok_at gdX11_drawn_l0 17 rfl
theorem dX11_drawn_32 : decode cX11_drawn 32 = .ok (.ireturn, 1) := dok_at gdX11_drawn_l0 18 rfl
def dX11_lastGood_l0 : List (Nat × Instr × Nat) := [(0, .bipush (-4), 2), (2, .istore_n 1, 1), (3, .iconst 0, 1), (4, .istore_n 2, 1), (5, .iload_n 2, 1), (6, .aload_n 0, 1), (7, .getfield 121, 3), (10, .if_icmp .ge 42, 3), (13, .aload_n 0, 1), (14, .getfield 71, 3), (17, .iload_n 2, 1), (18, .iaload, 1), (19, .ldc_w 333, 3), (22, .if_icmp .ge 22, 3), (25, .aload_n 0, 1), (26, .getfield 71, 3), (29, .iload_n 2, 1), (30, .iaload, 1), (31, .iload_n 1, 1), (32, .if_icmp .le 12, 3), (35, .aload_n 0, 1), (36, .getfield 71, 3), (39, .iload_n 2, 1), (40, .iaload, 1)]
theorem gdX11_lastGood_l0 : dok cX11_lastGood dX11_lastGood_l0 = true := by decide +kernel
theorem dX11_lastGood_0 : decode cX11_lastGood 0 = .ok (.bipush (-4), 2) := dok_at gdX11_lastGood_l0 0 rfl
theorem dX11_lastGood_2 : decode cX11_lastGood 2 = .ok (.istore_n 1, 1) := dok_at gdX11_lastGood_l0 1 rfl
theorem dX11_lastGood_3 : decode cX11_lastGood 3 = .ok (.iconst 0, 1) := dok_at gdX11_lastGood_l0 2 rfl
theorem dX11_lastGood_4 : decode cX11_lastGood 4 = .ok (.istore_n 2, 1) := dok_at gdX11_lastGood_l0 3 rfl
theorem dX11_lastGood_5 : decode cX11_lastGood 5 = .ok (.iload_n 2, 1) := dok_at gdX11_lastGood_l0 4 rfl
theorem dX11_lastGood_6 : decode cX11_lastGood 6 = .ok (.aload_n 0, 1) := dok_at gdX11_lastGood_l0 5 rfl
theorem dX11_lastGood_7 : decode cX11_lastGood 7 = .ok (.getfield 121, 3) := dok_at gdX11_lastGood_l0 6 rfl
theorem dX11_lastGood_10 : decode cX11_lastGood 10 = .ok (.if_icmp .ge 42, 3) := dok_at gdX11_lastGood_l0 7 rfl
theorem dX11_lastGood_13 : decode cX11_lastGood 13 = .ok (.aload_n 0, 1) := dok_at gdX11_lastGood_l0 8 rfl
theorem dX11_lastGood_14 : decode cX11_lastGood 14 = .ok (.getfield 71, 3) := dok_at gdX11_lastGood_l0 9 rfl
theorem dX11_lastGood_17 : decode cX11_lastGood 17 = .ok (.iload_n 2, 1) := dok_at gdX11_lastGood_l0 10 rfl
theorem dX11_lastGood_18 : decode cX11_lastGood 18 = .ok (.iaload, 1) := dok_at gdX11_lastGood_l0 11 rfl
theorem dX11_lastGood_19 : decode cX11_lastGood 19 = .ok (.ldc_w 333, 3) := dok_at gdX11_lastGood_l0 12 rfl
theorem dX11_lastGood_22 : decode cX11_lastGood 22 = .ok (.if_icmp .ge 22, 3) := dok_at gdX11_lastGood_l0 13 rfl
theorem dX11_lastGood_25 : decode cX11_lastGood 25 = .ok (.aload_n 0, 1) := dok_at gdX11_lastGood_l0 14 rfl
theorem dX11_lastGood_26 : decode cX11_lastGood 26 = .ok (.getfield 71, 3) := dok_at gdX11_lastGood_l0 15 rfl
theorem dX11_lastGood_29 : decode cX11_lastGood 29 = .ok (.iload_n 2, 1) := dok_at gdX11_lastGood_l0 16 rfl
theorem dX11_lastGood_30 : decode cX11_lastGood 30 = .ok (.iaload, 1) := dok_at gdX11_lastGood_l0 17 rfl
theorem dX11_lastGood_31 : decode cX11_lastGood 31 = .ok (.iload_n 1, 1) := dok_at gdX11_lastGood_l0 18 rfl
theorem dX11_lastGood_32 : decode cX11_lastGood 32 = .ok (.if_icmp .le 12, 3) := dok_at gdX11_lastGood_l0 19 rfl
theorem dX11_lastGood_35 : decode cX11_lastGood 35 = .ok (.aload_n 0, 1) := dok_at gdX11_lastGood_l0 20 rfl
theorem dX11_lastGood_36 : decode cX11_lastGood 36 = .ok (.getfield 71, 3) := dok_at gdX11_lastGood_l0 21 rfl
theorem dX11_lastGood_39 : decode cX11_lastGood 39 = .ok (.iload_n 2, 1) := dok_at gdX11_lastGood_l0 22 rfl
theorem dX11_lastGood_40 : decode cX11_lastGood 40 = .ok (.iaload, 1) := dok_at gdX11_lastGood_l0 23 rfl
def dX11_lastGood_l41 : List (Nat × Instr × Nat) := [(41, .goto 4, 3), (44, .iload_n 1, 1), (45, .istore_n 1, 1), (46, .iinc 2 1, 3), (49, .goto (-44), 3), (52, .iload_n 1, 1), (53, .ireturn, 1)]
theorem gdX11_lastGood_l41 : dok cX11_lastGood dX11_lastGood_l41 = true := by decide +kernel
theorem dX11_lastGood_41 : decode cX11_lastGood 41 = .ok (.goto 4, 3) := dok_at gdX11_lastGood_l41 0 rfl
theorem dX11_lastGood_44 : decode cX11_lastGood 44 = .ok (.iload_n 1, 1) := dok_at gdX11_lastGood_l41 1 rfl
theorem dX11_lastGood_45 : decode cX11_lastGood 45 = .ok (.istore_n 1, 1) := dok_at gdX11_lastGood_l41 2 rfl
theorem dX11_lastGood_46 : decode cX11_lastGood 46 = .ok (.iinc 2 1, 3) := dok_at gdX11_lastGood_l41 3 rfl
theorem dX11_lastGood_49 : decode cX11_lastGood 49 = .ok (.goto (-44), 3) := dok_at gdX11_lastGood_l41 4 rfl
theorem dX11_lastGood_52 : decode cX11_lastGood 52 = .ok (.iload_n 1, 1) := dok_at gdX11_lastGood_l41 5 rfl
theorem dX11_lastGood_53 : decode cX11_lastGood 53 = .ok (.ireturn, 1) := dok_at gdX11_lastGood_l41 6 rfl
def dX11_findStagger_l0 : List (Nat × Instr × Nat) := [(0, .aload_n 0, 1), (1, .bipush (-4), 2), (3, .putfield 361, 3), (6, .aload_n 0, 1), (7, .iconst 0, 1), (8, .invokevirtual 337, 3), (11, .iconst 0, 1), (12, .istore_n 1, 1), (13, .iload_n 1, 1), (14, .iconst 1, 1), (15, .iconst 2, 1), (16, .aload_n 0, 1), (17, .getfield 121, 3), (20, .imul, 1), (21, .ishl, 1), (22, .if_icmp .ge 121, 3), (25, .iconst 0, 1), (26, .istore_n 2, 1), (27, .iload_n 2, 1), (28, .aload_n 0, 1), (29, .getfield 121, 3), (32, .if_icmp .ge 29, 3), (35, .aload_n 0, 1), (36, .getfield 77, 3)]
theorem gdX11_findStagger_l0 : dok cX11_findStagger dX11_findStagger_l0 = true := by decide +kernel
theorem dX11_findStagger_0 : decode cX11_findStagger 0 = .ok (.aload_n 0, 1) := dok_at gdX11_findStagger_l0 0 rfl
theorem dX11_findStagger_1 : decode cX11_findStagger 1 = .ok (.bipush (-4), 2) := dok_at gdX11_findStagger_l0 1 rfl
theorem dX11_findStagger_3 : decode cX11_findStagger 3 = .ok (.putfield 361, 3) := dok_at gdX11_findStagger_l0 2 rfl
theorem dX11_findStagger_6 : decode cX11_findStagger 6 = .ok (.aload_n 0, 1) := dok_at gdX11_findStagger_l0 3 rfl
theorem dX11_findStagger_7 : decode cX11_findStagger 7 = .ok (.iconst 0, 1) := dok_at gdX11_findStagger_l0 4 rfl
theorem dX11_findStagger_8 : decode cX11_findStagger 8 = .ok (.invokevirtual 337, 3) := dok_at gdX11_findStagger_l0 5 rfl
theorem dX11_findStagger_11 : decode cX11_findStagger 11 = .ok (.iconst 0, 1) := dok_at gdX11_findStagger_l0 6 rfl
theorem dX11_findStagger_12 : decode cX11_findStagger 12 = .ok (.istore_n 1, 1) := dok_at gdX11_findStagger_l0 7 rfl
theorem dX11_findStagger_13 : decode cX11_findStagger 13 = .ok (.iload_n 1, 1) := dok_at gdX11_findStagger_l0 8 rfl
theorem dX11_findStagger_14 : decode cX11_findStagger 14 = .ok (.iconst 1, 1) := dok_at gdX11_findStagger_l0 9 rfl
theorem dX11_findStagger_15 : decode cX11_findStagger 15 = .ok (.iconst 2, 1) := dok_at gdX11_findStagger_l0 10 rfl
theorem dX11_findStagger_16 : decode cX11_findStagger 16 = .ok (.aload_n 0, 1) := dok_at gdX11_findStagger_l0 11 rfl
theorem dX11_findStagger_17 : decode cX11_findStagger 17 = .ok (.getfield 121, 3) := dok_at gdX11_findStagger_l0 12 rfl
theorem dX11_findStagger_20 : decode cX11_findStagger 20 = .ok (.imul, 1) := dok_at gdX11_findStagger_l0 13 rfl
theorem dX11_findStagger_21 : decode cX11_findStagger 21 = .ok (.ishl, 1) := dok_at gdX11_findStagger_l0 14 rfl
theorem dX11_findStagger_22 : decode cX11_findStagger 22 = .ok (.if_icmp .ge 121, 3) := dok_at gdX11_findStagger_l0 15 rfl
theorem dX11_findStagger_25 : decode cX11_findStagger 25 = .ok (.iconst 0, 1) := dok_at gdX11_findStagger_l0 16 rfl
theorem dX11_findStagger_26 : decode cX11_findStagger 26 = .ok (.istore_n 2, 1) := dok_at gdX11_findStagger_l0 17 rfl
theorem dX11_findStagger_27 : decode cX11_findStagger 27 = .ok (.iload_n 2, 1) := dok_at gdX11_findStagger_l0 18 rfl
theorem dX11_findStagger_28 : decode cX11_findStagger 28 = .ok (.aload_n 0, 1) := dok_at gdX11_findStagger_l0 19 rfl
theorem dX11_findStagger_29 : decode cX11_findStagger 29 = .ok (.getfield 121, 3) := dok_at gdX11_findStagger_l0 20 rfl
theorem dX11_findStagger_32 : decode cX11_findStagger 32 = .ok (.if_icmp .ge 29, 3) := dok_at gdX11_findStagger_l0 21 rfl
theorem dX11_findStagger_35 : decode cX11_findStagger 35 = .ok (.aload_n 0, 1) := dok_at gdX11_findStagger_l0 22 rfl
theorem dX11_findStagger_36 : decode cX11_findStagger 36 = .ok (.getfield 77, 3) := dok_at gdX11_findStagger_l0 23 rfl
def dX11_findStagger_l39 : List (Nat × Instr × Nat) := [(39, .iload_n 2, 1), (40, .iload_n 1, 1), (41, .iconst 2, 1), (42, .aload_n 0, 1), (43, .getfield 121, 3), (46, .iconst 1, 1), (47, .isub, 1), (48, .iload_n 2, 1), (49, .isub, 1), (50, .imul, 1), (51, .ishr, 1), (52, .iconst 3, 1), (53, .iand, 1), (54, .iastore, 1), (55, .iinc 2 1, 3), (58, .goto (-31), 3), (61, .aload_n 0, 1), (62, .invokevirtual 340, 3), (65, .aload_n 0, 1), (66, .invokevirtual 364, 3), (69, .istore_n 2, 1), (70, .iload_n 2, 1), (71, .bipush (-4), 2), (73, .if_icmp .eq 64, 3)]
theorem gdX11_findStagger_l39 : dok cX11_findStagger dX11_findStagger_l39 = true := by decide +kernel
theorem dX11_findStagger_39 : decode cX11_findStagger 39 = .ok (.iload_n 2, 1) := dok_at gdX11_findStagger_l39 0 rfl
theorem dX11_findStagger_40 : decode cX11_findStagger 40 = .ok (.iload_n 1, 1) := dok_at gdX11_findStagger_l39 1 rfl
theorem dX11_findStagger_41 : decode cX11_findStagger 41 = .ok (.iconst 2, 1) := dok_at gdX11_findStagger_l39 2 rfl
theorem dX11_findStagger_42 : decode cX11_findStagger 42 = .ok (.aload_n 0, 1) := dok_at gdX11_findStagger_l39 3 rfl
theorem dX11_findStagger_43 : decode cX11_findStagger 43 = .ok (.getfield 121, 3) := dok_at gdX11_findStagger_l39 4 rfl
theorem dX11_findStagger_46 : decode cX11_findStagger 46 = .ok (.iconst 1, 1) := dok_at gdX11_findStagger_l39 5 rfl
theorem dX11_findStagger_47 : decode cX11_findStagger 47 = .ok (.isub, 1) := dok_at gdX11_findStagger_l39 6 rfl
theorem dX11_findStagger_48 : decode cX11_findStagger 48 = .ok (.iload_n 2, 1) := dok_at gdX11_findStagger_l39 7 rfl
theorem dX11_findStagger_49 : decode cX11_findStagger 49 = .ok (.isub, 1) := dok_at gdX11_findStagger_l39 8 rfl
theorem dX11_findStagger_50 : decode cX11_findStagger 50 = .ok (.imul, 1) := dok_at gdX11_findStagger_l39 9 rfl
theorem dX11_findStagger_51 : decode cX11_findStagger 51 = .ok (.ishr, 1) := dok_at gdX11_findStagger_l39 10 rfl
theorem dX11_findStagger_52 : decode cX11_findStagger 52 = .ok (.iconst 3, 1) := dok_at gdX11_findStagger_l39 11 rfl
theorem dX11_findStagger_53 : decode cX11_findStagger 53 = .ok (.iand, 1) := dok_at gdX11_findStagger_l39 12 rfl
theorem dX11_findStagger_54 : decode cX11_findStagger 54 = .ok (.iastore, 1) := dok_at gdX11_findStagger_l39 13 rfl
theorem dX11_findStagger_55 : decode cX11_findStagger 55 = .ok (.iinc 2 1, 3) := dok_at gdX11_findStagger_l39 14 rfl
theorem dX11_findStagger_58 : decode cX11_findStagger 58 = .ok (.goto (-31), 3) := dok_at gdX11_findStagger_l39 15 rfl
theorem dX11_findStagger_61 : decode cX11_findStagger 61 = .ok (.aload_n 0, 1) := dok_at gdX11_findStagger_l39 16 rfl
theorem dX11_findStagger_62 : decode cX11_findStagger 62 = .ok (.invokevirtual 340, 3) := dok_at gdX11_findStagger_l39 17 rfl
theorem dX11_findStagger_65 : decode cX11_findStagger 65 = .ok (.aload_n 0, 1) := dok_at gdX11_findStagger_l39 18 rfl
theorem dX11_findStagger_66 : decode cX11_findStagger 66 = .ok (.invokevirtual 364, 3) := dok_at gdX11_findStagger_l39 19 rfl
theorem dX11_findStagger_69 : decode cX11_findStagger 69 = .ok (.istore_n 2, 1) := dok_at gdX11_findStagger_l39 20 rfl
theorem dX11_findStagger_70 : decode cX11_findStagger 70 = .ok (.iload_n 2, 1) := dok_at gdX11_findStagger_l39 21 rfl
theorem dX11_findStagger_71 : decode cX11_findStagger 71 = .ok (.bipush (-4), 2) := dok_at gdX11_findStagger_l39 22 rfl
theorem dX11_findStagger_73 : decode cX11_findStagger 73 = .ok (.if_icmp .eq 64, 3) := dok_at gdX11_findStagger_l39 23 rfl
def dX11_findStagger_l76 : List (Nat × Instr × Nat) := [(76, .aload_n 0, 1), (77, .getfield 361, 3), (80, .bipush (-4), 2), (82, .if_icmp .eq 11, 3), (85, .iload_n 2, 1), (86, .aload_n 0, 1), (87, .getfield 361, 3), (90, .if_icmp .ge 47, 3), (93, .aload_n 0, 1), (94, .invokevirtual 358, 3), (97, .aload_n 0, 1), (98, .getfield 124, 3), (101, .if_icmp .gt 36, 3), (104, .aload_n 0, 1), (105, .iload_n 2, 1), (106, .putfield 361, 3), (109, .iconst 0, 1), (110, .istore_n 3, 1), (111, .iload_n 3, 1), (112, .aload_n 0, 1), (113, .getfield 121, 3), (116, .if_icmp .ge 21, 3), (119, .aload_n 0, 1), (120, .getfield 80, 3)]
theorem gdX11_findStagger_l76 : dok cX11_findStagger dX11_findStagger_l76 = true := by decide +kernel
theorem dX11_findStagger_76 : decode cX11_findStagger 76 = .ok (.aload_n 0, 1) := dok_at gdX11_findStagger_l76 0 rfl
theorem dX11_findStagger_77 : decode cX11_findStagger 77 = .ok (.getfield 361, 3) := dok_at gdX11_findStagger_l76 1 rfl
theorem dX11_findStagger_80 : decode cX11_findStagger 80 = .ok (.bipush (-4), 2) := dok_at gdX11_findStagger_l76 2 rfl
theorem dX11_findStagger_82 : decode cX11_findStagger 82 = .ok (.if_icmp .eq 11, 3) := dok_at gdX11_findStagger_l76 3 rfl
theorem dX11_findStagger_85 : decode cX11_findStagger 85 = .ok (.iload_n 2, 1) := dok_at gdX11_findStagger_l76 4 rfl
theorem dX11_findStagger_86 : decode cX11_findStagger 86 = .ok (.aload_n 0, 1) := dok_at gdX11_findStagger_l76 5 rfl
theorem dX11_findStagger_87 : decode cX11_findStagger 87 = .ok (.getfield 361, 3) := dok_at gdX11_findStagger_l76 6 rfl
theorem dX11_findStagger_90 : decode cX11_findStagger 90 = .ok (.if_icmp .ge 47, 3) := dok_at gdX11_findStagger_l76 7 rfl
theorem dX11_findStagger_93 : decode cX11_findStagger 93 = .ok (.aload_n 0, 1) := dok_at gdX11_findStagger_l76 8 rfl
theorem dX11_findStagger_94 : decode cX11_findStagger 94 = .ok (.invokevirtual 358, 3) := dok_at gdX11_findStagger_l76 9 rfl
theorem dX11_findStagger_97 : decode cX11_findStagger 97 = .ok (.aload_n 0, 1) := dok_at gdX11_findStagger_l76 10 rfl
theorem dX11_findStagger_98 : decode cX11_findStagger 98 = .ok (.getfield 124, 3) := dok_at gdX11_findStagger_l76 11 rfl
theorem dX11_findStagger_101 : decode cX11_findStagger 101 = .ok (.if_icmp .gt 36, 3) := dok_at gdX11_findStagger_l76 12 rfl
theorem dX11_findStagger_104 : decode cX11_findStagger 104 = .ok (.aload_n 0, 1) := dok_at gdX11_findStagger_l76 13 rfl
theorem dX11_findStagger_105 : decode cX11_findStagger 105 = .ok (.iload_n 2, 1) := dok_at gdX11_findStagger_l76 14 rfl
theorem dX11_findStagger_106 : decode cX11_findStagger 106 = .ok (.putfield 361, 3) := dok_at gdX11_findStagger_l76 15 rfl
theorem dX11_findStagger_109 : decode cX11_findStagger 109 = .ok (.iconst 0, 1) := dok_at gdX11_findStagger_l76 16 rfl
theorem dX11_findStagger_110 : decode cX11_findStagger 110 = .ok (.istore_n 3, 1) := dok_at gdX11_findStagger_l76 17 rfl
theorem dX11_findStagger_111 : decode cX11_findStagger 111 = .ok (.iload_n 3, 1) := dok_at gdX11_findStagger_l76 18 rfl
theorem dX11_findStagger_112 : decode cX11_findStagger 112 = .ok (.aload_n 0, 1) := dok_at gdX11_findStagger_l76 19 rfl
theorem dX11_findStagger_113 : decode cX11_findStagger 113 = .ok (.getfield 121, 3) := dok_at gdX11_findStagger_l76 20 rfl
theorem dX11_findStagger_116 : decode cX11_findStagger 116 = .ok (.if_icmp .ge 21, 3) := dok_at gdX11_findStagger_l76 21 rfl
theorem dX11_findStagger_119 : decode cX11_findStagger 119 = .ok (.aload_n 0, 1) := dok_at gdX11_findStagger_l76 22 rfl
theorem dX11_findStagger_120 : decode cX11_findStagger 120 = .ok (.getfield 80, 3) := dok_at gdX11_findStagger_l76 23 rfl
def dX11_findStagger_l123 : List (Nat × Instr × Nat) := [(123, .iload_n 3, 1), (124, .aload_n 0, 1), (125, .getfield 77, 3), (128, .iload_n 3, 1), (129, .iaload, 1), (130, .iastore, 1), (131, .iinc 3 1, 3), (134, .goto (-23), 3), (137, .iinc 1 1, 3), (140, .goto (-127), 3), (143, .return_, 1)]
theorem gdX11_findStagger_l123 : dok cX11_findStagger dX11_findStagger_l123 = true := by decide +kernel
theorem dX11_findStagger_123 : decode cX11_findStagger 123 = .ok (.iload_n 3, 1) := dok_at gdX11_findStagger_l123 0 rfl
theorem dX11_findStagger_124 : decode cX11_findStagger 124 = .ok (.aload_n 0, 1) := dok_at gdX11_findStagger_l123 1 rfl
theorem dX11_findStagger_125 : decode cX11_findStagger 125 = .ok (.getfield 77, 3) := dok_at gdX11_findStagger_l123 2 rfl
theorem dX11_findStagger_128 : decode cX11_findStagger 128 = .ok (.iload_n 3, 1) := dok_at gdX11_findStagger_l123 3 rfl
theorem dX11_findStagger_129 : decode cX11_findStagger 129 = .ok (.iaload, 1) := dok_at gdX11_findStagger_l123 4 rfl
theorem dX11_findStagger_130 : decode cX11_findStagger 130 = .ok (.iastore, 1) := dok_at gdX11_findStagger_l123 5 rfl
theorem dX11_findStagger_131 : decode cX11_findStagger 131 = .ok (.iinc 3 1, 3) := dok_at gdX11_findStagger_l123 6 rfl
theorem dX11_findStagger_134 : decode cX11_findStagger 134 = .ok (.goto (-23), 3) := dok_at gdX11_findStagger_l123 7 rfl
theorem dX11_findStagger_137 : decode cX11_findStagger 137 = .ok (.iinc 1 1, 3) := dok_at gdX11_findStagger_l123 8 rfl
theorem dX11_findStagger_140 : decode cX11_findStagger 140 = .ok (.goto (-127), 3) := dok_at gdX11_findStagger_l123 9 rfl
theorem dX11_findStagger_143 : decode cX11_findStagger 143 = .ok (.return_, 1) := dok_at gdX11_findStagger_l123 10 rfl
def dX11_adopt_l0 : List (Nat × Instr × Nat) := [(0, .aload_n 0, 1), (1, .getfield 121, 3), (4, .bipush 6, 2), (6, .if_icmp .le 6, 3), (9, .bipush (-2), 2), (11, .ireturn, 1), (12, .aload_n 0, 1), (13, .invokevirtual 369, 3), (16, .iconst 0, 1), (17, .istore_n 1, 1), (18, .iload_n 1, 1), (19, .aload_n 0, 1), (20, .getfield 121, 3), (23, .if_icmp .ge 35, 3), (26, .aload_n 0, 1), (27, .getfield 361, 3), (30, .bipush (-4), 2), (32, .if_icmp .eq 26, 3), (35, .aload_n 0, 1), (36, .getfield 7, 3), (39, .bipush 7, 2), (41, .iload_n 1, 1), (42, .imul, 1), (43, .iconst 5, 1)]
theorem gdX11_adopt_l0 : dok cX11_adopt dX11_adopt_l0 = true := by decide +kernel
theorem dX11_adopt_0 : decode cX11_adopt 0 = .ok (.aload_n 0, 1) := dok_at gdX11_adopt_l0 0 rfl
theorem dX11_adopt_1 : decode cX11_adopt 1 = .ok (.getfield 121, 3) := dok_at gdX11_adopt_l0 1 rfl
theorem dX11_adopt_4 : decode cX11_adopt 4 = .ok (.bipush 6, 2) := dok_at gdX11_adopt_l0 2 rfl
theorem dX11_adopt_6 : decode cX11_adopt 6 = .ok (.if_icmp .le 6, 3) := dok_at gdX11_adopt_l0 3 rfl
theorem dX11_adopt_9 : decode cX11_adopt 9 = .ok (.bipush (-2), 2) := dok_at gdX11_adopt_l0 4 rfl
theorem dX11_adopt_11 : decode cX11_adopt 11 = .ok (.ireturn, 1) := dok_at gdX11_adopt_l0 5 rfl
theorem dX11_adopt_12 : decode cX11_adopt 12 = .ok (.aload_n 0, 1) := dok_at gdX11_adopt_l0 6 rfl
theorem dX11_adopt_13 : decode cX11_adopt 13 = .ok (.invokevirtual 369, 3) := dok_at gdX11_adopt_l0 7 rfl
theorem dX11_adopt_16 : decode cX11_adopt 16 = .ok (.iconst 0, 1) := dok_at gdX11_adopt_l0 8 rfl
theorem dX11_adopt_17 : decode cX11_adopt 17 = .ok (.istore_n 1, 1) := dok_at gdX11_adopt_l0 9 rfl
theorem dX11_adopt_18 : decode cX11_adopt 18 = .ok (.iload_n 1, 1) := dok_at gdX11_adopt_l0 10 rfl
theorem dX11_adopt_19 : decode cX11_adopt 19 = .ok (.aload_n 0, 1) := dok_at gdX11_adopt_l0 11 rfl
theorem dX11_adopt_20 : decode cX11_adopt 20 = .ok (.getfield 121, 3) := dok_at gdX11_adopt_l0 12 rfl
theorem dX11_adopt_23 : decode cX11_adopt 23 = .ok (.if_icmp .ge 35, 3) := dok_at gdX11_adopt_l0 13 rfl
theorem dX11_adopt_26 : decode cX11_adopt 26 = .ok (.aload_n 0, 1) := dok_at gdX11_adopt_l0 14 rfl
theorem dX11_adopt_27 : decode cX11_adopt 27 = .ok (.getfield 361, 3) := dok_at gdX11_adopt_l0 15 rfl
theorem dX11_adopt_30 : decode cX11_adopt 30 = .ok (.bipush (-4), 2) := dok_at gdX11_adopt_l0 16 rfl
theorem dX11_adopt_32 : decode cX11_adopt 32 = .ok (.if_icmp .eq 26, 3) := dok_at gdX11_adopt_l0 17 rfl
theorem dX11_adopt_35 : decode cX11_adopt 35 = .ok (.aload_n 0, 1) := dok_at gdX11_adopt_l0 18 rfl
theorem dX11_adopt_36 : decode cX11_adopt 36 = .ok (.getfield 7, 3) := dok_at gdX11_adopt_l0 19 rfl
theorem dX11_adopt_39 : decode cX11_adopt 39 = .ok (.bipush 7, 2) := dok_at gdX11_adopt_l0 20 rfl
theorem dX11_adopt_41 : decode cX11_adopt 41 = .ok (.iload_n 1, 1) := dok_at gdX11_adopt_l0 21 rfl
theorem dX11_adopt_42 : decode cX11_adopt 42 = .ok (.imul, 1) := dok_at gdX11_adopt_l0 22 rfl
theorem dX11_adopt_43 : decode cX11_adopt 43 = .ok (.iconst 5, 1) := dok_at gdX11_adopt_l0 23 rfl
def dX11_adopt_l44 : List (Nat × Instr × Nat) := [(44, .iadd, 1), (45, .aload_n 0, 1), (46, .getfield 80, 3), (49, .iload_n 1, 1), (50, .iaload, 1), (51, .iastore, 1), (52, .iinc 1 1, 3), (55, .goto (-37), 3), (58, .aload_n 0, 1), (59, .getfield 361, 3), (62, .ireturn, 1)]
theorem gdX11_adopt_l44 : dok cX11_adopt dX11_adopt_l44 = true := by decide +kernel
theorem dX11_adopt_44 : decode cX11_adopt 44 = .ok (.iadd, 1) := dok_at gdX11_adopt_l44 0 rfl
theorem dX11_adopt_45 : decode cX11_adopt 45 = .ok (.aload_n 0, 1) := dok_at gdX11_adopt_l44 1 rfl
theorem dX11_adopt_46 : decode cX11_adopt 46 = .ok (.getfield 80, 3) := dok_at gdX11_adopt_l44 2 rfl
theorem dX11_adopt_49 : decode cX11_adopt 49 = .ok (.iload_n 1, 1) := dok_at gdX11_adopt_l44 3 rfl
theorem dX11_adopt_50 : decode cX11_adopt 50 = .ok (.iaload, 1) := dok_at gdX11_adopt_l44 4 rfl
theorem dX11_adopt_51 : decode cX11_adopt 51 = .ok (.iastore, 1) := dok_at gdX11_adopt_l44 5 rfl
theorem dX11_adopt_52 : decode cX11_adopt 52 = .ok (.iinc 1 1, 3) := dok_at gdX11_adopt_l44 6 rfl
theorem dX11_adopt_55 : decode cX11_adopt 55 = .ok (.goto (-37), 3) := dok_at gdX11_adopt_l44 7 rfl
theorem dX11_adopt_58 : decode cX11_adopt 58 = .ok (.aload_n 0, 1) := dok_at gdX11_adopt_l44 8 rfl
theorem dX11_adopt_59 : decode cX11_adopt 59 = .ok (.getfield 361, 3) := dok_at gdX11_adopt_l44 9 rfl
theorem dX11_adopt_62 : decode cX11_adopt 62 = .ok (.ireturn, 1) := dok_at gdX11_adopt_l44 10 rfl
def dX11_down_l0 : List (Nat × Instr × Nat) := [(0, .aload_n 0, 1), (1, .iload_n 1, 1), (2, .invokevirtual 372, 3), (5, .ifCond .eq 27, 3), (8, .aload_n 0, 1), (9, .aload_n 0, 1), (10, .invokevirtual 324, 3), (13, .invokevirtual 327, 3), (16, .aload_n 0, 1), (17, .aload_n 0, 1), (18, .invokevirtual 324, 3), (21, .iload_n 1, 1), (22, .ior, 1), (23, .invokevirtual 327, 3), (26, .iconst (-1), 1), (27, .ixor, 1), (28, .iand, 1), (29, .goto 4, 3), (32, .iconst (-1), 1), (33, .ireturn, 1)]
theorem gdX11_down_l0 : dok cX11_down dX11_down_l0 = true := by decide +kernel
theorem dX11_down_0 : decode cX11_down 0 = .ok (.aload_n 0, 1) := dok_at gdX11_down_l0 0 rfl
theorem dX11_down_1 : decode cX11_down 1 = .ok (.iload_n 1, 1) := dok_at gdX11_down_l0 1 rfl
theorem dX11_down_2 : decode cX11_down 2 = .ok (.invokevirtual 372, 3) := dok_at gdX11_down_l0 2 rfl
theorem dX11_down_5 : decode cX11_down 5 = .ok (.ifCond .eq 27, 3) := dok_at gdX11_down_l0 3 rfl
theorem dX11_down_8 : decode cX11_down 8 = .ok (.aload_n 0, 1) := dok_at gdX11_down_l0 4 rfl
theorem dX11_down_9 : decode cX11_down 9 = .ok (.aload_n 0, 1) := dok_at gdX11_down_l0 5 rfl
theorem dX11_down_10 : decode cX11_down 10 = .ok (.invokevirtual 324, 3) := dok_at gdX11_down_l0 6 rfl
theorem dX11_down_13 : decode cX11_down 13 = .ok (.invokevirtual 327, 3) := dok_at gdX11_down_l0 7 rfl
theorem dX11_down_16 : decode cX11_down 16 = .ok (.aload_n 0, 1) := dok_at gdX11_down_l0 8 rfl
theorem dX11_down_17 : decode cX11_down 17 = .ok (.aload_n 0, 1) := dok_at gdX11_down_l0 9 rfl
theorem dX11_down_18 : decode cX11_down 18 = .ok (.invokevirtual 324, 3) := dok_at gdX11_down_l0 10 rfl
theorem dX11_down_21 : decode cX11_down 21 = .ok (.iload_n 1, 1) := dok_at gdX11_down_l0 11 rfl
theorem dX11_down_22 : decode cX11_down 22 = .ok (.ior, 1) := dok_at gdX11_down_l0 12 rfl
theorem dX11_down_23 : decode cX11_down 23 = .ok (.invokevirtual 327, 3) := dok_at gdX11_down_l0 13 rfl
theorem dX11_down_26 : decode cX11_down 26 = .ok (.iconst (-1), 1) := dok_at gdX11_down_l0 14 rfl
theorem dX11_down_27 : decode cX11_down 27 = .ok (.ixor, 1) := dok_at gdX11_down_l0 15 rfl
theorem dX11_down_28 : decode cX11_down 28 = .ok (.iand, 1) := dok_at gdX11_down_l0 16 rfl
theorem dX11_down_29 : decode cX11_down 29 = .ok (.goto 4, 3) := dok_at gdX11_down_l0 17 rfl
theorem dX11_down_32 : decode cX11_down 32 = .ok (.iconst (-1), 1) := dok_at gdX11_down_l0 18 rfl
theorem dX11_down_33 : decode cX11_down 33 = .ok (.ireturn, 1) := dok_at gdX11_down_l0 19 rfl
def dX11_isUp_l0 : List (Nat × Instr × Nat) := [(0, .aload_n 0, 1), (1, .iload_n 2, 1), (2, .invokevirtual 327, 3), (5, .iload_n 1, 1), (6, .ishr, 1), (7, .iconst 1, 1), (8, .iand, 1), (9, .iconst 1, 1), (10, .if_icmp .ne 7, 3), (13, .iconst 1, 1), (14, .goto 4, 3), (17, .iconst 0, 1), (18, .ireturn, 1)]
theorem gdX11_isUp_l0 : dok cX11_isUp dX11_isUp_l0 = true := by decide +kernel
theorem dX11_isUp_0 : decode cX11_isUp 0 = .ok (.aload_n 0, 1) := dok_at gdX11_isUp_l0 0 rfl
theorem dX11_isUp_1 : decode cX11_isUp 1 = .ok (.iload_n 2, 1) := dok_at gdX11_isUp_l0 1 rfl
theorem dX11_isUp_2 : decode cX11_isUp 2 = .ok (.invokevirtual 327, 3) := dok_at gdX11_isUp_l0 2 rfl
theorem dX11_isUp_5 : decode cX11_isUp 5 = .ok (.iload_n 1, 1) := dok_at gdX11_isUp_l0 3 rfl
theorem dX11_isUp_6 : decode cX11_isUp 6 = .ok (.ishr, 1) := dok_at gdX11_isUp_l0 4 rfl
theorem dX11_isUp_7 : decode cX11_isUp 7 = .ok (.iconst 1, 1) := dok_at gdX11_isUp_l0 5 rfl
theorem dX11_isUp_8 : decode cX11_isUp 8 = .ok (.iand, 1) := dok_at gdX11_isUp_l0 6 rfl
theorem dX11_isUp_9 : decode cX11_isUp 9 = .ok (.iconst 1, 1) := dok_at gdX11_isUp_l0 7 rfl
theorem dX11_isUp_10 : decode cX11_isUp 10 = .ok (.if_icmp .ne 7, 3) := dok_at gdX11_isUp_l0 8 rfl
theorem dX11_isUp_13 : decode cX11_isUp 13 = .ok (.iconst 1, 1) := dok_at gdX11_isUp_l0 9 rfl
theorem dX11_isUp_14 : decode cX11_isUp 14 = .ok (.goto 4, 3) := dok_at gdX11_isUp_l0 10 rfl
theorem dX11_isUp_17 : decode cX11_isUp 17 = .ok (.iconst 0, 1) := dok_at gdX11_isUp_l0 11 rfl
theorem dX11_isUp_18 : decode cX11_isUp 18 = .ok (.ireturn, 1) := dok_at gdX11_isUp_l0 12 rfl
def dX11_cut_l0 : List (Nat × Instr × Nat) := [(0, .aload_n 0, 1), (1, .iload_n 1, 1), (2, .invokevirtual 248, 3), (5, .ifCond .eq 13, 3), (8, .iload_n 2, 1), (9, .i2l, 1), (10, .lconst 0, 1), (11, .lconst 1, 1), (12, .invokestatic 141, 3), (15, .ifCond .ne 5, 3), (18, .iconst (-1), 1), (19, .ireturn, 1), (20, .aload_n 0, 1), (21, .iload_n 1, 1), (22, .aload_n 0, 1), (23, .invokevirtual 324, 3), (26, .invokevirtual 375, 3), (29, .ifCond .ne 6, 3), (32, .bipush (-2), 2), (34, .ireturn, 1), (35, .bipush (-4), 2), (37, .istore_n 3, 1), (38, .iconst 0, 1), (39, .istore 4, 2)]
theorem gdX11_cut_l0 : dok cX11_cut dX11_cut_l0 = true := by decide +kernel
theorem dX11_cut_0 : decode cX11_cut 0 = .ok (.aload_n 0, 1) := dok_at gdX11_cut_l0 0 rfl
theorem dX11_cut_1 : decode cX11_cut 1 = .ok (.iload_n 1, 1) := dok_at gdX11_cut_l0 1 rfl
theorem dX11_cut_2 : decode cX11_cut 2 = .ok (.invokevirtual 248, 3) := dok_at gdX11_cut_l0 2 rfl
theorem dX11_cut_5 : decode cX11_cut 5 = .ok (.ifCond .eq 13, 3) := dok_at gdX11_cut_l0 3 rfl
theorem dX11_cut_8 : decode cX11_cut 8 = .ok (.iload_n 2, 1) := dok_at gdX11_cut_l0 4 rfl
theorem dX11_cut_9 : decode cX11_cut 9 = .ok (.i2l, 1) := dok_at gdX11_cut_l0 5 rfl
theorem dX11_cut_10 : decode cX11_cut 10 = .ok (.lconst 0, 1) := dok_at gdX11_cut_l0 6 rfl
theorem dX11_cut_11 : decode cX11_cut 11 = .ok (.lconst 1, 1) := dok_at gdX11_cut_l0 7 rfl
theorem dX11_cut_12 : decode cX11_cut 12 = .ok (.invokestatic 141, 3) := dok_at gdX11_cut_l0 8 rfl
theorem dX11_cut_15 : decode cX11_cut 15 = .ok (.ifCond .ne 5, 3) := dok_at gdX11_cut_l0 9 rfl
theorem dX11_cut_18 : decode cX11_cut 18 = .ok (.iconst (-1), 1) := dok_at gdX11_cut_l0 10 rfl
theorem dX11_cut_19 : decode cX11_cut 19 = .ok (.ireturn, 1) := dok_at gdX11_cut_l0 11 rfl
theorem dX11_cut_20 : decode cX11_cut 20 = .ok (.aload_n 0, 1) := dok_at gdX11_cut_l0 12 rfl
theorem dX11_cut_21 : decode cX11_cut 21 = .ok (.iload_n 1, 1) := dok_at gdX11_cut_l0 13 rfl
theorem dX11_cut_22 : decode cX11_cut 22 = .ok (.aload_n 0, 1) := dok_at gdX11_cut_l0 14 rfl
theorem dX11_cut_23 : decode cX11_cut 23 = .ok (.invokevirtual 324, 3) := dok_at gdX11_cut_l0 15 rfl
theorem dX11_cut_26 : decode cX11_cut 26 = .ok (.invokevirtual 375, 3) := dok_at gdX11_cut_l0 16 rfl
theorem dX11_cut_29 : decode cX11_cut 29 = .ok (.ifCond .ne 6, 3) := dok_at gdX11_cut_l0 17 rfl
theorem dX11_cut_32 : decode cX11_cut 32 = .ok (.bipush (-2), 2) := dok_at gdX11_cut_l0 18 rfl
theorem dX11_cut_34 : decode cX11_cut 34 = .ok (.ireturn, 1) := dok_at gdX11_cut_l0 19 rfl
theorem dX11_cut_35 : decode cX11_cut 35 = .ok (.bipush (-4), 2) := dok_at gdX11_cut_l0 20 rfl
theorem dX11_cut_37 : decode cX11_cut 37 = .ok (.istore_n 3, 1) := dok_at gdX11_cut_l0 21 rfl
theorem dX11_cut_38 : decode cX11_cut 38 = .ok (.iconst 0, 1) := dok_at gdX11_cut_l0 22 rfl
theorem dX11_cut_39 : decode cX11_cut 39 = .ok (.istore 4, 2) := dok_at gdX11_cut_l0 23 rfl
def dX11_cut_l41 : List (Nat × Instr × Nat) := [(41, .iload 4, 2), (43, .iconst 1, 1), (44, .aload_n 0, 1), (45, .getfield 121, 3), (48, .ishl, 1), (49, .if_icmp .ge 70, 3), (52, .iload 4, 2), (54, .iload_n 1, 1), (55, .ishr, 1), (56, .iconst 1, 1), (57, .iand, 1), (58, .ifCond .ne 25, 3), (61, .iload_n 3, 1), (62, .bipush (-4), 2), (64, .if_icmp .eq 15, 3), (67, .iload 4, 2), (69, .invokestatic 378, 3), (72, .iload_n 3, 1), (73, .invokestatic 378, 3), (76, .if_icmp .ge 7, 3), (79, .iconst 1, 1), (80, .goto 4, 3), (83, .iconst 0, 1), (84, .istore 5, 2)]
theorem gdX11_cut_l41 : dok cX11_cut dX11_cut_l41 = true := by decide +kernel
theorem dX11_cut_41 : decode cX11_cut 41 = .ok (.iload 4, 2) := dok_at gdX11_cut_l41 0 rfl
theorem dX11_cut_43 : decode cX11_cut 43 = .ok (.iconst 1, 1) := dok_at gdX11_cut_l41 1 rfl
theorem dX11_cut_44 : decode cX11_cut 44 = .ok (.aload_n 0, 1) := dok_at gdX11_cut_l41 2 rfl
theorem dX11_cut_45 : decode cX11_cut 45 = .ok (.getfield 121, 3) := dok_at gdX11_cut_l41 3 rfl
theorem dX11_cut_48 : decode cX11_cut 48 = .ok (.ishl, 1) := dok_at gdX11_cut_l41 4 rfl
theorem dX11_cut_49 : decode cX11_cut 49 = .ok (.if_icmp .ge 70, 3) := dok_at gdX11_cut_l41 5 rfl
theorem dX11_cut_52 : decode cX11_cut 52 = .ok (.iload 4, 2) := dok_at gdX11_cut_l41 6 rfl
theorem dX11_cut_54 : decode cX11_cut 54 = .ok (.iload_n 1, 1) := dok_at gdX11_cut_l41 7 rfl
theorem dX11_cut_55 : decode cX11_cut 55 = .ok (.ishr, 1) := dok_at gdX11_cut_l41 8 rfl
theorem dX11_cut_56 : decode cX11_cut 56 = .ok (.iconst 1, 1) := dok_at gdX11_cut_l41 9 rfl
theorem dX11_cut_57 : decode cX11_cut 57 = .ok (.iand, 1) := dok_at gdX11_cut_l41 10 rfl
theorem dX11_cut_58 : decode cX11_cut 58 = .ok (.ifCond .ne 25, 3) := dok_at gdX11_cut_l41 11 rfl
theorem dX11_cut_61 : decode cX11_cut 61 = .ok (.iload_n 3, 1) := dok_at gdX11_cut_l41 12 rfl
theorem dX11_cut_62 : decode cX11_cut 62 = .ok (.bipush (-4), 2) := dok_at gdX11_cut_l41 13 rfl
theorem dX11_cut_64 : decode cX11_cut 64 = .ok (.if_icmp .eq 15, 3) := dok_at gdX11_cut_l41 14 rfl
theorem dX11_cut_67 : decode cX11_cut 67 = .ok (.iload 4, 2) := dok_at gdX11_cut_l41 15 rfl
theorem dX11_cut_69 : decode cX11_cut 69 = .ok (.invokestatic 378, 3) := dok_at gdX11_cut_l41 16 rfl
theorem dX11_cut_72 : decode cX11_cut 72 = .ok (.iload_n 3, 1) := dok_at gdX11_cut_l41 17 rfl
theorem dX11_cut_73 : decode cX11_cut 73 = .ok (.invokestatic 378, 3) := dok_at gdX11_cut_l41 18 rfl
theorem dX11_cut_76 : decode cX11_cut 76 = .ok (.if_icmp .ge 7, 3) := dok_at gdX11_cut_l41 19 rfl
theorem dX11_cut_79 : decode cX11_cut 79 = .ok (.iconst 1, 1) := dok_at gdX11_cut_l41 20 rfl
theorem dX11_cut_80 : decode cX11_cut 80 = .ok (.goto 4, 3) := dok_at gdX11_cut_l41 21 rfl
theorem dX11_cut_83 : decode cX11_cut 83 = .ok (.iconst 0, 1) := dok_at gdX11_cut_l41 22 rfl
theorem dX11_cut_84 : decode cX11_cut 84 = .ok (.istore 5, 2) := dok_at gdX11_cut_l41 23 rfl
def dX11_cut_l86 : List (Nat × Instr × Nat) := [(86, .iload 5, 2), (88, .ifCond .eq 23, 3), (91, .aload_n 0, 1), (92, .iload_n 1, 1), (93, .aload_n 0, 1), (94, .invokevirtual 324, 3), (97, .iload 4, 2), (99, .ior, 1), (100, .invokevirtual 375, 3), (103, .ifCond .ne 8, 3), (106, .iload 4, 2), (108, .goto 4, 3), (111, .iload_n 3, 1), (112, .istore_n 3, 1), (113, .iinc 4 1, 3), (116, .goto (-75), 3), (119, .iload_n 3, 1), (120, .bipush (-4), 2), (122, .if_icmp .ne 8, 3), (125, .bipush (-4), 2), (127, .goto 15, 3), (130, .iload_n 2, 1), (131, .ifCond .ne 10, 3), (134, .iload_n 3, 1)]
theorem gdX11_cut_l86 : dok cX11_cut dX11_cut_l86 = true := by decide +kernel
theorem dX11_cut_86 : decode cX11_cut 86 = .ok (.iload 5, 2) := dok_at gdX11_cut_l86 0 rfl
theorem dX11_cut_88 : decode cX11_cut 88 = .ok (.ifCond .eq 23, 3) := dok_at gdX11_cut_l86 1 rfl
theorem dX11_cut_91 : decode cX11_cut 91 = .ok (.aload_n 0, 1) := dok_at gdX11_cut_l86 2 rfl
theorem dX11_cut_92 : decode cX11_cut 92 = .ok (.iload_n 1, 1) := dok_at gdX11_cut_l86 3 rfl
theorem dX11_cut_93 : decode cX11_cut 93 = .ok (.aload_n 0, 1) := dok_at gdX11_cut_l86 4 rfl
theorem dX11_cut_94 : decode cX11_cut 94 = .ok (.invokevirtual 324, 3) := dok_at gdX11_cut_l86 5 rfl
theorem dX11_cut_97 : decode cX11_cut 97 = .ok (.iload 4, 2) := dok_at gdX11_cut_l86 6 rfl
theorem dX11_cut_99 : decode cX11_cut 99 = .ok (.ior, 1) := dok_at gdX11_cut_l86 7 rfl
theorem dX11_cut_100 : decode cX11_cut 100 = .ok (.invokevirtual 375, 3) := dok_at gdX11_cut_l86 8 rfl
theorem dX11_cut_103 : decode cX11_cut 103 = .ok (.ifCond .ne 8, 3) := dok_at gdX11_cut_l86 9 rfl
theorem dX11_cut_106 : decode cX11_cut 106 = .ok (.iload 4, 2) := dok_at gdX11_cut_l86 10 rfl
theorem dX11_cut_108 : decode cX11_cut 108 = .ok (.goto 4, 3) := dok_at gdX11_cut_l86 11 rfl
theorem dX11_cut_111 : decode cX11_cut 111 = .ok (.iload_n 3, 1) := dok_at gdX11_cut_l86 12 rfl
theorem dX11_cut_112 : decode cX11_cut 112 = .ok (.istore_n 3, 1) := dok_at gdX11_cut_l86 13 rfl
theorem dX11_cut_113 : decode cX11_cut 113 = .ok (.iinc 4 1, 3) := dok_at gdX11_cut_l86 14 rfl
theorem dX11_cut_116 : decode cX11_cut 116 = .ok (.goto (-75), 3) := dok_at gdX11_cut_l86 15 rfl
theorem dX11_cut_119 : decode cX11_cut 119 = .ok (.iload_n 3, 1) := dok_at gdX11_cut_l86 16 rfl
theorem dX11_cut_120 : decode cX11_cut 120 = .ok (.bipush (-4), 2) := dok_at gdX11_cut_l86 17 rfl
theorem dX11_cut_122 : decode cX11_cut 122 = .ok (.if_icmp .ne 8, 3) := dok_at gdX11_cut_l86 18 rfl
theorem dX11_cut_125 : decode cX11_cut 125 = .ok (.bipush (-4), 2) := dok_at gdX11_cut_l86 19 rfl
theorem dX11_cut_127 : decode cX11_cut 127 = .ok (.goto 15, 3) := dok_at gdX11_cut_l86 20 rfl
theorem dX11_cut_130 : decode cX11_cut 130 = .ok (.iload_n 2, 1) := dok_at gdX11_cut_l86 21 rfl
theorem dX11_cut_131 : decode cX11_cut 131 = .ok (.ifCond .ne 10, 3) := dok_at gdX11_cut_l86 22 rfl
theorem dX11_cut_134 : decode cX11_cut 134 = .ok (.iload_n 3, 1) := dok_at gdX11_cut_l86 23 rfl
def dX11_cut_l135 : List (Nat × Instr × Nat) := [(135, .invokestatic 378, 3), (138, .goto 4, 3), (141, .iload_n 3, 1), (142, .ireturn, 1)]
theorem gdX11_cut_l135 : dok cX11_cut dX11_cut_l135 = true := by decide +kernel
theorem dX11_cut_135 : decode cX11_cut 135 = .ok (.invokestatic 378, 3) := dok_at gdX11_cut_l135 0 rfl
theorem dX11_cut_138 : decode cX11_cut 138 = .ok (.goto 4, 3) := dok_at gdX11_cut_l135 1 rfl
theorem dX11_cut_141 : decode cX11_cut 141 = .ok (.iload_n 3, 1) := dok_at gdX11_cut_l135 2 rfl
theorem dX11_cut_142 : decode cX11_cut 142 = .ok (.ireturn, 1) := dok_at gdX11_cut_l135 3 rfl
def dX11_must_l0 : List (Nat × Instr × Nat) := [(0, .aload_n 0, 1), (1, .iload_n 1, 1), (2, .invokevirtual 248, 3), (5, .ifCond .ne 5, 3), (8, .iconst (-1), 1), (9, .ireturn, 1), (10, .aload_n 0, 1), (11, .iload_n 1, 1), (12, .aload_n 0, 1), (13, .invokevirtual 324, 3), (16, .invokevirtual 375, 3), (19, .ifCond .ne 6, 3), (22, .bipush (-2), 2), (24, .ireturn, 1), (25, .iconst 0, 1), (26, .istore_n 2, 1), (27, .iconst 0, 1), (28, .istore_n 3, 1), (29, .iload_n 3, 1), (30, .aload_n 0, 1), (31, .getfield 121, 3), (34, .if_icmp .ge 35, 3), (37, .iload_n 2, 1), (38, .aload_n 0, 1)]
theorem gdX11_must_l0 : dok cX11_must dX11_must_l0 = true := by decide +kernel
theorem dX11_must_0 : decode cX11_must 0 = .ok (.aload_n 0, 1) := dok_at gdX11_must_l0 0 rfl
theorem dX11_must_1 : decode cX11_must 1 = .ok (.iload_n 1, 1) := dok_at gdX11_must_l0 1 rfl
theorem dX11_must_2 : decode cX11_must 2 = .ok (.invokevirtual 248, 3) := dok_at gdX11_must_l0 2 rfl
theorem dX11_must_5 : decode cX11_must 5 = .ok (.ifCond .ne 5, 3) := dok_at gdX11_must_l0 3 rfl
theorem dX11_must_8 : decode cX11_must 8 = .ok (.iconst (-1), 1) := dok_at gdX11_must_l0 4 rfl
theorem dX11_must_9 : decode cX11_must 9 = .ok (.ireturn, 1) := dok_at gdX11_must_l0 5 rfl
theorem dX11_must_10 : decode cX11_must 10 = .ok (.aload_n 0, 1) := dok_at gdX11_must_l0 6 rfl
theorem dX11_must_11 : decode cX11_must 11 = .ok (.iload_n 1, 1) := dok_at gdX11_must_l0 7 rfl
theorem dX11_must_12 : decode cX11_must 12 = .ok (.aload_n 0, 1) := dok_at gdX11_must_l0 8 rfl
theorem dX11_must_13 : decode cX11_must 13 = .ok (.invokevirtual 324, 3) := dok_at gdX11_must_l0 9 rfl
theorem dX11_must_16 : decode cX11_must 16 = .ok (.invokevirtual 375, 3) := dok_at gdX11_must_l0 10 rfl
theorem dX11_must_19 : decode cX11_must 19 = .ok (.ifCond .ne 6, 3) := dok_at gdX11_must_l0 11 rfl
theorem dX11_must_22 : decode cX11_must 22 = .ok (.bipush (-2), 2) := dok_at gdX11_must_l0 12 rfl
theorem dX11_must_24 : decode cX11_must 24 = .ok (.ireturn, 1) := dok_at gdX11_must_l0 13 rfl
theorem dX11_must_25 : decode cX11_must 25 = .ok (.iconst 0, 1) := dok_at gdX11_must_l0 14 rfl
theorem dX11_must_26 : decode cX11_must 26 = .ok (.istore_n 2, 1) := dok_at gdX11_must_l0 15 rfl
theorem dX11_must_27 : decode cX11_must 27 = .ok (.iconst 0, 1) := dok_at gdX11_must_l0 16 rfl
theorem dX11_must_28 : decode cX11_must 28 = .ok (.istore_n 3, 1) := dok_at gdX11_must_l0 17 rfl
theorem dX11_must_29 : decode cX11_must 29 = .ok (.iload_n 3, 1) := dok_at gdX11_must_l0 18 rfl
theorem dX11_must_30 : decode cX11_must 30 = .ok (.aload_n 0, 1) := dok_at gdX11_must_l0 19 rfl
theorem dX11_must_31 : decode cX11_must 31 = .ok (.getfield 121, 3) := dok_at gdX11_must_l0 20 rfl
theorem dX11_must_34 : decode cX11_must 34 = .ok (.if_icmp .ge 35, 3) := dok_at gdX11_must_l0 21 rfl
theorem dX11_must_37 : decode cX11_must 37 = .ok (.iload_n 2, 1) := dok_at gdX11_must_l0 22 rfl
theorem dX11_must_38 : decode cX11_must 38 = .ok (.aload_n 0, 1) := dok_at gdX11_must_l0 23 rfl
def dX11_must_l39 : List (Nat × Instr × Nat) := [(39, .iload_n 1, 1), (40, .aload_n 0, 1), (41, .invokevirtual 324, 3), (44, .iconst 1, 1), (45, .iload_n 3, 1), (46, .ishl, 1), (47, .ior, 1), (48, .invokevirtual 375, 3), (51, .ifCond .eq 7, 3), (54, .iconst 0, 1), (55, .goto 6, 3), (58, .iconst 1, 1), (59, .iload_n 3, 1), (60, .ishl, 1), (61, .ior, 1), (62, .istore_n 2, 1), (63, .iinc 3 1, 3), (66, .goto (-37), 3), (69, .iload_n 2, 1), (70, .ireturn, 1)]
theorem gdX11_must_l39 : dok cX11_must dX11_must_l39 = true := by decide +kernel
theorem dX11_must_39 : decode cX11_must 39 = .ok (.iload_n 1, 1) := dok_at gdX11_must_l39 0 rfl
theorem dX11_must_40 : decode cX11_must 40 = .ok (.aload_n 0, 1) := dok_at gdX11_must_l39 1 rfl
theorem dX11_must_41 : decode cX11_must 41 = .ok (.invokevirtual 324, 3) := dok_at gdX11_must_l39 2 rfl
theorem dX11_must_44 : decode cX11_must 44 = .ok (.iconst 1, 1) := dok_at gdX11_must_l39 3 rfl
theorem dX11_must_45 : decode cX11_must 45 = .ok (.iload_n 3, 1) := dok_at gdX11_must_l39 4 rfl
theorem dX11_must_46 : decode cX11_must 46 = .ok (.ishl, 1) := dok_at gdX11_must_l39 5 rfl
theorem dX11_must_47 : decode cX11_must 47 = .ok (.ior, 1) := dok_at gdX11_must_l39 6 rfl
theorem dX11_must_48 : decode cX11_must 48 = .ok (.invokevirtual 375, 3) := dok_at gdX11_must_l39 7 rfl
theorem dX11_must_51 : decode cX11_must 51 = .ok (.ifCond .eq 7, 3) := dok_at gdX11_must_l39 8 rfl
theorem dX11_must_54 : decode cX11_must 54 = .ok (.iconst 0, 1) := dok_at gdX11_must_l39 9 rfl
theorem dX11_must_55 : decode cX11_must 55 = .ok (.goto 6, 3) := dok_at gdX11_must_l39 10 rfl
theorem dX11_must_58 : decode cX11_must 58 = .ok (.iconst 1, 1) := dok_at gdX11_must_l39 11 rfl
theorem dX11_must_59 : decode cX11_must 59 = .ok (.iload_n 3, 1) := dok_at gdX11_must_l39 12 rfl
theorem dX11_must_60 : decode cX11_must 60 = .ok (.ishl, 1) := dok_at gdX11_must_l39 13 rfl
theorem dX11_must_61 : decode cX11_must 61 = .ok (.ior, 1) := dok_at gdX11_must_l39 14 rfl
theorem dX11_must_62 : decode cX11_must 62 = .ok (.istore_n 2, 1) := dok_at gdX11_must_l39 15 rfl
theorem dX11_must_63 : decode cX11_must 63 = .ok (.iinc 3 1, 3) := dok_at gdX11_must_l39 16 rfl
theorem dX11_must_66 : decode cX11_must 66 = .ok (.goto (-37), 3) := dok_at gdX11_must_l39 17 rfl
theorem dX11_must_69 : decode cX11_must 69 = .ok (.iload_n 2, 1) := dok_at gdX11_must_l39 18 rfl
theorem dX11_must_70 : decode cX11_must 70 = .ok (.ireturn, 1) := dok_at gdX11_must_l39 19 rfl
def dX11_isSheet_l0 : List (Nat × Instr × Nat) := [(0, .iload_n 0, 1), (1, .i2l, 1), (2, .lconst 0, 1), (3, .ldc2_w 356, 3), (6, .invokestatic 141, 3), (9, .ifCond .eq 19, 3), (12, .iload_n 1, 1), (13, .i2l, 1), (14, .lconst 0, 1), (15, .ldc2_w 322, 3), (18, .invokestatic 141, 3), (21, .ifCond .eq 7, 3), (24, .iconst 1, 1), (25, .goto 4, 3), (28, .iconst 0, 1), (29, .ireturn, 1)]
theorem gdX11_isSheet_l0 : dok cX11_isSheet dX11_isSheet_l0 = true := by decide +kernel
theorem dX11_isSheet_0 : decode cX11_isSheet 0 = .ok (.iload_n 0, 1) := dok_at gdX11_isSheet_l0 0 rfl
theorem dX11_isSheet_1 : decode cX11_isSheet 1 = .ok (.i2l, 1) := dok_at gdX11_isSheet_l0 1 rfl
theorem dX11_isSheet_2 : decode cX11_isSheet 2 = .ok (.lconst 0, 1) := dok_at gdX11_isSheet_l0 2 rfl
theorem dX11_isSheet_3 : decode cX11_isSheet 3 = .ok (.ldc2_w 356, 3) := dok_at gdX11_isSheet_l0 3 rfl
theorem dX11_isSheet_6 : decode cX11_isSheet 6 = .ok (.invokestatic 141, 3) := dok_at gdX11_isSheet_l0 4 rfl
theorem dX11_isSheet_9 : decode cX11_isSheet 9 = .ok (.ifCond .eq 19, 3) := dok_at gdX11_isSheet_l0 5 rfl
theorem dX11_isSheet_12 : decode cX11_isSheet 12 = .ok (.iload_n 1, 1) := dok_at gdX11_isSheet_l0 6 rfl
theorem dX11_isSheet_13 : decode cX11_isSheet 13 = .ok (.i2l, 1) := dok_at gdX11_isSheet_l0 7 rfl
theorem dX11_isSheet_14 : decode cX11_isSheet 14 = .ok (.lconst 0, 1) := dok_at gdX11_isSheet_l0 8 rfl
theorem dX11_isSheet_15 : decode cX11_isSheet 15 = .ok (.ldc2_w 322, 3) := dok_at gdX11_isSheet_l0 9 rfl
theorem dX11_isSheet_18 : decode cX11_isSheet 18 = .ok (.invokestatic 141, 3) := dok_at gdX11_isSheet_l0 10 rfl
theorem dX11_isSheet_21 : decode cX11_isSheet 21 = .ok (.ifCond .eq 7, 3) := dok_at gdX11_isSheet_l0 11 rfl
theorem dX11_isSheet_24 : decode cX11_isSheet 24 = .ok (.iconst 1, 1) := dok_at gdX11_isSheet_l0 12 rfl
theorem dX11_isSheet_25 : decode cX11_isSheet 25 = .ok (.goto 4, 3) := dok_at gdX11_isSheet_l0 13 rfl
theorem dX11_isSheet_28 : decode cX11_isSheet 28 = .ok (.iconst 0, 1) := dok_at gdX11_isSheet_l0 14 rfl
theorem dX11_isSheet_29 : decode cX11_isSheet 29 = .ok (.ireturn, 1) := dok_at gdX11_isSheet_l0 15 rfl
def dX11_lay_l0 : List (Nat × Instr × Nat) := [(0, .iload_n 1, 1), (1, .iconst 0, 1), (2, .invokestatic 381, 3), (5, .ifCond .ne 5, 3), (8, .iconst (-1), 1), (9, .ireturn, 1), (10, .aload_n 0, 1), (11, .getfield 83, 3), (14, .iload_n 1, 1), (15, .iaload, 1), (16, .bipush (-4), 2), (18, .if_icmp .ne 6, 3), (21, .bipush (-11), 2), (23, .ireturn, 1), (24, .iload_n 2, 1), (25, .i2l, 1), (26, .lconst 0, 1), (27, .aload_n 0, 1), (28, .getfield 86, 3), (31, .iload_n 1, 1), (32, .iaload, 1), (33, .iconst 1, 1), (34, .isub, 1), (35, .i2l, 1)]
theorem gdX11_lay_l0 : dok cX11_lay dX11_lay_l0 = true := by decide +kernel
theorem dX11_lay_0 : decode cX11_lay 0 = .ok (.iload_n 1, 1) := dok_at gdX11_lay_l0 0 rfl
theorem dX11_lay_1 : decode cX11_lay 1 = .ok (.iconst 0, 1) := dok_at gdX11_lay_l0 1 rfl
theorem dX11_lay_2 : decode cX11_lay 2 = .ok (.invokestatic 381, 3) := dok_at gdX11_lay_l0 2 rfl
theorem dX11_lay_5 : decode cX11_lay 5 = .ok (.ifCond .ne 5, 3) := dok_at gdX11_lay_l0 3 rfl
theorem dX11_lay_8 : decode cX11_lay 8 = .ok (.iconst (-1), 1) := dok_at gdX11_lay_l0 4 rfl
theorem dX11_lay_9 : decode cX11_lay 9 = .ok (.ireturn, 1) := dok_at gdX11_lay_l0 5 rfl
theorem dX11_lay_10 : decode cX11_lay 10 = .ok (.aload_n 0, 1) := dok_at gdX11_lay_l0 6 rfl
theorem dX11_lay_11 : decode cX11_lay 11 = .ok (.getfield 83, 3) := dok_at gdX11_lay_l0 7 rfl
theorem dX11_lay_14 : decode cX11_lay 14 = .ok (.iload_n 1, 1) := dok_at gdX11_lay_l0 8 rfl
theorem dX11_lay_15 : decode cX11_lay 15 = .ok (.iaload, 1) := dok_at gdX11_lay_l0 9 rfl
theorem dX11_lay_16 : decode cX11_lay 16 = .ok (.bipush (-4), 2) := dok_at gdX11_lay_l0 10 rfl
theorem dX11_lay_18 : decode cX11_lay 18 = .ok (.if_icmp .ne 6, 3) := dok_at gdX11_lay_l0 11 rfl
theorem dX11_lay_21 : decode cX11_lay 21 = .ok (.bipush (-11), 2) := dok_at gdX11_lay_l0 12 rfl
theorem dX11_lay_23 : decode cX11_lay 23 = .ok (.ireturn, 1) := dok_at gdX11_lay_l0 13 rfl
theorem dX11_lay_24 : decode cX11_lay 24 = .ok (.iload_n 2, 1) := dok_at gdX11_lay_l0 14 rfl
theorem dX11_lay_25 : decode cX11_lay 25 = .ok (.i2l, 1) := dok_at gdX11_lay_l0 15 rfl
theorem dX11_lay_26 : decode cX11_lay 26 = .ok (.lconst 0, 1) := dok_at gdX11_lay_l0 16 rfl
theorem dX11_lay_27 : decode cX11_lay 27 = .ok (.aload_n 0, 1) := dok_at gdX11_lay_l0 17 rfl
theorem dX11_lay_28 : decode cX11_lay 28 = .ok (.getfield 86, 3) := dok_at gdX11_lay_l0 18 rfl
theorem dX11_lay_31 : decode cX11_lay 31 = .ok (.iload_n 1, 1) := dok_at gdX11_lay_l0 19 rfl
theorem dX11_lay_32 : decode cX11_lay 32 = .ok (.iaload, 1) := dok_at gdX11_lay_l0 20 rfl
theorem dX11_lay_33 : decode cX11_lay 33 = .ok (.iconst 1, 1) := dok_at gdX11_lay_l0 21 rfl
theorem dX11_lay_34 : decode cX11_lay 34 = .ok (.isub, 1) := dok_at gdX11_lay_l0 22 rfl
theorem dX11_lay_35 : decode cX11_lay 35 = .ok (.i2l, 1) := dok_at gdX11_lay_l0 23 rfl
def dX11_lay_l36 : List (Nat × Instr × Nat) := [(36, .invokestatic 141, 3), (39, .ifCond .ne 6, 3), (42, .bipush (-12), 2), (44, .ireturn, 1), (45, .aload_n 0, 1), (46, .getfield 89, 3), (49, .bipush 40, 2), (51, .iload_n 1, 1), (52, .imul, 1), (53, .iload_n 2, 1), (54, .iadd, 1), (55, .aload_n 0, 1), (56, .getfield 83, 3), (59, .iload_n 1, 1), (60, .iaload, 1), (61, .ifCond .ne 8, 3), (64, .iload_n 3, 1), (65, .i2b, 1), (66, .goto 19, 3), (69, .aload_n 0, 1), (70, .getfield 83, 3), (73, .iload_n 1, 1), (74, .iaload, 1), (75, .iconst 1, 1)]
theorem gdX11_lay_l36 : dok cX11_lay dX11_lay_l36 = true := by decide +kernel
theorem dX11_lay_36 : decode cX11_lay 36 = .ok (.invokestatic 141, 3) := dok_at gdX11_lay_l36 0 rfl
theorem dX11_lay_39 : decode cX11_lay 39 = .ok (.ifCond .ne 6, 3) := dok_at gdX11_lay_l36 1 rfl
theorem dX11_lay_42 : decode cX11_lay 42 = .ok (.bipush (-12), 2) := dok_at gdX11_lay_l36 2 rfl
theorem dX11_lay_44 : decode cX11_lay 44 = .ok (.ireturn, 1) := dok_at gdX11_lay_l36 3 rfl
theorem dX11_lay_45 : decode cX11_lay 45 = .ok (.aload_n 0, 1) := dok_at gdX11_lay_l36 4 rfl
theorem dX11_lay_46 : decode cX11_lay 46 = .ok (.getfield 89, 3) := dok_at gdX11_lay_l36 5 rfl
theorem dX11_lay_49 : decode cX11_lay 49 = .ok (.bipush 40, 2) := dok_at gdX11_lay_l36 6 rfl
theorem dX11_lay_51 : decode cX11_lay 51 = .ok (.iload_n 1, 1) := dok_at gdX11_lay_l36 7 rfl
theorem dX11_lay_52 : decode cX11_lay 52 = .ok (.imul, 1) := dok_at gdX11_lay_l36 8 rfl
theorem dX11_lay_53 : decode cX11_lay 53 = .ok (.iload_n 2, 1) := dok_at gdX11_lay_l36 9 rfl
theorem dX11_lay_54 : decode cX11_lay 54 = .ok (.iadd, 1) := dok_at gdX11_lay_l36 10 rfl
theorem dX11_lay_55 : decode cX11_lay 55 = .ok (.aload_n 0, 1) := dok_at gdX11_lay_l36 11 rfl
theorem dX11_lay_56 : decode cX11_lay 56 = .ok (.getfield 83, 3) := dok_at gdX11_lay_l36 12 rfl
theorem dX11_lay_59 : decode cX11_lay 59 = .ok (.iload_n 1, 1) := dok_at gdX11_lay_l36 13 rfl
theorem dX11_lay_60 : decode cX11_lay 60 = .ok (.iaload, 1) := dok_at gdX11_lay_l36 14 rfl
theorem dX11_lay_61 : decode cX11_lay 61 = .ok (.ifCond .ne 8, 3) := dok_at gdX11_lay_l36 15 rfl
theorem dX11_lay_64 : decode cX11_lay 64 = .ok (.iload_n 3, 1) := dok_at gdX11_lay_l36 16 rfl
theorem dX11_lay_65 : decode cX11_lay 65 = .ok (.i2b, 1) := dok_at gdX11_lay_l36 17 rfl
theorem dX11_lay_66 : decode cX11_lay 66 = .ok (.goto 19, 3) := dok_at gdX11_lay_l36 18 rfl
theorem dX11_lay_69 : decode cX11_lay 69 = .ok (.aload_n 0, 1) := dok_at gdX11_lay_l36 19 rfl
theorem dX11_lay_70 : decode cX11_lay 70 = .ok (.getfield 83, 3) := dok_at gdX11_lay_l36 20 rfl
theorem dX11_lay_73 : decode cX11_lay 73 = .ok (.iload_n 1, 1) := dok_at gdX11_lay_l36 21 rfl
theorem dX11_lay_74 : decode cX11_lay 74 = .ok (.iaload, 1) := dok_at gdX11_lay_l36 22 rfl
theorem dX11_lay_75 : decode cX11_lay 75 = .ok (.iconst 1, 1) := dok_at gdX11_lay_l36 23 rfl
def dX11_lay_l76 : List (Nat × Instr × Nat) := [(76, .if_icmp .ne 8, 3), (79, .iload_n 3, 1), (80, .i2s, 1), (81, .goto 4, 3), (84, .iload_n 3, 1), (85, .iastore, 1), (86, .iconst 1, 1), (87, .ireturn, 1)]
theorem gdX11_lay_l76 : dok cX11_lay dX11_lay_l76 = true := by decide +kernel
theorem dX11_lay_76 : decode cX11_lay 76 = .ok (.if_icmp .ne 8, 3) := dok_at gdX11_lay_l76 0 rfl
theorem dX11_lay_79 : decode cX11_lay 79 = .ok (.iload_n 3, 1) := dok_at gdX11_lay_l76 1 rfl
theorem dX11_lay_80 : decode cX11_lay 80 = .ok (.i2s, 1) := dok_at gdX11_lay_l76 2 rfl
theorem dX11_lay_81 : decode cX11_lay 81 = .ok (.goto 4, 3) := dok_at gdX11_lay_l76 3 rfl
theorem dX11_lay_84 : decode cX11_lay 84 = .ok (.iload_n 3, 1) := dok_at gdX11_lay_l76 4 rfl
theorem dX11_lay_85 : decode cX11_lay 85 = .ok (.iastore, 1) := dok_at gdX11_lay_l76 5 rfl
theorem dX11_lay_86 : decode cX11_lay 86 = .ok (.iconst 1, 1) := dok_at gdX11_lay_l76 6 rfl
theorem dX11_lay_87 : decode cX11_lay 87 = .ok (.ireturn, 1) := dok_at gdX11_lay_l76 7 rfl
def dX11_measured_l0 : List (Nat × Instr × Nat) := [(0, .iload_n 1, 1), (1, .iload_n 2, 1), (2, .invokestatic 381, 3), (5, .ifCond .eq 29, 3), (8, .iload 4, 2), (10, .i2l, 1), (11, .lconst 0, 1), (12, .ldc2_w 384, 3), (15, .invokestatic 141, 3), (18, .ifCond .eq 16, 3), (21, .iload 5, 2), (23, .i2l, 1), (24, .lconst 0, 1), (25, .ldc2_w 322, 3), (28, .invokestatic 141, 3), (31, .ifCond .ne 5, 3), (34, .iconst (-1), 1), (35, .ireturn, 1), (36, .aload_n 0, 1), (37, .getfield 83, 3), (40, .iload_n 1, 1), (41, .iaload, 1), (42, .iload_n 2, 1), (43, .if_icmp .eq 22, 3)]
theorem gdX11_measured_l0 : dok cX11_measured dX11_measured_l0 = true := by decide +kernel
theorem dX11_measured_0 : decode cX11_measured 0 = .ok (.iload_n 1, 1) := dok_at gdX11_measured_l0 0 rfl
theorem dX11_measured_1 : decode cX11_measured 1 = .ok (.iload_n 2, 1) := dok_at gdX11_measured_l0 1 rfl
theorem dX11_measured_2 : decode cX11_measured 2 = .ok (.invokestatic 381, 3) := dok_at gdX11_measured_l0 2 rfl
theorem dX11_measured_5 : decode cX11_measured 5 = .ok (.ifCond .eq 29, 3) := dok_at gdX11_measured_l0 3 rfl
theorem dX11_measured_8 : decode cX11_measured 8 = .ok (.iload 4, 2) := dok_at gdX11_measured_l0 4 rfl
theorem dX11_measured_10 : decode cX11_measured 10 = .ok (.i2l, 1) := dok_at gdX11_measured_l0 5 rfl
theorem dX11_measured_11 : decode cX11_measured 11 = .ok (.lconst 0, 1) := dok_at gdX11_measured_l0 6 rfl
theorem dX11_measured_12 : decode cX11_measured 12 = .ok (.ldc2_w 384, 3) := dok_at gdX11_measured_l0 7 rfl
theorem dX11_measured_15 : decode cX11_measured 15 = .ok (.invokestatic 141, 3) := dok_at gdX11_measured_l0 8 rfl
theorem dX11_measured_18 : decode cX11_measured 18 = .ok (.ifCond .eq 16, 3) := dok_at gdX11_measured_l0 9 rfl
theorem dX11_measured_21 : decode cX11_measured 21 = .ok (.iload 5, 2) := dok_at gdX11_measured_l0 10 rfl
theorem dX11_measured_23 : decode cX11_measured 23 = .ok (.i2l, 1) := dok_at gdX11_measured_l0 11 rfl
theorem dX11_measured_24 : decode cX11_measured 24 = .ok (.lconst 0, 1) := dok_at gdX11_measured_l0 12 rfl
theorem dX11_measured_25 : decode cX11_measured 25 = .ok (.ldc2_w 322, 3) := dok_at gdX11_measured_l0 13 rfl
theorem dX11_measured_28 : decode cX11_measured 28 = .ok (.invokestatic 141, 3) := dok_at gdX11_measured_l0 14 rfl
theorem dX11_measured_31 : decode cX11_measured 31 = .ok (.ifCond .ne 5, 3) := dok_at gdX11_measured_l0 15 rfl
theorem dX11_measured_34 : decode cX11_measured 34 = .ok (.iconst (-1), 1) := dok_at gdX11_measured_l0 16 rfl
theorem dX11_measured_35 : decode cX11_measured 35 = .ok (.ireturn, 1) := dok_at gdX11_measured_l0 17 rfl
theorem dX11_measured_36 : decode cX11_measured 36 = .ok (.aload_n 0, 1) := dok_at gdX11_measured_l0 18 rfl
theorem dX11_measured_37 : decode cX11_measured 37 = .ok (.getfield 83, 3) := dok_at gdX11_measured_l0 19 rfl
theorem dX11_measured_40 : decode cX11_measured 40 = .ok (.iload_n 1, 1) := dok_at gdX11_measured_l0 20 rfl
theorem dX11_measured_41 : decode cX11_measured 41 = .ok (.iaload, 1) := dok_at gdX11_measured_l0 21 rfl
theorem dX11_measured_42 : decode cX11_measured 42 = .ok (.iload_n 2, 1) := dok_at gdX11_measured_l0 22 rfl
theorem dX11_measured_43 : decode cX11_measured 43 = .ok (.if_icmp .eq 22, 3) := dok_at gdX11_measured_l0 23 rfl
def dX11_measured_l46 : List (Nat × Instr × Nat) := [(46, .aload_n 0, 1), (47, .getfield 83, 3), (50, .iload_n 1, 1), (51, .iaload, 1), (52, .bipush (-4), 2), (54, .if_icmp .ne 8, 3), (57, .bipush (-11), 2), (59, .goto 5, 3), (62, .bipush (-13), 2), (64, .ireturn, 1), (65, .aload_n 0, 1), (66, .invokevirtual 334, 3), (69, .aload_n 0, 1), (70, .iconst 0, 1), (71, .invokevirtual 337, 3), (74, .aload_n 0, 1), (75, .invokevirtual 340, 3), (78, .iconst 0, 1), (79, .istore 6, 2), (81, .bipush (-4), 2), (83, .istore 7, 2), (85, .iconst 0, 1), (86, .istore 8, 2), (88, .iconst 0, 1)]
theorem gdX11_measured_l46 : dok cX11_measured dX11_measured_l46 = true := by decide +kernel
theorem dX11_measured_46 : decode cX11_measured 46 = .ok (.aload_n 0, 1) := dok_at gdX11_measured_l46 0 rfl
theorem dX11_measured_47 : decode cX11_measured 47 = .ok (.getfield 83, 3) := dok_at gdX11_measured_l46 1 rfl
theorem dX11_measured_50 : decode cX11_measured 50 = .ok (.iload_n 1, 1) := dok_at gdX11_measured_l46 2 rfl
theorem dX11_measured_51 : decode cX11_measured 51 = .ok (.iaload, 1) := dok_at gdX11_measured_l46 3 rfl
theorem dX11_measured_52 : decode cX11_measured 52 = .ok (.bipush (-4), 2) := dok_at gdX11_measured_l46 4 rfl
theorem dX11_measured_54 : decode cX11_measured 54 = .ok (.if_icmp .ne 8, 3) := dok_at gdX11_measured_l46 5 rfl
theorem dX11_measured_57 : decode cX11_measured 57 = .ok (.bipush (-11), 2) := dok_at gdX11_measured_l46 6 rfl
theorem dX11_measured_59 : decode cX11_measured 59 = .ok (.goto 5, 3) := dok_at gdX11_measured_l46 7 rfl
theorem dX11_measured_62 : decode cX11_measured 62 = .ok (.bipush (-13), 2) := dok_at gdX11_measured_l46 8 rfl
theorem dX11_measured_64 : decode cX11_measured 64 = .ok (.ireturn, 1) := dok_at gdX11_measured_l46 9 rfl
theorem dX11_measured_65 : decode cX11_measured 65 = .ok (.aload_n 0, 1) := dok_at gdX11_measured_l46 10 rfl
theorem dX11_measured_66 : decode cX11_measured 66 = .ok (.invokevirtual 334, 3) := dok_at gdX11_measured_l46 11 rfl
theorem dX11_measured_69 : decode cX11_measured 69 = .ok (.aload_n 0, 1) := dok_at gdX11_measured_l46 12 rfl
theorem dX11_measured_70 : decode cX11_measured 70 = .ok (.iconst 0, 1) := dok_at gdX11_measured_l46 13 rfl
theorem dX11_measured_71 : decode cX11_measured 71 = .ok (.invokevirtual 337, 3) := dok_at gdX11_measured_l46 14 rfl
theorem dX11_measured_74 : decode cX11_measured 74 = .ok (.aload_n 0, 1) := dok_at gdX11_measured_l46 15 rfl
theorem dX11_measured_75 : decode cX11_measured 75 = .ok (.invokevirtual 340, 3) := dok_at gdX11_measured_l46 16 rfl
theorem dX11_measured_78 : decode cX11_measured 78 = .ok (.iconst 0, 1) := dok_at gdX11_measured_l46 17 rfl
theorem dX11_measured_79 : decode cX11_measured 79 = .ok (.istore 6, 2) := dok_at gdX11_measured_l46 18 rfl
theorem dX11_measured_81 : decode cX11_measured 81 = .ok (.bipush (-4), 2) := dok_at gdX11_measured_l46 19 rfl
theorem dX11_measured_83 : decode cX11_measured 83 = .ok (.istore 7, 2) := dok_at gdX11_measured_l46 20 rfl
theorem dX11_measured_85 : decode cX11_measured 85 = .ok (.iconst 0, 1) := dok_at gdX11_measured_l46 21 rfl
theorem dX11_measured_86 : decode cX11_measured 86 = .ok (.istore 8, 2) := dok_at gdX11_measured_l46 22 rfl
theorem dX11_measured_88 : decode cX11_measured 88 = .ok (.iconst 0, 1) := dok_at gdX11_measured_l46 23 rfl
def dX11_measured_l89 : List (Nat × Instr × Nat) := [(89, .istore 9, 2), (91, .iload 9, 2), (93, .iload 4, 2), (95, .if_icmp .ge 139, 3), (98, .iload_n 3, 1), (99, .i2l, 1), (100, .iload 9, 2), (102, .i2l, 1), (103, .ladd, 1), (104, .lstore 10, 2), (106, .lload 10, 2), (108, .lconst 0, 1), (109, .lcmp, 1), (110, .ifCond .lt 16, 3), (113, .lload 10, 2), (115, .aload_n 0, 1), (116, .getfield 86, 3), (119, .iload_n 1, 1), (120, .iaload, 1), (121, .i2l, 1), (122, .lcmp, 1), (123, .ifCond .lt 6, 3), (126, .bipush (-12), 2), (128, .ireturn, 1)]
theorem gdX11_measured_l89 : dok cX11_measured dX11_measured_l89 = true := by decide +kernel
theorem dX11_measured_89 : decode cX11_measured 89 = .ok (.istore 9, 2) := dok_at gdX11_measured_l89 0 rfl
theorem dX11_measured_91 : decode cX11_measured 91 = .ok (.iload 9, 2) := dok_at gdX11_measured_l89 1 rfl
theorem dX11_measured_93 : decode cX11_measured 93 = .ok (.iload 4, 2) := dok_at gdX11_measured_l89 2 rfl
theorem dX11_measured_95 : decode cX11_measured 95 = .ok (.if_icmp .ge 139, 3) := dok_at gdX11_measured_l89 3 rfl
theorem dX11_measured_98 : decode cX11_measured 98 = .ok (.iload_n 3, 1) := dok_at gdX11_measured_l89 4 rfl
theorem dX11_measured_99 : decode cX11_measured 99 = .ok (.i2l, 1) := dok_at gdX11_measured_l89 5 rfl
theorem dX11_measured_100 : decode cX11_measured 100 = .ok (.iload 9, 2) := dok_at gdX11_measured_l89 6 rfl
theorem dX11_measured_102 : decode cX11_measured 102 = .ok (.i2l, 1) := dok_at gdX11_measured_l89 7 rfl
theorem dX11_measured_103 : decode cX11_measured 103 = .ok (.ladd, 1) := dok_at gdX11_measured_l89 8 rfl
theorem dX11_measured_104 : decode cX11_measured 104 = .ok (.lstore 10, 2) := dok_at gdX11_measured_l89 9 rfl
theorem dX11_measured_106 : decode cX11_measured 106 = .ok (.lload 10, 2) := dok_at gdX11_measured_l89 10 rfl
theorem dX11_measured_108 : decode cX11_measured 108 = .ok (.lconst 0, 1) := dok_at gdX11_measured_l89 11 rfl
theorem dX11_measured_109 : decode cX11_measured 109 = .ok (.lcmp, 1) := dok_at gdX11_measured_l89 12 rfl
theorem dX11_measured_110 : decode cX11_measured 110 = .ok (.ifCond .lt 16, 3) := dok_at gdX11_measured_l89 13 rfl
theorem dX11_measured_113 : decode cX11_measured 113 = .ok (.lload 10, 2) := dok_at gdX11_measured_l89 14 rfl
theorem dX11_measured_115 : decode cX11_measured 115 = .ok (.aload_n 0, 1) := dok_at gdX11_measured_l89 15 rfl
theorem dX11_measured_116 : decode cX11_measured 116 = .ok (.getfield 86, 3) := dok_at gdX11_measured_l89 16 rfl
theorem dX11_measured_119 : decode cX11_measured 119 = .ok (.iload_n 1, 1) := dok_at gdX11_measured_l89 17 rfl
theorem dX11_measured_120 : decode cX11_measured 120 = .ok (.iaload, 1) := dok_at gdX11_measured_l89 18 rfl
theorem dX11_measured_121 : decode cX11_measured 121 = .ok (.i2l, 1) := dok_at gdX11_measured_l89 19 rfl
theorem dX11_measured_122 : decode cX11_measured 122 = .ok (.lcmp, 1) := dok_at gdX11_measured_l89 20 rfl
theorem dX11_measured_123 : decode cX11_measured 123 = .ok (.ifCond .lt 6, 3) := dok_at gdX11_measured_l89 21 rfl
theorem dX11_measured_126 : decode cX11_measured 126 = .ok (.bipush (-12), 2) := dok_at gdX11_measured_l89 22 rfl
theorem dX11_measured_128 : decode cX11_measured 128 = .ok (.ireturn, 1) := dok_at gdX11_measured_l89 23 rfl
def dX11_measured_l129 : List (Nat × Instr × Nat) := [(129, .aload_n 0, 1), (130, .getfield 89, 3), (133, .bipush 40, 2), (135, .iload_n 1, 1), (136, .imul, 1), (137, .lload 10, 2), (139, .l2i, 1), (140, .iadd, 1), (141, .iaload, 1), (142, .istore 12, 2), (144, .iload 12, 2), (146, .i2l, 1), (147, .lconst 0, 1), (148, .ldc2_w 386, 3), (151, .invokestatic 141, 3), (154, .ifCond .ne 9, 3), (157, .bipush (-20), 2), (159, .iload 9, 2), (161, .isub, 1), (162, .ireturn, 1), (163, .iload 12, 2), (165, .aload_n 0, 1), (166, .iload 9, 2), (168, .invokevirtual 350, 3)]
theorem gdX11_measured_l129 : dok cX11_measured dX11_measured_l129 = true := by decide +kernel
theorem dX11_measured_129 : decode cX11_measured 129 = .ok (.aload_n 0, 1) := dok_at gdX11_measured_l129 0 rfl
theorem dX11_measured_130 : decode cX11_measured 130 = .ok (.getfield 89, 3) := dok_at gdX11_measured_l129 1 rfl
theorem dX11_measured_133 : decode cX11_measured 133 = .ok (.bipush 40, 2) := dok_at gdX11_measured_l129 2 rfl
theorem dX11_measured_135 : decode cX11_measured 135 = .ok (.iload_n 1, 1) := dok_at gdX11_measured_l129 3 rfl
theorem dX11_measured_136 : decode cX11_measured 136 = .ok (.imul, 1) := dok_at gdX11_measured_l129 4 rfl
theorem dX11_measured_137 : decode cX11_measured 137 = .ok (.lload 10, 2) := dok_at gdX11_measured_l129 5 rfl
theorem dX11_measured_139 : decode cX11_measured 139 = .ok (.l2i, 1) := dok_at gdX11_measured_l129 6 rfl
theorem dX11_measured_140 : decode cX11_measured 140 = .ok (.iadd, 1) := dok_at gdX11_measured_l129 7 rfl
theorem dX11_measured_141 : decode cX11_measured 141 = .ok (.iaload, 1) := dok_at gdX11_measured_l129 8 rfl
theorem dX11_measured_142 : decode cX11_measured 142 = .ok (.istore 12, 2) := dok_at gdX11_measured_l129 9 rfl
theorem dX11_measured_144 : decode cX11_measured 144 = .ok (.iload 12, 2) := dok_at gdX11_measured_l129 10 rfl
theorem dX11_measured_146 : decode cX11_measured 146 = .ok (.i2l, 1) := dok_at gdX11_measured_l129 11 rfl
theorem dX11_measured_147 : decode cX11_measured 147 = .ok (.lconst 0, 1) := dok_at gdX11_measured_l129 12 rfl
theorem dX11_measured_148 : decode cX11_measured 148 = .ok (.ldc2_w 386, 3) := dok_at gdX11_measured_l129 13 rfl
theorem dX11_measured_151 : decode cX11_measured 151 = .ok (.invokestatic 141, 3) := dok_at gdX11_measured_l129 14 rfl
theorem dX11_measured_154 : decode cX11_measured 154 = .ok (.ifCond .ne 9, 3) := dok_at gdX11_measured_l129 15 rfl
theorem dX11_measured_157 : decode cX11_measured 157 = .ok (.bipush (-20), 2) := dok_at gdX11_measured_l129 16 rfl
theorem dX11_measured_159 : decode cX11_measured 159 = .ok (.iload 9, 2) := dok_at gdX11_measured_l129 17 rfl
theorem dX11_measured_161 : decode cX11_measured 161 = .ok (.isub, 1) := dok_at gdX11_measured_l129 18 rfl
theorem dX11_measured_162 : decode cX11_measured 162 = .ok (.ireturn, 1) := dok_at gdX11_measured_l129 19 rfl
theorem dX11_measured_163 : decode cX11_measured 163 = .ok (.iload 12, 2) := dok_at gdX11_measured_l129 20 rfl
theorem dX11_measured_165 : decode cX11_measured 165 = .ok (.aload_n 0, 1) := dok_at gdX11_measured_l129 21 rfl
theorem dX11_measured_166 : decode cX11_measured 166 = .ok (.iload 9, 2) := dok_at gdX11_measured_l129 22 rfl
theorem dX11_measured_168 : decode cX11_measured 168 = .ok (.invokevirtual 350, 3) := dok_at gdX11_measured_l129 23 rfl
def dX11_measured_l171 : List (Nat × Instr × Nat) := [(171, .isub, 1), (172, .istore 13, 2), (174, .iload 6, 2), (176, .iload 13, 2), (178, .ifCond .ne 7, 3), (181, .iconst 1, 1), (182, .goto 4, 3), (185, .iconst 0, 1), (186, .iadd, 1), (187, .istore 6, 2), (189, .iload 13, 2), (191, .ifCond .eq 15, 3), (194, .iload 7, 2), (196, .bipush (-4), 2), (198, .if_icmp .ne 8, 3), (201, .iload 9, 2), (203, .goto 5, 3), (206, .iload 7, 2), (208, .istore 7, 2), (210, .iload 8, 2), (212, .iload 13, 2), (214, .ifCond .ge 9, 3), (217, .iload 13, 2), (219, .ineg, 1)]
theorem gdX11_measured_l171 : dok cX11_measured dX11_measured_l171 = true := by decide +kernel
theorem dX11_measured_171 : decode cX11_measured 171 = .ok (.isub, 1) := dok_at gdX11_measured_l171 0 rfl
theorem dX11_measured_172 : decode cX11_measured 172 = .ok (.istore 13, 2) := dok_at gdX11_measured_l171 1 rfl
theorem dX11_measured_174 : decode cX11_measured 174 = .ok (.iload 6, 2) := dok_at gdX11_measured_l171 2 rfl
theorem dX11_measured_176 : decode cX11_measured 176 = .ok (.iload 13, 2) := dok_at gdX11_measured_l171 3 rfl
theorem dX11_measured_178 : decode cX11_measured 178 = .ok (.ifCond .ne 7, 3) := dok_at gdX11_measured_l171 4 rfl
theorem dX11_measured_181 : decode cX11_measured 181 = .ok (.iconst 1, 1) := dok_at gdX11_measured_l171 5 rfl
theorem dX11_measured_182 : decode cX11_measured 182 = .ok (.goto 4, 3) := dok_at gdX11_measured_l171 6 rfl
theorem dX11_measured_185 : decode cX11_measured 185 = .ok (.iconst 0, 1) := dok_at gdX11_measured_l171 7 rfl
theorem dX11_measured_186 : decode cX11_measured 186 = .ok (.iadd, 1) := dok_at gdX11_measured_l171 8 rfl
theorem dX11_measured_187 : decode cX11_measured 187 = .ok (.istore 6, 2) := dok_at gdX11_measured_l171 9 rfl
theorem dX11_measured_189 : decode cX11_measured 189 = .ok (.iload 13, 2) := dok_at gdX11_measured_l171 10 rfl
theorem dX11_measured_191 : decode cX11_measured 191 = .ok (.ifCond .eq 15, 3) := dok_at gdX11_measured_l171 11 rfl
theorem dX11_measured_194 : decode cX11_measured 194 = .ok (.iload 7, 2) := dok_at gdX11_measured_l171 12 rfl
theorem dX11_measured_196 : decode cX11_measured 196 = .ok (.bipush (-4), 2) := dok_at gdX11_measured_l171 13 rfl
theorem dX11_measured_198 : decode cX11_measured 198 = .ok (.if_icmp .ne 8, 3) := dok_at gdX11_measured_l171 14 rfl
theorem dX11_measured_201 : decode cX11_measured 201 = .ok (.iload 9, 2) := dok_at gdX11_measured_l171 15 rfl
theorem dX11_measured_203 : decode cX11_measured 203 = .ok (.goto 5, 3) := dok_at gdX11_measured_l171 16 rfl
theorem dX11_measured_206 : decode cX11_measured 206 = .ok (.iload 7, 2) := dok_at gdX11_measured_l171 17 rfl
theorem dX11_measured_208 : decode cX11_measured 208 = .ok (.istore 7, 2) := dok_at gdX11_measured_l171 18 rfl
theorem dX11_measured_210 : decode cX11_measured 210 = .ok (.iload 8, 2) := dok_at gdX11_measured_l171 19 rfl
theorem dX11_measured_212 : decode cX11_measured 212 = .ok (.iload 13, 2) := dok_at gdX11_measured_l171 20 rfl
theorem dX11_measured_214 : decode cX11_measured 214 = .ok (.ifCond .ge 9, 3) := dok_at gdX11_measured_l171 21 rfl
theorem dX11_measured_217 : decode cX11_measured 217 = .ok (.iload 13, 2) := dok_at gdX11_measured_l171 22 rfl
theorem dX11_measured_219 : decode cX11_measured 219 = .ok (.ineg, 1) := dok_at gdX11_measured_l171 23 rfl
def dX11_measured_l220 : List (Nat × Instr × Nat) := [(220, .goto 5, 3), (223, .iload 13, 2), (225, .iadd, 1), (226, .istore 8, 2), (228, .iinc 9 1, 3), (231, .goto (-140), 3), (234, .iload 5, 2), (236, .ifCond .ne 8, 3), (239, .iload 6, 2), (241, .goto 16, 3), (244, .iload 5, 2), (246, .iconst 1, 1), (247, .if_icmp .ne 8, 3), (250, .iload 7, 2), (252, .goto 5, 3), (255, .iload 8, 2), (257, .ireturn, 1)]
theorem gdX11_measured_l220 : dok cX11_measured dX11_measured_l220 = true := by decide +kernel
theorem dX11_measured_220 : decode cX11_measured 220 = .ok (.goto 5, 3) := dok_at gdX11_measured_l220 0 rfl
theorem dX11_measured_223 : decode cX11_measured 223 = .ok (.iload 13, 2) := dok_at gdX11_measured_l220 1 rfl
theorem dX11_measured_225 : decode cX11_measured 225 = .ok (.iadd, 1) := dok_at gdX11_measured_l220 2 rfl
theorem dX11_measured_226 : decode cX11_measured 226 = .ok (.istore 8, 2) := dok_at gdX11_measured_l220 3 rfl
theorem dX11_measured_228 : decode cX11_measured 228 = .ok (.iinc 9 1, 3) := dok_at gdX11_measured_l220 4 rfl
theorem dX11_measured_231 : decode cX11_measured 231 = .ok (.goto (-140), 3) := dok_at gdX11_measured_l220 5 rfl
theorem dX11_measured_234 : decode cX11_measured 234 = .ok (.iload 5, 2) := dok_at gdX11_measured_l220 6 rfl
theorem dX11_measured_236 : decode cX11_measured 236 = .ok (.ifCond .ne 8, 3) := dok_at gdX11_measured_l220 7 rfl
theorem dX11_measured_239 : decode cX11_measured 239 = .ok (.iload 6, 2) := dok_at gdX11_measured_l220 8 rfl
theorem dX11_measured_241 : decode cX11_measured 241 = .ok (.goto 16, 3) := dok_at gdX11_measured_l220 9 rfl
theorem dX11_measured_244 : decode cX11_measured 244 = .ok (.iload 5, 2) := dok_at gdX11_measured_l220 10 rfl
theorem dX11_measured_246 : decode cX11_measured 246 = .ok (.iconst 1, 1) := dok_at gdX11_measured_l220 11 rfl
theorem dX11_measured_247 : decode cX11_measured 247 = .ok (.if_icmp .ne 8, 3) := dok_at gdX11_measured_l220 12 rfl
theorem dX11_measured_250 : decode cX11_measured 250 = .ok (.iload 7, 2) := dok_at gdX11_measured_l220 13 rfl
theorem dX11_measured_252 : decode cX11_measured 252 = .ok (.goto 5, 3) := dok_at gdX11_measured_l220 14 rfl
theorem dX11_measured_255 : decode cX11_measured 255 = .ok (.iload 8, 2) := dok_at gdX11_measured_l220 15 rfl
theorem dX11_measured_257 : decode cX11_measured 257 = .ok (.ireturn, 1) := dok_at gdX11_measured_l220 16 rfl
def dX11_count_l0 : List (Nat × Instr × Nat) := [(0, .iload_n 1, 1), (1, .tableswitch 105 0 5 #[39, 44, 52, 57, 77, 82], 39), (40, .aload_n 0, 1), (41, .getfield 121, 3), (44, .ireturn, 1), (45, .aload_n 0, 1), (46, .invokevirtual 324, 3), (49, .invokestatic 378, 3), (52, .ireturn, 1), (53, .aload_n 0, 1), (54, .getfield 288, 3), (57, .ireturn, 1), (58, .aload_n 0, 1), (59, .invokevirtual 343, 3), (62, .sipush 20000, 3), (65, .if_icmp .le 8, 3), (68, .bipush (-6), 2), (70, .goto 7, 3), (73, .aload_n 0, 1), (74, .invokevirtual 343, 3), (77, .ireturn, 1), (78, .aload_n 0, 1), (79, .getfield 136, 3), (82, .ireturn, 1)]
theorem gdX11_count_l0 : dok cX11_count dX11_count_l0 = true := by decide +kernel
theorem dX11_count_0 : decode cX11_count 0 = .ok (.iload_n 1, 1) := dok_at gdX11_count_l0 0 rfl
theorem dX11_count_1 : decode cX11_count 1 = .ok (.tableswitch 105 0 5 #[39, 44, 52, 57, 77, 82], 39) := dok_at gdX11_count_l0 1 rfl
theorem dX11_count_40 : decode cX11_count 40 = .ok (.aload_n 0, 1) := dok_at gdX11_count_l0 2 rfl
theorem dX11_count_41 : decode cX11_count 41 = .ok (.getfield 121, 3) := dok_at gdX11_count_l0 3 rfl
theorem dX11_count_44 : decode cX11_count 44 = .ok (.ireturn, 1) := dok_at gdX11_count_l0 4 rfl
theorem dX11_count_45 : decode cX11_count 45 = .ok (.aload_n 0, 1) := dok_at gdX11_count_l0 5 rfl
theorem dX11_count_46 : decode cX11_count 46 = .ok (.invokevirtual 324, 3) := dok_at gdX11_count_l0 6 rfl
theorem dX11_count_49 : decode cX11_count 49 = .ok (.invokestatic 378, 3) := dok_at gdX11_count_l0 7 rfl
theorem dX11_count_52 : decode cX11_count 52 = .ok (.ireturn, 1) := dok_at gdX11_count_l0 8 rfl
theorem dX11_count_53 : decode cX11_count 53 = .ok (.aload_n 0, 1) := dok_at gdX11_count_l0 9 rfl
theorem dX11_count_54 : decode cX11_count 54 = .ok (.getfield 288, 3) := dok_at gdX11_count_l0 10 rfl
theorem dX11_count_57 : decode cX11_count 57 = .ok (.ireturn, 1) := dok_at gdX11_count_l0 11 rfl
theorem dX11_count_58 : decode cX11_count 58 = .ok (.aload_n 0, 1) := dok_at gdX11_count_l0 12 rfl
theorem dX11_count_59 : decode cX11_count 59 = .ok (.invokevirtual 343, 3) := dok_at gdX11_count_l0 13 rfl
theorem dX11_count_62 : decode cX11_count 62 = .ok (.sipush 20000, 3) := dok_at gdX11_count_l0 14 rfl
theorem dX11_count_65 : decode cX11_count 65 = .ok (.if_icmp .le 8, 3) := dok_at gdX11_count_l0 15 rfl
theorem dX11_count_68 : decode cX11_count 68 = .ok (.bipush (-6), 2) := dok_at gdX11_count_l0 16 rfl
theorem dX11_count_70 : decode cX11_count 70 = .ok (.goto 7, 3) := dok_at gdX11_count_l0 17 rfl
theorem dX11_count_73 : decode cX11_count 73 = .ok (.aload_n 0, 1) := dok_at gdX11_count_l0 18 rfl
theorem dX11_count_74 : decode cX11_count 74 = .ok (.invokevirtual 343, 3) := dok_at gdX11_count_l0 19 rfl
theorem dX11_count_77 : decode cX11_count 77 = .ok (.ireturn, 1) := dok_at gdX11_count_l0 20 rfl
theorem dX11_count_78 : decode cX11_count 78 = .ok (.aload_n 0, 1) := dok_at gdX11_count_l0 21 rfl
theorem dX11_count_79 : decode cX11_count 79 = .ok (.getfield 136, 3) := dok_at gdX11_count_l0 22 rfl
theorem dX11_count_82 : decode cX11_count 82 = .ok (.ireturn, 1) := dok_at gdX11_count_l0 23 rfl
def dX11_count_l83 : List (Nat × Instr × Nat) := [(83, .aload_n 0, 1), (84, .getfield 83, 3), (87, .iconst 0, 1), (88, .iaload, 1), (89, .bipush (-4), 2), (91, .if_icmp .ne 8, 3), (94, .bipush (-4), 2), (96, .goto 9, 3), (99, .aload_n 0, 1), (100, .getfield 86, 3), (103, .iconst 0, 1), (104, .iaload, 1), (105, .ireturn, 1), (106, .iconst (-1), 1), (107, .ireturn, 1)]
theorem gdX11_count_l83 : dok cX11_count dX11_count_l83 = true := by decide +kernel
theorem dX11_count_83 : decode cX11_count 83 = .ok (.aload_n 0, 1) := dok_at gdX11_count_l83 0 rfl
theorem dX11_count_84 : decode cX11_count 84 = .ok (.getfield 83, 3) := dok_at gdX11_count_l83 1 rfl
theorem dX11_count_87 : decode cX11_count 87 = .ok (.iconst 0, 1) := dok_at gdX11_count_l83 2 rfl
theorem dX11_count_88 : decode cX11_count 88 = .ok (.iaload, 1) := dok_at gdX11_count_l83 3 rfl
theorem dX11_count_89 : decode cX11_count 89 = .ok (.bipush (-4), 2) := dok_at gdX11_count_l83 4 rfl
theorem dX11_count_91 : decode cX11_count 91 = .ok (.if_icmp .ne 8, 3) := dok_at gdX11_count_l83 5 rfl
theorem dX11_count_94 : decode cX11_count 94 = .ok (.bipush (-4), 2) := dok_at gdX11_count_l83 6 rfl
theorem dX11_count_96 : decode cX11_count 96 = .ok (.goto 9, 3) := dok_at gdX11_count_l83 7 rfl
theorem dX11_count_99 : decode cX11_count 99 = .ok (.aload_n 0, 1) := dok_at gdX11_count_l83 8 rfl
theorem dX11_count_100 : decode cX11_count 100 = .ok (.getfield 86, 3) := dok_at gdX11_count_l83 9 rfl
theorem dX11_count_103 : decode cX11_count 103 = .ok (.iconst 0, 1) := dok_at gdX11_count_l83 10 rfl
theorem dX11_count_104 : decode cX11_count 104 = .ok (.iaload, 1) := dok_at gdX11_count_l83 11 rfl
theorem dX11_count_105 : decode cX11_count 105 = .ok (.ireturn, 1) := dok_at gdX11_count_l83 12 rfl
theorem dX11_count_106 : decode cX11_count 106 = .ok (.iconst (-1), 1) := dok_at gdX11_count_l83 13 rfl
theorem dX11_count_107 : decode cX11_count 107 = .ok (.ireturn, 1) := dok_at gdX11_count_l83 14 rfl
