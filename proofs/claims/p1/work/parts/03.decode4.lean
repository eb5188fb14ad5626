theorem dX11_readRail_133 : decode cX11_readRail 133 = .ok (.iload_n 3, 1) := by decide +kernel
theorem dX11_readRail_134 : decode cX11_readRail 134 = .ok (.iconst 1, 1) := by decide +kernel
theorem dX11_readRail_135 : decode cX11_readRail 135 = .ok (.if_icmp .ne 7, 3) := by decide +kernel
theorem dX11_readRail_138 : decode cX11_readRail 138 = .ok (.iload_n 2, 1) := by decide +kernel
theorem dX11_readRail_139 : decode cX11_readRail 139 = .ok (.goto 27, 3) := by decide +kernel
theorem dX11_readRail_142 : decode cX11_readRail 142 = .ok (.iload_n 3, 1) := by decide +kernel
theorem dX11_readRail_143 : decode cX11_readRail 143 = .ok (.iconst 2, 1) := by decide +kernel
theorem dX11_readRail_144 : decode cX11_readRail 144 = .ok (.if_icmp .eq 8, 3) := by decide +kernel
theorem dX11_readRail_147 : decode cX11_readRail 147 = .ok (.iload_n 3, 1) := by decide +kernel
theorem dX11_readRail_148 : decode cX11_readRail 148 = .ok (.iconst 3, 1) := by decide +kernel
theorem dX11_readRail_149 : decode cX11_readRail 149 = .ok (.if_icmp .ne 7, 3) := by decide +kernel
theorem dX11_readRail_152 : decode cX11_readRail 152 = .ok (.iconst 1, 1) := by decide +kernel
theorem dX11_readRail_153 : decode cX11_readRail 153 = .ok (.goto 13, 3) := by decide +kernel
theorem dX11_readRail_156 : decode cX11_readRail 156 = .ok (.iload_n 3, 1) := by decide +kernel
theorem dX11_readRail_157 : decode cX11_readRail 157 = .ok (.iconst 4, 1) := by decide +kernel
theorem dX11_readRail_158 : decode cX11_readRail 158 = .ok (.if_icmp .ne 7, 3) := by decide +kernel
theorem dX11_readRail_161 : decode cX11_readRail 161 = .ok (.iconst 2, 1) := by decide +kernel
theorem dX11_readRail_162 : decode cX11_readRail 162 = .ok (.goto 4, 3) := by decide +kernel
theorem dX11_readRail_165 : decode cX11_readRail 165 = .ok (.iconst 0, 1) := by decide +kernel
theorem dX11_readRail_166 : decode cX11_readRail 166 = .ok (.iastore, 1) := by decide +kernel
theorem dX11_readRail_167 : decode cX11_readRail 167 = .ok (.iinc 3 1, 3) := by decide +kernel
theorem dX11_readRail_170 : decode cX11_readRail 170 = .ok (.goto (-64), 3) := by decide +kernel
theorem dX11_readRail_173 : decode cX11_readRail 173 = .ok (.iconst 0, 1) := by decide +kernel
theorem dX11_readRail_174 : decode cX11_readRail 174 = .ok (.istore_n 3, 1) := by decide +kernel
theorem dX11_readRail_175 : decode cX11_readRail 175 = .ok (.aload_n 0, 1) := by decide +kernel
theorem dX11_readRail_176 : decode cX11_readRail 176 = .ok (.getfield 145, 3) := by decide +kernel
theorem dX11_readRail_179 : decode cX11_readRail 179 = .ok (.ifCond .ne 91, 3) := by decide +kernel
theorem dX11_readRail_182 : decode cX11_readRail 182 = .ok (.aload_n 0, 1) := by decide +kernel
theorem dX11_readRail_183 : decode cX11_readRail 183 = .ok (.getfield 167, 3) := by decide +kernel
theorem dX11_readRail_186 : decode cX11_readRail 186 = .ok (.iconst 1, 1) := by decide +kernel
theorem dX11_readRail_187 : decode cX11_readRail 187 = .ok (.if_icmp .ne 83, 3) := by decide +kernel
theorem dX11_readRail_190 : decode cX11_readRail 190 = .ok (.aload_n 0, 1) := by decide +kernel
theorem dX11_readRail_191 : decode cX11_readRail 191 = .ok (.invokevirtual 188, 3) := by decide +kernel
theorem dX11_readRail_194 : decode cX11_readRail 194 = .ok (.bipush 27, 2) := by decide +kernel
theorem dX11_readRail_196 : decode cX11_readRail 196 = .ok (.if_icmp .eq 74, 3) := by decide +kernel
theorem dX11_readRail_199 : decode cX11_readRail 199 = .ok (.aload_n 0, 1) := by decide +kernel
theorem dX11_readRail_200 : decode cX11_readRail 200 = .ok (.invokevirtual 188, 3) := by decide +kernel
theorem dX11_readRail_203 : decode cX11_readRail 203 = .ok (.istore 4, 2) := by decide +kernel
theorem dX11_readRail_205 : decode cX11_readRail 205 = .ok (.aload_n 0, 1) := by decide +kernel
theorem dX11_readRail_206 : decode cX11_readRail 206 = .ok (.iload 4, 2) := by decide +kernel
theorem dX11_readRail_208 : decode cX11_readRail 208 = .ok (.i2l, 1) := by decide +kernel
theorem dX11_readRail_209 : decode cX11_readRail 209 = .ok (.ldc2_w 222, 3) := by decide +kernel
theorem dX11_readRail_212 : decode cX11_readRail 212 = .ok (.ldc2_w 224, 3) := by decide +kernel
theorem dX11_readRail_215 : decode cX11_readRail 215 = .ok (.invokestatic 141, 3) := by decide +kernel
theorem dX11_readRail_218 : decode cX11_readRail 218 = .ok (.iconst 2, 1) := by decide +kernel
theorem dX11_readRail_219 : decode cX11_readRail 219 = .ok (.invokevirtual 181, 3) := by decide +kernel
theorem dX11_readRail_222 : decode cX11_readRail 222 = .ok (.aload_n 0, 1) := by decide +kernel
theorem dX11_readRail_223 : decode cX11_readRail 223 = .ok (.getfield 145, 3) := by decide +kernel
theorem dX11_readRail_226 : decode cX11_readRail 226 = .ok (.ifCond .ne 41, 3) := by decide +kernel
theorem dX11_readRail_229 : decode cX11_readRail 229 = .ok (.aload_n 0, 1) := by decide +kernel
theorem dX11_readRail_230 : decode cX11_readRail 230 = .ok (.iload_n 3, 1) := by decide +kernel
theorem dX11_readRail_231 : decode cX11_readRail 231 = .ok (.iload 4, 2) := by decide +kernel
theorem dX11_readRail_233 : decode cX11_readRail 233 = .ok (.bipush 23, 2) := by decide +kernel
theorem dX11_readRail_235 : decode cX11_readRail 235 = .ok (.isub, 1) := by decide +kernel
theorem dX11_readRail_236 : decode cX11_readRail 236 = .ok (.ishr, 1) := by decide +kernel
theorem dX11_readRail_237 : decode cX11_readRail 237 = .ok (.iconst 1, 1) := by decide +kernel
theorem dX11_readRail_238 : decode cX11_readRail 238 = .ok (.iand, 1) := by decide +kernel
theorem dX11_readRail_239 : decode cX11_readRail 239 = .ok (.ifCond .ne 7, 3) := by decide +kernel
theorem dX11_readRail_242 : decode cX11_readRail 242 = .ok (.iconst 1, 1) := by decide +kernel
theorem dX11_readRail_243 : decode cX11_readRail 243 = .ok (.goto 4, 3) := by decide +kernel
theorem dX11_readRail_246 : decode cX11_readRail 246 = .ok (.iconst 0, 1) := by decide +kernel
theorem dX11_readRail_247 : decode cX11_readRail 247 = .ok (.iconst 4, 1) := by decide +kernel
theorem dX11_readRail_248 : decode cX11_readRail 248 = .ok (.invokevirtual 181, 3) := by decide +kernel
theorem dX11_readRail_251 : decode cX11_readRail 251 = .ok (.iload_n 3, 1) := by decide +kernel
theorem dX11_readRail_252 : decode cX11_readRail 252 = .ok (.iconst 1, 1) := by decide +kernel
theorem dX11_readRail_253 : decode cX11_readRail 253 = .ok (.iload 4, 2) := by decide +kernel
theorem dX11_readRail_255 : decode cX11_readRail 255 = .ok (.bipush 23, 2) := by decide +kernel
theorem dX11_readRail_257 : decode cX11_readRail 257 = .ok (.isub, 1) := by decide +kernel
theorem dX11_readRail_258 : decode cX11_readRail 258 = .ok (.ishl, 1) := by decide +kernel
theorem dX11_readRail_259 : decode cX11_readRail 259 = .ok (.ior, 1) := by decide +kernel
theorem dX11_readRail_260 : decode cX11_readRail 260 = .ok (.istore_n 3, 1) := by decide +kernel
theorem dX11_readRail_261 : decode cX11_readRail 261 = .ok (.aload_n 0, 1) := by decide +kernel
theorem dX11_readRail_262 : decode cX11_readRail 262 = .ok (.iload 4, 2) := by decide +kernel
theorem dX11_readRail_264 : decode cX11_readRail 264 = .ok (.invokevirtual 226, 3) := by decide +kernel
theorem dX11_readRail_267 : decode cX11_readRail 267 = .ok (.goto (-92), 3) := by decide +kernel
theorem dX11_readRail_270 : decode cX11_readRail 270 = .ok (.aload_n 0, 1) := by decide +kernel
theorem dX11_readRail_271 : decode cX11_readRail 271 = .ok (.invokevirtual 229, 3) := by decide +kernel
theorem dX11_readRail_274 : decode cX11_readRail 274 = .ok (.return_, 1) := by decide +kernel
set_option maxRecDepth 20000 in
theorem ggX11_readWhen_X11_next : GoodIn wsX11_readWhen wsX11_next := goodIn_r _ [10, 1, 11, 12, 2, 13, 14, 15, 16, 17, 18, 19, 20, 9, 21, 22, 23, 24, 25, 26, 27, 28, 29, 30, 31, 78, 79, 80, 81, 82, 83, 84, 85, 86, 87, 88, 89, 90, 91, 92, 93, 94, 95, 96, 97, 98, 99, 100, 101, 102, 103, 104, 105, 106, 107, 108, 109, 110, 111, 112, 113, 114, 115, 116, 117, 118, 119, 120, 121, 122, 123, 124, 125, 126, 127, 128, 129, 130, 131, 132, 133, 134, 135, 136] (by decide +kernel) (by decide +kernel)
set_option maxRecDepth 20000 in
theorem gX11_readWhen_X11_next : GoodIn wsX11_readWhen (wsV RX11 185 RX11 yX11_next wsX11_next) := goodIn_app (goodIn_of _ (by decide +kernel)) ggX11_readWhen_X11_next
set_option maxRecDepth 20000 in
theorem ggX11_readWhen_X11_readFormula : GoodIn wsX11_readWhen wsX11_readFormula := goodIn_r _ [35, 4, 36, 37, 1, 2, 38, 39, 40, 9, 41, 27, 28, 29, 30, 12, 31, 42, 43, 44, 45, 46, 6, 7, 8, 10, 11, 13, 14, 15, 16, 17, 18, 19, 20, 21, 22, 23, 24, 25, 26, 47, 48, 49, 50, 51, 3, 52, 53, 54, 55, 56, 57, 58, 59, 60, 61, 62, 63, 64, 65, 66, 78, 79, 80, 81, 82, 83, 84, 85, 86, 87, 88, 89, 90, 91, 92, 93, 94, 95, 96, 97, 98, 99, 100, 101, 102, 103, 104, 105, 106, 107, 108, 109, 110, 111, 112, 113, 114, 115, 116, 117, 118, 119, 120, 121, 122, 123, 124, 125, 126, 127, 128, 129, 130, 131, 132, 133, 134, 135, 136] (by decide +kernel) (by decide +kernel)
set_option maxRecDepth 20000 in
theorem gX11_readWhen_X11_readFormula : GoodIn wsX11_readWhen (wsV RX11 232 RX11 yX11_readFormula wsX11_readFormula) := goodIn_app (goodIn_of _ (by decide +kernel)) ggX11_readWhen_X11_readFormula
set_option maxRecDepth 20000 in
theorem ggX11_readWhen_X11_keepFormula : GoodIn wsX11_readWhen wsX11_keepFormula := goodIn_r _ [70, 71, 5, 4, 3, 72, 73, 74, 75, 9, 76, 77, 78, 79, 80, 81, 82, 83, 84, 85, 86, 87, 88, 89, 90, 91, 92, 93, 94, 95, 96, 97, 98, 99, 100, 101, 102, 103, 104, 105, 106, 107, 108, 109, 110, 111, 112, 113, 114, 115, 116, 117, 118, 119, 120, 121, 122, 123, 124, 125, 126, 127, 128, 129, 130, 131, 132, 133, 134, 135, 136] (by decide +kernel) (by decide +kernel)
set_option maxRecDepth 20000 in
theorem gX11_readWhen_X11_keepFormula : GoodIn wsX11_readWhen (wsV RX11 235 RX11 yX11_keepFormula wsX11_keepFormula) := goodIn_app (goodIn_of _ (by decide +kernel)) ggX11_readWhen_X11_keepFormula
theorem dX11_readWhen_0 : decode cX11_readWhen 0 = .ok (.aload_n 0, 1) := by decide +kernel
theorem dX11_readWhen_1 : decode cX11_readWhen 1 = .ok (.getfield 145, 3) := by decide +kernel
theorem dX11_readWhen_4 : decode cX11_readWhen 4 = .ok (.ifCond .ne 22, 3) := by decide +kernel
theorem dX11_readWhen_7 : decode cX11_readWhen 7 = .ok (.aload_n 0, 1) := by decide +kernel
theorem dX11_readWhen_8 : decode cX11_readWhen 8 = .ok (.getfield 167, 3) := by decide +kernel
theorem dX11_readWhen_11 : decode cX11_readWhen 11 = .ok (.iconst 1, 1) := by decide +kernel
theorem dX11_readWhen_12 : decode cX11_readWhen 12 = .ok (.if_icmp .ne 14, 3) := by decide +kernel
theorem dX11_readWhen_15 : decode cX11_readWhen 15 = .ok (.aload_n 0, 1) := by decide +kernel
theorem dX11_readWhen_16 : decode cX11_readWhen 16 = .ok (.invokevirtual 185, 3) := by decide +kernel
theorem dX11_readWhen_19 : decode cX11_readWhen 19 = .ok (.aload_n 0, 1) := by decide +kernel
theorem dX11_readWhen_20 : decode cX11_readWhen 20 = .ok (.invokevirtual 232, 3) := by decide +kernel
theorem dX11_readWhen_23 : decode cX11_readWhen 23 = .ok (.goto 16, 3) := by decide +kernel
theorem dX11_readWhen_26 : decode cX11_readWhen 26 = .ok (.aload_n 0, 1) := by decide +kernel
theorem dX11_readWhen_27 : decode cX11_readWhen 27 = .ok (.getfield 35, 3) := by decide +kernel
theorem dX11_readWhen_30 : decode cX11_readWhen 30 = .ok (.iconst 0, 1) := by decide +kernel
theorem dX11_readWhen_31 : decode cX11_readWhen 31 = .ok (.bipush 8, 2) := by decide +kernel
theorem dX11_readWhen_33 : decode cX11_readWhen 33 = .ok (.iastore, 1) := by decide +kernel
theorem dX11_readWhen_34 : decode cX11_readWhen 34 = .ok (.aload_n 0, 1) := by decide +kernel
theorem dX11_readWhen_35 : decode cX11_readWhen 35 = .ok (.iconst 1, 1) := by decide +kernel
theorem dX11_readWhen_36 : decode cX11_readWhen 36 = .ok (.putfield 192, 3) := by decide +kernel
theorem dX11_readWhen_39 : decode cX11_readWhen 39 = .ok (.aload_n 0, 1) := by decide +kernel
theorem dX11_readWhen_40 : decode cX11_readWhen 40 = .ok (.getfield 145, 3) := by decide +kernel
theorem dX11_readWhen_43 : decode cX11_readWhen 43 = .ok (.ifCond .ne 17, 3) := by decide +kernel
theorem dX11_readWhen_46 : decode cX11_readWhen 46 = .ok (.aload_n 0, 1) := by decide +kernel
theorem dX11_readWhen_47 : decode cX11_readWhen 47 = .ok (.invokevirtual 235, 3) := by decide +kernel
theorem dX11_readWhen_50 : decode cX11_readWhen 50 = .ok (.aload_n 0, 1) := by decide +kernel
theorem dX11_readWhen_51 : decode cX11_readWhen 51 = .ok (.dup, 1) := by decide +kernel
theorem dX11_readWhen_52 : decode cX11_readWhen 52 = .ok (.getfield 98, 3) := by decide +kernel
theorem dX11_readWhen_55 : decode cX11_readWhen 55 = .ok (.iconst 1, 1) := by decide +kernel
theorem dX11_readWhen_56 : decode cX11_readWhen 56 = .ok (.iadd, 1) := by decide +kernel
theorem dX11_readWhen_57 : decode cX11_readWhen 57 = .ok (.putfield 98, 3) := by decide +kernel
theorem dX11_readWhen_60 : decode cX11_readWhen 60 = .ok (.return_, 1) := by decide +kernel
set_option maxRecDepth 20000 in
theorem ggX11_readLine_X11_nameNow : GoodIn wsX11_readLine wsX11_nameNow := goodIn_r _ [14, 15, 16, 17, 18, 19, 20, 13, 21, 22, 23, 24, 25, 26, 27, 28, 29, 30, 104, 105, 106, 107, 108, 109, 110, 111, 112, 113, 114, 115, 116, 117, 118, 119, 120, 121, 122, 123, 124, 125, 126, 127, 128, 129, 130, 131, 132, 133, 134, 135, 136, 137, 138, 139, 140, 141, 142, 143, 144, 145, 146, 147, 148, 149, 150, 151, 152, 153, 154, 155, 156, 157, 158, 159, 160, 161, 162] (by decide +kernel) (by decide +kernel)
set_option maxRecDepth 20000 in
theorem gX11_readLine_X11_nameNow : GoodIn wsX11_readLine (wsV RX11 188 RX11 yX11_nameNow wsX11_nameNow) := goodIn_app (goodIn_of _ (by decide +kernel)) ggX11_readLine_X11_nameNow
set_option maxRecDepth 20000 in
theorem ggX11_readLine_X11_in : GoodIn wsX11_readLine wsX11_in := goodIn_r _ [26] (by decide +kernel) (by decide +kernel)
set_option maxRecDepth 20000 in
theorem gX11_readLine_X11_in : GoodIn wsX11_readLine (va_wsS RX11 141 yX11_in wsX11_in) := goodIn_app (goodIn_of _ (by decide +kernel)) ggX11_readLine_X11_in
set_option maxRecDepth 20000 in
theorem ggX11_readLine_X11_wants : GoodIn wsX11_readLine wsX11_wants := goodIn_r _ [34, 9, 15, 35, 104, 105, 106, 107, 108, 109, 110, 111, 112, 113, 114, 115, 116, 117, 118, 119, 120, 121, 122, 123, 124, 125, 126, 127, 128, 129, 130, 131, 132, 133, 134, 135, 136, 137, 138, 139, 140, 141, 142, 143, 144, 145, 146, 147, 148, 149, 150, 151, 152, 153, 154, 155, 156, 157, 158, 159, 160, 161, 162] (by decide +kernel) (by decide +kernel)
set_option maxRecDepth 20000 in
theorem gX11_readLine_X11_wants : GoodIn wsX11_readLine (wsV RX11 181 RX11 yX11_wants wsX11_wants) := goodIn_app (goodIn_of _ (by decide +kernel)) ggX11_readLine_X11_wants
set_option maxRecDepth 20000 in
theorem ggX11_readLine_X11_readRail : GoodIn wsX11_readLine wsX11_readRail := goodIn_r _ [39, 40, 9, 1, 41, 42, 43, 31, 32, 33, 13, 34, 15, 35, 44, 45, 46, 47, 16, 48, 49, 50, 51, 52, 18, 19, 20, 21, 22, 23, 24, 25, 26, 10, 11, 12, 14, 17, 27, 28, 29, 30, 53, 54, 55, 56, 57, 58, 59, 60, 61, 62, 63, 64, 65, 66, 67, 68, 69, 70, 71, 72, 73, 74, 75, 76, 77, 78, 79, 80, 81, 82, 83, 84, 85, 86, 87, 88, 89, 90, 91, 92, 93, 94, 95, 96, 97, 98, 99, 100, 101, 102, 103, 104, 105, 106, 107, 108, 109, 110, 111, 112, 113, 114, 115, 116, 117, 118, 119, 120, 121, 122, 123, 124, 125, 126, 127, 128, 129, 130, 131, 132, 133, 134, 135, 136, 137, 138, 139, 140, 141, 142, 143, 144, 145, 146, 147, 148, 149, 150, 151, 152, 153, 154, 155, 156, 157, 158, 159, 160, 161, 162] (by decide +kernel) (by decide +kernel)
set_option maxRecDepth 20000 in
theorem gX11_readLine_X11_readRail : GoodIn wsX11_readLine (wsV RX11 242 RX11 yX11_readRail wsX11_readRail) := goodIn_app (goodIn_of _ (by decide +kernel)) ggX11_readLine_X11_readRail
set_option maxRecDepth 20000 in
theorem ggX11_readLine_X11_next : GoodIn wsX11_readLine wsX11_next := goodIn_r _ [47, 9, 16, 15, 1, 48, 49, 50, 51, 52, 18, 19, 20, 13, 21, 22, 23, 24, 25, 26, 31, 32, 33, 34, 35, 104, 105, 106, 107, 108, 109, 110, 111, 112, 113, 114, 115, 116, 117, 118, 119, 120, 121, 122, 123, 124, 125, 126, 127, 128, 129, 130, 131, 132, 133, 134, 135, 136, 137, 138, 139, 140, 141, 142, 143, 144, 145, 146, 147, 148, 149, 150, 151, 152, 153, 154, 155, 156, 157, 158, 159, 160, 161, 162] (by decide +kernel) (by decide +kernel)
set_option maxRecDepth 20000 in
theorem gX11_readLine_X11_next : GoodIn wsX11_readLine (wsV RX11 185 RX11 yX11_next wsX11_next) := goodIn_app (goodIn_of _ (by decide +kernel)) ggX11_readLine_X11_next
set_option maxRecDepth 20000 in
theorem ggX11_readLine_X11_readNumber : GoodIn wsX11_readLine wsX11_readNumber := goodIn_r _ [56, 9, 1, 52, 31, 32, 33, 13, 34, 15, 35, 24, 25, 26, 44, 45, 46, 47, 16, 48, 49, 50, 51, 18, 19, 20, 21, 22, 23, 104, 105, 106, 107, 108, 109, 110, 111, 112, 113, 114, 115, 116, 117, 118, 119, 120, 121, 122, 123, 124, 125, 126, 127, 128, 129, 130, 131, 132, 133, 134, 135, 136, 137, 138, 139, 140, 141, 142, 143, 144, 145, 146, 147, 148, 149, 150, 151, 152, 153, 154, 155, 156, 157, 158, 159, 160, 161, 162] (by decide +kernel) (by decide +kernel)
set_option maxRecDepth 20000 in
theorem gX11_readLine_X11_readNumber : GoodIn wsX11_readLine (wsV RX11 218 RX11 yX11_readNumber wsX11_readNumber) := goodIn_app (goodIn_of _ (by decide +kernel)) ggX11_readLine_X11_readNumber
theorem dX11_readLine_0 : decode cX11_readLine 0 = .ok (.aload_n 0, 1) := by decide +kernel
theorem dX11_readLine_1 : decode cX11_readLine 1 = .ok (.getfield 167, 3) := by decide +kernel
theorem dX11_readLine_4 : decode cX11_readLine 4 = .ok (.iconst 1, 1) := by decide +kernel
theorem dX11_readLine_5 : decode cX11_readLine 5 = .ok (.if_icmp .ne 10, 3) := by decide +kernel
theorem dX11_readLine_8 : decode cX11_readLine 8 = .ok (.aload_n 0, 1) := by decide +kernel
theorem dX11_readLine_9 : decode cX11_readLine 9 = .ok (.invokevirtual 188, 3) := by decide +kernel
theorem dX11_readLine_12 : decode cX11_readLine 12 = .ok (.goto 5, 3) := by decide +kernel
theorem dX11_readLine_15 : decode cX11_readLine 15 = .ok (.bipush (-4), 2) := by decide +kernel
theorem dX11_readLine_17 : decode cX11_readLine 17 = .ok (.istore_n 1, 1) := by decide +kernel
theorem dX11_readLine_18 : decode cX11_readLine 18 = .ok (.aload_n 0, 1) := by decide +kernel
theorem dX11_readLine_19 : decode cX11_readLine 19 = .ok (.iload_n 1, 1) := by decide +kernel
theorem dX11_readLine_20 : decode cX11_readLine 20 = .ok (.i2l, 1) := by decide +kernel
theorem dX11_readLine_21 : decode cX11_readLine 21 = .ok (.ldc2_w 238, 3) := by decide +kernel
theorem dX11_readLine_24 : decode cX11_readLine 24 = .ok (.ldc2_w 240, 3) := by decide +kernel
theorem dX11_readLine_27 : decode cX11_readLine 27 = .ok (.invokestatic 141, 3) := by decide +kernel
theorem dX11_readLine_30 : decode cX11_readLine 30 = .ok (.iconst 2, 1) := by decide +kernel
theorem dX11_readLine_31 : decode cX11_readLine 31 = .ok (.invokevirtual 181, 3) := by decide +kernel
theorem dX11_readLine_34 : decode cX11_readLine 34 = .ok (.iload_n 1, 1) := by decide +kernel
theorem dX11_readLine_35 : decode cX11_readLine 35 = .ok (.bipush 20, 2) := by decide +kernel
theorem dX11_readLine_37 : decode cX11_readLine 37 = .ok (.if_icmp .ne 10, 3) := by decide +kernel
theorem dX11_readLine_40 : decode cX11_readLine 40 = .ok (.aload_n 0, 1) := by decide +kernel
theorem dX11_readLine_41 : decode cX11_readLine 41 = .ok (.invokevirtual 242, 3) := by decide +kernel
theorem dX11_readLine_44 : decode cX11_readLine 44 = .ok (.goto 104, 3) := by decide +kernel
theorem dX11_readLine_47 : decode cX11_readLine 47 = .ok (.iload_n 1, 1) := by decide +kernel
theorem dX11_readLine_48 : decode cX11_readLine 48 = .ok (.bipush 21, 2) := by decide +kernel
theorem dX11_readLine_50 : decode cX11_readLine 50 = .ok (.if_icmp .ne 44, 3) := by decide +kernel
theorem dX11_readLine_53 : decode cX11_readLine 53 = .ok (.aload_n 0, 1) := by decide +kernel
theorem dX11_readLine_54 : decode cX11_readLine 54 = .ok (.aload_n 0, 1) := by decide +kernel
theorem dX11_readLine_55 : decode cX11_readLine 55 = .ok (.getfield 111, 3) := by decide +kernel
theorem dX11_readLine_58 : decode cX11_readLine 58 = .ok (.ifCond .ne 7, 3) := by decide +kernel
theorem dX11_readLine_61 : decode cX11_readLine 61 = .ok (.iconst 1, 1) := by decide +kernel
theorem dX11_readLine_62 : decode cX11_readLine 62 = .ok (.goto 4, 3) := by decide +kernel
theorem dX11_readLine_65 : decode cX11_readLine 65 = .ok (.iconst 0, 1) := by decide +kernel
theorem dX11_readLine_66 : decode cX11_readLine 66 = .ok (.iconst 4, 1) := by decide +kernel
theorem dX11_readLine_67 : decode cX11_readLine 67 = .ok (.invokevirtual 181, 3) := by decide +kernel
theorem dX11_readLine_70 : decode cX11_readLine 70 = .ok (.aload_n 0, 1) := by decide +kernel
theorem dX11_readLine_71 : decode cX11_readLine 71 = .ok (.iconst 1, 1) := by decide +kernel
theorem dX11_readLine_72 : decode cX11_readLine 72 = .ok (.putfield 111, 3) := by decide +kernel
theorem dX11_readLine_75 : decode cX11_readLine 75 = .ok (.aload_n 0, 1) := by decide +kernel
theorem dX11_readLine_76 : decode cX11_readLine 76 = .ok (.invokevirtual 185, 3) := by decide +kernel
theorem dX11_readLine_79 : decode cX11_readLine 79 = .ok (.aload_n 0, 1) := by decide +kernel
theorem dX11_readLine_80 : decode cX11_readLine 80 = .ok (.aload_n 0, 1) := by decide +kernel
theorem dX11_readLine_81 : decode cX11_readLine 81 = .ok (.iconst 1, 1) := by decide +kernel
theorem dX11_readLine_82 : decode cX11_readLine 82 = .ok (.sipush 999, 3) := by decide +kernel
theorem dX11_readLine_85 : decode cX11_readLine 85 = .ok (.invokevirtual 218, 3) := by decide +kernel
theorem dX11_readLine_88 : decode cX11_readLine 88 = .ok (.putfield 102, 3) := by decide +kernel
theorem dX11_readLine_91 : decode cX11_readLine 91 = .ok (.goto 57, 3) := by decide +kernel
theorem dX11_readLine_94 : decode cX11_readLine 94 = .ok (.iload_n 1, 1) := by decide +kernel
theorem dX11_readLine_95 : decode cX11_readLine 95 = .ok (.bipush 22, 2) := by decide +kernel
theorem dX11_readLine_97 : decode cX11_readLine 97 = .ok (.if_icmp .ne 51, 3) := by decide +kernel
theorem dX11_readLine_100 : decode cX11_readLine 100 = .ok (.aload_n 0, 1) := by decide +kernel
theorem dX11_readLine_101 : decode cX11_readLine 101 = .ok (.aload_n 0, 1) := by decide +kernel
theorem dX11_readLine_102 : decode cX11_readLine 102 = .ok (.getfield 115, 3) := by decide +kernel
theorem dX11_readLine_105 : decode cX11_readLine 105 = .ok (.ifCond .ne 7, 3) := by decide +kernel
theorem dX11_readLine_108 : decode cX11_readLine 108 = .ok (.iconst 1, 1) := by decide +kernel
theorem dX11_readLine_109 : decode cX11_readLine 109 = .ok (.goto 4, 3) := by decide +kernel
theorem dX11_readLine_112 : decode cX11_readLine 112 = .ok (.iconst 0, 1) := by decide +kernel
theorem dX11_readLine_113 : decode cX11_readLine 113 = .ok (.iconst 4, 1) := by decide +kernel
theorem dX11_readLine_114 : decode cX11_readLine 114 = .ok (.invokevirtual 181, 3) := by decide +kernel
theorem dX11_readLine_117 : decode cX11_readLine 117 = .ok (.aload_n 0, 1) := by decide +kernel
theorem dX11_readLine_118 : decode cX11_readLine 118 = .ok (.iconst 1, 1) := by decide +kernel
theorem dX11_readLine_119 : decode cX11_readLine 119 = .ok (.putfield 115, 3) := by decide +kernel
theorem dX11_readLine_122 : decode cX11_readLine 122 = .ok (.aload_n 0, 1) := by decide +kernel
theorem dX11_readLine_123 : decode cX11_readLine 123 = .ok (.invokevirtual 185, 3) := by decide +kernel
theorem dX11_readLine_126 : decode cX11_readLine 126 = .ok (.aload_n 0, 1) := by decide +kernel
theorem dX11_readLine_127 : decode cX11_readLine 127 = .ok (.aload_n 0, 1) := by decide +kernel
theorem dX11_readLine_128 : decode cX11_readLine 128 = .ok (.iconst 0, 1) := by decide +kernel
theorem dX11_readLine_129 : decode cX11_readLine 129 = .ok (.bipush 9, 2) := by decide +kernel
theorem dX11_readLine_131 : decode cX11_readLine 131 = .ok (.invokevirtual 218, 3) := by decide +kernel
theorem dX11_readLine_134 : decode cX11_readLine 134 = .ok (.putfield 105, 3) := by decide +kernel
theorem dX11_readLine_137 : decode cX11_readLine 137 = .ok (.aload_n 0, 1) := by decide +kernel
theorem dX11_readLine_138 : decode cX11_readLine 138 = .ok (.aload_n 0, 1) := by decide +kernel
theorem dX11_readLine_139 : decode cX11_readLine 139 = .ok (.iconst 1, 1) := by decide +kernel
theorem dX11_readLine_140 : decode cX11_readLine 140 = .ok (.bipush 99, 2) := by decide +kernel
theorem dX11_readLine_142 : decode cX11_readLine 142 = .ok (.invokevirtual 218, 3) := by decide +kernel
theorem dX11_readLine_145 : decode cX11_readLine 145 = .ok (.putfield 108, 3) := by decide +kernel
theorem dX11_readLine_148 : decode cX11_readLine 148 = .ok (.aload_n 0, 1) := by decide +kernel
theorem dX11_readLine_149 : decode cX11_readLine 149 = .ok (.getfield 145, 3) := by decide +kernel
theorem dX11_readLine_152 : decode cX11_readLine 152 = .ok (.ifCond .ne 22, 3) := by decide +kernel
theorem dX11_readLine_155 : decode cX11_readLine 155 = .ok (.aload_n 0, 1) := by decide +kernel
theorem dX11_readLine_156 : decode cX11_readLine 156 = .ok (.aload_n 0, 1) := by decide +kernel
theorem dX11_readLine_157 : decode cX11_readLine 157 = .ok (.getfield 167, 3) := by decide +kernel
theorem dX11_readLine_160 : decode cX11_readLine 160 = .ok (.bipush 7, 2) := by decide +kernel
theorem dX11_readLine_162 : decode cX11_readLine 162 = .ok (.if_icmp .ne 7, 3) := by decide +kernel
theorem dX11_readLine_165 : decode cX11_readLine 165 = .ok (.iconst 1, 1) := by decide +kernel
theorem dX11_readLine_166 : decode cX11_readLine 166 = .ok (.goto 4, 3) := by decide +kernel
theorem dX11_readLine_169 : decode cX11_readLine 169 = .ok (.iconst 0, 1) := by decide +kernel
theorem dX11_readLine_170 : decode cX11_readLine 170 = .ok (.iconst 2, 1) := by decide +kernel
theorem dX11_readLine_171 : decode cX11_readLine 171 = .ok (.invokevirtual 181, 3) := by decide +kernel
theorem dX11_readLine_174 : decode cX11_readLine 174 = .ok (.aload_n 0, 1) := by decide +kernel
theorem dX11_readLine_175 : decode cX11_readLine 175 = .ok (.invokevirtual 185, 3) := by decide +kernel
theorem dX11_readLine_178 : decode cX11_readLine 178 = .ok (.return_, 1) := by decide +kernel
set_option maxRecDepth 20000 in
theorem ggX11_text_X11_firstDraft : GoodIn wsX11_text wsX11_firstDraft := goodIn_r _ [14, 6, 15, 16, 17, 18, 19, 4, 145, 146, 147, 148, 149, 150, 151, 152, 153, 154, 155, 156, 157, 158, 159, 160, 161, 162, 163, 164, 165, 166, 167, 168, 169, 170, 171, 172, 173, 174, 175, 176, 177, 178, 179, 180, 181, 182, 183, 184, 185, 186, 187, 188, 189, 190, 191, 192, 193, 194, 195, 196, 197, 198, 199, 200, 201, 202, 203] (by decide +kernel) (by decide +kernel)
set_option maxRecDepth 20000 in
theorem gX11_text_X11_firstDraft : GoodIn wsX11_text (wsV RX11 92 RX11 yX11_firstDraft wsX11_firstDraft) := goodIn_app (goodIn_of _ (by decide +kernel)) ggX11_text_X11_firstDraft
set_option maxRecDepth 20000 in
theorem ggX11_text_X11_next : GoodIn wsX11_text wsX11_next := goodIn_r _ [23, 1, 2, 24, 3, 25, 26, 27, 28, 29, 30, 31, 32, 13, 33, 9, 34, 35, 36, 37, 38, 39, 40, 41, 8, 145, 146, 147, 148, 149, 150, 151, 152, 153, 154, 155, 156, 157, 158, 159, 160, 161, 162, 163, 164, 165, 166, 167, 168, 169, 170, 171, 172, 173, 174, 175, 176, 177, 178, 179, 180, 181, 182, 183, 184, 185, 186, 187, 188, 189, 190, 191, 192, 193, 194, 195, 196, 197, 198, 199, 200, 201, 202, 203] (by decide +kernel) (by decide +kernel)
set_option maxRecDepth 20000 in
theorem gX11_text_X11_next : GoodIn wsX11_text (wsV RX11 185 RX11 yX11_next wsX11_next) := goodIn_app (goodIn_of _ (by decide +kernel)) ggX11_text_X11_next
set_option maxRecDepth 20000 in
theorem ggX11_text_X11_readLine : GoodIn wsX11_text wsX11_readLine := goodIn_r _ [45, 3, 46, 47, 18, 15, 19, 16, 17, 1, 48, 49, 50, 13, 51, 24, 2, 52, 30, 31, 32, 33, 9, 34, 35, 36, 37, 53, 54, 55, 56, 38, 39, 40, 41, 8, 57, 58, 59, 60, 6, 61, 62, 63, 20, 21, 22, 23, 25, 26, 27, 28, 29, 64, 65, 66, 67, 68, 69, 70, 71, 72, 73, 74, 75, 76, 77, 78, 79, 80, 81, 82, 83, 84, 85, 86, 87, 88, 89, 90, 91, 92, 93, 94, 95, 96, 5, 4, 7, 97, 98, 99, 100, 101, 102, 103, 104, 105, 106, 107, 108, 109, 110, 111, 145, 146, 147, 148, 149, 150, 151, 152, 153, 154, 155, 156, 157, 158, 159, 160, 161, 162, 163, 164, 165, 166, 167, 168, 169, 170, 171, 172, 173, 174, 175, 176, 177, 178, 179, 180, 181, 182, 183, 184, 185, 186, 187, 188, 189, 190, 191, 192, 193, 194, 195, 196, 197, 198, 199, 200, 201, 202, 203] (by decide +kernel) (by decide +kernel)
set_option maxRecDepth 20000 in
theorem gX11_text_X11_readLine : GoodIn wsX11_text (wsV RX11 245 RX11 yX11_readLine wsX11_readLine) := goodIn_app (goodIn_of _ (by decide +kernel)) ggX11_text_X11_readLine
set_option maxRecDepth 20000 in
theorem ggX11_text_X11_keepDraft : GoodIn wsX11_text wsX11_keepDraft := goodIn_r _ [115, 6, 116, 15, 117, 16, 118, 17, 119, 120, 61, 121, 105, 122, 106, 123, 124, 125, 13, 126, 127, 128, 129, 130, 131, 132, 133, 134, 135, 136, 137, 138, 139, 140, 141, 142, 143, 144, 145, 146, 147, 148, 149, 150, 151, 152, 153, 154, 155, 156, 157, 158, 159, 160, 161, 162, 163, 164, 165, 166, 167, 168, 169, 170, 171, 172, 173, 174, 175, 176, 177, 178, 179, 180, 181, 182, 183, 184, 185, 186, 187, 188, 189, 190, 191, 192, 193, 194, 195, 196, 197, 198, 199, 200, 201, 202, 203] (by decide +kernel) (by decide +kernel)
set_option maxRecDepth 20000 in
theorem gX11_text_X11_keepDraft : GoodIn wsX11_text (wsV RX11 95 RX11 yX11_keepDraft wsX11_keepDraft) := goodIn_app (goodIn_of _ (by decide +kernel)) ggX11_text_X11_keepDraft
theorem dX11_text_0 : decode cX11_text 0 = .ok (.iconst 0, 1) := by decide +kernel
theorem dX11_text_1 : decode cX11_text 1 = .ok (.istore_n 1, 1) := by decide +kernel
theorem dX11_text_2 : decode cX11_text 2 = .ok (.aload_n 0, 1) := by decide +kernel
theorem dX11_text_3 : decode cX11_text 3 = .ok (.iconst 0, 1) := by decide +kernel
theorem dX11_text_4 : decode cX11_text 4 = .ok (.putfield 145, 3) := by decide +kernel
theorem dX11_text_7 : decode cX11_text 7 = .ok (.aload_n 0, 1) := by decide +kernel
theorem dX11_text_8 : decode cX11_text 8 = .ok (.iconst 0, 1) := by decide +kernel
theorem dX11_text_9 : decode cX11_text 9 = .ok (.putfield 154, 3) := by decide +kernel
theorem dX11_text_12 : decode cX11_text 12 = .ok (.aload_n 0, 1) := by decide +kernel
theorem dX11_text_13 : decode cX11_text 13 = .ok (.invokevirtual 92, 3) := by decide +kernel
theorem dX11_text_16 : decode cX11_text 16 = .ok (.aload_n 0, 1) := by decide +kernel
theorem dX11_text_17 : decode cX11_text 17 = .ok (.invokevirtual 185, 3) := by decide +kernel
theorem dX11_text_20 : decode cX11_text 20 = .ok (.aload_n 0, 1) := by decide +kernel
theorem dX11_text_21 : decode cX11_text 21 = .ok (.getfield 145, 3) := by decide +kernel
theorem dX11_text_24 : decode cX11_text 24 = .ok (.ifCond .ne 20, 3) := by decide +kernel
theorem dX11_text_27 : decode cX11_text 27 = .ok (.aload_n 0, 1) := by decide +kernel
theorem dX11_text_28 : decode cX11_text 28 = .ok (.getfield 167, 3) := by decide +kernel
theorem dX11_text_31 : decode cX11_text 31 = .ok (.ifCond .eq 13, 3) := by decide +kernel
theorem dX11_text_34 : decode cX11_text 34 = .ok (.aload_n 0, 1) := by decide +kernel
theorem dX11_text_35 : decode cX11_text 35 = .ok (.invokevirtual 245, 3) := by decide +kernel
theorem dX11_text_38 : decode cX11_text 38 = .ok (.iinc 1 1, 3) := by decide +kernel
theorem dX11_text_41 : decode cX11_text 41 = .ok (.goto (-21), 3) := by decide +kernel
theorem dX11_text_44 : decode cX11_text 44 = .ok (.iconst 0, 1) := by decide +kernel
theorem dX11_text_45 : decode cX11_text 45 = .ok (.istore_n 2, 1) := by decide +kernel
theorem dX11_text_46 : decode cX11_text 46 = .ok (.iload_n 2, 1) := by decide +kernel
theorem dX11_text_47 : decode cX11_text 47 = .ok (.aload_n 0, 1) := by decide +kernel
theorem dX11_text_48 : decode cX11_text 48 = .ok (.getfield 118, 3) := by decide +kernel
theorem dX11_text_51 : decode cX11_text 51 = .ok (.if_icmp .ge 45, 3) := by decide +kernel
theorem dX11_text_54 : decode cX11_text 54 = .ok (.aload_n 0, 1) := by decide +kernel
theorem dX11_text_55 : decode cX11_text 55 = .ok (.getfield 145, 3) := by decide +kernel
theorem dX11_text_58 : decode cX11_text 58 = .ok (.ifCond .ne 38, 3) := by decide +kernel
theorem dX11_text_61 : decode cX11_text 61 = .ok (.aload_n 0, 1) := by decide +kernel
theorem dX11_text_62 : decode cX11_text 62 = .ok (.getfield 29, 3) := by decide +kernel
theorem dX11_text_65 : decode cX11_text 65 = .ok (.iload_n 2, 1) := by decide +kernel
theorem dX11_text_66 : decode cX11_text 66 = .ok (.iaload, 1) := by decide +kernel
theorem dX11_text_67 : decode cX11_text 67 = .ok (.aload_n 0, 1) := by decide +kernel
theorem dX11_text_68 : decode cX11_text 68 = .ok (.getfield 98, 3) := by decide +kernel
theorem dX11_text_71 : decode cX11_text 71 = .ok (.if_icmp .lt 19, 3) := by decide +kernel
theorem dX11_text_74 : decode cX11_text 74 = .ok (.aload_n 0, 1) := by decide +kernel
theorem dX11_text_75 : decode cX11_text 75 = .ok (.bipush 6, 2) := by decide +kernel
theorem dX11_text_77 : decode cX11_text 77 = .ok (.putfield 145, 3) := by decide +kernel
theorem dX11_text_80 : decode cX11_text 80 = .ok (.aload_n 0, 1) := by decide +kernel
theorem dX11_text_81 : decode cX11_text 81 = .ok (.aload_n 0, 1) := by decide +kernel
theorem dX11_text_82 : decode cX11_text 82 = .ok (.getfield 32, 3) := by decide +kernel
theorem dX11_text_85 : decode cX11_text 85 = .ok (.iload_n 2, 1) := by decide +kernel
theorem dX11_text_86 : decode cX11_text 86 = .ok (.iaload, 1) := by decide +kernel
theorem dX11_text_87 : decode cX11_text 87 = .ok (.putfield 151, 3) := by decide +kernel
theorem dX11_text_90 : decode cX11_text 90 = .ok (.iinc 2 1, 3) := by decide +kernel
theorem dX11_text_93 : decode cX11_text 93 = .ok (.goto (-47), 3) := by decide +kernel
theorem dX11_text_96 : decode cX11_text 96 = .ok (.aload_n 0, 1) := by decide +kernel
theorem dX11_text_97 : decode cX11_text 97 = .ok (.iconst 0, 1) := by decide +kernel
theorem dX11_text_98 : decode cX11_text 98 = .ok (.putfield 136, 3) := by decide +kernel
theorem dX11_text_101 : decode cX11_text 101 = .ok (.aload_n 0, 1) := by decide +kernel
theorem dX11_text_102 : decode cX11_text 102 = .ok (.getfield 145, 3) := by decide +kernel
theorem dX11_text_105 : decode cX11_text 105 = .ok (.ifCond .le 11, 3) := by decide +kernel
theorem dX11_text_108 : decode cX11_text 108 = .ok (.bipush (-10), 2) := by decide +kernel
theorem dX11_text_110 : decode cX11_text 110 = .ok (.aload_n 0, 1) := by decide +kernel
theorem dX11_text_111 : decode cX11_text 111 = .ok (.getfield 151, 3) := by decide +kernel
theorem dX11_text_114 : decode cX11_text 114 = .ok (.isub, 1) := by decide +kernel
theorem dX11_text_115 : decode cX11_text 115 = .ok (.ireturn, 1) := by decide +kernel
theorem dX11_text_116 : decode cX11_text 116 = .ok (.aload_n 0, 1) := by decide +kernel
theorem dX11_text_117 : decode cX11_text 117 = .ok (.invokevirtual 95, 3) := by decide +kernel
theorem dX11_text_120 : decode cX11_text 120 = .ok (.iload_n 1, 1) := by decide +kernel
theorem dX11_text_121 : decode cX11_text 121 = .ok (.ireturn, 1) := by decide +kernel
theorem dX11_fault_0 : decode cX11_fault 0 = .ok (.aload_n 0, 1) := by decide +kernel
theorem dX11_fault_1 : decode cX11_fault 1 = .ok (.getfield 145, 3) := by decide +kernel
theorem dX11_fault_4 : decode cX11_fault 4 = .ok (.ireturn, 1) := by decide +kernel
set_option maxRecDepth 20000 in
theorem ggX11_isRail_X11_in : GoodIn wsX11_isRail wsX11_in := goodIn_r _ [5] (by decide +kernel) (by decide +kernel)
set_option maxRecDepth 20000 in
theorem gX11_isRail_X11_in : GoodIn wsX11_isRail (va_wsS RX11 141 yX11_in wsX11_in) := goodIn_app (goodIn_of _ (by decide +kernel)) ggX11_isRail_X11_in
theorem dX11_isRail_0 : decode cX11_isRail 0 = .ok (.iload_n 1, 1) := by decide +kernel
theorem dX11_isRail_1 : decode cX11_isRail 1 = .ok (.i2l, 1) := by decide +kernel
theorem dX11_isRail_2 : decode cX11_isRail 2 = .ok (.lconst 0, 1) := by decide +kernel
theorem dX11_isRail_3 : decode cX11_isRail 3 = .ok (.aload_n 0, 1) := by decide +kernel
theorem dX11_isRail_4 : decode cX11_isRail 4 = .ok (.getfield 121, 3) := by decide +kernel
theorem dX11_isRail_7 : decode cX11_isRail 7 = .ok (.iconst 1, 1) := by decide +kernel
theorem dX11_isRail_8 : decode cX11_isRail 8 = .ok (.isub, 1) := by decide +kernel
theorem dX11_isRail_9 : decode cX11_isRail 9 = .ok (.i2l, 1) := by decide +kernel
theorem dX11_isRail_10 : decode cX11_isRail 10 = .ok (.invokestatic 141, 3) := by decide +kernel
theorem dX11_isRail_13 : decode cX11_isRail 13 = .ok (.ireturn, 1) := by decide +kernel
set_option maxRecDepth 20000 in
theorem ggX11_areRails_X11_in : GoodIn wsX11_areRails wsX11_in := goodIn_r _ [5] (by decide +kernel) (by decide +kernel)
set_option maxRecDepth 20000 in
theorem gX11_areRails_X11_in : GoodIn wsX11_areRails (va_wsS RX11 141 yX11_in wsX11_in) := goodIn_app (goodIn_of _ (by decide +kernel)) ggX11_areRails_X11_in
theorem dX11_areRails_0 : decode cX11_areRails 0 = .ok (.iload_n 1, 1) := by decide +kernel
theorem dX11_areRails_1 : decode cX11_areRails 1 = .ok (.i2l, 1) := by decide +kernel
theorem dX11_areRails_2 : decode cX11_areRails 2 = .ok (.lconst 0, 1) := by decide +kernel
theorem dX11_areRails_3 : decode cX11_areRails 3 = .ok (.iconst 1, 1) := by decide +kernel
theorem dX11_areRails_4 : decode cX11_areRails 4 = .ok (.aload_n 0, 1) := by decide +kernel
theorem dX11_areRails_5 : decode cX11_areRails 5 = .ok (.getfield 121, 3) := by decide +kernel
theorem dX11_areRails_8 : decode cX11_areRails 8 = .ok (.ishl, 1) := by decide +kernel
theorem dX11_areRails_9 : decode cX11_areRails 9 = .ok (.iconst 1, 1) := by decide +kernel
theorem dX11_areRails_10 : decode cX11_areRails 10 = .ok (.isub, 1) := by decide +kernel
theorem dX11_areRails_11 : decode cX11_areRails 11 = .ok (.i2l, 1) := by decide +kernel
theorem dX11_areRails_12 : decode cX11_areRails 12 = .ok (.invokestatic 141, 3) := by decide +kernel
theorem dX11_areRails_15 : decode cX11_areRails 15 = .ok (.ireturn, 1) := by decide +kernel
set_option maxRecDepth 20000 in
theorem ggX11_rail_X11_isRail : GoodIn wsX11_rail wsX11_isRail := goodIn_r _ [7, 8, 9, 10, 6, 11, 17, 18, 19, 20, 21, 22, 23, 24, 25, 26, 27, 28, 29, 30, 31, 32, 33, 34, 35, 36, 37, 38, 39, 40, 41, 42, 43, 44, 45, 46, 47, 48, 49, 50, 51, 52, 53, 54, 55, 56, 57, 58, 59, 60, 61, 62, 63, 64, 65, 66, 67, 68, 69, 70, 71, 72, 73, 74, 75] (by decide +kernel) (by decide +kernel)
set_option maxRecDepth 20000 in
theorem gX11_rail_X11_isRail : GoodIn wsX11_rail (wsV RX11 248 RX11 yX11_isRail wsX11_isRail) := goodIn_app (goodIn_of _ (by decide +kernel)) ggX11_rail_X11_isRail
set_option maxRecDepth 20000 in
theorem ggX11_rail_X11_in : GoodIn wsX11_rail wsX11_in := goodIn_r _ [11] (by decide +kernel) (by decide +kernel)
set_option maxRecDepth 20000 in
theorem gX11_rail_X11_in : GoodIn wsX11_rail (va_wsS RX11 141 yX11_in wsX11_in) := goodIn_app (goodIn_of _ (by decide +kernel)) ggX11_rail_X11_in
set_option maxRecDepth 20000 in
theorem ggX11_rail_X11_of : GoodIn wsX11_rail wsX11_of := goodIn_r _ [15, 16, 17, 18, 19, 20, 21, 22, 23, 24, 25, 26, 27, 28, 29, 30, 31, 32, 33, 34, 35, 36, 37, 38, 39, 40, 41, 42, 43, 44, 45, 46, 47, 48, 49, 50, 51, 52, 53, 54, 55, 56, 57, 58, 59, 60, 61, 62, 63, 64, 65, 66, 67, 68, 69, 70, 71, 72, 73, 74, 75] (by decide +kernel) (by decide +kernel)
set_option maxRecDepth 20000 in
theorem gX11_rail_X11_of : GoodIn wsX11_rail (wsV RX11 251 RX11 yX11_of wsX11_of) := goodIn_app (goodIn_of _ (by decide +kernel)) ggX11_rail_X11_of
theorem dX11_rail_0 : decode cX11_rail 0 = .ok (.aload_n 0, 1) := by decide +kernel
theorem dX11_rail_1 : decode cX11_rail 1 = .ok (.iload_n 1, 1) := by decide +kernel
theorem dX11_rail_2 : decode cX11_rail 2 = .ok (.invokevirtual 248, 3) := by decide +kernel
theorem dX11_rail_5 : decode cX11_rail 5 = .ok (.ifCond .eq 15, 3) := by decide +kernel
theorem dX11_rail_8 : decode cX11_rail 8 = .ok (.iload_n 2, 1) := by decide +kernel
theorem dX11_rail_9 : decode cX11_rail 9 = .ok (.i2l, 1) := by decide +kernel
theorem dX11_rail_10 : decode cX11_rail 10 = .ok (.lconst 0, 1) := by decide +kernel
theorem dX11_rail_11 : decode cX11_rail 11 = .ok (.ldc2_w 161, 3) := by decide +kernel
theorem dX11_rail_14 : decode cX11_rail 14 = .ok (.invokestatic 141, 3) := by decide +kernel
theorem dX11_rail_17 : decode cX11_rail 17 = .ok (.ifCond .ne 7, 3) := by decide +kernel
theorem dX11_rail_20 : decode cX11_rail 20 = .ok (.iconst (-1), 1) := by decide +kernel
theorem dX11_rail_21 : decode cX11_rail 21 = .ok (.goto 24, 3) := by decide +kernel
theorem dX11_rail_24 : decode cX11_rail 24 = .ok (.iload_n 2, 1) := by decide +kernel
theorem dX11_rail_25 : decode cX11_rail 25 = .ok (.bipush 7, 2) := by decide +kernel
theorem dX11_rail_27 : decode cX11_rail 27 = .ok (.if_icmp .ge 12, 3) := by decide +kernel
theorem dX11_rail_30 : decode cX11_rail 30 = .ok (.aload_n 0, 1) := by decide +kernel
theorem dX11_rail_31 : decode cX11_rail 31 = .ok (.iload_n 1, 1) := by decide +kernel
theorem dX11_rail_32 : decode cX11_rail 32 = .ok (.iload_n 2, 1) := by decide +kernel
theorem dX11_rail_33 : decode cX11_rail 33 = .ok (.invokevirtual 251, 3) := by decide +kernel
theorem dX11_rail_36 : decode cX11_rail 36 = .ok (.goto 9, 3) := by decide +kernel
theorem dX11_rail_39 : decode cX11_rail 39 = .ok (.aload_n 0, 1) := by decide +kernel
theorem dX11_rail_40 : decode cX11_rail 40 = .ok (.getfield 13, 3) := by decide +kernel
theorem dX11_rail_43 : decode cX11_rail 43 = .ok (.iload_n 1, 1) := by decide +kernel
theorem dX11_rail_44 : decode cX11_rail 44 = .ok (.iaload, 1) := by decide +kernel
theorem dX11_rail_45 : decode cX11_rail 45 = .ok (.ireturn, 1) := by decide +kernel
theorem dX11_rule_0 : decode cX11_rule 0 = .ok (.iload_n 1, 1) := by decide +kernel
theorem dX11_rule_1 : decode cX11_rule 1 = .ok (.ifCond .ne 10, 3) := by decide +kernel
theorem dX11_rule_4 : decode cX11_rule 4 = .ok (.aload_n 0, 1) := by decide +kernel
theorem dX11_rule_5 : decode cX11_rule 5 = .ok (.getfield 124, 3) := by decide +kernel
theorem dX11_rule_8 : decode cX11_rule 8 = .ok (.goto 40, 3) := by decide +kernel
theorem dX11_rule_11 : decode cX11_rule 11 = .ok (.iload_n 1, 1) := by decide +kernel
theorem dX11_rule_12 : decode cX11_rule 12 = .ok (.iconst 1, 1) := by decide +kernel
theorem dX11_rule_13 : decode cX11_rule 13 = .ok (.if_icmp .ne 10, 3) := by decide +kernel
theorem dX11_rule_16 : decode cX11_rule 16 = .ok (.aload_n 0, 1) := by decide +kernel
theorem dX11_rule_17 : decode cX11_rule 17 = .ok (.getfield 127, 3) := by decide +kernel
theorem dX11_rule_20 : decode cX11_rule 20 = .ok (.goto 28, 3) := by decide +kernel
theorem dX11_rule_23 : decode cX11_rule 23 = .ok (.iload_n 1, 1) := by decide +kernel
theorem dX11_rule_24 : decode cX11_rule 24 = .ok (.iconst 2, 1) := by decide +kernel
theorem dX11_rule_25 : decode cX11_rule 25 = .ok (.if_icmp .ne 10, 3) := by decide +kernel
theorem dX11_rule_28 : decode cX11_rule 28 = .ok (.aload_n 0, 1) := by decide +kernel
theorem dX11_rule_29 : decode cX11_rule 29 = .ok (.getfield 130, 3) := by decide +kernel
theorem dX11_rule_32 : decode cX11_rule 32 = .ok (.goto 16, 3) := by decide +kernel
theorem dX11_rule_35 : decode cX11_rule 35 = .ok (.iload_n 1, 1) := by decide +kernel
theorem dX11_rule_36 : decode cX11_rule 36 = .ok (.iconst 3, 1) := by decide +kernel
theorem dX11_rule_37 : decode cX11_rule 37 = .ok (.if_icmp .ne 10, 3) := by decide +kernel
theorem dX11_rule_40 : decode cX11_rule 40 = .ok (.aload_n 0, 1) := by decide +kernel
theorem dX11_rule_41 : decode cX11_rule 41 = .ok (.getfield 121, 3) := by decide +kernel
theorem dX11_rule_44 : decode cX11_rule 44 = .ok (.goto 4, 3) := by decide +kernel
theorem dX11_rule_47 : decode cX11_rule 47 = .ok (.iconst (-1), 1) := by decide +kernel
theorem dX11_rule_48 : decode cX11_rule 48 = .ok (.ireturn, 1) := by decide +kernel
theorem dX11_isSo_0 : decode cX11_isSo 0 = .ok (.aload_n 0, 1) := by decide +kernel
theorem dX11_isSo_1 : decode cX11_isSo 1 = .ok (.getfield 16, 3) := by decide +kernel
theorem dX11_isSo_4 : decode cX11_isSo 4 = .ok (.sipush 512, 3) := by decide +kernel
theorem dX11_isSo_7 : decode cX11_isSo 7 = .ok (.iload_n 1, 1) := by decide +kernel
theorem dX11_isSo_8 : decode cX11_isSo 8 = .ok (.imul, 1) := by decide +kernel
theorem dX11_isSo_9 : decode cX11_isSo 9 = .ok (.iload_n 2, 1) := by decide +kernel
theorem dX11_isSo_10 : decode cX11_isSo 10 = .ok (.iadd, 1) := by decide +kernel
theorem dX11_isSo_11 : decode cX11_isSo 11 = .ok (.baload, 1) := by decide +kernel
theorem dX11_isSo_12 : decode cX11_isSo 12 = .ok (.ireturn, 1) := by decide +kernel
set_option maxRecDepth 20000 in
theorem ggX11_holds_X11_isRail : GoodIn wsX11_holds wsX11_isRail := goodIn_r _ [6, 7, 8, 9, 5, 10, 19, 20, 21, 22, 23, 24, 25, 26, 27, 28, 29, 30, 31, 32, 33, 34, 35, 36, 37, 38, 39, 40, 41, 42, 43, 44, 45, 46, 47, 48, 49, 50, 51, 52, 53, 54, 55, 56, 57, 58, 59, 60, 61, 62, 63, 64, 65, 66, 67, 68, 69, 70, 71, 72, 73, 74, 75, 76, 77] (by decide +kernel) (by decide +kernel)
set_option maxRecDepth 20000 in
theorem gX11_holds_X11_isRail : GoodIn wsX11_holds (wsV RX11 248 RX11 yX11_isRail wsX11_isRail) := goodIn_app (goodIn_of _ (by decide +kernel)) ggX11_holds_X11_isRail
set_option maxRecDepth 20000 in
theorem ggX11_holds_X11_in : GoodIn wsX11_holds wsX11_in := goodIn_r _ [10] (by decide +kernel) (by decide +kernel)
set_option maxRecDepth 20000 in
theorem gX11_holds_X11_in : GoodIn wsX11_holds (va_wsS RX11 141 yX11_in wsX11_in) := goodIn_app (goodIn_of _ (by decide +kernel)) ggX11_holds_X11_in
set_option maxRecDepth 20000 in
theorem ggX11_holds_X11_isSo : GoodIn wsX11_holds wsX11_isSo := goodIn_r _ [14, 15, 19, 20, 21, 22, 23, 24, 25, 26, 27, 28, 29, 30, 31, 32, 33, 34, 35, 36, 37, 38, 39, 40, 41, 42, 43, 44, 45, 46, 47, 48, 49, 50, 51, 52, 53, 54, 55, 56, 57, 58, 59, 60, 61, 62, 63, 64, 65, 66, 67, 68, 69, 70, 71, 72, 73, 74, 75, 76, 77] (by decide +kernel) (by decide +kernel)
set_option maxRecDepth 20000 in
theorem gX11_holds_X11_isSo : GoodIn wsX11_holds (wsV RX11 256 RX11 yX11_isSo wsX11_isSo) := goodIn_app (goodIn_of _ (by decide +kernel)) ggX11_holds_X11_isSo
set_option maxRecDepth 20000 in
theorem ggX11_holds_X11_flag : GoodIn wsX11_holds wsX11_flag := goodIn_r _ [18] (by decide +kernel) (by decide +kernel)
set_option maxRecDepth 20000 in
theorem gX11_holds_X11_flag : GoodIn wsX11_holds (va_wsS RX11 260 yX11_flag wsX11_flag) := goodIn_app (goodIn_of _ (by decide +kernel)) ggX11_holds_X11_flag
theorem dX11_holds_0 : decode cX11_holds 0 = .ok (.aload_n 0, 1) := by decide +kernel
theorem dX11_holds_1 : decode cX11_holds 1 = .ok (.iload_n 1, 1) := by decide +kernel
theorem dX11_holds_2 : decode cX11_holds 2 = .ok (.invokevirtual 248, 3) := by decide +kernel
theorem dX11_holds_5 : decode cX11_holds 5 = .ok (.ifCond .eq 27, 3) := by decide +kernel
theorem dX11_holds_8 : decode cX11_holds 8 = .ok (.iload_n 2, 1) := by decide +kernel
theorem dX11_holds_9 : decode cX11_holds 9 = .ok (.i2l, 1) := by decide +kernel
theorem dX11_holds_10 : decode cX11_holds 10 = .ok (.lconst 0, 1) := by decide +kernel
theorem dX11_holds_11 : decode cX11_holds 11 = .ok (.ldc2_w 254, 3) := by decide +kernel
theorem dX11_holds_14 : decode cX11_holds 14 = .ok (.invokestatic 141, 3) := by decide +kernel
theorem dX11_holds_17 : decode cX11_holds 17 = .ok (.ifCond .eq 15, 3) := by decide +kernel
theorem dX11_holds_20 : decode cX11_holds 20 = .ok (.aload_n 0, 1) := by decide +kernel
theorem dX11_holds_21 : decode cX11_holds 21 = .ok (.iload_n 1, 1) := by decide +kernel
theorem dX11_holds_22 : decode cX11_holds 22 = .ok (.iload_n 2, 1) := by decide +kernel
theorem dX11_holds_23 : decode cX11_holds 23 = .ok (.invokevirtual 256, 3) := by decide +kernel
theorem dX11_holds_26 : decode cX11_holds 26 = .ok (.invokestatic 260, 3) := by decide +kernel
theorem dX11_holds_29 : decode cX11_holds 29 = .ok (.goto 4, 3) := by decide +kernel
theorem dX11_holds_32 : decode cX11_holds 32 = .ok (.iconst (-1), 1) := by decide +kernel
theorem dX11_holds_33 : decode cX11_holds 33 = .ok (.ireturn, 1) := by decide +kernel
set_option maxRecDepth 20000 in
theorem ggX11_isLeast_X11_isSo : GoodIn wsX11_isLeast wsX11_isSo := goodIn_r _ [5, 6, 7, 8, 9, 10, 11, 12, 13, 14, 15, 16, 17, 18, 19, 20, 21, 22, 23, 24, 25, 26, 27, 28, 29, 30, 31, 32, 33, 34, 35, 36, 37, 38, 39, 40, 41, 42, 43, 44, 45, 46, 47, 48, 49, 50, 51, 52, 53, 54, 55, 56, 57, 58, 59, 60, 61, 62, 63, 64, 65] (by decide +kernel) (by decide +kernel)
set_option maxRecDepth 20000 in
theorem gX11_isLeast_X11_isSo : GoodIn wsX11_isLeast (wsV RX11 256 RX11 yX11_isSo wsX11_isSo) := goodIn_app (goodIn_of _ (by decide +kernel)) ggX11_isLeast_X11_isSo
theorem dX11_isLeast_0 : decode cX11_isLeast 0 = .ok (.aload_n 0, 1) := by decide +kernel
theorem dX11_isLeast_1 : decode cX11_isLeast 1 = .ok (.iload_n 1, 1) := by decide +kernel
theorem dX11_isLeast_2 : decode cX11_isLeast 2 = .ok (.iload_n 2, 1) := by decide +kernel
theorem dX11_isLeast_3 : decode cX11_isLeast 3 = .ok (.invokevirtual 256, 3) := by decide +kernel
theorem dX11_isLeast_6 : decode cX11_isLeast 6 = .ok (.istore_n 3, 1) := by decide +kernel
theorem dX11_isLeast_7 : decode cX11_isLeast 7 = .ok (.iconst 0, 1) := by decide +kernel
theorem dX11_isLeast_8 : decode cX11_isLeast 8 = .ok (.istore 4, 2) := by decide +kernel
theorem dX11_isLeast_10 : decode cX11_isLeast 10 = .ok (.iload 4, 2) := by decide +kernel
theorem dX11_isLeast_12 : decode cX11_isLeast 12 = .ok (.bipush 9, 2) := by decide +kernel
theorem dX11_isLeast_14 : decode cX11_isLeast 14 = .ok (.if_icmp .ge 44, 3) := by decide +kernel
theorem dX11_isLeast_17 : decode cX11_isLeast 17 = .ok (.iload_n 3, 1) := by decide +kernel
theorem dX11_isLeast_18 : decode cX11_isLeast 18 = .ok (.ifCond .eq 32, 3) := by decide +kernel
theorem dX11_isLeast_21 : decode cX11_isLeast 21 = .ok (.iload_n 2, 1) := by decide +kernel
theorem dX11_isLeast_22 : decode cX11_isLeast 22 = .ok (.iload 4, 2) := by decide +kernel
theorem dX11_isLeast_24 : decode cX11_isLeast 24 = .ok (.ishr, 1) := by decide +kernel
theorem dX11_isLeast_25 : decode cX11_isLeast 25 = .ok (.iconst 1, 1) := by decide +kernel
theorem dX11_isLeast_26 : decode cX11_isLeast 26 = .ok (.iand, 1) := by decide +kernel
theorem dX11_isLeast_27 : decode cX11_isLeast 27 = .ok (.ifCond .eq 19, 3) := by decide +kernel
theorem dX11_isLeast_30 : decode cX11_isLeast 30 = .ok (.aload_n 0, 1) := by decide +kernel
theorem dX11_isLeast_31 : decode cX11_isLeast 31 = .ok (.iload_n 1, 1) := by decide +kernel
theorem dX11_isLeast_32 : decode cX11_isLeast 32 = .ok (.iload_n 2, 1) := by decide +kernel
theorem dX11_isLeast_33 : decode cX11_isLeast 33 = .ok (.iconst 1, 1) := by decide +kernel
theorem dX11_isLeast_34 : decode cX11_isLeast 34 = .ok (.iload 4, 2) := by decide +kernel
theorem dX11_isLeast_36 : decode cX11_isLeast 36 = .ok (.ishl, 1) := by decide +kernel
theorem dX11_isLeast_37 : decode cX11_isLeast 37 = .ok (.iconst (-1), 1) := by decide +kernel
theorem dX11_isLeast_38 : decode cX11_isLeast 38 = .ok (.ixor, 1) := by decide +kernel
theorem dX11_isLeast_39 : decode cX11_isLeast 39 = .ok (.iand, 1) := by decide +kernel
theorem dX11_isLeast_40 : decode cX11_isLeast 40 = .ok (.invokevirtual 256, 3) := by decide +kernel
theorem dX11_isLeast_43 : decode cX11_isLeast 43 = .ok (.ifCond .ne 7, 3) := by decide +kernel
theorem dX11_isLeast_46 : decode cX11_isLeast 46 = .ok (.iconst 1, 1) := by decide +kernel
theorem dX11_isLeast_47 : decode cX11_isLeast 47 = .ok (.goto 4, 3) := by decide +kernel
theorem dX11_isLeast_50 : decode cX11_isLeast 50 = .ok (.iconst 0, 1) := by decide +kernel
theorem dX11_isLeast_51 : decode cX11_isLeast 51 = .ok (.istore_n 3, 1) := by decide +kernel
theorem dX11_isLeast_52 : decode cX11_isLeast 52 = .ok (.iinc 4 1, 3) := by decide +kernel
theorem dX11_isLeast_55 : decode cX11_isLeast 55 = .ok (.goto (-45), 3) := by decide +kernel
theorem dX11_isLeast_58 : decode cX11_isLeast 58 = .ok (.iload_n 3, 1) := by decide +kernel
theorem dX11_isLeast_59 : decode cX11_isLeast 59 = .ok (.ireturn, 1) := by decide +kernel
set_option maxRecDepth 20000 in
theorem ggX11_words_X11_isRail : GoodIn wsX11_words wsX11_isRail := goodIn_r _ [5, 6, 7, 8, 4, 9, 19, 20, 21, 22, 23, 24, 25, 26, 27, 28, 29, 30, 31, 32, 33, 34, 35, 36, 37, 38, 39, 40, 41, 42, 43, 44, 45, 46, 47, 48, 49, 50, 51, 52, 53, 54, 55, 56, 57, 58, 59, 60, 61, 62, 63, 64, 65, 66, 67, 68, 69, 70, 71, 72, 73, 74, 75, 76, 77] (by decide +kernel) (by decide +kernel)
set_option maxRecDepth 20000 in
theorem gX11_words_X11_isRail : GoodIn wsX11_words (wsV RX11 248 RX11 yX11_isRail wsX11_isRail) := goodIn_app (goodIn_of _ (by decide +kernel)) ggX11_words_X11_isRail
set_option maxRecDepth 20000 in
theorem ggX11_words_X11_isLeast : GoodIn wsX11_words wsX11_isLeast := goodIn_r _ [13, 14, 15, 16, 4, 17, 18, 19, 20, 21, 22, 23, 24, 25, 26, 27, 28, 29, 30, 31, 32, 33, 34, 35, 36, 37, 38, 39, 40, 41, 42, 43, 44, 45, 46, 47, 48, 49, 50, 51, 52, 53, 54, 55, 56, 57, 58, 59, 60, 61, 62, 63, 64, 65, 66, 67, 68, 69, 70, 71, 72, 73, 74, 75, 76, 77] (by decide +kernel) (by decide +kernel)
set_option maxRecDepth 20000 in
theorem gX11_words_X11_isLeast : GoodIn wsX11_words (wsV RX11 264 RX11 yX11_isLeast wsX11_isLeast) := goodIn_app (goodIn_of _ (by decide +kernel)) ggX11_words_X11_isLeast
theorem dX11_words_0 : decode cX11_words 0 = .ok (.aload_n 0, 1) := by decide +kernel
theorem dX11_words_1 : decode cX11_words 1 = .ok (.iload_n 1, 1) := by decide +kernel
theorem dX11_words_2 : decode cX11_words 2 = .ok (.invokevirtual 248, 3) := by decide +kernel
theorem dX11_words_5 : decode cX11_words 5 = .ok (.ifCond .eq 13, 3) := by decide +kernel
theorem dX11_words_8 : decode cX11_words 8 = .ok (.iload_n 2, 1) := by decide +kernel
theorem dX11_words_9 : decode cX11_words 9 = .ok (.ifCond .eq 11, 3) := by decide +kernel
theorem dX11_words_12 : decode cX11_words 12 = .ok (.iload_n 2, 1) := by decide +kernel
theorem dX11_words_13 : decode cX11_words 13 = .ok (.bipush 10, 2) := by decide +kernel
theorem dX11_words_15 : decode cX11_words 15 = .ok (.if_icmp .ge 5, 3) := by decide +kernel
theorem dX11_words_18 : decode cX11_words 18 = .ok (.iconst (-1), 1) := by decide +kernel
theorem dX11_words_19 : decode cX11_words 19 = .ok (.ireturn, 1) := by decide +kernel
theorem dX11_words_20 : decode cX11_words 20 = .ok (.iconst 0, 1) := by decide +kernel
theorem dX11_words_21 : decode cX11_words 21 = .ok (.istore_n 3, 1) := by decide +kernel
theorem dX11_words_22 : decode cX11_words 22 = .ok (.iconst 0, 1) := by decide +kernel
theorem dX11_words_23 : decode cX11_words 23 = .ok (.istore 4, 2) := by decide +kernel
theorem dX11_words_25 : decode cX11_words 25 = .ok (.iload 4, 2) := by decide +kernel
theorem dX11_words_27 : decode cX11_words 27 = .ok (.sipush 512, 3) := by decide +kernel
theorem dX11_words_30 : decode cX11_words 30 = .ok (.if_icmp .ge 33, 3) := by decide +kernel
theorem dX11_words_33 : decode cX11_words 33 = .ok (.aload_n 0, 1) := by decide +kernel
theorem dX11_words_34 : decode cX11_words 34 = .ok (.iload_n 1, 1) := by decide +kernel
theorem dX11_words_35 : decode cX11_words 35 = .ok (.iload 4, 2) := by decide +kernel
theorem dX11_words_37 : decode cX11_words 37 = .ok (.invokevirtual 264, 3) := by decide +kernel
theorem dX11_words_40 : decode cX11_words 40 = .ok (.ifCond .eq 17, 3) := by decide +kernel
theorem dX11_words_43 : decode cX11_words 43 = .ok (.iload_n 2, 1) := by decide +kernel
theorem dX11_words_44 : decode cX11_words 44 = .ok (.bipush 10, 2) := by decide +kernel
theorem dX11_words_46 : decode cX11_words 46 = .ok (.iload_n 3, 1) := by decide +kernel
theorem dX11_words_47 : decode cX11_words 47 = .ok (.iadd, 1) := by decide +kernel
theorem dX11_words_48 : decode cX11_words 48 = .ok (.if_icmp .ne 6, 3) := by decide +kernel
theorem dX11_words_51 : decode cX11_words 51 = .ok (.iload 4, 2) := by decide +kernel
theorem dX11_words_53 : decode cX11_words 53 = .ok (.ireturn, 1) := by decide +kernel
theorem dX11_words_54 : decode cX11_words 54 = .ok (.iinc 3 1, 3) := by decide +kernel
theorem dX11_words_57 : decode cX11_words 57 = .ok (.iinc 4 1, 3) := by decide +kernel
theorem dX11_words_60 : decode cX11_words 60 = .ok (.goto (-35), 3) := by decide +kernel
theorem dX11_words_63 : decode cX11_words 63 = .ok (.iload_n 2, 1) := by decide +kernel
theorem dX11_words_64 : decode cX11_words 64 = .ok (.ifCond .ne 7, 3) := by decide +kernel
theorem dX11_words_67 : decode cX11_words 67 = .ok (.iload_n 3, 1) := by decide +kernel
theorem dX11_words_68 : decode cX11_words 68 = .ok (.goto 4, 3) := by decide +kernel
theorem dX11_words_71 : decode cX11_words 71 = .ok (.iconst (-1), 1) := by decide +kernel
theorem dX11_words_72 : decode cX11_words 72 = .ok (.ireturn, 1) := by decide +kernel
set_option maxRecDepth 20000 in
theorem ggX11_begins_X11_of : GoodIn wsX11_begins wsX11_of := goodIn_r _ [21, 22, 23, 24, 25, 26, 27, 28, 29, 30, 31, 32, 33, 34, 35, 36, 37, 38, 39, 40, 41, 42, 43, 44, 45, 46, 47, 48, 49, 50, 51, 52, 53, 54, 55, 56, 57, 58, 59, 60, 61, 62, 63, 64, 65, 66, 67, 68, 69, 70, 71, 72, 73, 74, 75, 76, 77, 78, 79, 80, 81] (by decide +kernel) (by decide +kernel)
set_option maxRecDepth 20000 in
theorem gX11_begins_X11_of : GoodIn wsX11_begins (wsV RX11 251 RX11 yX11_of wsX11_of) := goodIn_app (goodIn_of _ (by decide +kernel)) ggX11_begins_X11_of
theorem dX11_begins_0 : decode cX11_begins 0 = .ok (.aload_n 0, 1) := by decide +kernel
theorem dX11_begins_1 : decode cX11_begins 1 = .ok (.iconst 0, 1) := by decide +kernel
theorem dX11_begins_2 : decode cX11_begins 2 = .ok (.putfield 267, 3) := by decide +kernel
theorem dX11_begins_5 : decode cX11_begins 5 = .ok (.aload_n 0, 1) := by decide +kernel
theorem dX11_begins_6 : decode cX11_begins 6 = .ok (.iconst 0, 1) := by decide +kernel
theorem dX11_begins_7 : decode cX11_begins 7 = .ok (.putfield 270, 3) := by decide +kernel
theorem dX11_begins_10 : decode cX11_begins 10 = .ok (.aload_n 0, 1) := by decide +kernel
theorem dX11_begins_11 : decode cX11_begins 11 = .ok (.iconst 0, 1) := by decide +kernel
theorem dX11_begins_12 : decode cX11_begins 12 = .ok (.putfield 273, 3) := by decide +kernel
theorem dX11_begins_15 : decode cX11_begins 15 = .ok (.aload_n 0, 1) := by decide +kernel
theorem dX11_begins_16 : decode cX11_begins 16 = .ok (.aload_n 0, 1) := by decide +kernel
theorem dX11_begins_17 : decode cX11_begins 17 = .ok (.getfield 127, 3) := by decide +kernel
theorem dX11_begins_20 : decode cX11_begins 20 = .ok (.putfield 276, 3) := by decide +kernel
theorem dX11_begins_23 : decode cX11_begins 23 = .ok (.aload_n 0, 1) := by decide +kernel
theorem dX11_begins_24 : decode cX11_begins 24 = .ok (.iconst 0, 1) := by decide +kernel
theorem dX11_begins_25 : decode cX11_begins 25 = .ok (.putfield 279, 3) := by decide +kernel
theorem dX11_begins_28 : decode cX11_begins 28 = .ok (.aload_n 0, 1) := by decide +kernel
theorem dX11_begins_29 : decode cX11_begins 29 = .ok (.iconst 0, 1) := by decide +kernel
theorem dX11_begins_30 : decode cX11_begins 30 = .ok (.putfield 282, 3) := by decide +kernel
theorem dX11_begins_33 : decode cX11_begins 33 = .ok (.aload_n 0, 1) := by decide +kernel
theorem dX11_begins_34 : decode cX11_begins 34 = .ok (.iconst 0, 1) := by decide +kernel
theorem dX11_begins_35 : decode cX11_begins 35 = .ok (.putfield 285, 3) := by decide +kernel
theorem dX11_begins_38 : decode cX11_begins 38 = .ok (.aload_n 0, 1) := by decide +kernel
theorem dX11_begins_39 : decode cX11_begins 39 = .ok (.iconst 0, 1) := by decide +kernel
theorem dX11_begins_40 : decode cX11_begins 40 = .ok (.putfield 288, 3) := by decide +kernel
theorem dX11_begins_43 : decode cX11_begins 43 = .ok (.iconst 0, 1) := by decide +kernel
theorem dX11_begins_44 : decode cX11_begins 44 = .ok (.istore_n 1, 1) := by decide +kernel
theorem dX11_begins_45 : decode cX11_begins 45 = .ok (.iload_n 1, 1) := by decide +kernel
theorem dX11_begins_46 : decode cX11_begins 46 = .ok (.bipush 8, 2) := by decide +kernel
theorem dX11_begins_48 : decode cX11_begins 48 = .ok (.if_icmp .ge 68, 3) := by decide +kernel
theorem dX11_begins_51 : decode cX11_begins 51 = .ok (.aload_n 0, 1) := by decide +kernel
theorem dX11_begins_52 : decode cX11_begins 52 = .ok (.getfield 47, 3) := by decide +kernel
theorem dX11_begins_55 : decode cX11_begins 55 = .ok (.iload_n 1, 1) := by decide +kernel
theorem dX11_begins_56 : decode cX11_begins 56 = .ok (.iconst 0, 1) := by decide +kernel
theorem dX11_begins_57 : decode cX11_begins 57 = .ok (.iastore, 1) := by decide +kernel
theorem dX11_begins_58 : decode cX11_begins 58 = .ok (.aload_n 0, 1) := by decide +kernel
theorem dX11_begins_59 : decode cX11_begins 59 = .ok (.getfield 50, 3) := by decide +kernel
theorem dX11_begins_62 : decode cX11_begins 62 = .ok (.iload_n 1, 1) := by decide +kernel
theorem dX11_begins_63 : decode cX11_begins 63 = .ok (.iconst 0, 1) := by decide +kernel
theorem dX11_begins_64 : decode cX11_begins 64 = .ok (.iastore, 1) := by decide +kernel
theorem dX11_begins_65 : decode cX11_begins 65 = .ok (.aload_n 0, 1) := by decide +kernel
theorem dX11_begins_66 : decode cX11_begins 66 = .ok (.getfield 53, 3) := by decide +kernel
theorem dX11_begins_69 : decode cX11_begins 69 = .ok (.iload_n 1, 1) := by decide +kernel
theorem dX11_begins_70 : decode cX11_begins 70 = .ok (.iconst 0, 1) := by decide +kernel
theorem dX11_begins_71 : decode cX11_begins 71 = .ok (.iastore, 1) := by decide +kernel
theorem dX11_begins_72 : decode cX11_begins 72 = .ok (.aload_n 0, 1) := by decide +kernel
theorem dX11_begins_73 : decode cX11_begins 73 = .ok (.getfield 56, 3) := by decide +kernel
theorem dX11_begins_76 : decode cX11_begins 76 = .ok (.iload_n 1, 1) := by decide +kernel
theorem dX11_begins_77 : decode cX11_begins 77 = .ok (.iconst 0, 1) := by decide +kernel
theorem dX11_begins_78 : decode cX11_begins 78 = .ok (.bastore, 1) := by decide +kernel
theorem dX11_begins_79 : decode cX11_begins 79 = .ok (.aload_n 0, 1) := by decide +kernel
theorem dX11_begins_80 : decode cX11_begins 80 = .ok (.getfield 59, 3) := by decide +kernel
theorem dX11_begins_83 : decode cX11_begins 83 = .ok (.iload_n 1, 1) := by decide +kernel
theorem dX11_begins_84 : decode cX11_begins 84 = .ok (.iload_n 1, 1) := by decide +kernel
theorem dX11_begins_85 : decode cX11_begins 85 = .ok (.aload_n 0, 1) := by decide +kernel
theorem dX11_begins_86 : decode cX11_begins 86 = .ok (.getfield 121, 3) := by decide +kernel
theorem dX11_begins_89 : decode cX11_begins 89 = .ok (.if_icmp .ge 12, 3) := by decide +kernel
theorem dX11_begins_92 : decode cX11_begins 92 = .ok (.aload_n 0, 1) := by decide +kernel
theorem dX11_begins_93 : decode cX11_begins 93 = .ok (.iload_n 1, 1) := by decide +kernel
theorem dX11_begins_94 : decode cX11_begins 94 = .ok (.iconst 0, 1) := by decide +kernel
theorem dX11_begins_95 : decode cX11_begins 95 = .ok (.invokevirtual 251, 3) := by decide +kernel
theorem dX11_begins_98 : decode cX11_begins 98 = .ok (.goto 4, 3) := by decide +kernel
theorem dX11_begins_101 : decode cX11_begins 101 = .ok (.iconst 0, 1) := by decide +kernel
theorem dX11_begins_102 : decode cX11_begins 102 = .ok (.iastore, 1) := by decide +kernel
theorem dX11_begins_103 : decode cX11_begins 103 = .ok (.aload_n 0, 1) := by decide +kernel
theorem dX11_begins_104 : decode cX11_begins 104 = .ok (.getfield 62, 3) := by decide +kernel
theorem dX11_begins_107 : decode cX11_begins 107 = .ok (.iload_n 1, 1) := by decide +kernel
theorem dX11_begins_108 : decode cX11_begins 108 = .ok (.iconst 0, 1) := by decide +kernel
theorem dX11_begins_109 : decode cX11_begins 109 = .ok (.iastore, 1) := by decide +kernel
theorem dX11_begins_110 : decode cX11_begins 110 = .ok (.iinc 1 1, 3) := by decide +kernel
theorem dX11_begins_113 : decode cX11_begins 113 = .ok (.goto (-68), 3) := by decide +kernel
theorem dX11_begins_116 : decode cX11_begins 116 = .ok (.return_, 1) := by decide +kernel
theorem dX11_happens_0 : decode cX11_happens 0 = .ok (.aload_n 0, 1) := by decide +kernel
theorem dX11_happens_1 : decode cX11_happens 1 = .ok (.getfield 288, 3) := by decide +kernel
theorem dX11_happens_4 : decode cX11_happens 4 = .ok (.bipush 64, 2) := by decide +kernel
theorem dX11_happens_6 : decode cX11_happens 6 = .ok (.if_icmp .ge 56, 3) := by decide +kernel
theorem dX11_happens_9 : decode cX11_happens 9 = .ok (.aload_n 0, 1) := by decide +kernel
theorem dX11_happens_10 : decode cX11_happens 10 = .ok (.getfield 65, 3) := by decide +kernel
theorem dX11_happens_13 : decode cX11_happens 13 = .ok (.iconst 3, 1) := by decide +kernel
theorem dX11_happens_14 : decode cX11_happens 14 = .ok (.aload_n 0, 1) := by decide +kernel
theorem dX11_happens_15 : decode cX11_happens 15 = .ok (.getfield 288, 3) := by decide +kernel
theorem dX11_happens_18 : decode cX11_happens 18 = .ok (.imul, 1) := by decide +kernel
theorem dX11_happens_19 : decode cX11_happens 19 = .ok (.aload_n 0, 1) := by decide +kernel
theorem dX11_happens_20 : decode cX11_happens 20 = .ok (.getfield 267, 3) := by decide +kernel
theorem dX11_happens_23 : decode cX11_happens 23 = .ok (.iastore, 1) := by decide +kernel
theorem dX11_happens_24 : decode cX11_happens 24 = .ok (.aload_n 0, 1) := by decide +kernel
theorem dX11_happens_25 : decode cX11_happens 25 = .ok (.getfield 65, 3) := by decide +kernel
theorem dX11_happens_28 : decode cX11_happens 28 = .ok (.iconst 3, 1) := by decide +kernel
theorem dX11_happens_29 : decode cX11_happens 29 = .ok (.aload_n 0, 1) := by decide +kernel
theorem dX11_happens_30 : decode cX11_happens 30 = .ok (.getfield 288, 3) := by decide +kernel
theorem dX11_happens_33 : decode cX11_happens 33 = .ok (.imul, 1) := by decide +kernel
theorem dX11_happens_34 : decode cX11_happens 34 = .ok (.iconst 1, 1) := by decide +kernel
theorem dX11_happens_35 : decode cX11_happens 35 = .ok (.iadd, 1) := by decide +kernel
theorem dX11_happens_36 : decode cX11_happens 36 = .ok (.iload_n 1, 1) := by decide +kernel
theorem dX11_happens_37 : decode cX11_happens 37 = .ok (.iastore, 1) := by decide +kernel
theorem dX11_happens_38 : decode cX11_happens 38 = .ok (.aload_n 0, 1) := by decide +kernel
theorem dX11_happens_39 : decode cX11_happens 39 = .ok (.getfield 65, 3) := by decide +kernel
theorem dX11_happens_42 : decode cX11_happens 42 = .ok (.iconst 3, 1) := by decide +kernel
theorem dX11_happens_43 : decode cX11_happens 43 = .ok (.aload_n 0, 1) := by decide +kernel
theorem dX11_happens_44 : decode cX11_happens 44 = .ok (.getfield 288, 3) := by decide +kernel
theorem dX11_happens_47 : decode cX11_happens 47 = .ok (.imul, 1) := by decide +kernel
theorem dX11_happens_48 : decode cX11_happens 48 = .ok (.iconst 2, 1) := by decide +kernel
theorem dX11_happens_49 : decode cX11_happens 49 = .ok (.iadd, 1) := by decide +kernel
theorem dX11_happens_50 : decode cX11_happens 50 = .ok (.iload_n 2, 1) := by decide +kernel
theorem dX11_happens_51 : decode cX11_happens 51 = .ok (.iastore, 1) := by decide +kernel
theorem dX11_happens_52 : decode cX11_happens 52 = .ok (.aload_n 0, 1) := by decide +kernel
theorem dX11_happens_53 : decode cX11_happens 53 = .ok (.dup, 1) := by decide +kernel
theorem dX11_happens_54 : decode cX11_happens 54 = .ok (.getfield 288, 3) := by decide +kernel
theorem dX11_happens_57 : decode cX11_happens 57 = .ok (.iconst 1, 1) := by decide +kernel
theorem dX11_happens_58 : decode cX11_happens 58 = .ok (.iadd, 1) := by decide +kernel
theorem dX11_happens_59 : decode cX11_happens 59 = .ok (.putfield 288, 3) := by decide +kernel
theorem dX11_happens_62 : decode cX11_happens 62 = .ok (.return_, 1) := by decide +kernel
set_option maxRecDepth 20000 in
theorem ggX11_key_X11_flag : GoodIn wsX11_key wsX11_flag := goodIn_r _ [8] (by decide +kernel) (by decide +kernel)
set_option maxRecDepth 20000 in
theorem gX11_key_X11_flag : GoodIn wsX11_key (va_wsS RX11 260 yX11_flag wsX11_flag) := goodIn_app (goodIn_of _ (by decide +kernel)) ggX11_key_X11_flag
theorem dX11_key_0 : decode cX11_key 0 = .ok (.aload_n 0, 1) := by decide +kernel
theorem dX11_key_1 : decode cX11_key 1 = .ok (.getfield 270, 3) := by decide +kernel
theorem dX11_key_4 : decode cX11_key 4 = .ok (.invokestatic 260, 3) := by decide +kernel
theorem dX11_key_7 : decode cX11_key 7 = .ok (.istore_n 2, 1) := by decide +kernel
theorem dX11_key_8 : decode cX11_key 8 = .ok (.aload_n 0, 1) := by decide +kernel
theorem dX11_key_9 : decode cX11_key 9 = .ok (.iload_n 1, 1) := by decide +kernel
theorem dX11_key_10 : decode cX11_key 10 = .ok (.putfield 270, 3) := by decide +kernel
theorem dX11_key_13 : decode cX11_key 13 = .ok (.iload_n 1, 1) := by decide +kernel
theorem dX11_key_14 : decode cX11_key 14 = .ok (.ifCond .ne 32, 3) := by decide +kernel
theorem dX11_key_17 : decode cX11_key 17 = .ok (.aload_n 0, 1) := by decide +kernel
theorem dX11_key_18 : decode cX11_key 18 = .ok (.aload_n 0, 1) := by decide +kernel
theorem dX11_key_19 : decode cX11_key 19 = .ok (.getfield 273, 3) := by decide +kernel
theorem dX11_key_22 : decode cX11_key 22 = .ok (.bipush (-4), 2) := by decide +kernel
theorem dX11_key_24 : decode cX11_key 24 = .ok (.if_icmp .ne 7, 3) := by decide +kernel
theorem dX11_key_27 : decode cX11_key 27 = .ok (.iconst 0, 1) := by decide +kernel
theorem dX11_key_28 : decode cX11_key 28 = .ok (.goto 7, 3) := by decide +kernel
theorem dX11_key_31 : decode cX11_key 31 = .ok (.aload_n 0, 1) := by decide +kernel
theorem dX11_key_32 : decode cX11_key 32 = .ok (.getfield 273, 3) := by decide +kernel
theorem dX11_key_35 : decode cX11_key 35 = .ok (.putfield 273, 3) := by decide +kernel
theorem dX11_key_38 : decode cX11_key 38 = .ok (.aload_n 0, 1) := by decide +kernel
theorem dX11_key_39 : decode cX11_key 39 = .ok (.aload_n 0, 1) := by decide +kernel
theorem dX11_key_40 : decode cX11_key 40 = .ok (.getfield 127, 3) := by decide +kernel
theorem dX11_key_43 : decode cX11_key 43 = .ok (.putfield 276, 3) := by decide +kernel
theorem dX11_key_46 : decode cX11_key 46 = .ok (.iload_n 2, 1) := by decide +kernel
theorem dX11_key_47 : decode cX11_key 47 = .ok (.ireturn, 1) := by decide +kernel
set_option maxRecDepth 20000 in
theorem ggX11_dead_X11_isRail : GoodIn wsX11_dead wsX11_isRail := goodIn_r _ [6, 7, 8, 9, 5, 10, 14, 15, 16, 17, 18, 19, 20, 21, 22, 23, 24, 25, 26, 27, 28, 29, 30, 31, 32, 33, 34, 35, 36, 37, 38, 39, 40, 41, 42, 43, 44, 45, 46, 47, 48, 49, 50, 51, 52, 53, 54, 55, 56, 57, 58, 59, 60, 61, 62, 63, 64, 65, 66, 67, 68, 69, 70, 71, 72] (by decide +kernel) (by decide +kernel)
set_option maxRecDepth 20000 in
theorem gX11_dead_X11_isRail : GoodIn wsX11_dead (wsV RX11 248 RX11 yX11_isRail wsX11_isRail) := goodIn_app (goodIn_of _ (by decide +kernel)) ggX11_dead_X11_isRail
set_option maxRecDepth 20000 in
theorem ggX11_dead_X11_flag : GoodIn wsX11_dead wsX11_flag := goodIn_r _ [13] (by decide +kernel) (by decide +kernel)
set_option maxRecDepth 20000 in
theorem gX11_dead_X11_flag : GoodIn wsX11_dead (va_wsS RX11 260 yX11_flag wsX11_flag) := goodIn_app (goodIn_of _ (by decide +kernel)) ggX11_dead_X11_flag
theorem dX11_dead_0 : decode cX11_dead 0 = .ok (.aload_n 0, 1) := by decide +kernel
theorem dX11_dead_1 : decode cX11_dead 1 = .ok (.iload_n 1, 1) := by decide +kernel
theorem dX11_dead_2 : decode cX11_dead 2 = .ok (.invokevirtual 248, 3) := by decide +kernel
theorem dX11_dead_5 : decode cX11_dead 5 = .ok (.ifCond .ne 5, 3) := by decide +kernel
theorem dX11_dead_8 : decode cX11_dead 8 = .ok (.iconst (-1), 1) := by decide +kernel
theorem dX11_dead_9 : decode cX11_dead 9 = .ok (.ireturn, 1) := by decide +kernel
theorem dX11_dead_10 : decode cX11_dead 10 = .ok (.aload_n 0, 1) := by decide +kernel
theorem dX11_dead_11 : decode cX11_dead 11 = .ok (.getfield 56, 3) := by decide +kernel
theorem dX11_dead_14 : decode cX11_dead 14 = .ok (.iload_n 1, 1) := by decide +kernel
theorem dX11_dead_15 : decode cX11_dead 15 = .ok (.baload, 1) := by decide +kernel
theorem dX11_dead_16 : decode cX11_dead 16 = .ok (.invokestatic 260, 3) := by decide +kernel
theorem dX11_dead_19 : decode cX11_dead 19 = .ok (.istore_n 3, 1) := by decide +kernel
theorem dX11_dead_20 : decode cX11_dead 20 = .ok (.aload_n 0, 1) := by decide +kernel
theorem dX11_dead_21 : decode cX11_dead 21 = .ok (.getfield 56, 3) := by decide +kernel
theorem dX11_dead_24 : decode cX11_dead 24 = .ok (.iload_n 1, 1) := by decide +kernel
theorem dX11_dead_25 : decode cX11_dead 25 = .ok (.iload_n 2, 1) := by decide +kernel
theorem dX11_dead_26 : decode cX11_dead 26 = .ok (.bastore, 1) := by decide +kernel
theorem dX11_dead_27 : decode cX11_dead 27 = .ok (.iload_n 3, 1) := by decide +kernel
theorem dX11_dead_28 : decode cX11_dead 28 = .ok (.ireturn, 1) := by decide +kernel
set_option maxRecDepth 20000 in
theorem ggX11_time_X11_isRail : GoodIn wsX11_time wsX11_isRail := goodIn_r _ [6, 7, 8, 9, 5, 10, 16, 17, 18, 19, 20, 21, 22, 23, 24, 25, 26, 27, 28, 29, 30, 31, 32, 33, 34, 35, 36, 37, 38, 39, 40, 41, 42, 43, 44, 45, 46, 47, 48, 49, 50, 51, 52, 53, 54, 55, 56, 57, 58, 59, 60, 61, 62, 63, 64, 65, 66, 67, 68, 69, 70, 71, 72, 73, 74] (by decide +kernel) (by decide +kernel)
set_option maxRecDepth 20000 in
theorem gX11_time_X11_isRail : GoodIn wsX11_time (wsV RX11 248 RX11 yX11_isRail wsX11_isRail) := goodIn_app (goodIn_of _ (by decide +kernel)) ggX11_time_X11_isRail
set_option maxRecDepth 20000 in
theorem ggX11_time_X11_of : GoodIn wsX11_time wsX11_of := goodIn_r _ [14, 15, 16, 17, 18, 19, 20, 21, 22, 23, 24, 25, 26, 27, 28, 29, 30, 31, 32, 33, 34, 35, 36, 37, 38, 39, 40, 41, 42, 43, 44, 45, 46, 47, 48, 49, 50, 51, 52, 53, 54, 55, 56, 57, 58, 59, 60, 61, 62, 63, 64, 65, 66, 67, 68, 69, 70, 71, 72, 73, 74] (by decide +kernel) (by decide +kernel)
set_option maxRecDepth 20000 in
theorem gX11_time_X11_of : GoodIn wsX11_time (wsV RX11 251 RX11 yX11_of wsX11_of) := goodIn_app (goodIn_of _ (by decide +kernel)) ggX11_time_X11_of
set_option maxRecDepth 20000 in
theorem ggX11_time_X11_in : GoodIn wsX11_time wsX11_in := goodIn_r _ [10] (by decide +kernel) (by decide +kernel)
set_option maxRecDepth 20000 in
theorem gX11_time_X11_in : GoodIn wsX11_time (va_wsS RX11 141 yX11_in wsX11_in) := goodIn_app (goodIn_of _ (by decide +kernel)) ggX11_time_X11_in
theorem dX11_time_0 : decode cX11_time 0 = .ok (.aload_n 0, 1) := by decide +kernel
theorem dX11_time_1 : decode cX11_time 1 = .ok (.iload_n 1, 1) := by decide +kernel
theorem dX11_time_2 : decode cX11_time 2 = .ok (.invokevirtual 248, 3) := by decide +kernel
theorem dX11_time_5 : decode cX11_time 5 = .ok (.ifCond .eq 25, 3) := by decide +kernel
theorem dX11_time_8 : decode cX11_time 8 = .ok (.iload_n 2, 1) := by decide +kernel
theorem dX11_time_9 : decode cX11_time 9 = .ok (.i2l, 1) := by decide +kernel
theorem dX11_time_10 : decode cX11_time 10 = .ok (.aload_n 0, 1) := by decide +kernel
theorem dX11_time_11 : decode cX11_time 11 = .ok (.iload_n 1, 1) := by decide +kernel
theorem dX11_time_12 : decode cX11_time 12 = .ok (.iconst 0, 1) := by decide +kernel
theorem dX11_time_13 : decode cX11_time 13 = .ok (.invokevirtual 251, 3) := by decide +kernel
theorem dX11_time_16 : decode cX11_time 16 = .ok (.i2l, 1) := by decide +kernel
theorem dX11_time_17 : decode cX11_time 17 = .ok (.aload_n 0, 1) := by decide +kernel
theorem dX11_time_18 : decode cX11_time 18 = .ok (.iload_n 1, 1) := by decide +kernel
theorem dX11_time_19 : decode cX11_time 19 = .ok (.iconst 1, 1) := by decide +kernel
theorem dX11_time_20 : decode cX11_time 20 = .ok (.invokevirtual 251, 3) := by decide +kernel
theorem dX11_time_23 : decode cX11_time 23 = .ok (.i2l, 1) := by decide +kernel
theorem dX11_time_24 : decode cX11_time 24 = .ok (.invokestatic 141, 3) := by decide +kernel
theorem dX11_time_27 : decode cX11_time 27 = .ok (.ifCond .ne 5, 3) := by decide +kernel
theorem dX11_time_30 : decode cX11_time 30 = .ok (.iconst (-1), 1) := by decide +kernel
theorem dX11_time_31 : decode cX11_time 31 = .ok (.ireturn, 1) := by decide +kernel
theorem dX11_time_32 : decode cX11_time 32 = .ok (.aload_n 0, 1) := by decide +kernel
theorem dX11_time_33 : decode cX11_time 33 = .ok (.getfield 59, 3) := by decide +kernel
theorem dX11_time_36 : decode cX11_time 36 = .ok (.iload_n 1, 1) := by decide +kernel
theorem dX11_time_37 : decode cX11_time 37 = .ok (.iaload, 1) := by decide +kernel
theorem dX11_time_38 : decode cX11_time 38 = .ok (.istore_n 3, 1) := by decide +kernel
theorem dX11_time_39 : decode cX11_time 39 = .ok (.aload_n 0, 1) := by decide +kernel
theorem dX11_time_40 : decode cX11_time 40 = .ok (.getfield 59, 3) := by decide +kernel
theorem dX11_time_43 : decode cX11_time 43 = .ok (.iload_n 1, 1) := by decide +kernel
theorem dX11_time_44 : decode cX11_time 44 = .ok (.iload_n 2, 1) := by decide +kernel
theorem dX11_time_45 : decode cX11_time 45 = .ok (.iastore, 1) := by decide +kernel
theorem dX11_time_46 : decode cX11_time 46 = .ok (.iload_n 3, 1) := by decide +kernel
theorem dX11_time_47 : decode cX11_time 47 = .ok (.ireturn, 1) := by decide +kernel
theorem dX11_allIn_0 : decode cX11_allIn 0 = .ok (.iconst 0, 1) := by decide +kernel
theorem dX11_allIn_1 : decode cX11_allIn 1 = .ok (.istore_n 2, 1) := by decide +kernel
theorem dX11_allIn_2 : decode cX11_allIn 2 = .ok (.iconst 0, 1) := by decide +kernel
theorem dX11_allIn_3 : decode cX11_allIn 3 = .ok (.istore_n 3, 1) := by decide +kernel
theorem dX11_allIn_4 : decode cX11_allIn 4 = .ok (.iload_n 3, 1) := by decide +kernel
theorem dX11_allIn_5 : decode cX11_allIn 5 = .ok (.aload_n 0, 1) := by decide +kernel
theorem dX11_allIn_6 : decode cX11_allIn 6 = .ok (.getfield 121, 3) := by decide +kernel
theorem dX11_allIn_9 : decode cX11_allIn 9 = .ok (.if_icmp .ge 29, 3) := by decide +kernel
theorem dX11_allIn_12 : decode cX11_allIn 12 = .ok (.iload_n 2, 1) := by decide +kernel
theorem dX11_allIn_13 : decode cX11_allIn 13 = .ok (.aload_n 0, 1) := by decide +kernel
theorem dX11_allIn_14 : decode cX11_allIn 14 = .ok (.getfield 47, 3) := by decide +kernel
theorem dX11_allIn_17 : decode cX11_allIn 17 = .ok (.iload_n 3, 1) := by decide +kernel
theorem dX11_allIn_18 : decode cX11_allIn 18 = .ok (.iaload, 1) := by decide +kernel
theorem dX11_allIn_19 : decode cX11_allIn 19 = .ok (.iload_n 1, 1) := by decide +kernel
theorem dX11_allIn_20 : decode cX11_allIn 20 = .ok (.if_icmp .ne 9, 3) := by decide +kernel
theorem dX11_allIn_23 : decode cX11_allIn 23 = .ok (.iconst 1, 1) := by decide +kernel
theorem dX11_allIn_24 : decode cX11_allIn 24 = .ok (.iload_n 3, 1) := by decide +kernel
theorem dX11_allIn_25 : decode cX11_allIn 25 = .ok (.ishl, 1) := by decide +kernel
theorem dX11_allIn_26 : decode cX11_allIn 26 = .ok (.goto 4, 3) := by decide +kernel
theorem dX11_allIn_29 : decode cX11_allIn 29 = .ok (.iconst 0, 1) := by decide +kernel
theorem dX11_allIn_30 : decode cX11_allIn 30 = .ok (.ior, 1) := by decide +kernel
theorem dX11_allIn_31 : decode cX11_allIn 31 = .ok (.istore_n 2, 1) := by decide +kernel
theorem dX11_allIn_32 : decode cX11_allIn 32 = .ok (.iinc 3 1, 3) := by decide +kernel
theorem dX11_allIn_35 : decode cX11_allIn 35 = .ok (.goto (-31), 3) := by decide +kernel
theorem dX11_allIn_38 : decode cX11_allIn 38 = .ok (.iload_n 2, 1) := by decide +kernel
theorem dX11_allIn_39 : decode cX11_allIn 39 = .ok (.ireturn, 1) := by decide +kernel
set_option maxRecDepth 20000 in
theorem ggX11_becomes_X11_of : GoodIn wsX11_becomes wsX11_of := goodIn_r _ [9, 10, 11, 12, 13, 14, 15, 16, 17, 18, 19, 20, 21, 22, 23, 24, 25, 26, 27, 28, 29, 30, 31, 32, 33, 34, 35, 36, 37, 38, 39, 40, 41, 42, 43, 44, 45, 46, 47, 48, 49, 50, 51, 52, 53, 54, 55, 56, 57, 58, 59, 60, 61, 62, 63, 64, 65, 66, 67, 68, 69] (by decide +kernel) (by decide +kernel)
set_option maxRecDepth 20000 in
theorem gX11_becomes_X11_of : GoodIn wsX11_becomes (wsV RX11 251 RX11 yX11_of wsX11_of) := goodIn_app (goodIn_of _ (by decide +kernel)) ggX11_becomes_X11_of
theorem dX11_becomes_0 : decode cX11_becomes 0 = .ok (.aload_n 0, 1) := by decide +kernel
theorem dX11_becomes_1 : decode cX11_becomes 1 = .ok (.getfield 47, 3) := by decide +kernel
theorem dX11_becomes_4 : decode cX11_becomes 4 = .ok (.iload_n 1, 1) := by decide +kernel
theorem dX11_becomes_5 : decode cX11_becomes 5 = .ok (.iaload, 1) := by decide +kernel
theorem dX11_becomes_6 : decode cX11_becomes 6 = .ok (.tableswitch 130 0 3 #[30, 41, 71, 110], 30) := by decide +kernel
theorem dX11_becomes_36 : decode cX11_becomes 36 = .ok (.iload_n 2, 1) := by decide +kernel
theorem dX11_becomes_37 : decode cX11_becomes 37 = .ok (.ifCond .eq 7, 3) := by decide +kernel
theorem dX11_becomes_40 : decode cX11_becomes 40 = .ok (.iconst 1, 1) := by decide +kernel
theorem dX11_becomes_41 : decode cX11_becomes 41 = .ok (.goto 5, 3) := by decide +kernel
theorem dX11_becomes_44 : decode cX11_becomes 44 = .ok (.bipush (-4), 2) := by decide +kernel
theorem dX11_becomes_46 : decode cX11_becomes 46 = .ok (.ireturn, 1) := by decide +kernel
theorem dX11_becomes_47 : decode cX11_becomes 47 = .ok (.iload_n 2, 1) := by decide +kernel
theorem dX11_becomes_48 : decode cX11_becomes 48 = .ok (.ifCond .ne 7, 3) := by decide +kernel
theorem dX11_becomes_51 : decode cX11_becomes 51 = .ok (.iconst 0, 1) := by decide +kernel
theorem dX11_becomes_52 : decode cX11_becomes 52 = .ok (.goto 24, 3) := by decide +kernel
theorem dX11_becomes_55 : decode cX11_becomes 55 = .ok (.aload_n 0, 1) := by decide +kernel
theorem dX11_becomes_56 : decode cX11_becomes 56 = .ok (.getfield 50, 3) := by decide +kernel
theorem dX11_becomes_59 : decode cX11_becomes 59 = .ok (.iload_n 1, 1) := by decide +kernel
theorem dX11_becomes_60 : decode cX11_becomes 60 = .ok (.iaload, 1) := by decide +kernel
theorem dX11_becomes_61 : decode cX11_becomes 61 = .ok (.aload_n 0, 1) := by decide +kernel
theorem dX11_becomes_62 : decode cX11_becomes 62 = .ok (.iload_n 1, 1) := by decide +kernel
theorem dX11_becomes_63 : decode cX11_becomes 63 = .ok (.iconst 5, 1) := by decide +kernel
theorem dX11_becomes_64 : decode cX11_becomes 64 = .ok (.invokevirtual 251, 3) := by decide +kernel
theorem dX11_becomes_67 : decode cX11_becomes 67 = .ok (.if_icmp .lt 7, 3) := by decide +kernel
theorem dX11_becomes_70 : decode cX11_becomes 70 = .ok (.iconst 2, 1) := by decide +kernel
theorem dX11_becomes_71 : decode cX11_becomes 71 = .ok (.goto 5, 3) := by decide +kernel
theorem dX11_becomes_74 : decode cX11_becomes 74 = .ok (.bipush (-4), 2) := by decide +kernel
theorem dX11_becomes_76 : decode cX11_becomes 76 = .ok (.ireturn, 1) := by decide +kernel
theorem dX11_becomes_77 : decode cX11_becomes 77 = .ok (.iload_n 2, 1) := by decide +kernel
theorem dX11_becomes_78 : decode cX11_becomes 78 = .ok (.ifCond .ne 7, 3) := by decide +kernel
theorem dX11_becomes_81 : decode cX11_becomes 81 = .ok (.iconst 4, 1) := by decide +kernel
theorem dX11_becomes_82 : decode cX11_becomes 82 = .ok (.goto 33, 3) := by decide +kernel
theorem dX11_becomes_85 : decode cX11_becomes 85 = .ok (.aload_n 0, 1) := by decide +kernel
theorem dX11_becomes_86 : decode cX11_becomes 86 = .ok (.getfield 56, 3) := by decide +kernel
theorem dX11_becomes_89 : decode cX11_becomes 89 = .ok (.iload_n 1, 1) := by decide +kernel
theorem dX11_becomes_90 : decode cX11_becomes 90 = .ok (.baload, 1) := by decide +kernel
theorem dX11_becomes_91 : decode cX11_becomes 91 = .ok (.ifCond .ne 22, 3) := by decide +kernel
theorem dX11_becomes_94 : decode cX11_becomes 94 = .ok (.aload_n 0, 1) := by decide +kernel
theorem dX11_becomes_95 : decode cX11_becomes 95 = .ok (.getfield 50, 3) := by decide +kernel
theorem dX11_becomes_98 : decode cX11_becomes 98 = .ok (.iload_n 1, 1) := by decide +kernel
theorem dX11_becomes_99 : decode cX11_becomes 99 = .ok (.iaload, 1) := by decide +kernel
theorem dX11_becomes_100 : decode cX11_becomes 100 = .ok (.aload_n 0, 1) := by decide +kernel
theorem dX11_becomes_101 : decode cX11_becomes 101 = .ok (.getfield 59, 3) := by decide +kernel
theorem dX11_becomes_104 : decode cX11_becomes 104 = .ok (.iload_n 1, 1) := by decide +kernel
theorem dX11_becomes_105 : decode cX11_becomes 105 = .ok (.iaload, 1) := by decide +kernel
theorem dX11_becomes_106 : decode cX11_becomes 106 = .ok (.if_icmp .lt 7, 3) := by decide +kernel
theorem dX11_becomes_109 : decode cX11_becomes 109 = .ok (.iconst 3, 1) := by decide +kernel
theorem dX11_becomes_110 : decode cX11_becomes 110 = .ok (.goto 5, 3) := by decide +kernel
theorem dX11_becomes_113 : decode cX11_becomes 113 = .ok (.bipush (-4), 2) := by decide +kernel
theorem dX11_becomes_115 : decode cX11_becomes 115 = .ok (.ireturn, 1) := by decide +kernel
theorem dX11_becomes_116 : decode cX11_becomes 116 = .ok (.iload_n 2, 1) := by decide +kernel
theorem dX11_becomes_117 : decode cX11_becomes 117 = .ok (.ifCond .eq 12, 3) := by decide +kernel
theorem dX11_becomes_120 : decode cX11_becomes 120 = .ok (.aload_n 0, 1) := by decide +kernel
theorem dX11_becomes_121 : decode cX11_becomes 121 = .ok (.getfield 56, 3) := by decide +kernel
theorem dX11_becomes_124 : decode cX11_becomes 124 = .ok (.iload_n 1, 1) := by decide +kernel
theorem dX11_becomes_125 : decode cX11_becomes 125 = .ok (.baload, 1) := by decide +kernel
theorem dX11_becomes_126 : decode cX11_becomes 126 = .ok (.ifCond .eq 7, 3) := by decide +kernel
theorem dX11_becomes_129 : decode cX11_becomes 129 = .ok (.iconst 4, 1) := by decide +kernel
theorem dX11_becomes_130 : decode cX11_becomes 130 = .ok (.goto 5, 3) := by decide +kernel
theorem dX11_becomes_133 : decode cX11_becomes 133 = .ok (.bipush (-4), 2) := by decide +kernel
theorem dX11_becomes_135 : decode cX11_becomes 135 = .ok (.ireturn, 1) := by decide +kernel
theorem dX11_becomes_136 : decode cX11_becomes 136 = .ok (.aload_n 0, 1) := by decide +kernel
theorem dX11_becomes_137 : decode cX11_becomes 137 = .ok (.getfield 50, 3) := by decide +kernel
theorem dX11_becomes_140 : decode cX11_becomes 140 = .ok (.iload_n 1, 1) := by decide +kernel
theorem dX11_becomes_141 : decode cX11_becomes 141 = .ok (.iaload, 1) := by decide +kernel
theorem dX11_becomes_142 : decode cX11_becomes 142 = .ok (.aload_n 0, 1) := by decide +kernel
theorem dX11_becomes_143 : decode cX11_becomes 143 = .ok (.iload_n 1, 1) := by decide +kernel
theorem dX11_becomes_144 : decode cX11_becomes 144 = .ok (.iconst 2, 1) := by decide +kernel
theorem dX11_becomes_145 : decode cX11_becomes 145 = .ok (.invokevirtual 251, 3) := by decide +kernel
theorem dX11_becomes_148 : decode cX11_becomes 148 = .ok (.if_icmp .lt 7, 3) := by decide +kernel
theorem dX11_becomes_151 : decode cX11_becomes 151 = .ok (.iconst 0, 1) := by decide +kernel
theorem dX11_becomes_152 : decode cX11_becomes 152 = .ok (.goto 5, 3) := by decide +kernel
theorem dX11_becomes_155 : decode cX11_becomes 155 = .ok (.bipush (-4), 2) := by decide +kernel
theorem dX11_becomes_157 : decode cX11_becomes 157 = .ok (.ireturn, 1) := by decide +kernel
set_option maxRecDepth 20000 in
theorem ggX11_round_X11_allIn : GoodIn wsX11_round wsX11_allIn := goodIn_r _ [12, 2, 4, 36, 37, 38, 39, 40, 41, 42, 43, 44, 45, 46, 47, 48, 49, 50, 51, 52, 53, 54, 55, 56, 57, 58, 59, 60, 61, 62, 63, 64, 65, 66, 67, 68, 69, 70, 71, 72, 73, 74, 75, 76, 77, 78, 79, 80, 81, 82, 83, 84, 85, 86, 87, 88, 89, 90, 91, 92, 93, 94] (by decide +kernel) (by decide +kernel)
set_option maxRecDepth 20000 in
theorem gX11_round_X11_allIn : GoodIn wsX11_round (wsV RX11 291 RX11 yX11_allIn wsX11_allIn) := goodIn_app (goodIn_of _ (by decide +kernel)) ggX11_round_X11_allIn
set_option maxRecDepth 20000 in
theorem ggX11_round_X11_isSo : GoodIn wsX11_round wsX11_isSo := goodIn_r _ [16, 17, 36, 37, 38, 39, 40, 41, 42, 43, 44, 45, 46, 47, 48, 49, 50, 51, 52, 53, 54, 55, 56, 57, 58, 59, 60, 61, 62, 63, 64, 65, 66, 67, 68, 69, 70, 71, 72, 73, 74, 75, 76, 77, 78, 79, 80, 81, 82, 83, 84, 85, 86, 87, 88, 89, 90, 91, 92, 93, 94] (by decide +kernel) (by decide +kernel)
set_option maxRecDepth 20000 in
theorem gX11_round_X11_isSo : GoodIn wsX11_round (wsV RX11 256 RX11 yX11_isSo wsX11_isSo) := goodIn_app (goodIn_of _ (by decide +kernel)) ggX11_round_X11_isSo
set_option maxRecDepth 20000 in
theorem ggX11_round_X11_becomes : GoodIn wsX11_round wsX11_becomes := goodIn_r _ [21, 4, 5, 22, 23, 24, 25, 26, 11, 27, 28, 36, 37, 38, 39, 40, 41, 42, 43, 44, 45, 46, 47, 48, 49, 50, 51, 52, 53, 54, 55, 56, 57, 58, 59, 60, 61, 62, 63, 64, 65, 66, 67, 68, 69, 70, 71, 72, 73, 74, 75, 76, 77, 78, 79, 80, 81, 82, 83, 84, 85, 86, 87, 88, 89, 90, 91, 92, 93, 94] (by decide +kernel) (by decide +kernel)
set_option maxRecDepth 20000 in
theorem gX11_round_X11_becomes : GoodIn wsX11_round (wsV RX11 294 RX11 yX11_becomes wsX11_becomes) := goodIn_app (goodIn_of _ (by decide +kernel)) ggX11_round_X11_becomes
set_option maxRecDepth 20000 in
theorem ggX11_round_X11_happens : GoodIn wsX11_round wsX11_happens := goodIn_r _ [32, 33, 34, 35, 36, 37, 38, 39, 40, 41, 42, 43, 44, 45, 46, 47, 48, 49, 50, 51, 52, 53, 54, 55, 56, 57, 58, 59, 60, 61, 62, 63, 64, 65, 66, 67, 68, 69, 70, 71, 72, 73, 74, 75, 76, 77, 78, 79, 80, 81, 82, 83, 84, 85, 86, 87, 88, 89, 90, 91, 92, 93, 94] (by decide +kernel) (by decide +kernel)
set_option maxRecDepth 20000 in
theorem gX11_round_X11_happens : GoodIn wsX11_round (wsV RX11 298 RX11 yX11_happens wsX11_happens) := goodIn_app (goodIn_of _ (by decide +kernel)) ggX11_round_X11_happens
theorem dX11_round_0 : decode cX11_round 0 = .ok (.aload_n 0, 1) := by decide +kernel
theorem dX11_round_1 : decode cX11_round 1 = .ok (.iconst 3, 1) := by decide +kernel
theorem dX11_round_2 : decode cX11_round 2 = .ok (.invokevirtual 291, 3) := by decide +kernel
theorem dX11_round_5 : decode cX11_round 5 = .ok (.aload_n 0, 1) := by decide +kernel
theorem dX11_round_6 : decode cX11_round 6 = .ok (.getfield 270, 3) := by decide +kernel
theorem dX11_round_9 : decode cX11_round 9 = .ok (.ifCond .eq 9, 3) := by decide +kernel
theorem dX11_round_12 : decode cX11_round 12 = .ok (.sipush 256, 3) := by decide +kernel
theorem dX11_round_15 : decode cX11_round 15 = .ok (.goto 4, 3) := by decide +kernel
theorem dX11_round_18 : decode cX11_round 18 = .ok (.iconst 0, 1) := by decide +kernel
theorem dX11_round_19 : decode cX11_round 19 = .ok (.ior, 1) := by decide +kernel
theorem dX11_round_20 : decode cX11_round 20 = .ok (.istore_n 1, 1) := by decide +kernel
theorem dX11_round_21 : decode cX11_round 21 = .ok (.iconst 0, 1) := by decide +kernel
theorem dX11_round_22 : decode cX11_round 22 = .ok (.istore_n 2, 1) := by decide +kernel
theorem dX11_round_23 : decode cX11_round 23 = .ok (.iconst 0, 1) := by decide +kernel
theorem dX11_round_24 : decode cX11_round 24 = .ok (.istore_n 3, 1) := by decide +kernel
theorem dX11_round_25 : decode cX11_round 25 = .ok (.iload_n 3, 1) := by decide +kernel
theorem dX11_round_26 : decode cX11_round 26 = .ok (.aload_n 0, 1) := by decide +kernel
theorem dX11_round_27 : decode cX11_round 27 = .ok (.getfield 121, 3) := by decide +kernel
theorem dX11_round_30 : decode cX11_round 30 = .ok (.if_icmp .ge 110, 3) := by decide +kernel
theorem dX11_round_33 : decode cX11_round 33 = .ok (.aload_n 0, 1) := by decide +kernel
theorem dX11_round_34 : decode cX11_round 34 = .ok (.iload_n 3, 1) := by decide +kernel
theorem dX11_round_35 : decode cX11_round 35 = .ok (.aload_n 0, 1) := by decide +kernel
theorem dX11_round_36 : decode cX11_round 36 = .ok (.getfield 273, 3) := by decide +kernel
theorem dX11_round_39 : decode cX11_round 39 = .ok (.ifCond .ne 16, 3) := by decide +kernel
theorem dX11_round_42 : decode cX11_round 42 = .ok (.aload_n 0, 1) := by decide +kernel
theorem dX11_round_43 : decode cX11_round 43 = .ok (.iload_n 3, 1) := by decide +kernel
theorem dX11_round_44 : decode cX11_round 44 = .ok (.iload_n 1, 1) := by decide +kernel
theorem dX11_round_45 : decode cX11_round 45 = .ok (.invokevirtual 256, 3) := by decide +kernel
theorem dX11_round_48 : decode cX11_round 48 = .ok (.ifCond .eq 7, 3) := by decide +kernel
theorem dX11_round_51 : decode cX11_round 51 = .ok (.iconst 1, 1) := by decide +kernel
theorem dX11_round_52 : decode cX11_round 52 = .ok (.goto 4, 3) := by decide +kernel
theorem dX11_round_55 : decode cX11_round 55 = .ok (.iconst 0, 1) := by decide +kernel
theorem dX11_round_56 : decode cX11_round 56 = .ok (.invokevirtual 294, 3) := by decide +kernel
theorem dX11_round_59 : decode cX11_round 59 = .ok (.istore 4, 2) := by decide +kernel
theorem dX11_round_61 : decode cX11_round 61 = .ok (.iload 4, 2) := by decide +kernel
theorem dX11_round_63 : decode cX11_round 63 = .ok (.bipush (-4), 2) := by decide +kernel
theorem dX11_round_65 : decode cX11_round 65 = .ok (.if_icmp .eq 69, 3) := by decide +kernel
theorem dX11_round_68 : decode cX11_round 68 = .ok (.aload_n 0, 1) := by decide +kernel
theorem dX11_round_69 : decode cX11_round 69 = .ok (.getfield 47, 3) := by decide +kernel
theorem dX11_round_72 : decode cX11_round 72 = .ok (.iload_n 3, 1) := by decide +kernel
theorem dX11_round_73 : decode cX11_round 73 = .ok (.iload 4, 2) := by decide +kernel
theorem dX11_round_75 : decode cX11_round 75 = .ok (.iastore, 1) := by decide +kernel
theorem dX11_round_76 : decode cX11_round 76 = .ok (.aload_n 0, 1) := by decide +kernel
theorem dX11_round_77 : decode cX11_round 77 = .ok (.getfield 50, 3) := by decide +kernel
theorem dX11_round_80 : decode cX11_round 80 = .ok (.iload_n 3, 1) := by decide +kernel
theorem dX11_round_81 : decode cX11_round 81 = .ok (.iconst 0, 1) := by decide +kernel
theorem dX11_round_82 : decode cX11_round 82 = .ok (.iastore, 1) := by decide +kernel
theorem dX11_round_83 : decode cX11_round 83 = .ok (.aload_n 0, 1) := by decide +kernel
theorem dX11_round_84 : decode cX11_round 84 = .ok (.getfield 53, 3) := by decide +kernel
theorem dX11_round_87 : decode cX11_round 87 = .ok (.iload_n 3, 1) := by decide +kernel
theorem dX11_round_88 : decode cX11_round 88 = .ok (.iload 4, 2) := by decide +kernel
theorem dX11_round_90 : decode cX11_round 90 = .ok (.iconst 1, 1) := by decide +kernel
theorem dX11_round_91 : decode cX11_round 91 = .ok (.if_icmp .ne 7, 3) := by decide +kernel
theorem dX11_round_94 : decode cX11_round 94 = .ok (.iconst 0, 1) := by decide +kernel
theorem dX11_round_95 : decode cX11_round 95 = .ok (.goto 9, 3) := by decide +kernel
theorem dX11_round_98 : decode cX11_round 98 = .ok (.aload_n 0, 1) := by decide +kernel
theorem dX11_round_99 : decode cX11_round 99 = .ok (.getfield 53, 3) := by decide +kernel
theorem dX11_round_102 : decode cX11_round 102 = .ok (.iload_n 3, 1) := by decide +kernel
theorem dX11_round_103 : decode cX11_round 103 = .ok (.iaload, 1) := by decide +kernel
theorem dX11_round_104 : decode cX11_round 104 = .ok (.iastore, 1) := by decide +kernel
theorem dX11_round_105 : decode cX11_round 105 = .ok (.aload_n 0, 1) := by decide +kernel
theorem dX11_round_106 : decode cX11_round 106 = .ok (.getfield 62, 3) := by decide +kernel
theorem dX11_round_109 : decode cX11_round 109 = .ok (.iload_n 3, 1) := by decide +kernel
theorem dX11_round_110 : decode cX11_round 110 = .ok (.dup2, 1) := by decide +kernel
theorem dX11_round_111 : decode cX11_round 111 = .ok (.iaload, 1) := by decide +kernel
theorem dX11_round_112 : decode cX11_round 112 = .ok (.iload 4, 2) := by decide +kernel
theorem dX11_round_114 : decode cX11_round 114 = .ok (.iconst 3, 1) := by decide +kernel
theorem dX11_round_115 : decode cX11_round 115 = .ok (.if_icmp .ne 7, 3) := by decide +kernel
theorem dX11_round_118 : decode cX11_round 118 = .ok (.iconst 1, 1) := by decide +kernel
theorem dX11_round_119 : decode cX11_round 119 = .ok (.goto 4, 3) := by decide +kernel
theorem dX11_round_122 : decode cX11_round 122 = .ok (.iconst 0, 1) := by decide +kernel
theorem dX11_round_123 : decode cX11_round 123 = .ok (.iadd, 1) := by decide +kernel
theorem dX11_round_124 : decode cX11_round 124 = .ok (.iastore, 1) := by decide +kernel
theorem dX11_round_125 : decode cX11_round 125 = .ok (.aload_n 0, 1) := by decide +kernel
theorem dX11_round_126 : decode cX11_round 126 = .ok (.iload_n 3, 1) := by decide +kernel
theorem dX11_round_127 : decode cX11_round 127 = .ok (.iload 4, 2) := by decide +kernel
theorem dX11_round_129 : decode cX11_round 129 = .ok (.invokevirtual 298, 3) := by decide +kernel
theorem dX11_round_132 : decode cX11_round 132 = .ok (.iconst 1, 1) := by decide +kernel
theorem dX11_round_133 : decode cX11_round 133 = .ok (.istore_n 2, 1) := by decide +kernel
theorem dX11_round_134 : decode cX11_round 134 = .ok (.iinc 3 1, 3) := by decide +kernel
theorem dX11_round_137 : decode cX11_round 137 = .ok (.goto (-112), 3) := by decide +kernel
theorem dX11_round_140 : decode cX11_round 140 = .ok (.iload_n 2, 1) := by decide +kernel
theorem dX11_round_141 : decode cX11_round 141 = .ok (.ireturn, 1) := by decide +kernel
set_option maxRecDepth 20000 in
theorem ggX11_settles_X11_round : GoodIn wsX11_settles wsX11_round := goodIn_r _ [5, 6, 7, 8, 9, 10, 11, 12, 13, 14, 15, 4, 16, 17, 18, 19, 20, 21, 22, 23, 24, 25, 26, 27, 28, 29, 30, 31, 32, 33, 34, 35, 36, 37, 38, 39, 40, 41, 42, 43, 44, 45, 46, 47, 48, 49, 50, 51, 52, 53, 54, 55, 56, 57, 58, 59, 60, 61, 62, 63, 64, 65, 66, 67, 68, 69, 70, 71, 72, 73, 74, 75, 76, 77, 78, 79, 80, 81, 82, 83, 84, 85, 86, 87, 88, 89, 90, 91, 92, 93, 94, 95, 96, 97, 98] (by decide +kernel) (by decide +kernel)
set_option maxRecDepth 20000 in
theorem gX11_settles_X11_round : GoodIn wsX11_settles (wsV RX11 302 RX11 yX11_round wsX11_round) := goodIn_app (goodIn_of _ (by decide +kernel)) ggX11_settles_X11_round
theorem dX11_settles_0 : decode cX11_settles 0 = .ok (.iconst 1, 1) := by decide +kernel
theorem dX11_settles_1 : decode cX11_settles 1 = .ok (.istore_n 1, 1) := by decide +kernel
theorem dX11_settles_2 : decode cX11_settles 2 = .ok (.iload_n 1, 1) := by decide +kernel
theorem dX11_settles_3 : decode cX11_settles 3 = .ok (.ifCond .eq 11, 3) := by decide +kernel
theorem dX11_settles_6 : decode cX11_settles 6 = .ok (.aload_n 0, 1) := by decide +kernel
theorem dX11_settles_7 : decode cX11_settles 7 = .ok (.invokevirtual 302, 3) := by decide +kernel
theorem dX11_settles_10 : decode cX11_settles 10 = .ok (.istore_n 1, 1) := by decide +kernel
theorem dX11_settles_11 : decode cX11_settles 11 = .ok (.goto (-9), 3) := by decide +kernel
theorem dX11_settles_14 : decode cX11_settles 14 = .ok (.return_, 1) := by decide +kernel
set_option maxRecDepth 20000 in
theorem ggX11_drawnOf_X11_of : GoodIn wsX11_drawnOf wsX11_of := goodIn_r _ [6, 7, 8, 9, 10, 11, 12, 13, 14, 15, 16, 17, 18, 19, 20, 21, 22, 23, 24, 25, 26, 27, 28, 29, 30, 31, 32, 33, 34, 35, 36, 37, 38, 39, 40, 41, 42, 43, 44, 45, 46, 47, 48, 49, 50, 51, 52, 53, 54, 55, 56, 57, 58, 59, 60, 61, 62, 63, 64, 65, 66] (by decide +kernel) (by decide +kernel)
set_option maxRecDepth 20000 in
theorem gX11_drawnOf_X11_of : GoodIn wsX11_drawnOf (wsV RX11 251 RX11 yX11_of wsX11_of) := goodIn_app (goodIn_of _ (by decide +kernel)) ggX11_drawnOf_X11_of
theorem dX11_drawnOf_0 : decode cX11_drawnOf 0 = .ok (.iconst 0, 1) := by decide +kernel
theorem dX11_drawnOf_1 : decode cX11_drawnOf 1 = .ok (.istore_n 3, 1) := by decide +kernel
theorem dX11_drawnOf_2 : decode cX11_drawnOf 2 = .ok (.iconst 0, 1) := by decide +kernel
theorem dX11_drawnOf_3 : decode cX11_drawnOf 3 = .ok (.istore 4, 2) := by decide +kernel
theorem dX11_drawnOf_5 : decode cX11_drawnOf 5 = .ok (.iload 4, 2) := by decide +kernel
theorem dX11_drawnOf_7 : decode cX11_drawnOf 7 = .ok (.aload_n 0, 1) := by decide +kernel
theorem dX11_drawnOf_8 : decode cX11_drawnOf 8 = .ok (.getfield 121, 3) := by decide +kernel
theorem dX11_drawnOf_11 : decode cX11_drawnOf 11 = .ok (.if_icmp .ge 53, 3) := by decide +kernel
theorem dX11_drawnOf_14 : decode cX11_drawnOf 14 = .ok (.iload_n 3, 1) := by decide +kernel
theorem dX11_drawnOf_15 : decode cX11_drawnOf 15 = .ok (.iload_n 1, 1) := by decide +kernel
theorem dX11_drawnOf_16 : decode cX11_drawnOf 16 = .ok (.iload 4, 2) := by decide +kernel
theorem dX11_drawnOf_18 : decode cX11_drawnOf 18 = .ok (.ishr, 1) := by decide +kernel
theorem dX11_drawnOf_19 : decode cX11_drawnOf 19 = .ok (.iconst 1, 1) := by decide +kernel
theorem dX11_drawnOf_20 : decode cX11_drawnOf 20 = .ok (.iand, 1) := by decide +kernel
theorem dX11_drawnOf_21 : decode cX11_drawnOf 21 = .ok (.iconst 1, 1) := by decide +kernel
theorem dX11_drawnOf_22 : decode cX11_drawnOf 22 = .ok (.if_icmp .ne 13, 3) := by decide +kernel
theorem dX11_drawnOf_25 : decode cX11_drawnOf 25 = .ok (.aload_n 0, 1) := by decide +kernel
theorem dX11_drawnOf_26 : decode cX11_drawnOf 26 = .ok (.iload 4, 2) := by decide +kernel
theorem dX11_drawnOf_28 : decode cX11_drawnOf 28 = .ok (.iconst 3, 1) := by decide +kernel
theorem dX11_drawnOf_29 : decode cX11_drawnOf 29 = .ok (.invokevirtual 251, 3) := by decide +kernel
theorem dX11_drawnOf_32 : decode cX11_drawnOf 32 = .ok (.goto 24, 3) := by decide +kernel
theorem dX11_drawnOf_35 : decode cX11_drawnOf 35 = .ok (.iload_n 2, 1) := by decide +kernel
theorem dX11_drawnOf_36 : decode cX11_drawnOf 36 = .ok (.iload 4, 2) := by decide +kernel
theorem dX11_drawnOf_38 : decode cX11_drawnOf 38 = .ok (.ishr, 1) := by decide +kernel
theorem dX11_drawnOf_39 : decode cX11_drawnOf 39 = .ok (.iconst 1, 1) := by decide +kernel
theorem dX11_drawnOf_40 : decode cX11_drawnOf 40 = .ok (.iand, 1) := by decide +kernel
theorem dX11_drawnOf_41 : decode cX11_drawnOf 41 = .ok (.iconst 1, 1) := by decide +kernel
theorem dX11_drawnOf_42 : decode cX11_drawnOf 42 = .ok (.if_icmp .ne 13, 3) := by decide +kernel
theorem dX11_drawnOf_45 : decode cX11_drawnOf 45 = .ok (.aload_n 0, 1) := by decide +kernel
theorem dX11_drawnOf_46 : decode cX11_drawnOf 46 = .ok (.iload 4, 2) := by decide +kernel
theorem dX11_drawnOf_48 : decode cX11_drawnOf 48 = .ok (.iconst 4, 1) := by decide +kernel
theorem dX11_drawnOf_49 : decode cX11_drawnOf 49 = .ok (.invokevirtual 251, 3) := by decide +kernel
theorem dX11_drawnOf_52 : decode cX11_drawnOf 52 = .ok (.goto 4, 3) := by decide +kernel
theorem dX11_drawnOf_55 : decode cX11_drawnOf 55 = .ok (.iconst 0, 1) := by decide +kernel
theorem dX11_drawnOf_56 : decode cX11_drawnOf 56 = .ok (.iadd, 1) := by decide +kernel
theorem dX11_drawnOf_57 : decode cX11_drawnOf 57 = .ok (.istore_n 3, 1) := by decide +kernel
theorem dX11_drawnOf_58 : decode cX11_drawnOf 58 = .ok (.iinc 4 1, 3) := by decide +kernel
theorem dX11_drawnOf_61 : decode cX11_drawnOf 61 = .ok (.goto (-56), 3) := by decide +kernel
theorem dX11_drawnOf_64 : decode cX11_drawnOf 64 = .ok (.iload_n 3, 1) := by decide +kernel
theorem dX11_drawnOf_65 : decode cX11_drawnOf 65 = .ok (.ireturn, 1) := by decide +kernel
set_option maxRecDepth 20000 in
theorem ggX11_tripNow_X11_of : GoodIn wsX11_tripNow wsX11_of := goodIn_r _ [10, 11, 12, 13, 14, 15, 16, 17, 18, 19, 20, 21, 22, 23, 24, 25, 26, 27, 28, 29, 30, 31, 32, 33, 34, 35, 36, 37, 38, 39, 40, 41, 42, 43, 44, 45, 46, 47, 48, 49, 50, 51, 52, 53, 54, 55, 56, 57, 58, 59, 60, 61, 62, 63, 64, 65, 66, 67, 68, 69, 70] (by decide +kernel) (by decide +kernel)
set_option maxRecDepth 20000 in
theorem gX11_tripNow_X11_of : GoodIn wsX11_tripNow (wsV RX11 251 RX11 yX11_of wsX11_of) := goodIn_app (goodIn_of _ (by decide +kernel)) ggX11_tripNow_X11_of
theorem dX11_tripNow_0 : decode cX11_tripNow 0 = .ok (.iconst 0, 1) := by decide +kernel
theorem dX11_tripNow_1 : decode cX11_tripNow 1 = .ok (.istore_n 1, 1) := by decide +kernel
theorem dX11_tripNow_2 : decode cX11_tripNow 2 = .ok (.iconst 0, 1) := by decide +kernel
theorem dX11_tripNow_3 : decode cX11_tripNow 3 = .ok (.istore_n 2, 1) := by decide +kernel
theorem dX11_tripNow_4 : decode cX11_tripNow 4 = .ok (.iload_n 2, 1) := by decide +kernel
theorem dX11_tripNow_5 : decode cX11_tripNow 5 = .ok (.aload_n 0, 1) := by decide +kernel
theorem dX11_tripNow_6 : decode cX11_tripNow 6 = .ok (.getfield 121, 3) := by decide +kernel
theorem dX11_tripNow_9 : decode cX11_tripNow 9 = .ok (.if_icmp .ge 65, 3) := by decide +kernel
theorem dX11_tripNow_12 : decode cX11_tripNow 12 = .ok (.iload_n 1, 1) := by decide +kernel
theorem dX11_tripNow_13 : decode cX11_tripNow 13 = .ok (.ifCond .ne 49, 3) := by decide +kernel
theorem dX11_tripNow_16 : decode cX11_tripNow 16 = .ok (.aload_n 0, 1) := by decide +kernel
theorem dX11_tripNow_17 : decode cX11_tripNow 17 = .ok (.iload_n 2, 1) := by decide +kernel
theorem dX11_tripNow_18 : decode cX11_tripNow 18 = .ok (.bipush 6, 2) := by decide +kernel
theorem dX11_tripNow_20 : decode cX11_tripNow 20 = .ok (.invokevirtual 251, 3) := by decide +kernel
theorem dX11_tripNow_23 : decode cX11_tripNow 23 = .ok (.ifCond .le 43, 3) := by decide +kernel
theorem dX11_tripNow_26 : decode cX11_tripNow 26 = .ok (.aload_n 0, 1) := by decide +kernel
theorem dX11_tripNow_27 : decode cX11_tripNow 27 = .ok (.getfield 47, 3) := by decide +kernel
theorem dX11_tripNow_30 : decode cX11_tripNow 30 = .ok (.iload_n 2, 1) := by decide +kernel
theorem dX11_tripNow_31 : decode cX11_tripNow 31 = .ok (.iaload, 1) := by decide +kernel
theorem dX11_tripNow_32 : decode cX11_tripNow 32 = .ok (.iconst 1, 1) := by decide +kernel
theorem dX11_tripNow_33 : decode cX11_tripNow 33 = .ok (.if_icmp .eq 13, 3) := by decide +kernel
theorem dX11_tripNow_36 : decode cX11_tripNow 36 = .ok (.aload_n 0, 1) := by decide +kernel
theorem dX11_tripNow_37 : decode cX11_tripNow 37 = .ok (.getfield 47, 3) := by decide +kernel
theorem dX11_tripNow_40 : decode cX11_tripNow 40 = .ok (.iload_n 2, 1) := by decide +kernel
theorem dX11_tripNow_41 : decode cX11_tripNow 41 = .ok (.iaload, 1) := by decide +kernel
theorem dX11_tripNow_42 : decode cX11_tripNow 42 = .ok (.iconst 2, 1) := by decide +kernel
theorem dX11_tripNow_43 : decode cX11_tripNow 43 = .ok (.if_icmp .ne 23, 3) := by decide +kernel
theorem dX11_tripNow_46 : decode cX11_tripNow 46 = .ok (.aload_n 0, 1) := by decide +kernel
theorem dX11_tripNow_47 : decode cX11_tripNow 47 = .ok (.getfield 53, 3) := by decide +kernel
theorem dX11_tripNow_50 : decode cX11_tripNow 50 = .ok (.iload_n 2, 1) := by decide +kernel
theorem dX11_tripNow_51 : decode cX11_tripNow 51 = .ok (.iaload, 1) := by decide +kernel
theorem dX11_tripNow_52 : decode cX11_tripNow 52 = .ok (.aload_n 0, 1) := by decide +kernel
theorem dX11_tripNow_53 : decode cX11_tripNow 53 = .ok (.iload_n 2, 1) := by decide +kernel
theorem dX11_tripNow_54 : decode cX11_tripNow 54 = .ok (.bipush 6, 2) := by decide +kernel
theorem dX11_tripNow_56 : decode cX11_tripNow 56 = .ok (.invokevirtual 251, 3) := by decide +kernel
theorem dX11_tripNow_59 : decode cX11_tripNow 59 = .ok (.if_icmp .lt 7, 3) := by decide +kernel
theorem dX11_tripNow_62 : decode cX11_tripNow 62 = .ok (.iconst 1, 1) := by decide +kernel
theorem dX11_tripNow_63 : decode cX11_tripNow 63 = .ok (.goto 4, 3) := by decide +kernel
theorem dX11_tripNow_66 : decode cX11_tripNow 66 = .ok (.iconst 0, 1) := by decide +kernel
theorem dX11_tripNow_67 : decode cX11_tripNow 67 = .ok (.istore_n 1, 1) := by decide +kernel
theorem dX11_tripNow_68 : decode cX11_tripNow 68 = .ok (.iinc 2 1, 3) := by decide +kernel
theorem dX11_tripNow_71 : decode cX11_tripNow 71 = .ok (.goto (-67), 3) := by decide +kernel
theorem dX11_tripNow_74 : decode cX11_tripNow 74 = .ok (.aload_n 0, 1) := by decide +kernel
theorem dX11_tripNow_75 : decode cX11_tripNow 75 = .ok (.getfield 279, 3) := by decide +kernel
theorem dX11_tripNow_78 : decode cX11_tripNow 78 = .ok (.aload_n 0, 1) := by decide +kernel
theorem dX11_tripNow_79 : decode cX11_tripNow 79 = .ok (.getfield 124, 3) := by decide +kernel
theorem dX11_tripNow_82 : decode cX11_tripNow 82 = .ok (.if_icmp .le 7, 3) := by decide +kernel
theorem dX11_tripNow_85 : decode cX11_tripNow 85 = .ok (.iconst 1, 1) := by decide +kernel
theorem dX11_tripNow_86 : decode cX11_tripNow 86 = .ok (.goto 12, 3) := by decide +kernel
theorem dX11_tripNow_89 : decode cX11_tripNow 89 = .ok (.iload_n 1, 1) := by decide +kernel
theorem dX11_tripNow_90 : decode cX11_tripNow 90 = .ok (.ifCond .eq 7, 3) := by decide +kernel
theorem dX11_tripNow_93 : decode cX11_tripNow 93 = .ok (.iconst 2, 1) := by decide +kernel
theorem dX11_tripNow_94 : decode cX11_tripNow 94 = .ok (.goto 4, 3) := by decide +kernel
theorem dX11_tripNow_97 : decode cX11_tripNow 97 = .ok (.iconst 0, 1) := by decide +kernel
theorem dX11_tripNow_98 : decode cX11_tripNow 98 = .ok (.ireturn, 1) := by decide +kernel
set_option maxRecDepth 20000 in
theorem ggX11_aTick_X11_settles : GoodIn wsX11_aTick wsX11_settles := goodIn_r _ [15, 16, 17, 18, 14, 19, 20, 7, 6, 21, 8, 9, 22, 23, 24, 25, 26, 27, 28, 29, 30, 31, 32, 33, 34, 35, 36, 37, 38, 39, 40, 41, 42, 43, 44, 45, 46, 47, 48, 10, 58, 59, 60, 61, 62, 63, 64, 65, 66, 67, 68, 69, 70, 71, 72, 73, 74, 75, 76, 77, 78, 79, 80, 81, 82, 83, 84, 85, 86, 87, 88, 89, 90, 91, 92, 93, 94, 95, 96, 97, 98, 99, 100, 101, 102, 103, 104, 105, 106, 107, 108, 109, 110, 111, 112, 113, 114, 115, 116] (by decide +kernel) (by decide +kernel)
set_option maxRecDepth 20000 in
theorem gX11_aTick_X11_settles : GoodIn wsX11_aTick (wsV RX11 306 RX11 yX11_settles wsX11_settles) := goodIn_app (goodIn_of _ (by decide +kernel)) ggX11_aTick_X11_settles
set_option maxRecDepth 20000 in
theorem ggX11_aTick_X11_allIn : GoodIn wsX11_aTick wsX11_allIn := goodIn_r _ [26, 7, 21, 58, 59, 60, 61, 62, 63, 64, 65, 66, 67, 68, 69, 70, 71, 72, 73, 74, 75, 76, 77, 78, 79, 80, 81, 82, 83, 84, 85, 86, 87, 88, 89, 90, 91, 92, 93, 94, 95, 96, 97, 98, 99, 100, 101, 102, 103, 104, 105, 106, 107, 108, 109, 110, 111, 112, 113, 114, 115, 116] (by decide +kernel) (by decide +kernel)
set_option maxRecDepth 20000 in
theorem gX11_aTick_X11_allIn : GoodIn wsX11_aTick (wsV RX11 291 RX11 yX11_allIn wsX11_allIn) := goodIn_app (goodIn_of _ (by decide +kernel)) ggX11_aTick_X11_allIn
set_option maxRecDepth 20000 in
theorem ggX11_aTick_X11_drawnOf : GoodIn wsX11_aTick wsX11_drawnOf := goodIn_r _ [52, 7, 38, 39, 40, 14, 41, 42, 58, 59, 60, 61, 62, 63, 64, 65, 66, 67, 68, 69, 70, 71, 72, 73, 74, 75, 76, 77, 78, 79, 80, 81, 82, 83, 84, 85, 86, 87, 88, 89, 90, 91, 92, 93, 94, 95, 96, 97, 98, 99, 100, 101, 102, 103, 104, 105, 106, 107, 108, 109, 110, 111, 112, 113, 114, 115, 116] (by decide +kernel) (by decide +kernel)
set_option maxRecDepth 20000 in
theorem gX11_aTick_X11_drawnOf : GoodIn wsX11_aTick (wsV RX11 309 RX11 yX11_drawnOf wsX11_drawnOf) := goodIn_app (goodIn_of _ (by decide +kernel)) ggX11_aTick_X11_drawnOf
set_option maxRecDepth 20000 in
theorem ggX11_aTick_X11_tripNow : GoodIn wsX11_aTick wsX11_tripNow := goodIn_r _ [56, 7, 21, 9, 1, 57, 38, 39, 40, 14, 41, 42, 58, 59, 60, 61, 62, 63, 64, 65, 66, 67, 68, 69, 70, 71, 72, 73, 74, 75, 76, 77, 78, 79, 80, 81, 82, 83, 84, 85, 86, 87, 88, 89, 90, 91, 92, 93, 94, 95, 96, 97, 98, 99, 100, 101, 102, 103, 104, 105, 106, 107, 108, 109, 110, 111, 112, 113, 114, 115, 116] (by decide +kernel) (by decide +kernel)
set_option maxRecDepth 20000 in
theorem gX11_aTick_X11_tripNow : GoodIn wsX11_aTick (wsV RX11 312 RX11 yX11_tripNow wsX11_tripNow) := goodIn_app (goodIn_of _ (by decide +kernel)) ggX11_aTick_X11_tripNow
set_option maxRecDepth 20000 in
theorem ggX11_aTick_X11_happens : GoodIn wsX11_aTick wsX11_happens := goodIn_r _ [46, 47, 48, 10, 58, 59, 60, 61, 62, 63, 64, 65, 66, 67, 68, 69, 70, 71, 72, 73, 74, 75, 76, 77, 78, 79, 80, 81, 82, 83, 84, 85, 86, 87, 88, 89, 90, 91, 92, 93, 94, 95, 96, 97, 98, 99, 100, 101, 102, 103, 104, 105, 106, 107, 108, 109, 110, 111, 112, 113, 114, 115, 116] (by decide +kernel) (by decide +kernel)
set_option maxRecDepth 20000 in
theorem gX11_aTick_X11_happens : GoodIn wsX11_aTick (wsV RX11 298 RX11 yX11_happens wsX11_happens) := goodIn_app (goodIn_of _ (by decide +kernel)) ggX11_aTick_X11_happens
theorem dX11_aTick_0 : decode cX11_aTick 0 = .ok (.aload_n 0, 1) := by decide +kernel
theorem dX11_aTick_1 : decode cX11_aTick 1 = .ok (.invokevirtual 306, 3) := by decide +kernel
theorem dX11_aTick_4 : decode cX11_aTick 4 = .ok (.aload_n 0, 1) := by decide +kernel
theorem dX11_aTick_5 : decode cX11_aTick 5 = .ok (.aload_n 0, 1) := by decide +kernel
theorem dX11_aTick_6 : decode cX11_aTick 6 = .ok (.aload_n 0, 1) := by decide +kernel
theorem dX11_aTick_7 : decode cX11_aTick 7 = .ok (.iconst 3, 1) := by decide +kernel
theorem dX11_aTick_8 : decode cX11_aTick 8 = .ok (.invokevirtual 291, 3) := by decide +kernel
theorem dX11_aTick_11 : decode cX11_aTick 11 = .ok (.aload_n 0, 1) := by decide +kernel
theorem dX11_aTick_12 : decode cX11_aTick 12 = .ok (.iconst 2, 1) := by decide +kernel
theorem dX11_aTick_13 : decode cX11_aTick 13 = .ok (.invokevirtual 291, 3) := by decide +kernel
theorem dX11_aTick_16 : decode cX11_aTick 16 = .ok (.invokevirtual 309, 3) := by decide +kernel
theorem dX11_aTick_19 : decode cX11_aTick 19 = .ok (.putfield 279, 3) := by decide +kernel
theorem dX11_aTick_22 : decode cX11_aTick 22 = .ok (.aload_n 0, 1) := by decide +kernel
theorem dX11_aTick_23 : decode cX11_aTick 23 = .ok (.aload_n 0, 1) := by decide +kernel
theorem dX11_aTick_24 : decode cX11_aTick 24 = .ok (.getfield 279, 3) := by decide +kernel
theorem dX11_aTick_27 : decode cX11_aTick 27 = .ok (.aload_n 0, 1) := by decide +kernel
theorem dX11_aTick_28 : decode cX11_aTick 28 = .ok (.getfield 282, 3) := by decide +kernel
theorem dX11_aTick_31 : decode cX11_aTick 31 = .ok (.if_icmp .le 10, 3) := by decide +kernel
theorem dX11_aTick_34 : decode cX11_aTick 34 = .ok (.aload_n 0, 1) := by decide +kernel
theorem dX11_aTick_35 : decode cX11_aTick 35 = .ok (.getfield 279, 3) := by decide +kernel
theorem dX11_aTick_38 : decode cX11_aTick 38 = .ok (.goto 7, 3) := by decide +kernel
theorem dX11_aTick_41 : decode cX11_aTick 41 = .ok (.aload_n 0, 1) := by decide +kernel
theorem dX11_aTick_42 : decode cX11_aTick 42 = .ok (.getfield 282, 3) := by decide +kernel
theorem dX11_aTick_45 : decode cX11_aTick 45 = .ok (.putfield 282, 3) := by decide +kernel
theorem dX11_aTick_48 : decode cX11_aTick 48 = .ok (.aload_n 0, 1) := by decide +kernel
theorem dX11_aTick_49 : decode cX11_aTick 49 = .ok (.invokevirtual 312, 3) := by decide +kernel
theorem dX11_aTick_52 : decode cX11_aTick 52 = .ok (.istore_n 1, 1) := by decide +kernel
theorem dX11_aTick_53 : decode cX11_aTick 53 = .ok (.iload_n 1, 1) := by decide +kernel
theorem dX11_aTick_54 : decode cX11_aTick 54 = .ok (.ifCond .le 67, 3) := by decide +kernel
theorem dX11_aTick_57 : decode cX11_aTick 57 = .ok (.aload_n 0, 1) := by decide +kernel
theorem dX11_aTick_58 : decode cX11_aTick 58 = .ok (.dup, 1) := by decide +kernel
theorem dX11_aTick_59 : decode cX11_aTick 59 = .ok (.getfield 285, 3) := by decide +kernel
theorem dX11_aTick_62 : decode cX11_aTick 62 = .ok (.iconst 1, 1) := by decide +kernel
theorem dX11_aTick_63 : decode cX11_aTick 63 = .ok (.iadd, 1) := by decide +kernel
theorem dX11_aTick_64 : decode cX11_aTick 64 = .ok (.putfield 285, 3) := by decide +kernel
theorem dX11_aTick_67 : decode cX11_aTick 67 = .ok (.aload_n 0, 1) := by decide +kernel
theorem dX11_aTick_68 : decode cX11_aTick 68 = .ok (.bipush (-4), 2) := by decide +kernel
theorem dX11_aTick_70 : decode cX11_aTick 70 = .ok (.iconst 5, 1) := by decide +kernel
theorem dX11_aTick_71 : decode cX11_aTick 71 = .ok (.iload_n 1, 1) := by decide +kernel
theorem dX11_aTick_72 : decode cX11_aTick 72 = .ok (.iadd, 1) := by decide +kernel
theorem dX11_aTick_73 : decode cX11_aTick 73 = .ok (.invokevirtual 298, 3) := by decide +kernel
theorem dX11_aTick_76 : decode cX11_aTick 76 = .ok (.aload_n 0, 1) := by decide +kernel
theorem dX11_aTick_77 : decode cX11_aTick 77 = .ok (.aload_n 0, 1) := by decide +kernel
theorem dX11_aTick_78 : decode cX11_aTick 78 = .ok (.getfield 276, 3) := by decide +kernel
theorem dX11_aTick_81 : decode cX11_aTick 81 = .ok (.ifCond .le 10, 3) := by decide +kernel
theorem dX11_aTick_84 : decode cX11_aTick 84 = .ok (.aload_n 0, 1) := by decide +kernel
theorem dX11_aTick_85 : decode cX11_aTick 85 = .ok (.getfield 130, 3) := by decide +kernel
theorem dX11_aTick_88 : decode cX11_aTick 88 = .ok (.goto 5, 3) := by decide +kernel
theorem dX11_aTick_91 : decode cX11_aTick 91 = .ok (.bipush (-4), 2) := by decide +kernel
theorem dX11_aTick_93 : decode cX11_aTick 93 = .ok (.putfield 273, 3) := by decide +kernel
theorem dX11_aTick_96 : decode cX11_aTick 96 = .ok (.aload_n 0, 1) := by decide +kernel
theorem dX11_aTick_97 : decode cX11_aTick 97 = .ok (.dup, 1) := by decide +kernel
theorem dX11_aTick_98 : decode cX11_aTick 98 = .ok (.getfield 276, 3) := by decide +kernel
theorem dX11_aTick_101 : decode cX11_aTick 101 = .ok (.aload_n 0, 1) := by decide +kernel
theorem dX11_aTick_102 : decode cX11_aTick 102 = .ok (.getfield 276, 3) := by decide +kernel
theorem dX11_aTick_105 : decode cX11_aTick 105 = .ok (.ifCond .le 7, 3) := by decide +kernel
theorem dX11_aTick_108 : decode cX11_aTick 108 = .ok (.iconst 1, 1) := by decide +kernel
theorem dX11_aTick_109 : decode cX11_aTick 109 = .ok (.goto 4, 3) := by decide +kernel
theorem dX11_aTick_112 : decode cX11_aTick 112 = .ok (.iconst 0, 1) := by decide +kernel
theorem dX11_aTick_113 : decode cX11_aTick 113 = .ok (.isub, 1) := by decide +kernel
theorem dX11_aTick_114 : decode cX11_aTick 114 = .ok (.putfield 276, 3) := by decide +kernel
theorem dX11_aTick_117 : decode cX11_aTick 117 = .ok (.aload_n 0, 1) := by decide +kernel
theorem dX11_aTick_118 : decode cX11_aTick 118 = .ok (.invokevirtual 306, 3) := by decide +kernel
theorem dX11_aTick_121 : decode cX11_aTick 121 = .ok (.iconst 0, 1) := by decide +kernel
theorem dX11_aTick_122 : decode cX11_aTick 122 = .ok (.istore_n 2, 1) := by decide +kernel
theorem dX11_aTick_123 : decode cX11_aTick 123 = .ok (.iload_n 2, 1) := by decide +kernel
theorem dX11_aTick_124 : decode cX11_aTick 124 = .ok (.aload_n 0, 1) := by decide +kernel
theorem dX11_aTick_125 : decode cX11_aTick 125 = .ok (.getfield 121, 3) := by decide +kernel
theorem dX11_aTick_128 : decode cX11_aTick 128 = .ok (.if_icmp .ge 29, 3) := by decide +kernel
theorem dX11_aTick_131 : decode cX11_aTick 131 = .ok (.aload_n 0, 1) := by decide +kernel
theorem dX11_aTick_132 : decode cX11_aTick 132 = .ok (.getfield 50, 3) := by decide +kernel
theorem dX11_aTick_135 : decode cX11_aTick 135 = .ok (.iload_n 2, 1) := by decide +kernel
theorem dX11_aTick_136 : decode cX11_aTick 136 = .ok (.dup2, 1) := by decide +kernel
theorem dX11_aTick_137 : decode cX11_aTick 137 = .ok (.iaload, 1) := by decide +kernel
theorem dX11_aTick_138 : decode cX11_aTick 138 = .ok (.iconst 1, 1) := by decide +kernel
theorem dX11_aTick_139 : decode cX11_aTick 139 = .ok (.iadd, 1) := by decide +kernel
theorem dX11_aTick_140 : decode cX11_aTick 140 = .ok (.iastore, 1) := by decide +kernel
theorem dX11_aTick_141 : decode cX11_aTick 141 = .ok (.aload_n 0, 1) := by decide +kernel
theorem dX11_aTick_142 : decode cX11_aTick 142 = .ok (.getfield 53, 3) := by decide +kernel
theorem dX11_aTick_145 : decode cX11_aTick 145 = .ok (.iload_n 2, 1) := by decide +kernel
theorem dX11_aTick_146 : decode cX11_aTick 146 = .ok (.dup2, 1) := by decide +kernel
theorem dX11_aTick_147 : decode cX11_aTick 147 = .ok (.iaload, 1) := by decide +kernel
theorem dX11_aTick_148 : decode cX11_aTick 148 = .ok (.iconst 1, 1) := by decide +kernel
theorem dX11_aTick_149 : decode cX11_aTick 149 = .ok (.iadd, 1) := by decide +kernel
theorem dX11_aTick_150 : decode cX11_aTick 150 = .ok (.iastore, 1) := by decide +kernel
theorem dX11_aTick_151 : decode cX11_aTick 151 = .ok (.iinc 2 1, 3) := by decide +kernel
theorem dX11_aTick_154 : decode cX11_aTick 154 = .ok (.goto (-31), 3) := by decide +kernel
theorem dX11_aTick_157 : decode cX11_aTick 157 = .ok (.aload_n 0, 1) := by decide +kernel
theorem dX11_aTick_158 : decode cX11_aTick 158 = .ok (.dup, 1) := by decide +kernel
theorem dX11_aTick_159 : decode cX11_aTick 159 = .ok (.getfield 273, 3) := by decide +kernel
theorem dX11_aTick_162 : decode cX11_aTick 162 = .ok (.aload_n 0, 1) := by decide +kernel
theorem dX11_aTick_163 : decode cX11_aTick 163 = .ok (.getfield 273, 3) := by decide +kernel
theorem dX11_aTick_166 : decode cX11_aTick 166 = .ok (.ifCond .le 7, 3) := by decide +kernel
theorem dX11_aTick_169 : decode cX11_aTick 169 = .ok (.iconst 1, 1) := by decide +kernel
theorem dX11_aTick_170 : decode cX11_aTick 170 = .ok (.goto 4, 3) := by decide +kernel
theorem dX11_aTick_173 : decode cX11_aTick 173 = .ok (.iconst 0, 1) := by decide +kernel
theorem dX11_aTick_174 : decode cX11_aTick 174 = .ok (.isub, 1) := by decide +kernel
theorem dX11_aTick_175 : decode cX11_aTick 175 = .ok (.putfield 273, 3) := by decide +kernel
theorem dX11_aTick_178 : decode cX11_aTick 178 = .ok (.aload_n 0, 1) := by decide +kernel
theorem dX11_aTick_179 : decode cX11_aTick 179 = .ok (.dup, 1) := by decide +kernel
theorem dX11_aTick_180 : decode cX11_aTick 180 = .ok (.getfield 267, 3) := by decide +kernel
theorem dX11_aTick_183 : decode cX11_aTick 183 = .ok (.iconst 1, 1) := by decide +kernel
theorem dX11_aTick_184 : decode cX11_aTick 184 = .ok (.iadd, 1) := by decide +kernel
theorem dX11_aTick_185 : decode cX11_aTick 185 = .ok (.putfield 267, 3) := by decide +kernel
theorem dX11_aTick_188 : decode cX11_aTick 188 = .ok (.return_, 1) := by decide +kernel
set_option maxRecDepth 20000 in
theorem ggX11_go_X11_in : GoodIn wsX11_go wsX11_in := goodIn_r _ [6] (by decide +kernel) (by decide +kernel)
set_option maxRecDepth 20000 in
theorem gX11_go_X11_in : GoodIn wsX11_go (va_wsS RX11 141 yX11_in wsX11_in) := goodIn_app (goodIn_of _ (by decide +kernel)) ggX11_go_X11_in
set_option maxRecDepth 20000 in
theorem ggX11_go_X11_aTick : GoodIn wsX11_go wsX11_aTick := goodIn_r _ [10, 11, 12, 2, 13, 14, 15, 16, 17, 18, 19, 20, 21, 22, 5, 23, 24, 25, 26, 27, 28, 29, 30, 31, 32, 33, 34, 35, 36, 37, 38, 39, 40, 41, 42, 43, 44, 45, 46, 47, 48, 49, 50, 51, 52, 53, 54, 55, 56, 57, 58, 59, 60, 61, 62, 63, 64, 65, 66, 67, 68, 69, 70, 71, 72, 73, 74, 75, 76, 77, 78, 79, 80, 81, 82, 83, 84, 85, 86, 87, 88, 89, 90, 91, 92, 93, 94, 95, 96, 97, 98, 99, 100, 101, 102, 103, 104, 105, 106, 107, 108, 109, 110, 111, 112, 113, 114, 115, 116, 117, 118, 119, 120, 121, 122, 123, 124] (by decide +kernel) (by decide +kernel)
set_option maxRecDepth 20000 in
theorem gX11_go_X11_aTick : GoodIn wsX11_go (wsV RX11 317 RX11 yX11_aTick wsX11_aTick) := goodIn_app (goodIn_of _ (by decide +kernel)) ggX11_go_X11_aTick
theorem dX11_go_0 : decode cX11_go 0 = .ok (.iload_n 1, 1) := by decide +kernel
theorem dX11_go_1 : decode cX11_go 1 = .ok (.i2l, 1) := by decide +kernel
theorem dX11_go_2 : decode cX11_go 2 = .ok (.lconst 1, 1) := by decide +kernel
theorem dX11_go_3 : decode cX11_go 3 = .ok (.ldc2_w 315, 3) := by decide +kernel
theorem dX11_go_6 : decode cX11_go 6 = .ok (.invokestatic 141, 3) := by decide +kernel
theorem dX11_go_9 : decode cX11_go 9 = .ok (.ifCond .ne 5, 3) := by decide +kernel
theorem dX11_go_12 : decode cX11_go 12 = .ok (.iconst (-1), 1) := by decide +kernel
theorem dX11_go_13 : decode cX11_go 13 = .ok (.ireturn, 1) := by decide +kernel
theorem dX11_go_14 : decode cX11_go 14 = .ok (.aload_n 0, 1) := by decide +kernel
theorem dX11_go_15 : decode cX11_go 15 = .ok (.getfield 285, 3) := by decide +kernel
theorem dX11_go_18 : decode cX11_go 18 = .ok (.istore_n 2, 1) := by decide +kernel
theorem dX11_go_19 : decode cX11_go 19 = .ok (.iconst 0, 1) := by decide +kernel
theorem dX11_go_20 : decode cX11_go 20 = .ok (.istore_n 3, 1) := by decide +kernel
theorem dX11_go_21 : decode cX11_go 21 = .ok (.iload_n 3, 1) := by decide +kernel
theorem dX11_go_22 : decode cX11_go 22 = .ok (.iload_n 1, 1) := by decide +kernel
theorem dX11_go_23 : decode cX11_go 23 = .ok (.if_icmp .ge 13, 3) := by decide +kernel
theorem dX11_go_26 : decode cX11_go 26 = .ok (.aload_n 0, 1) := by decide +kernel
theorem dX11_go_27 : decode cX11_go 27 = .ok (.invokevirtual 317, 3) := by decide +kernel
theorem dX11_go_30 : decode cX11_go 30 = .ok (.iinc 3 1, 3) := by decide +kernel
theorem dX11_go_33 : decode cX11_go 33 = .ok (.goto (-12), 3) := by decide +kernel
theorem dX11_go_36 : decode cX11_go 36 = .ok (.aload_n 0, 1) := by decide +kernel
theorem dX11_go_37 : decode cX11_go 37 = .ok (.getfield 285, 3) := by decide +kernel
theorem dX11_go_40 : decode cX11_go 40 = .ok (.iload_n 2, 1) := by decide +kernel
theorem dX11_go_41 : decode cX11_go 41 = .ok (.isub, 1) := by decide +kernel
theorem dX11_go_42 : decode cX11_go 42 = .ok (.ireturn, 1) := by decide +kernel
set_option maxRecDepth 20000 in
theorem ggX11_now_X11_allIn : GoodIn wsX11_now wsX11_allIn := goodIn_r _ [12, 13, 14, 18, 19, 20, 21, 22, 23, 24, 25, 26, 27, 28, 29, 30, 31, 32, 33, 34, 35, 36, 37, 38, 39, 40, 41, 42, 43, 44, 45, 46, 47, 48, 49, 50, 51, 52, 53, 54, 55, 56, 57, 58, 59, 60, 61, 62, 63, 64, 65, 66, 67, 68, 69, 70, 71, 72, 73, 74, 75, 76] (by decide +kernel) (by decide +kernel)
set_option maxRecDepth 20000 in
theorem gX11_now_X11_allIn : GoodIn wsX11_now (wsV RX11 291 RX11 yX11_allIn wsX11_allIn) := goodIn_app (goodIn_of _ (by decide +kernel)) ggX11_now_X11_allIn
set_option maxRecDepth 20000 in
theorem ggX11_now_X11_flag : GoodIn wsX11_now wsX11_flag := goodIn_r _ [17] (by decide +kernel) (by decide +kernel)
set_option maxRecDepth 20000 in
theorem gX11_now_X11_flag : GoodIn wsX11_now (va_wsS RX11 260 yX11_flag wsX11_flag) := goodIn_app (goodIn_of _ (by decide +kernel)) ggX11_now_X11_flag
theorem dX11_now_0 : decode cX11_now 0 = .ok (.iload_n 1, 1) := by decide +kernel
theorem dX11_now_1 : decode cX11_now 1 = .ok (.tableswitch 101 0 8 #[51, 56, 62, 68, 73, 78, 83, 88, 96], 51) := by decide +kernel
theorem dX11_now_52 : decode cX11_now 52 = .ok (.aload_n 0, 1) := by decide +kernel
theorem dX11_now_53 : decode cX11_now 53 = .ok (.getfield 267, 3) := by decide +kernel
theorem dX11_now_56 : decode cX11_now 56 = .ok (.ireturn, 1) := by decide +kernel
theorem dX11_now_57 : decode cX11_now 57 = .ok (.aload_n 0, 1) := by decide +kernel
theorem dX11_now_58 : decode cX11_now 58 = .ok (.iconst 3, 1) := by decide +kernel
theorem dX11_now_59 : decode cX11_now 59 = .ok (.invokevirtual 291, 3) := by decide +kernel
theorem dX11_now_62 : decode cX11_now 62 = .ok (.ireturn, 1) := by decide +kernel
theorem dX11_now_63 : decode cX11_now 63 = .ok (.aload_n 0, 1) := by decide +kernel
theorem dX11_now_64 : decode cX11_now 64 = .ok (.iconst 2, 1) := by decide +kernel
theorem dX11_now_65 : decode cX11_now 65 = .ok (.invokevirtual 291, 3) := by decide +kernel
theorem dX11_now_68 : decode cX11_now 68 = .ok (.ireturn, 1) := by decide +kernel
theorem dX11_now_69 : decode cX11_now 69 = .ok (.aload_n 0, 1) := by decide +kernel
theorem dX11_now_70 : decode cX11_now 70 = .ok (.getfield 279, 3) := by decide +kernel
theorem dX11_now_73 : decode cX11_now 73 = .ok (.ireturn, 1) := by decide +kernel
theorem dX11_now_74 : decode cX11_now 74 = .ok (.aload_n 0, 1) := by decide +kernel
theorem dX11_now_75 : decode cX11_now 75 = .ok (.getfield 273, 3) := by decide +kernel
theorem dX11_now_78 : decode cX11_now 78 = .ok (.ireturn, 1) := by decide +kernel
theorem dX11_now_79 : decode cX11_now 79 = .ok (.aload_n 0, 1) := by decide +kernel
theorem dX11_now_80 : decode cX11_now 80 = .ok (.getfield 276, 3) := by decide +kernel
theorem dX11_now_83 : decode cX11_now 83 = .ok (.ireturn, 1) := by decide +kernel
theorem dX11_now_84 : decode cX11_now 84 = .ok (.aload_n 0, 1) := by decide +kernel
theorem dX11_now_85 : decode cX11_now 85 = .ok (.getfield 282, 3) := by decide +kernel
theorem dX11_now_88 : decode cX11_now 88 = .ok (.ireturn, 1) := by decide +kernel
theorem dX11_now_89 : decode cX11_now 89 = .ok (.aload_n 0, 1) := by decide +kernel
theorem dX11_now_90 : decode cX11_now 90 = .ok (.getfield 270, 3) := by decide +kernel
theorem dX11_now_93 : decode cX11_now 93 = .ok (.invokestatic 260, 3) := by decide +kernel
theorem dX11_now_96 : decode cX11_now 96 = .ok (.ireturn, 1) := by decide +kernel
theorem dX11_now_97 : decode cX11_now 97 = .ok (.aload_n 0, 1) := by decide +kernel
theorem dX11_now_98 : decode cX11_now 98 = .ok (.getfield 285, 3) := by decide +kernel
theorem dX11_now_101 : decode cX11_now 101 = .ok (.ireturn, 1) := by decide +kernel
theorem dX11_now_102 : decode cX11_now 102 = .ok (.bipush (-9), 2) := by decide +kernel
theorem dX11_now_104 : decode cX11_now 104 = .ok (.ireturn, 1) := by decide +kernel
set_option maxRecDepth 20000 in
theorem ggX11_is__X11_isRail : GoodIn wsX11_is_ wsX11_isRail := goodIn_r _ [11, 12, 13, 14, 10, 15, 19, 20, 21, 22, 23, 24, 25, 26, 27, 28, 29, 30, 31, 32, 33, 34, 35, 36, 37, 38, 39, 40, 41, 42, 43, 44, 45, 46, 47, 48, 49, 50, 51, 52, 53, 54, 55, 56, 57, 58, 59, 60, 61, 62, 63, 64, 65, 66, 67, 68, 69, 70, 71, 72, 73, 74, 75, 76, 77] (by decide +kernel) (by decide +kernel)
set_option maxRecDepth 20000 in
theorem gX11_is__X11_isRail : GoodIn wsX11_is_ (wsV RX11 248 RX11 yX11_isRail wsX11_isRail) := goodIn_app (goodIn_of _ (by decide +kernel)) ggX11_is__X11_isRail
set_option maxRecDepth 20000 in
theorem ggX11_is__X11_in : GoodIn wsX11_is_ wsX11_in := goodIn_r _ [15] (by decide +kernel) (by decide +kernel)
set_option maxRecDepth 20000 in
theorem gX11_is__X11_in : GoodIn wsX11_is_ (va_wsS RX11 141 yX11_in wsX11_in) := goodIn_app (goodIn_of _ (by decide +kernel)) ggX11_is__X11_in
set_option maxRecDepth 20000 in
theorem ggX11_is__X11_flag : GoodIn wsX11_is_ wsX11_flag := goodIn_r _ [18] (by decide +kernel) (by decide +kernel)
set_option maxRecDepth 20000 in
theorem gX11_is__X11_flag : GoodIn wsX11_is_ (va_wsS RX11 260 yX11_flag wsX11_flag) := goodIn_app (goodIn_of _ (by decide +kernel)) ggX11_is__X11_flag
theorem dX11_is__0 : decode cX11_is_ 0 = .ok (.aload_n 0, 1) := by decide +kernel
theorem dX11_is__1 : decode cX11_is_ 1 = .ok (.iload_n 1, 1) := by decide +kernel
theorem dX11_is__2 : decode cX11_is_ 2 = .ok (.invokevirtual 248, 3) := by decide +kernel
theorem dX11_is__5 : decode cX11_is_ 5 = .ok (.ifCond .eq 15, 3) := by decide +kernel
theorem dX11_is__8 : decode cX11_is_ 8 = .ok (.iload_n 2, 1) := by decide +kernel
theorem dX11_is__9 : decode cX11_is_ 9 = .ok (.i2l, 1) := by decide +kernel
theorem dX11_is__10 : decode cX11_is_ 10 = .ok (.lconst 0, 1) := by decide +kernel
theorem dX11_is__11 : decode cX11_is_ 11 = .ok (.ldc2_w 320, 3) := by decide +kernel
theorem dX11_is__14 : decode cX11_is_ 14 = .ok (.invokestatic 141, 3) := by decide +kernel
theorem dX11_is__17 : decode cX11_is_ 17 = .ok (.ifCond .ne 5, 3) := by decide +kernel
theorem dX11_is__20 : decode cX11_is_ 20 = .ok (.iconst (-1), 1) := by decide +kernel
theorem dX11_is__21 : decode cX11_is_ 21 = .ok (.ireturn, 1) := by decide +kernel
theorem dX11_is__22 : decode cX11_is_ 22 = .ok (.iload_n 2, 1) := by decide +kernel
theorem dX11_is__23 : decode cX11_is_ 23 = .ok (.ifCond .ne 12, 3) := by decide +kernel
theorem dX11_is__26 : decode cX11_is_ 26 = .ok (.aload_n 0, 1) := by decide +kernel
theorem dX11_is__27 : decode cX11_is_ 27 = .ok (.getfield 47, 3) := by decide +kernel
theorem dX11_is__30 : decode cX11_is_ 30 = .ok (.iload_n 1, 1) := by decide +kernel
theorem dX11_is__31 : decode cX11_is_ 31 = .ok (.iaload, 1) := by decide +kernel
theorem dX11_is__32 : decode cX11_is_ 32 = .ok (.goto 54, 3) := by decide +kernel
theorem dX11_is__35 : decode cX11_is_ 35 = .ok (.iload_n 2, 1) := by decide +kernel
theorem dX11_is__36 : decode cX11_is_ 36 = .ok (.iconst 1, 1) := by decide +kernel
theorem dX11_is__37 : decode cX11_is_ 37 = .ok (.if_icmp .ne 12, 3) := by decide +kernel
theorem dX11_is__40 : decode cX11_is_ 40 = .ok (.aload_n 0, 1) := by decide +kernel
theorem dX11_is__41 : decode cX11_is_ 41 = .ok (.getfield 50, 3) := by decide +kernel
theorem dX11_is__44 : decode cX11_is_ 44 = .ok (.iload_n 1, 1) := by decide +kernel
theorem dX11_is__45 : decode cX11_is_ 45 = .ok (.iaload, 1) := by decide +kernel
theorem dX11_is__46 : decode cX11_is_ 46 = .ok (.goto 40, 3) := by decide +kernel
theorem dX11_is__49 : decode cX11_is_ 49 = .ok (.iload_n 2, 1) := by decide +kernel
theorem dX11_is__50 : decode cX11_is_ 50 = .ok (.iconst 2, 1) := by decide +kernel
theorem dX11_is__51 : decode cX11_is_ 51 = .ok (.if_icmp .ne 15, 3) := by decide +kernel
theorem dX11_is__54 : decode cX11_is_ 54 = .ok (.aload_n 0, 1) := by decide +kernel
theorem dX11_is__55 : decode cX11_is_ 55 = .ok (.getfield 56, 3) := by decide +kernel
theorem dX11_is__58 : decode cX11_is_ 58 = .ok (.iload_n 1, 1) := by decide +kernel
theorem dX11_is__59 : decode cX11_is_ 59 = .ok (.baload, 1) := by decide +kernel
theorem dX11_is__60 : decode cX11_is_ 60 = .ok (.invokestatic 260, 3) := by decide +kernel
theorem dX11_is__63 : decode cX11_is_ 63 = .ok (.goto 23, 3) := by decide +kernel
theorem dX11_is__66 : decode cX11_is_ 66 = .ok (.iload_n 2, 1) := by decide +kernel
theorem dX11_is__67 : decode cX11_is_ 67 = .ok (.iconst 3, 1) := by decide +kernel
theorem dX11_is__68 : decode cX11_is_ 68 = .ok (.if_icmp .ne 12, 3) := by decide +kernel
theorem dX11_is__71 : decode cX11_is_ 71 = .ok (.aload_n 0, 1) := by decide +kernel
theorem dX11_is__72 : decode cX11_is_ 72 = .ok (.getfield 59, 3) := by decide +kernel
theorem dX11_is__75 : decode cX11_is_ 75 = .ok (.iload_n 1, 1) := by decide +kernel
theorem dX11_is__76 : decode cX11_is_ 76 = .ok (.iaload, 1) := by decide +kernel
theorem dX11_is__77 : decode cX11_is_ 77 = .ok (.goto 9, 3) := by decide +kernel
theorem dX11_is__80 : decode cX11_is_ 80 = .ok (.aload_n 0, 1) := by decide +kernel
theorem dX11_is__81 : decode cX11_is_ 81 = .ok (.getfield 62, 3) := by decide +kernel
theorem dX11_is__84 : decode cX11_is_ 84 = .ok (.iload_n 1, 1) := by decide +kernel
theorem dX11_is__85 : decode cX11_is_ 85 = .ok (.iaload, 1) := by decide +kernel
theorem dX11_is__86 : decode cX11_is_ 86 = .ok (.ireturn, 1) := by decide +kernel
set_option maxRecDepth 20000 in
theorem ggX11_happened_X11_in : GoodIn wsX11_happened wsX11_in := goodIn_r _ [7] (by decide +kernel) (by decide +kernel)
set_option maxRecDepth 20000 in
theorem gX11_happened_X11_in : GoodIn wsX11_happened (va_wsS RX11 141 yX11_in wsX11_in) := goodIn_app (goodIn_of _ (by decide +kernel)) ggX11_happened_X11_in
theorem dX11_happened_0 : decode cX11_happened 0 = .ok (.iload_n 1, 1) := by decide +kernel
theorem dX11_happened_1 : decode cX11_happened 1 = .ok (.i2l, 1) := by decide +kernel
theorem dX11_happened_2 : decode cX11_happened 2 = .ok (.lconst 0, 1) := by decide +kernel
theorem dX11_happened_3 : decode cX11_happened 3 = .ok (.aload_n 0, 1) := by decide +kernel
theorem dX11_happened_4 : decode cX11_happened 4 = .ok (.getfield 288, 3) := by decide +kernel
theorem dX11_happened_7 : decode cX11_happened 7 = .ok (.iconst 1, 1) := by decide +kernel
theorem dX11_happened_8 : decode cX11_happened 8 = .ok (.isub, 1) := by decide +kernel
theorem dX11_happened_9 : decode cX11_happened 9 = .ok (.i2l, 1) := by decide +kernel
theorem dX11_happened_10 : decode cX11_happened 10 = .ok (.invokestatic 141, 3) := by decide +kernel
theorem dX11_happened_13 : decode cX11_happened 13 = .ok (.ifCond .eq 28, 3) := by decide +kernel
theorem dX11_happened_16 : decode cX11_happened 16 = .ok (.iload_n 2, 1) := by decide +kernel
theorem dX11_happened_17 : decode cX11_happened 17 = .ok (.i2l, 1) := by decide +kernel
theorem dX11_happened_18 : decode cX11_happened 18 = .ok (.lconst 0, 1) := by decide +kernel
theorem dX11_happened_19 : decode cX11_happened 19 = .ok (.ldc2_w 322, 3) := by decide +kernel
theorem dX11_happened_22 : decode cX11_happened 22 = .ok (.invokestatic 141, 3) := by decide +kernel
theorem dX11_happened_25 : decode cX11_happened 25 = .ok (.ifCond .eq 16, 3) := by decide +kernel
theorem dX11_happened_28 : decode cX11_happened 28 = .ok (.aload_n 0, 1) := by decide +kernel
theorem dX11_happened_29 : decode cX11_happened 29 = .ok (.getfield 65, 3) := by decide +kernel
theorem dX11_happened_32 : decode cX11_happened 32 = .ok (.iconst 3, 1) := by decide +kernel
theorem dX11_happened_33 : decode cX11_happened 33 = .ok (.iload_n 1, 1) := by decide +kernel
theorem dX11_happened_34 : decode cX11_happened 34 = .ok (.imul, 1) := by decide +kernel
theorem dX11_happened_35 : decode cX11_happened 35 = .ok (.iload_n 2, 1) := by decide +kernel
theorem dX11_happened_36 : decode cX11_happened 36 = .ok (.iadd, 1) := by decide +kernel
theorem dX11_happened_37 : decode cX11_happened 37 = .ok (.iaload, 1) := by decide +kernel
theorem dX11_happened_38 : decode cX11_happened 38 = .ok (.goto 4, 3) := by decide +kernel
theorem dX11_happened_41 : decode cX11_happened 41 = .ok (.iconst (-1), 1) := by decide +kernel
theorem dX11_happened_42 : decode cX11_happened 42 = .ok (.ireturn, 1) := by decide +kernel
theorem dX11_deadOnes_0 : decode cX11_deadOnes 0 = .ok (.iconst 0, 1) := by decide +kernel
theorem dX11_deadOnes_1 : decode cX11_deadOnes 1 = .ok (.istore_n 1, 1) := by decide +kernel
theorem dX11_deadOnes_2 : decode cX11_deadOnes 2 = .ok (.iconst 0, 1) := by decide +kernel
theorem dX11_deadOnes_3 : decode cX11_deadOnes 3 = .ok (.istore_n 2, 1) := by decide +kernel
theorem dX11_deadOnes_4 : decode cX11_deadOnes 4 = .ok (.iload_n 2, 1) := by decide +kernel
theorem dX11_deadOnes_5 : decode cX11_deadOnes 5 = .ok (.aload_n 0, 1) := by decide +kernel
theorem dX11_deadOnes_6 : decode cX11_deadOnes 6 = .ok (.getfield 121, 3) := by decide +kernel
theorem dX11_deadOnes_9 : decode cX11_deadOnes 9 = .ok (.if_icmp .ge 28, 3) := by decide +kernel
theorem dX11_deadOnes_12 : decode cX11_deadOnes 12 = .ok (.iload_n 1, 1) := by decide +kernel
theorem dX11_deadOnes_13 : decode cX11_deadOnes 13 = .ok (.aload_n 0, 1) := by decide +kernel
theorem dX11_deadOnes_14 : decode cX11_deadOnes 14 = .ok (.getfield 56, 3) := by decide +kernel
theorem dX11_deadOnes_17 : decode cX11_deadOnes 17 = .ok (.iload_n 2, 1) := by decide +kernel
theorem dX11_deadOnes_18 : decode cX11_deadOnes 18 = .ok (.baload, 1) := by decide +kernel
theorem dX11_deadOnes_19 : decode cX11_deadOnes 19 = .ok (.ifCond .eq 9, 3) := by decide +kernel
theorem dX11_deadOnes_22 : decode cX11_deadOnes 22 = .ok (.iconst 1, 1) := by decide +kernel
theorem dX11_deadOnes_23 : decode cX11_deadOnes 23 = .ok (.iload_n 2, 1) := by decide +kernel
theorem dX11_deadOnes_24 : decode cX11_deadOnes 24 = .ok (.ishl, 1) := by decide +kernel
theorem dX11_deadOnes_25 : decode cX11_deadOnes 25 = .ok (.goto 4, 3) := by decide +kernel
theorem dX11_deadOnes_28 : decode cX11_deadOnes 28 = .ok (.iconst 0, 1) := by decide +kernel
theorem dX11_deadOnes_29 : decode cX11_deadOnes 29 = .ok (.ior, 1) := by decide +kernel
theorem dX11_deadOnes_30 : decode cX11_deadOnes 30 = .ok (.istore_n 1, 1) := by decide +kernel
theorem dX11_deadOnes_31 : decode cX11_deadOnes 31 = .ok (.iinc 2 1, 3) := by decide +kernel
theorem dX11_deadOnes_34 : decode cX11_deadOnes 34 = .ok (.goto (-30), 3) := by decide +kernel
theorem dX11_deadOnes_37 : decode cX11_deadOnes 37 = .ok (.iload_n 1, 1) := by decide +kernel
theorem dX11_deadOnes_38 : decode cX11_deadOnes 38 = .ok (.ireturn, 1) := by decide +kernel
set_option maxRecDepth 20000 in
theorem ggX11_upBut_X11_isSo : GoodIn wsX11_upBut wsX11_isSo := goodIn_r _ [6, 7, 8, 9, 10, 11, 12, 13, 14, 15, 16, 17, 18, 19, 20, 21, 22, 23, 24, 25, 26, 27, 28, 29, 30, 31, 32, 33, 34, 35, 36, 37, 38, 39, 40, 41, 42, 43, 44, 45, 46, 47, 48, 49, 50, 51, 52, 53, 54, 55, 56, 57, 58, 59, 60, 61, 62, 63, 64, 65, 66] (by decide +kernel) (by decide +kernel)
set_option maxRecDepth 20000 in
theorem gX11_upBut_X11_isSo : GoodIn wsX11_upBut (wsV RX11 256 RX11 yX11_isSo wsX11_isSo) := goodIn_app (goodIn_of _ (by decide +kernel)) ggX11_upBut_X11_isSo
theorem dX11_upBut_0 : decode cX11_upBut 0 = .ok (.iconst 0, 1) := by decide +kernel
theorem dX11_upBut_1 : decode cX11_upBut 1 = .ok (.istore_n 2, 1) := by decide +kernel
theorem dX11_upBut_2 : decode cX11_upBut 2 = .ok (.iconst 1, 1) := by decide +kernel
theorem dX11_upBut_3 : decode cX11_upBut 3 = .ok (.istore_n 3, 1) := by decide +kernel
theorem dX11_upBut_4 : decode cX11_upBut 4 = .ok (.iload_n 3, 1) := by decide +kernel
theorem dX11_upBut_5 : decode cX11_upBut 5 = .ok (.ifCond .eq 74, 3) := by decide +kernel
theorem dX11_upBut_8 : decode cX11_upBut 8 = .ok (.iload_n 2, 1) := by decide +kernel
theorem dX11_upBut_9 : decode cX11_upBut 9 = .ok (.istore 4, 2) := by decide +kernel
theorem dX11_upBut_11 : decode cX11_upBut 11 = .ok (.iconst 0, 1) := by decide +kernel
theorem dX11_upBut_12 : decode cX11_upBut 12 = .ok (.istore 5, 2) := by decide +kernel
theorem dX11_upBut_14 : decode cX11_upBut 14 = .ok (.iload 5, 2) := by decide +kernel
theorem dX11_upBut_16 : decode cX11_upBut 16 = .ok (.aload_n 0, 1) := by decide +kernel
theorem dX11_upBut_17 : decode cX11_upBut 17 = .ok (.getfield 121, 3) := by decide +kernel
theorem dX11_upBut_20 : decode cX11_upBut 20 = .ok (.if_icmp .ge 44, 3) := by decide +kernel
theorem dX11_upBut_23 : decode cX11_upBut 23 = .ok (.iload_n 2, 1) := by decide +kernel
theorem dX11_upBut_24 : decode cX11_upBut 24 = .ok (.iload_n 1, 1) := by decide +kernel
theorem dX11_upBut_25 : decode cX11_upBut 25 = .ok (.iload 5, 2) := by decide +kernel
theorem dX11_upBut_27 : decode cX11_upBut 27 = .ok (.ishr, 1) := by decide +kernel
theorem dX11_upBut_28 : decode cX11_upBut 28 = .ok (.iconst 1, 1) := by decide +kernel
theorem dX11_upBut_29 : decode cX11_upBut 29 = .ok (.iand, 1) := by decide +kernel
theorem dX11_upBut_30 : decode cX11_upBut 30 = .ok (.ifCond .ne 25, 3) := by decide +kernel
theorem dX11_upBut_33 : decode cX11_upBut 33 = .ok (.aload_n 0, 1) := by decide +kernel
theorem dX11_upBut_34 : decode cX11_upBut 34 = .ok (.iload 5, 2) := by decide +kernel
theorem dX11_upBut_36 : decode cX11_upBut 36 = .ok (.iload 4, 2) := by decide +kernel
theorem dX11_upBut_38 : decode cX11_upBut 38 = .ok (.sipush 256, 3) := by decide +kernel
theorem dX11_upBut_41 : decode cX11_upBut 41 = .ok (.ior, 1) := by decide +kernel
theorem dX11_upBut_42 : decode cX11_upBut 42 = .ok (.invokevirtual 256, 3) := by decide +kernel
theorem dX11_upBut_45 : decode cX11_upBut 45 = .ok (.ifCond .eq 10, 3) := by decide +kernel
theorem dX11_upBut_48 : decode cX11_upBut 48 = .ok (.iconst 1, 1) := by decide +kernel
theorem dX11_upBut_49 : decode cX11_upBut 49 = .ok (.iload 5, 2) := by decide +kernel
theorem dX11_upBut_51 : decode cX11_upBut 51 = .ok (.ishl, 1) := by decide +kernel
theorem dX11_upBut_52 : decode cX11_upBut 52 = .ok (.goto 4, 3) := by decide +kernel
theorem dX11_upBut_55 : decode cX11_upBut 55 = .ok (.iconst 0, 1) := by decide +kernel
theorem dX11_upBut_56 : decode cX11_upBut 56 = .ok (.ior, 1) := by decide +kernel
theorem dX11_upBut_57 : decode cX11_upBut 57 = .ok (.istore_n 2, 1) := by decide +kernel
theorem dX11_upBut_58 : decode cX11_upBut 58 = .ok (.iinc 5 1, 3) := by decide +kernel
theorem dX11_upBut_61 : decode cX11_upBut 61 = .ok (.goto (-47), 3) := by decide +kernel
theorem dX11_upBut_64 : decode cX11_upBut 64 = .ok (.iload_n 2, 1) := by decide +kernel
theorem dX11_upBut_65 : decode cX11_upBut 65 = .ok (.iload 4, 2) := by decide +kernel
theorem dX11_upBut_67 : decode cX11_upBut 67 = .ok (.if_icmp .eq 7, 3) := by decide +kernel
theorem dX11_upBut_70 : decode cX11_upBut 70 = .ok (.iconst 1, 1) := by decide +kernel
theorem dX11_upBut_71 : decode cX11_upBut 71 = .ok (.goto 4, 3) := by decide +kernel
theorem dX11_upBut_74 : decode cX11_upBut 74 = .ok (.iconst 0, 1) := by decide +kernel
theorem dX11_upBut_75 : decode cX11_upBut 75 = .ok (.istore_n 3, 1) := by decide +kernel
theorem dX11_upBut_76 : decode cX11_upBut 76 = .ok (.goto (-72), 3) := by decide +kernel
theorem dX11_upBut_79 : decode cX11_upBut 79 = .ok (.iload_n 2, 1) := by decide +kernel
theorem dX11_upBut_80 : decode cX11_upBut 80 = .ok (.ireturn, 1) := by decide +kernel
set_option maxRecDepth 20000 in
theorem ggX11_up_X11_in : GoodIn wsX11_up wsX11_in := goodIn_r _ [6] (by decide +kernel) (by decide +kernel)
set_option maxRecDepth 20000 in
theorem gX11_up_X11_in : GoodIn wsX11_up (va_wsS RX11 141 yX11_in wsX11_in) := goodIn_app (goodIn_of _ (by decide +kernel)) ggX11_up_X11_in
set_option maxRecDepth 20000 in
theorem ggX11_up_X11_deadOnes : GoodIn wsX11_up wsX11_deadOnes := goodIn_r _ [10, 2, 11, 21, 22, 23, 24, 25, 26, 27, 28, 29, 30, 31, 32, 33, 34, 35, 36, 37, 38, 39, 40, 41, 42, 43, 44, 45, 46, 47, 48, 49, 50, 51, 52, 53, 54, 55, 56, 57, 58, 59, 60, 61, 62, 63, 64, 65, 66, 67, 68, 69, 70, 71, 72, 73, 74, 75, 76, 77, 78, 79] (by decide +kernel) (by decide +kernel)
set_option maxRecDepth 20000 in
theorem gX11_up_X11_deadOnes : GoodIn wsX11_up (wsV RX11 324 RX11 yX11_deadOnes wsX11_deadOnes) := goodIn_app (goodIn_of _ (by decide +kernel)) ggX11_up_X11_deadOnes
set_option maxRecDepth 20000 in
theorem ggX11_up_X11_upBut : GoodIn wsX11_up wsX11_upBut := goodIn_r _ [15, 2, 16, 17, 18, 5, 19, 20, 21, 22, 23, 24, 25, 26, 27, 28, 29, 30, 31, 32, 33, 34, 35, 36, 37, 38, 39, 40, 41, 42, 43, 44, 45, 46, 47, 48, 49, 50, 51, 52, 53, 54, 55, 56, 57, 58, 59, 60, 61, 62, 63, 64, 65, 66, 67, 68, 69, 70, 71, 72, 73, 74, 75, 76, 77, 78, 79] (by decide +kernel) (by decide +kernel)
set_option maxRecDepth 20000 in
theorem gX11_up_X11_upBut : GoodIn wsX11_up (wsV RX11 327 RX11 yX11_upBut wsX11_upBut) := goodIn_app (goodIn_of _ (by decide +kernel)) ggX11_up_X11_upBut
theorem dX11_up_0 : decode cX11_up 0 = .ok (.iload_n 1, 1) := by decide +kernel
theorem dX11_up_1 : decode cX11_up 1 = .ok (.i2l, 1) := by decide +kernel
theorem dX11_up_2 : decode cX11_up 2 = .ok (.lconst 0, 1) := by decide +kernel
theorem dX11_up_3 : decode cX11_up 3 = .ok (.ldc2_w 322, 3) := by decide +kernel
theorem dX11_up_6 : decode cX11_up 6 = .ok (.invokestatic 141, 3) := by decide +kernel
theorem dX11_up_9 : decode cX11_up 9 = .ok (.ifCond .ne 5, 3) := by decide +kernel
theorem dX11_up_12 : decode cX11_up 12 = .ok (.iconst (-1), 1) := by decide +kernel
theorem dX11_up_13 : decode cX11_up 13 = .ok (.ireturn, 1) := by decide +kernel
theorem dX11_up_14 : decode cX11_up 14 = .ok (.iconst 1, 1) := by decide +kernel
theorem dX11_up_15 : decode cX11_up 15 = .ok (.aload_n 0, 1) := by decide +kernel
theorem dX11_up_16 : decode cX11_up 16 = .ok (.getfield 121, 3) := by decide +kernel
theorem dX11_up_19 : decode cX11_up 19 = .ok (.ishl, 1) := by decide +kernel
theorem dX11_up_20 : decode cX11_up 20 = .ok (.iconst 1, 1) := by decide +kernel
theorem dX11_up_21 : decode cX11_up 21 = .ok (.isub, 1) := by decide +kernel
theorem dX11_up_22 : decode cX11_up 22 = .ok (.istore_n 2, 1) := by decide +kernel
theorem dX11_up_23 : decode cX11_up 23 = .ok (.aload_n 0, 1) := by decide +kernel
theorem dX11_up_24 : decode cX11_up 24 = .ok (.aload_n 0, 1) := by decide +kernel
theorem dX11_up_25 : decode cX11_up 25 = .ok (.invokevirtual 324, 3) := by decide +kernel
theorem dX11_up_28 : decode cX11_up 28 = .ok (.invokevirtual 327, 3) := by decide +kernel
theorem dX11_up_31 : decode cX11_up 31 = .ok (.istore_n 3, 1) := by decide +kernel
theorem dX11_up_32 : decode cX11_up 32 = .ok (.iload_n 1, 1) := by decide +kernel
theorem dX11_up_33 : decode cX11_up 33 = .ok (.ifCond .ne 7, 3) := by decide +kernel
theorem dX11_up_36 : decode cX11_up 36 = .ok (.iload_n 3, 1) := by decide +kernel
theorem dX11_up_37 : decode cX11_up 37 = .ok (.goto 32, 3) := by decide +kernel
theorem dX11_up_40 : decode cX11_up 40 = .ok (.iload_n 1, 1) := by decide +kernel
theorem dX11_up_41 : decode cX11_up 41 = .ok (.iconst 1, 1) := by decide +kernel
theorem dX11_up_42 : decode cX11_up 42 = .ok (.if_icmp .ne 18, 3) := by decide +kernel
theorem dX11_up_45 : decode cX11_up 45 = .ok (.iload_n 2, 1) := by decide +kernel
theorem dX11_up_46 : decode cX11_up 46 = .ok (.iload_n 3, 1) := by decide +kernel
theorem dX11_up_47 : decode cX11_up 47 = .ok (.iconst (-1), 1) := by decide +kernel
theorem dX11_up_48 : decode cX11_up 48 = .ok (.ixor, 1) := by decide +kernel
theorem dX11_up_49 : decode cX11_up 49 = .ok (.iand, 1) := by decide +kernel
theorem dX11_up_50 : decode cX11_up 50 = .ok (.aload_n 0, 1) := by decide +kernel
theorem dX11_up_51 : decode cX11_up 51 = .ok (.invokevirtual 324, 3) := by decide +kernel
theorem dX11_up_54 : decode cX11_up 54 = .ok (.iconst (-1), 1) := by decide +kernel
theorem dX11_up_55 : decode cX11_up 55 = .ok (.ixor, 1) := by decide +kernel
theorem dX11_up_56 : decode cX11_up 56 = .ok (.iand, 1) := by decide +kernel
theorem dX11_up_57 : decode cX11_up 57 = .ok (.goto 12, 3) := by decide +kernel
theorem dX11_up_60 : decode cX11_up 60 = .ok (.iload_n 2, 1) := by decide +kernel
theorem dX11_up_61 : decode cX11_up 61 = .ok (.aload_n 0, 1) := by decide +kernel
theorem dX11_up_62 : decode cX11_up 62 = .ok (.iconst 0, 1) := by decide +kernel
theorem dX11_up_63 : decode cX11_up 63 = .ok (.invokevirtual 327, 3) := by decide +kernel
theorem dX11_up_66 : decode cX11_up 66 = .ok (.iconst (-1), 1) := by decide +kernel
theorem dX11_up_67 : decode cX11_up 67 = .ok (.ixor, 1) := by decide +kernel
theorem dX11_up_68 : decode cX11_up 68 = .ok (.iand, 1) := by decide +kernel
theorem dX11_up_69 : decode cX11_up 69 = .ok (.ireturn, 1) := by decide +kernel
set_option maxRecDepth 20000 in
theorem ggX11_setWaits_X11_of : GoodIn wsX11_setWaits wsX11_of := goodIn_r _ [7, 8, 9, 10, 11, 12, 13, 14, 15, 16, 17, 18, 19, 20, 21, 22, 23, 24, 25, 26, 27, 28, 29, 30, 31, 32, 33, 34, 35, 36, 37, 38, 39, 40, 41, 42, 43, 44, 45, 46, 47, 48, 49, 50, 51, 52, 53, 54, 55, 56, 57, 58, 59, 60, 61, 62, 63, 64, 65, 66, 67] (by decide +kernel) (by decide +kernel)
set_option maxRecDepth 20000 in
theorem gX11_setWaits_X11_of : GoodIn wsX11_setWaits (wsV RX11 251 RX11 yX11_of wsX11_of) := goodIn_app (goodIn_of _ (by decide +kernel)) ggX11_setWaits_X11_of
theorem dX11_setWaits_0 : decode cX11_setWaits 0 = .ok (.iconst 0, 1) := by decide +kernel
theorem dX11_setWaits_1 : decode cX11_setWaits 1 = .ok (.istore_n 1, 1) := by decide +kernel
theorem dX11_setWaits_2 : decode cX11_setWaits 2 = .ok (.iload_n 1, 1) := by decide +kernel
theorem dX11_setWaits_3 : decode cX11_setWaits 3 = .ok (.aload_n 0, 1) := by decide +kernel
theorem dX11_setWaits_4 : decode cX11_setWaits 4 = .ok (.getfield 121, 3) := by decide +kernel
theorem dX11_setWaits_7 : decode cX11_setWaits 7 = .ok (.if_icmp .ge 21, 3) := by decide +kernel
theorem dX11_setWaits_10 : decode cX11_setWaits 10 = .ok (.aload_n 0, 1) := by decide +kernel
theorem dX11_setWaits_11 : decode cX11_setWaits 11 = .ok (.getfield 77, 3) := by decide +kernel
theorem dX11_setWaits_14 : decode cX11_setWaits 14 = .ok (.iload_n 1, 1) := by decide +kernel
theorem dX11_setWaits_15 : decode cX11_setWaits 15 = .ok (.aload_n 0, 1) := by decide +kernel
theorem dX11_setWaits_16 : decode cX11_setWaits 16 = .ok (.iload_n 1, 1) := by decide +kernel
theorem dX11_setWaits_17 : decode cX11_setWaits 17 = .ok (.iconst 5, 1) := by decide +kernel
theorem dX11_setWaits_18 : decode cX11_setWaits 18 = .ok (.invokevirtual 251, 3) := by decide +kernel
theorem dX11_setWaits_21 : decode cX11_setWaits 21 = .ok (.iastore, 1) := by decide +kernel
theorem dX11_setWaits_22 : decode cX11_setWaits 22 = .ok (.iinc 1 1, 3) := by decide +kernel
theorem dX11_setWaits_25 : decode cX11_setWaits 25 = .ok (.goto (-23), 3) := by decide +kernel
theorem dX11_setWaits_28 : decode cX11_setWaits 28 = .ok (.return_, 1) := by decide +kernel
set_option maxRecDepth 20000 in
theorem ggX11_findTimes_X11_deadOnes : GoodIn wsX11_findTimes wsX11_deadOnes := goodIn_r _ [12, 5, 13, 23, 24, 25, 26, 27, 28, 29, 30, 31, 32, 33, 34, 35, 36, 37, 38, 39, 40, 41, 42, 43, 44, 45, 46, 47, 48, 49, 50, 51, 52, 53, 54, 55, 56, 57, 58, 59, 60, 61, 62, 63, 64, 65, 66, 67, 68, 69, 70, 71, 72, 73, 74, 75, 76, 77, 78, 79, 80, 81] (by decide +kernel) (by decide +kernel)
set_option maxRecDepth 20000 in
theorem gX11_findTimes_X11_deadOnes : GoodIn wsX11_findTimes (wsV RX11 324 RX11 yX11_deadOnes wsX11_deadOnes) := goodIn_app (goodIn_of _ (by decide +kernel)) ggX11_findTimes_X11_deadOnes
set_option maxRecDepth 20000 in
theorem ggX11_findTimes_X11_upBut : GoodIn wsX11_findTimes wsX11_upBut := goodIn_r _ [17, 5, 18, 19, 20, 11, 21, 22, 23, 24, 25, 26, 27, 28, 29, 30, 31, 32, 33, 34, 35, 36, 37, 38, 39, 40, 41, 42, 43, 44, 45, 46, 47, 48, 49, 50, 51, 52, 53, 54, 55, 56, 57, 58, 59, 60, 61, 62, 63, 64, 65, 66, 67, 68, 69, 70, 71, 72, 73, 74, 75, 76, 77, 78, 79, 80, 81] (by decide +kernel) (by decide +kernel)
set_option maxRecDepth 20000 in
theorem gX11_findTimes_X11_upBut : GoodIn wsX11_findTimes (wsV RX11 327 RX11 yX11_upBut wsX11_upBut) := goodIn_app (goodIn_of _ (by decide +kernel)) ggX11_findTimes_X11_upBut
set_option maxRecDepth 20000 in
theorem ggX11_findTimes_X11_isSo : GoodIn wsX11_findTimes wsX11_isSo := goodIn_r _ [21, 22, 23, 24, 25, 26, 27, 28, 29, 30, 31, 32, 33, 34, 35, 36, 37, 38, 39, 40, 41, 42, 43, 44, 45, 46, 47, 48, 49, 50, 51, 52, 53, 54, 55, 56, 57, 58, 59, 60, 61, 62, 63, 64, 65, 66, 67, 68, 69, 70, 71, 72, 73, 74, 75, 76, 77, 78, 79, 80, 81] (by decide +kernel) (by decide +kernel)
set_option maxRecDepth 20000 in
theorem gX11_findTimes_X11_isSo : GoodIn wsX11_findTimes (wsV RX11 256 RX11 yX11_isSo wsX11_isSo) := goodIn_app (goodIn_of _ (by decide +kernel)) ggX11_findTimes_X11_isSo
theorem dX11_findTimes_0 : decode cX11_findTimes 0 = .ok (.aload_n 0, 1) := by decide +kernel
theorem dX11_findTimes_1 : decode cX11_findTimes 1 = .ok (.aload_n 0, 1) := by decide +kernel
theorem dX11_findTimes_2 : decode cX11_findTimes 2 = .ok (.aload_n 0, 1) := by decide +kernel
theorem dX11_findTimes_3 : decode cX11_findTimes 3 = .ok (.invokevirtual 324, 3) := by decide +kernel
theorem dX11_findTimes_6 : decode cX11_findTimes 6 = .ok (.invokevirtual 327, 3) := by decide +kernel
theorem dX11_findTimes_9 : decode cX11_findTimes 9 = .ok (.putfield 330, 3) := by decide +kernel
theorem dX11_findTimes_12 : decode cX11_findTimes 12 = .ok (.iconst 0, 1) := by decide +kernel
theorem dX11_findTimes_13 : decode cX11_findTimes 13 = .ok (.istore_n 1, 1) := by decide +kernel
theorem dX11_findTimes_14 : decode cX11_findTimes 14 = .ok (.iload_n 1, 1) := by decide +kernel
theorem dX11_findTimes_15 : decode cX11_findTimes 15 = .ok (.bipush 8, 2) := by decide +kernel
theorem dX11_findTimes_17 : decode cX11_findTimes 17 = .ok (.if_icmp .ge 27, 3) := by decide +kernel
theorem dX11_findTimes_20 : decode cX11_findTimes 20 = .ok (.aload_n 0, 1) := by decide +kernel
theorem dX11_findTimes_21 : decode cX11_findTimes 21 = .ok (.getfield 68, 3) := by decide +kernel
theorem dX11_findTimes_24 : decode cX11_findTimes 24 = .ok (.iload_n 1, 1) := by decide +kernel
theorem dX11_findTimes_25 : decode cX11_findTimes 25 = .ok (.ldc_w 333, 3) := by decide +kernel
theorem dX11_findTimes_28 : decode cX11_findTimes 28 = .ok (.iastore, 1) := by decide +kernel
theorem dX11_findTimes_29 : decode cX11_findTimes 29 = .ok (.aload_n 0, 1) := by decide +kernel
theorem dX11_findTimes_30 : decode cX11_findTimes 30 = .ok (.getfield 71, 3) := by decide +kernel
theorem dX11_findTimes_33 : decode cX11_findTimes 33 = .ok (.iload_n 1, 1) := by decide +kernel
theorem dX11_findTimes_34 : decode cX11_findTimes 34 = .ok (.ldc_w 333, 3) := by decide +kernel
theorem dX11_findTimes_37 : decode cX11_findTimes 37 = .ok (.iastore, 1) := by decide +kernel
theorem dX11_findTimes_38 : decode cX11_findTimes 38 = .ok (.iinc 1 1, 3) := by decide +kernel
theorem dX11_findTimes_41 : decode cX11_findTimes 41 = .ok (.goto (-27), 3) := by decide +kernel
theorem dX11_findTimes_44 : decode cX11_findTimes 44 = .ok (.iconst 0, 1) := by decide +kernel
theorem dX11_findTimes_45 : decode cX11_findTimes 45 = .ok (.istore_n 1, 1) := by decide +kernel
theorem dX11_findTimes_46 : decode cX11_findTimes 46 = .ok (.iload_n 1, 1) := by decide +kernel
theorem dX11_findTimes_47 : decode cX11_findTimes 47 = .ok (.sipush 200, 3) := by decide +kernel
theorem dX11_findTimes_50 : decode cX11_findTimes 50 = .ok (.if_icmp .gt 126, 3) := by decide +kernel
theorem dX11_findTimes_53 : decode cX11_findTimes 53 = .ok (.sipush 256, 3) := by decide +kernel
theorem dX11_findTimes_56 : decode cX11_findTimes 56 = .ok (.istore_n 2, 1) := by decide +kernel
theorem dX11_findTimes_57 : decode cX11_findTimes 57 = .ok (.iconst 0, 1) := by decide +kernel
theorem dX11_findTimes_58 : decode cX11_findTimes 58 = .ok (.istore_n 3, 1) := by decide +kernel
theorem dX11_findTimes_59 : decode cX11_findTimes 59 = .ok (.iload_n 3, 1) := by decide +kernel
theorem dX11_findTimes_60 : decode cX11_findTimes 60 = .ok (.aload_n 0, 1) := by decide +kernel
theorem dX11_findTimes_61 : decode cX11_findTimes 61 = .ok (.getfield 121, 3) := by decide +kernel
theorem dX11_findTimes_64 : decode cX11_findTimes 64 = .ok (.if_icmp .ge 29, 3) := by decide +kernel
theorem dX11_findTimes_67 : decode cX11_findTimes 67 = .ok (.iload_n 2, 1) := by decide +kernel
theorem dX11_findTimes_68 : decode cX11_findTimes 68 = .ok (.aload_n 0, 1) := by decide +kernel
theorem dX11_findTimes_69 : decode cX11_findTimes 69 = .ok (.getfield 71, 3) := by decide +kernel
theorem dX11_findTimes_72 : decode cX11_findTimes 72 = .ok (.iload_n 3, 1) := by decide +kernel
theorem dX11_findTimes_73 : decode cX11_findTimes 73 = .ok (.iaload, 1) := by decide +kernel
theorem dX11_findTimes_74 : decode cX11_findTimes 74 = .ok (.iload_n 1, 1) := by decide +kernel
theorem dX11_findTimes_75 : decode cX11_findTimes 75 = .ok (.if_icmp .gt 9, 3) := by decide +kernel
theorem dX11_findTimes_78 : decode cX11_findTimes 78 = .ok (.iconst 1, 1) := by decide +kernel
theorem dX11_findTimes_79 : decode cX11_findTimes 79 = .ok (.iload_n 3, 1) := by decide +kernel
theorem dX11_findTimes_80 : decode cX11_findTimes 80 = .ok (.ishl, 1) := by decide +kernel
theorem dX11_findTimes_81 : decode cX11_findTimes 81 = .ok (.goto 4, 3) := by decide +kernel
theorem dX11_findTimes_84 : decode cX11_findTimes 84 = .ok (.iconst 0, 1) := by decide +kernel
theorem dX11_findTimes_85 : decode cX11_findTimes 85 = .ok (.ior, 1) := by decide +kernel
theorem dX11_findTimes_86 : decode cX11_findTimes 86 = .ok (.istore_n 2, 1) := by decide +kernel
theorem dX11_findTimes_87 : decode cX11_findTimes 87 = .ok (.iinc 3 1, 3) := by decide +kernel
theorem dX11_findTimes_90 : decode cX11_findTimes 90 = .ok (.goto (-31), 3) := by decide +kernel
theorem dX11_findTimes_93 : decode cX11_findTimes 93 = .ok (.iconst 0, 1) := by decide +kernel
theorem dX11_findTimes_94 : decode cX11_findTimes 94 = .ok (.istore_n 3, 1) := by decide +kernel
theorem dX11_findTimes_95 : decode cX11_findTimes 95 = .ok (.iload_n 3, 1) := by decide +kernel
theorem dX11_findTimes_96 : decode cX11_findTimes 96 = .ok (.aload_n 0, 1) := by decide +kernel
theorem dX11_findTimes_97 : decode cX11_findTimes 97 = .ok (.getfield 121, 3) := by decide +kernel
theorem dX11_findTimes_100 : decode cX11_findTimes 100 = .ok (.if_icmp .ge 70, 3) := by decide +kernel
theorem dX11_findTimes_103 : decode cX11_findTimes 103 = .ok (.aload_n 0, 1) := by decide +kernel
theorem dX11_findTimes_104 : decode cX11_findTimes 104 = .ok (.getfield 68, 3) := by decide +kernel
theorem dX11_findTimes_107 : decode cX11_findTimes 107 = .ok (.iload_n 3, 1) := by decide +kernel
theorem dX11_findTimes_108 : decode cX11_findTimes 108 = .ok (.iaload, 1) := by decide +kernel
theorem dX11_findTimes_109 : decode cX11_findTimes 109 = .ok (.ldc_w 333, 3) := by decide +kernel
theorem dX11_findTimes_112 : decode cX11_findTimes 112 = .ok (.if_icmp .ne 52, 3) := by decide +kernel
theorem dX11_findTimes_115 : decode cX11_findTimes 115 = .ok (.aload_n 0, 1) := by decide +kernel
theorem dX11_findTimes_116 : decode cX11_findTimes 116 = .ok (.getfield 330, 3) := by decide +kernel
theorem dX11_findTimes_119 : decode cX11_findTimes 119 = .ok (.iload_n 3, 1) := by decide +kernel
theorem dX11_findTimes_120 : decode cX11_findTimes 120 = .ok (.ishr, 1) := by decide +kernel
theorem dX11_findTimes_121 : decode cX11_findTimes 121 = .ok (.iconst 1, 1) := by decide +kernel
theorem dX11_findTimes_122 : decode cX11_findTimes 122 = .ok (.iand, 1) := by decide +kernel
theorem dX11_findTimes_123 : decode cX11_findTimes 123 = .ok (.iconst 1, 1) := by decide +kernel
theorem dX11_findTimes_124 : decode cX11_findTimes 124 = .ok (.if_icmp .ne 40, 3) := by decide +kernel
theorem dX11_findTimes_127 : decode cX11_findTimes 127 = .ok (.aload_n 0, 1) := by decide +kernel
theorem dX11_findTimes_128 : decode cX11_findTimes 128 = .ok (.iload_n 3, 1) := by decide +kernel
theorem dX11_findTimes_129 : decode cX11_findTimes 129 = .ok (.iload_n 2, 1) := by decide +kernel
theorem dX11_findTimes_130 : decode cX11_findTimes 130 = .ok (.invokevirtual 256, 3) := by decide +kernel
theorem dX11_findTimes_133 : decode cX11_findTimes 133 = .ok (.ifCond .eq 31, 3) := by decide +kernel
theorem dX11_findTimes_136 : decode cX11_findTimes 136 = .ok (.aload_n 0, 1) := by decide +kernel
theorem dX11_findTimes_137 : decode cX11_findTimes 137 = .ok (.getfield 68, 3) := by decide +kernel
theorem dX11_findTimes_140 : decode cX11_findTimes 140 = .ok (.iload_n 3, 1) := by decide +kernel
theorem dX11_findTimes_141 : decode cX11_findTimes 141 = .ok (.iload_n 1, 1) := by decide +kernel
theorem dX11_findTimes_142 : decode cX11_findTimes 142 = .ok (.iastore, 1) := by decide +kernel
theorem dX11_findTimes_143 : decode cX11_findTimes 143 = .ok (.aload_n 0, 1) := by decide +kernel
theorem dX11_findTimes_144 : decode cX11_findTimes 144 = .ok (.getfield 71, 3) := by decide +kernel
theorem dX11_findTimes_147 : decode cX11_findTimes 147 = .ok (.iload_n 3, 1) := by decide +kernel
theorem dX11_findTimes_148 : decode cX11_findTimes 148 = .ok (.iload_n 1, 1) := by decide +kernel
theorem dX11_findTimes_149 : decode cX11_findTimes 149 = .ok (.aload_n 0, 1) := by decide +kernel
theorem dX11_findTimes_150 : decode cX11_findTimes 150 = .ok (.getfield 77, 3) := by decide +kernel
theorem dX11_findTimes_153 : decode cX11_findTimes 153 = .ok (.iload_n 3, 1) := by decide +kernel
theorem dX11_findTimes_154 : decode cX11_findTimes 154 = .ok (.iaload, 1) := by decide +kernel
theorem dX11_findTimes_155 : decode cX11_findTimes 155 = .ok (.iadd, 1) := by decide +kernel
theorem dX11_findTimes_156 : decode cX11_findTimes 156 = .ok (.aload_n 0, 1) := by decide +kernel
theorem dX11_findTimes_157 : decode cX11_findTimes 157 = .ok (.getfield 74, 3) := by decide +kernel
theorem dX11_findTimes_160 : decode cX11_findTimes 160 = .ok (.iload_n 3, 1) := by decide +kernel
theorem dX11_findTimes_161 : decode cX11_findTimes 161 = .ok (.iaload, 1) := by decide +kernel
theorem dX11_findTimes_162 : decode cX11_findTimes 162 = .ok (.iadd, 1) := by decide +kernel
theorem dX11_findTimes_163 : decode cX11_findTimes 163 = .ok (.iastore, 1) := by decide +kernel
theorem dX11_findTimes_164 : decode cX11_findTimes 164 = .ok (.iinc 3 1, 3) := by decide +kernel
theorem dX11_findTimes_167 : decode cX11_findTimes 167 = .ok (.goto (-72), 3) := by decide +kernel
theorem dX11_findTimes_170 : decode cX11_findTimes 170 = .ok (.iinc 1 1, 3) := by decide +kernel
theorem dX11_findTimes_173 : decode cX11_findTimes 173 = .ok (.goto (-127), 3) := by decide +kernel
theorem dX11_findTimes_176 : decode cX11_findTimes 176 = .ok (.return_, 1) := by decide +kernel
set_option maxRecDepth 20000 in
theorem ggX11_setTimes_X11_of : GoodIn wsX11_setTimes wsX11_of := goodIn_r _ [8, 9, 10, 11, 12, 13, 14, 15, 16, 17, 18, 19, 20, 21, 22, 23, 24, 25, 26, 27, 28, 29, 30, 31, 32, 33, 34, 35, 36, 37, 38, 39, 40, 41, 42, 43, 44, 45, 46, 47, 48, 49, 50, 51, 52, 53, 54, 55, 56, 57, 58, 59, 60, 61, 62, 63, 64, 65, 66, 67, 68] (by decide +kernel) (by decide +kernel)
set_option maxRecDepth 20000 in
theorem gX11_setTimes_X11_of : GoodIn wsX11_setTimes (wsV RX11 251 RX11 yX11_of wsX11_of) := goodIn_app (goodIn_of _ (by decide +kernel)) ggX11_setTimes_X11_of
theorem dX11_setTimes_0 : decode cX11_setTimes 0 = .ok (.iconst 0, 1) := by decide +kernel
theorem dX11_setTimes_1 : decode cX11_setTimes 1 = .ok (.istore_n 2, 1) := by decide +kernel
theorem dX11_setTimes_2 : decode cX11_setTimes 2 = .ok (.iload_n 2, 1) := by decide +kernel
theorem dX11_setTimes_3 : decode cX11_setTimes 3 = .ok (.aload_n 0, 1) := by decide +kernel
theorem dX11_setTimes_4 : decode cX11_setTimes 4 = .ok (.getfield 121, 3) := by decide +kernel
theorem dX11_setTimes_7 : decode cX11_setTimes 7 = .ok (.if_icmp .ge 36, 3) := by decide +kernel
theorem dX11_setTimes_10 : decode cX11_setTimes 10 = .ok (.aload_n 0, 1) := by decide +kernel
theorem dX11_setTimes_11 : decode cX11_setTimes 11 = .ok (.getfield 74, 3) := by decide +kernel
theorem dX11_setTimes_14 : decode cX11_setTimes 14 = .ok (.iload_n 2, 1) := by decide +kernel
theorem dX11_setTimes_15 : decode cX11_setTimes 15 = .ok (.iload_n 1, 1) := by decide +kernel
theorem dX11_setTimes_16 : decode cX11_setTimes 16 = .ok (.ifCond .ne 12, 3) := by decide +kernel
theorem dX11_setTimes_19 : decode cX11_setTimes 19 = .ok (.aload_n 0, 1) := by decide +kernel
theorem dX11_setTimes_20 : decode cX11_setTimes 20 = .ok (.getfield 59, 3) := by decide +kernel
theorem dX11_setTimes_23 : decode cX11_setTimes 23 = .ok (.iload_n 2, 1) := by decide +kernel
theorem dX11_setTimes_24 : decode cX11_setTimes 24 = .ok (.iaload, 1) := by decide +kernel
theorem dX11_setTimes_25 : decode cX11_setTimes 25 = .ok (.goto 11, 3) := by decide +kernel
theorem dX11_setTimes_28 : decode cX11_setTimes 28 = .ok (.aload_n 0, 1) := by decide +kernel
theorem dX11_setTimes_29 : decode cX11_setTimes 29 = .ok (.iload_n 2, 1) := by decide +kernel
theorem dX11_setTimes_30 : decode cX11_setTimes 30 = .ok (.iload_n 1, 1) := by decide +kernel
theorem dX11_setTimes_31 : decode cX11_setTimes 31 = .ok (.iconst 1, 1) := by decide +kernel
theorem dX11_setTimes_32 : decode cX11_setTimes 32 = .ok (.isub, 1) := by decide +kernel
theorem dX11_setTimes_33 : decode cX11_setTimes 33 = .ok (.invokevirtual 251, 3) := by decide +kernel
theorem dX11_setTimes_36 : decode cX11_setTimes 36 = .ok (.iastore, 1) := by decide +kernel
theorem dX11_setTimes_37 : decode cX11_setTimes 37 = .ok (.iinc 2 1, 3) := by decide +kernel
theorem dX11_setTimes_40 : decode cX11_setTimes 40 = .ok (.goto (-38), 3) := by decide +kernel
theorem dX11_setTimes_43 : decode cX11_setTimes 43 = .ok (.return_, 1) := by decide +kernel
set_option maxRecDepth 20000 in
theorem ggX11_when_X11_isRail : GoodIn wsX11_when wsX11_isRail := goodIn_r _ [8, 9, 10, 11, 7, 12, 49, 50, 51, 52, 53, 54, 55, 56, 57, 58, 59, 60, 61, 62, 63, 64, 65, 66, 67, 68, 69, 70, 71, 72, 73, 74, 75, 76, 77, 78, 79, 80, 81, 82, 83, 84, 85, 86, 87, 88, 89, 90, 91, 92, 93, 94, 95, 96, 97, 98, 99, 100, 101, 102, 103, 104, 105, 106, 107] (by decide +kernel) (by decide +kernel)
set_option maxRecDepth 20000 in
theorem gX11_when_X11_isRail : GoodIn wsX11_when (wsV RX11 248 RX11 yX11_isRail wsX11_isRail) := goodIn_app (goodIn_of _ (by decide +kernel)) ggX11_when_X11_isRail
set_option maxRecDepth 20000 in
theorem ggX11_when_X11_in : GoodIn wsX11_when wsX11_in := goodIn_r _ [12] (by decide +kernel) (by decide +kernel)
set_option maxRecDepth 20000 in
theorem gX11_when_X11_in : GoodIn wsX11_when (va_wsS RX11 141 yX11_in wsX11_in) := goodIn_app (goodIn_of _ (by decide +kernel)) ggX11_when_X11_in
set_option maxRecDepth 20000 in
theorem ggX11_when_X11_setWaits : GoodIn wsX11_when wsX11_setWaits := goodIn_r _ [16, 9, 17, 18, 19, 20, 7, 21, 22, 49, 50, 51, 52, 53, 54, 55, 56, 57, 58, 59, 60, 61, 62, 63, 64, 65, 66, 67, 68, 69, 70, 71, 72, 73, 74, 75, 76, 77, 78, 79, 80, 81, 82, 83, 84, 85, 86, 87, 88, 89, 90, 91, 92, 93, 94, 95, 96, 97, 98, 99, 100, 101, 102, 103, 104, 105, 106, 107] (by decide +kernel) (by decide +kernel)
set_option maxRecDepth 20000 in
theorem gX11_when_X11_setWaits : GoodIn wsX11_when (wsV RX11 334 RX11 yX11_setWaits wsX11_setWaits) := goodIn_app (goodIn_of _ (by decide +kernel)) ggX11_when_X11_setWaits
set_option maxRecDepth 20000 in
theorem ggX11_when_X11_setTimes : GoodIn wsX11_when wsX11_setTimes := goodIn_r _ [26, 9, 27, 28, 18, 19, 20, 7, 21, 22, 49, 50, 51, 52, 53, 54, 55, 56, 57, 58, 59, 60, 61, 62, 63, 64, 65, 66, 67, 68, 69, 70, 71, 72, 73, 74, 75, 76, 77, 78, 79, 80, 81, 82, 83, 84, 85, 86, 87, 88, 89, 90, 91, 92, 93, 94, 95, 96, 97, 98, 99, 100, 101, 102, 103, 104, 105, 106, 107] (by decide +kernel) (by decide +kernel)
set_option maxRecDepth 20000 in
theorem gX11_when_X11_setTimes : GoodIn wsX11_when (wsV RX11 337 RX11 yX11_setTimes wsX11_setTimes) := goodIn_app (goodIn_of _ (by decide +kernel)) ggX11_when_X11_setTimes
set_option maxRecDepth 20000 in
theorem ggX11_when_X11_findTimes : GoodIn wsX11_when wsX11_findTimes := goodIn_r _ [32, 2, 33, 34, 3, 9, 17, 27, 35, 36, 37, 7, 38, 39, 40, 41, 42, 43, 44, 45, 46, 47, 48, 49, 50, 51, 52, 53, 54, 55, 56, 57, 58, 59, 60, 61, 62, 63, 64, 65, 66, 67, 68, 69, 70, 71, 72, 73, 74, 75, 76, 77, 78, 79, 80, 81, 82, 83, 84, 85, 86, 87, 88, 89, 90, 91, 92, 93, 94, 95, 96, 97, 98, 99, 100, 101, 102, 103, 104, 105, 106, 107] (by decide +kernel) (by decide +kernel)
set_option maxRecDepth 20000 in
theorem gX11_when_X11_findTimes : GoodIn wsX11_when (wsV RX11 340 RX11 yX11_findTimes wsX11_findTimes) := goodIn_app (goodIn_of _ (by decide +kernel)) ggX11_when_X11_findTimes
theorem dX11_when_0 : decode cX11_when 0 = .ok (.aload_n 0, 1) := by decide +kernel
theorem dX11_when_1 : decode cX11_when 1 = .ok (.iload_n 1, 1) := by decide +kernel
theorem dX11_when_2 : decode cX11_when 2 = .ok (.invokevirtual 248, 3) := by decide +kernel
theorem dX11_when_5 : decode cX11_when 5 = .ok (.ifCond .eq 15, 3) := by decide +kernel
theorem dX11_when_8 : decode cX11_when 8 = .ok (.iload_n 2, 1) := by decide +kernel
theorem dX11_when_9 : decode cX11_when 9 = .ok (.i2l, 1) := by decide +kernel
theorem dX11_when_10 : decode cX11_when 10 = .ok (.lconst 0, 1) := by decide +kernel
theorem dX11_when_11 : decode cX11_when 11 = .ok (.ldc2_w 322, 3) := by decide +kernel
theorem dX11_when_14 : decode cX11_when 14 = .ok (.invokestatic 141, 3) := by decide +kernel
theorem dX11_when_17 : decode cX11_when 17 = .ok (.ifCond .ne 5, 3) := by decide +kernel
theorem dX11_when_20 : decode cX11_when 20 = .ok (.iconst (-1), 1) := by decide +kernel
theorem dX11_when_21 : decode cX11_when 21 = .ok (.ireturn, 1) := by decide +kernel
theorem dX11_when_22 : decode cX11_when 22 = .ok (.aload_n 0, 1) := by decide +kernel
theorem dX11_when_23 : decode cX11_when 23 = .ok (.invokevirtual 334, 3) := by decide +kernel
theorem dX11_when_26 : decode cX11_when 26 = .ok (.aload_n 0, 1) := by decide +kernel
theorem dX11_when_27 : decode cX11_when 27 = .ok (.iload_n 2, 1) := by decide +kernel
theorem dX11_when_28 : decode cX11_when 28 = .ok (.invokevirtual 337, 3) := by decide +kernel
theorem dX11_when_31 : decode cX11_when 31 = .ok (.aload_n 0, 1) := by decide +kernel
theorem dX11_when_32 : decode cX11_when 32 = .ok (.invokevirtual 340, 3) := by decide +kernel
theorem dX11_when_35 : decode cX11_when 35 = .ok (.aload_n 0, 1) := by decide +kernel
theorem dX11_when_36 : decode cX11_when 36 = .ok (.getfield 330, 3) := by decide +kernel
theorem dX11_when_39 : decode cX11_when 39 = .ok (.iload_n 1, 1) := by decide +kernel
theorem dX11_when_40 : decode cX11_when 40 = .ok (.ishr, 1) := by decide +kernel
theorem dX11_when_41 : decode cX11_when 41 = .ok (.iconst 1, 1) := by decide +kernel
theorem dX11_when_42 : decode cX11_when 42 = .ok (.iand, 1) := by decide +kernel
theorem dX11_when_43 : decode cX11_when 43 = .ok (.iconst 1, 1) := by decide +kernel
theorem dX11_when_44 : decode cX11_when 44 = .ok (.if_icmp .ne 12, 3) := by decide +kernel
theorem dX11_when_47 : decode cX11_when 47 = .ok (.aload_n 0, 1) := by decide +kernel
theorem dX11_when_48 : decode cX11_when 48 = .ok (.getfield 71, 3) := by decide +kernel
theorem dX11_when_51 : decode cX11_when 51 = .ok (.iload_n 1, 1) := by decide +kernel
theorem dX11_when_52 : decode cX11_when 52 = .ok (.iaload, 1) := by decide +kernel
theorem dX11_when_53 : decode cX11_when 53 = .ok (.goto 5, 3) := by decide +kernel
theorem dX11_when_56 : decode cX11_when 56 = .ok (.bipush (-4), 2) := by decide +kernel
theorem dX11_when_58 : decode cX11_when 58 = .ok (.ireturn, 1) := by decide +kernel
set_option maxRecDepth 20000 in
theorem ggX11_ways_X11_of : GoodIn wsX11_ways wsX11_of := goodIn_r _ [6, 7, 8, 9, 10, 11, 12, 13, 14, 15, 16, 17, 18, 19, 20, 21, 22, 23, 24, 25, 26, 27, 28, 29, 30, 31, 32, 33, 34, 35, 36, 37, 38, 39, 40, 41, 42, 43, 44, 45, 46, 47, 48, 49, 50, 51, 52, 53, 54, 55, 56, 57, 58, 59, 60, 61, 62, 63, 64, 65, 66] (by decide +kernel) (by decide +kernel)
set_option maxRecDepth 20000 in
theorem gX11_ways_X11_of : GoodIn wsX11_ways (wsV RX11 251 RX11 yX11_of wsX11_of) := goodIn_app (goodIn_of _ (by decide +kernel)) ggX11_ways_X11_of
theorem dX11_ways_0 : decode cX11_ways 0 = .ok (.iconst 1, 1) := by decide +kernel
theorem dX11_ways_1 : decode cX11_ways 1 = .ok (.istore_n 1, 1) := by decide +kernel
theorem dX11_ways_2 : decode cX11_ways 2 = .ok (.iconst 0, 1) := by decide +kernel
theorem dX11_ways_3 : decode cX11_ways 3 = .ok (.istore_n 2, 1) := by decide +kernel
theorem dX11_ways_4 : decode cX11_ways 4 = .ok (.iload_n 2, 1) := by decide +kernel
theorem dX11_ways_5 : decode cX11_ways 5 = .ok (.aload_n 0, 1) := by decide +kernel
theorem dX11_ways_6 : decode cX11_ways 6 = .ok (.getfield 121, 3) := by decide +kernel
theorem dX11_ways_9 : decode cX11_ways 9 = .ok (.if_icmp .ge 38, 3) := by decide +kernel
theorem dX11_ways_12 : decode cX11_ways 12 = .ok (.iload_n 1, 1) := by decide +kernel
theorem dX11_ways_13 : decode cX11_ways 13 = .ok (.sipush 20000, 3) := by decide +kernel
theorem dX11_ways_16 : decode cX11_ways 16 = .ok (.if_icmp .le 7, 3) := by decide +kernel
theorem dX11_ways_19 : decode cX11_ways 19 = .ok (.iload_n 1, 1) := by decide +kernel
theorem dX11_ways_20 : decode cX11_ways 20 = .ok (.goto 20, 3) := by decide +kernel
theorem dX11_ways_23 : decode cX11_ways 23 = .ok (.iload_n 1, 1) := by decide +kernel
theorem dX11_ways_24 : decode cX11_ways 24 = .ok (.aload_n 0, 1) := by decide +kernel
theorem dX11_ways_25 : decode cX11_ways 25 = .ok (.iload_n 2, 1) := by decide +kernel
theorem dX11_ways_26 : decode cX11_ways 26 = .ok (.iconst 1, 1) := by decide +kernel
theorem dX11_ways_27 : decode cX11_ways 27 = .ok (.invokevirtual 251, 3) := by decide +kernel
theorem dX11_ways_30 : decode cX11_ways 30 = .ok (.aload_n 0, 1) := by decide +kernel
theorem dX11_ways_31 : decode cX11_ways 31 = .ok (.iload_n 2, 1) := by decide +kernel
theorem dX11_ways_32 : decode cX11_ways 32 = .ok (.iconst 0, 1) := by decide +kernel
theorem dX11_ways_33 : decode cX11_ways 33 = .ok (.invokevirtual 251, 3) := by decide +kernel
theorem dX11_ways_36 : decode cX11_ways 36 = .ok (.isub, 1) := by decide +kernel
theorem dX11_ways_37 : decode cX11_ways 37 = .ok (.iconst 1, 1) := by decide +kernel
theorem dX11_ways_38 : decode cX11_ways 38 = .ok (.iadd, 1) := by decide +kernel
theorem dX11_ways_39 : decode cX11_ways 39 = .ok (.imul, 1) := by decide +kernel
theorem dX11_ways_40 : decode cX11_ways 40 = .ok (.istore_n 1, 1) := by decide +kernel
theorem dX11_ways_41 : decode cX11_ways 41 = .ok (.iinc 2 1, 3) := by decide +kernel
theorem dX11_ways_44 : decode cX11_ways 44 = .ok (.goto (-40), 3) := by decide +kernel
theorem dX11_ways_47 : decode cX11_ways 47 = .ok (.iload_n 1, 1) := by decide +kernel
theorem dX11_ways_48 : decode cX11_ways 48 = .ok (.ireturn, 1) := by decide +kernel
set_option maxRecDepth 20000 in
theorem ggX11_goesOn_X11_of : GoodIn wsX11_goesOn wsX11_of := goodIn_r _ [7, 8, 9, 10, 11, 12, 13, 14, 15, 16, 17, 18, 19, 20, 21, 22, 23, 24, 25, 26, 27, 28, 29, 30, 31, 32, 33, 34, 35, 36, 37, 38, 39, 40, 41, 42, 43, 44, 45, 46, 47, 48, 49, 50, 51, 52, 53, 54, 55, 56, 57, 58, 59, 60, 61, 62, 63, 64, 65, 66, 67] (by decide +kernel) (by decide +kernel)
set_option maxRecDepth 20000 in
theorem gX11_goesOn_X11_of : GoodIn wsX11_goesOn (wsV RX11 251 RX11 yX11_of wsX11_of) := goodIn_app (goodIn_of _ (by decide +kernel)) ggX11_goesOn_X11_of
theorem dX11_goesOn_0 : decode cX11_goesOn 0 = .ok (.iconst 0, 1) := by decide +kernel
theorem dX11_goesOn_1 : decode cX11_goesOn 1 = .ok (.istore_n 1, 1) := by decide +kernel
theorem dX11_goesOn_2 : decode cX11_goesOn 2 = .ok (.iload_n 1, 1) := by decide +kernel
theorem dX11_goesOn_3 : decode cX11_goesOn 3 = .ok (.aload_n 0, 1) := by decide +kernel
theorem dX11_goesOn_4 : decode cX11_goesOn 4 = .ok (.getfield 121, 3) := by decide +kernel
theorem dX11_goesOn_7 : decode cX11_goesOn 7 = .ok (.if_icmp .ge 36, 3) := by decide +kernel
theorem dX11_goesOn_10 : decode cX11_goesOn 10 = .ok (.aload_n 0, 1) := by decide +kernel
theorem dX11_goesOn_11 : decode cX11_goesOn 11 = .ok (.getfield 74, 3) := by decide +kernel
theorem dX11_goesOn_14 : decode cX11_goesOn 14 = .ok (.iload_n 1, 1) := by decide +kernel
theorem dX11_goesOn_15 : decode cX11_goesOn 15 = .ok (.iaload, 1) := by decide +kernel
theorem dX11_goesOn_16 : decode cX11_goesOn 16 = .ok (.aload_n 0, 1) := by decide +kernel
theorem dX11_goesOn_17 : decode cX11_goesOn 17 = .ok (.iload_n 1, 1) := by decide +kernel
theorem dX11_goesOn_18 : decode cX11_goesOn 18 = .ok (.iconst 1, 1) := by decide +kernel
theorem dX11_goesOn_19 : decode cX11_goesOn 19 = .ok (.invokevirtual 251, 3) := by decide +kernel
theorem dX11_goesOn_22 : decode cX11_goesOn 22 = .ok (.if_icmp .ne 21, 3) := by decide +kernel
theorem dX11_goesOn_25 : decode cX11_goesOn 25 = .ok (.aload_n 0, 1) := by decide +kernel
theorem dX11_goesOn_26 : decode cX11_goesOn 26 = .ok (.getfield 74, 3) := by decide +kernel
theorem dX11_goesOn_29 : decode cX11_goesOn 29 = .ok (.iload_n 1, 1) := by decide +kernel
theorem dX11_goesOn_30 : decode cX11_goesOn 30 = .ok (.aload_n 0, 1) := by decide +kernel
theorem dX11_goesOn_31 : decode cX11_goesOn 31 = .ok (.iload_n 1, 1) := by decide +kernel
theorem dX11_goesOn_32 : decode cX11_goesOn 32 = .ok (.iconst 0, 1) := by decide +kernel
theorem dX11_goesOn_33 : decode cX11_goesOn 33 = .ok (.invokevirtual 251, 3) := by decide +kernel
theorem dX11_goesOn_36 : decode cX11_goesOn 36 = .ok (.iastore, 1) := by decide +kernel
theorem dX11_goesOn_37 : decode cX11_goesOn 37 = .ok (.iinc 1 1, 3) := by decide +kernel
theorem dX11_goesOn_40 : decode cX11_goesOn 40 = .ok (.goto (-38), 3) := by decide +kernel
theorem dX11_goesOn_43 : decode cX11_goesOn 43 = .ok (.iload_n 1, 1) := by decide +kernel
theorem dX11_goesOn_44 : decode cX11_goesOn 44 = .ok (.aload_n 0, 1) := by decide +kernel
theorem dX11_goesOn_45 : decode cX11_goesOn 45 = .ok (.getfield 121, 3) := by decide +kernel
theorem dX11_goesOn_48 : decode cX11_goesOn 48 = .ok (.if_icmp .ge 13, 3) := by decide +kernel
theorem dX11_goesOn_51 : decode cX11_goesOn 51 = .ok (.aload_n 0, 1) := by decide +kernel
theorem dX11_goesOn_52 : decode cX11_goesOn 52 = .ok (.getfield 74, 3) := by decide +kernel
theorem dX11_goesOn_55 : decode cX11_goesOn 55 = .ok (.iload_n 1, 1) := by decide +kernel
theorem dX11_goesOn_56 : decode cX11_goesOn 56 = .ok (.dup2, 1) := by decide +kernel
theorem dX11_goesOn_57 : decode cX11_goesOn 57 = .ok (.iaload, 1) := by decide +kernel
theorem dX11_goesOn_58 : decode cX11_goesOn 58 = .ok (.iconst 1, 1) := by decide +kernel
theorem dX11_goesOn_59 : decode cX11_goesOn 59 = .ok (.iadd, 1) := by decide +kernel
theorem dX11_goesOn_60 : decode cX11_goesOn 60 = .ok (.iastore, 1) := by decide +kernel
theorem dX11_goesOn_61 : decode cX11_goesOn 61 = .ok (.iload_n 1, 1) := by decide +kernel
theorem dX11_goesOn_62 : decode cX11_goesOn 62 = .ok (.aload_n 0, 1) := by decide +kernel
theorem dX11_goesOn_63 : decode cX11_goesOn 63 = .ok (.getfield 121, 3) := by decide +kernel
theorem dX11_goesOn_66 : decode cX11_goesOn 66 = .ok (.if_icmp .ge 7, 3) := by decide +kernel
theorem dX11_goesOn_69 : decode cX11_goesOn 69 = .ok (.iconst 1, 1) := by decide +kernel
theorem dX11_goesOn_70 : decode cX11_goesOn 70 = .ok (.goto 4, 3) := by decide +kernel
theorem dX11_goesOn_73 : decode cX11_goesOn 73 = .ok (.iconst 0, 1) := by decide +kernel
theorem dX11_goesOn_74 : decode cX11_goesOn 74 = .ok (.ireturn, 1) := by decide +kernel
set_option maxRecDepth 20000 in
theorem ggX11_ahead_X11_isRail : GoodIn wsX11_ahead wsX11_isRail := goodIn_r _ [7, 8, 9, 10, 6, 11, 57, 58, 59, 60, 61, 62, 63, 64, 65, 66, 67, 68, 69, 70, 71, 72, 73, 74, 75, 76, 77, 78, 79, 80, 81, 82, 83, 84, 85, 86, 87, 88, 89, 90, 91, 92, 93, 94, 95, 96, 97, 98, 99, 100, 101, 102, 103, 104, 105, 106, 107, 108, 109, 110, 111, 112, 113, 114, 115] (by decide +kernel) (by decide +kernel)
set_option maxRecDepth 20000 in
theorem gX11_ahead_X11_isRail : GoodIn wsX11_ahead (wsV RX11 248 RX11 yX11_isRail wsX11_isRail) := goodIn_app (goodIn_of _ (by decide +kernel)) ggX11_ahead_X11_isRail
set_option maxRecDepth 20000 in
theorem ggX11_ahead_X11_in : GoodIn wsX11_ahead wsX11_in := goodIn_r _ [11] (by decide +kernel) (by decide +kernel)
set_option maxRecDepth 20000 in
theorem gX11_ahead_X11_in : GoodIn wsX11_ahead (va_wsS RX11 141 yX11_in wsX11_in) := goodIn_app (goodIn_of _ (by decide +kernel)) ggX11_ahead_X11_in
set_option maxRecDepth 20000 in
theorem ggX11_ahead_X11_ways : GoodIn wsX11_ahead wsX11_ways := goodIn_r _ [15, 8, 16, 17, 18, 6, 19, 20, 57, 58, 59, 60, 61, 62, 63, 64, 65, 66, 67, 68, 69, 70, 71, 72, 73, 74, 75, 76, 77, 78, 79, 80, 81, 82, 83, 84, 85, 86, 87, 88, 89, 90, 91, 92, 93, 94, 95, 96, 97, 98, 99, 100, 101, 102, 103, 104, 105, 106, 107, 108, 109, 110, 111, 112, 113, 114, 115] (by decide +kernel) (by decide +kernel)
set_option maxRecDepth 20000 in
theorem gX11_ahead_X11_ways : GoodIn wsX11_ahead (wsV RX11 343 RX11 yX11_ways wsX11_ways) := goodIn_app (goodIn_of _ (by decide +kernel)) ggX11_ahead_X11_ways
set_option maxRecDepth 20000 in
theorem ggX11_ahead_X11_deadOnes : GoodIn wsX11_ahead wsX11_deadOnes := goodIn_r _ [24, 8, 25, 57, 58, 59, 60, 61, 62, 63, 64, 65, 66, 67, 68, 69, 70, 71, 72, 73, 74, 75, 76, 77, 78, 79, 80, 81, 82, 83, 84, 85, 86, 87, 88, 89, 90, 91, 92, 93, 94, 95, 96, 97, 98, 99, 100, 101, 102, 103, 104, 105, 106, 107, 108, 109, 110, 111, 112, 113, 114, 115] (by decide +kernel) (by decide +kernel)
set_option maxRecDepth 20000 in
theorem gX11_ahead_X11_deadOnes : GoodIn wsX11_ahead (wsV RX11 324 RX11 yX11_deadOnes wsX11_deadOnes) := goodIn_app (goodIn_of _ (by decide +kernel)) ggX11_ahead_X11_deadOnes
set_option maxRecDepth 20000 in
theorem ggX11_ahead_X11_upBut : GoodIn wsX11_ahead wsX11_upBut := goodIn_r _ [29, 8, 30, 31, 32, 6, 33, 34, 57, 58, 59, 60, 61, 62, 63, 64, 65, 66, 67, 68, 69, 70, 71, 72, 73, 74, 75, 76, 77, 78, 79, 80, 81, 82, 83, 84, 85, 86, 87, 88, 89, 90, 91, 92, 93, 94, 95, 96, 97, 98, 99, 100, 101, 102, 103, 104, 105, 106, 107, 108, 109, 110, 111, 112, 113, 114, 115] (by decide +kernel) (by decide +kernel)
set_option maxRecDepth 20000 in
theorem gX11_ahead_X11_upBut : GoodIn wsX11_ahead (wsV RX11 327 RX11 yX11_upBut wsX11_upBut) := goodIn_app (goodIn_of _ (by decide +kernel)) ggX11_ahead_X11_upBut
set_option maxRecDepth 20000 in
theorem ggX11_ahead_X11_setWaits : GoodIn wsX11_ahead wsX11_setWaits := goodIn_r _ [38, 8, 39, 16, 17, 18, 6, 19, 20, 57, 58, 59, 60, 61, 62, 63, 64, 65, 66, 67, 68, 69, 70, 71, 72, 73, 74, 75, 76, 77, 78, 79, 80, 81, 82, 83, 84, 85, 86, 87, 88, 89, 90, 91, 92, 93, 94, 95, 96, 97, 98, 99, 100, 101, 102, 103, 104, 105, 106, 107, 108, 109, 110, 111, 112, 113, 114, 115] (by decide +kernel) (by decide +kernel)
set_option maxRecDepth 20000 in
theorem gX11_ahead_X11_setWaits : GoodIn wsX11_ahead (wsV RX11 334 RX11 yX11_setWaits wsX11_setWaits) := goodIn_app (goodIn_of _ (by decide +kernel)) ggX11_ahead_X11_setWaits
set_option maxRecDepth 20000 in
theorem ggX11_ahead_X11_setTimes : GoodIn wsX11_ahead wsX11_setTimes := goodIn_r _ [43, 8, 44, 45, 16, 17, 18, 6, 19, 20, 57, 58, 59, 60, 61, 62, 63, 64, 65, 66, 67, 68, 69, 70, 71, 72, 73, 74, 75, 76, 77, 78, 79, 80, 81, 82, 83, 84, 85, 86, 87, 88, 89, 90, 91, 92, 93, 94, 95, 96, 97, 98, 99, 100, 101, 102, 103, 104, 105, 106, 107, 108, 109, 110, 111, 112, 113, 114, 115] (by decide +kernel) (by decide +kernel)
set_option maxRecDepth 20000 in
theorem gX11_ahead_X11_setTimes : GoodIn wsX11_ahead (wsV RX11 337 RX11 yX11_setTimes wsX11_setTimes) := goodIn_app (goodIn_of _ (by decide +kernel)) ggX11_ahead_X11_setTimes
set_option maxRecDepth 20000 in
theorem ggX11_ahead_X11_findTimes : GoodIn wsX11_ahead wsX11_findTimes := goodIn_r _ [49, 50, 51, 52, 2, 8, 39, 44, 21, 22, 23, 6, 24, 25, 26, 27, 28, 29, 30, 31, 32, 33, 34, 57, 58, 59, 60, 61, 62, 63, 64, 65, 66, 67, 68, 69, 70, 71, 72, 73, 74, 75, 76, 77, 78, 79, 80, 81, 82, 83, 84, 85, 86, 87, 88, 89, 90, 91, 92, 93, 94, 95, 96, 97, 98, 99, 100, 101, 102, 103, 104, 105, 106, 107, 108, 109, 110, 111, 112, 113, 114, 115] (by decide +kernel) (by decide +kernel)
set_option maxRecDepth 20000 in
theorem gX11_ahead_X11_findTimes : GoodIn wsX11_ahead (wsV RX11 340 RX11 yX11_findTimes wsX11_findTimes) := goodIn_app (goodIn_of _ (by decide +kernel)) ggX11_ahead_X11_findTimes
set_option maxRecDepth 20000 in
theorem ggX11_ahead_X11_goesOn : GoodIn wsX11_ahead wsX11_goesOn := goodIn_r _ [56, 8, 44, 16, 17, 18, 6, 19, 20, 57, 58, 59, 60, 61, 62, 63, 64, 65, 66, 67, 68, 69, 70, 71, 72, 73, 74, 75, 76, 77, 78, 79, 80, 81, 82, 83, 84, 85, 86, 87, 88, 89, 90, 91, 92, 93, 94, 95, 96, 97, 98, 99, 100, 101, 102, 103, 104, 105, 106, 107, 108, 109, 110, 111, 112, 113, 114, 115] (by decide +kernel) (by decide +kernel)
set_option maxRecDepth 20000 in
theorem gX11_ahead_X11_goesOn : GoodIn wsX11_ahead (wsV RX11 347 RX11 yX11_goesOn wsX11_goesOn) := goodIn_app (goodIn_of _ (by decide +kernel)) ggX11_ahead_X11_goesOn
theorem dX11_ahead_0 : decode cX11_ahead 0 = .ok (.aload_n 0, 1) := by decide +kernel
theorem dX11_ahead_1 : decode cX11_ahead 1 = .ok (.iload_n 1, 1) := by decide +kernel
theorem dX11_ahead_2 : decode cX11_ahead 2 = .ok (.invokevirtual 248, 3) := by decide +kernel
theorem dX11_ahead_5 : decode cX11_ahead 5 = .ok (.ifCond .eq 26, 3) := by decide +kernel
theorem dX11_ahead_8 : decode cX11_ahead 8 = .ok (.aload_n 0, 1) := by decide +kernel
theorem dX11_ahead_9 : decode cX11_ahead 9 = .ok (.iload_n 2, 1) := by decide +kernel
theorem dX11_ahead_10 : decode cX11_ahead 10 = .ok (.invokevirtual 248, 3) := by decide +kernel
theorem dX11_ahead_13 : decode cX11_ahead 13 = .ok (.ifCond .eq 18, 3) := by decide +kernel
theorem dX11_ahead_16 : decode cX11_ahead 16 = .ok (.iload_n 1, 1) := by decide +kernel
theorem dX11_ahead_17 : decode cX11_ahead 17 = .ok (.iload_n 2, 1) := by decide +kernel
theorem dX11_ahead_18 : decode cX11_ahead 18 = .ok (.if_icmp .eq 13, 3) := by decide +kernel
theorem dX11_ahead_21 : decode cX11_ahead 21 = .ok (.iload_n 3, 1) := by decide +kernel
theorem dX11_ahead_22 : decode cX11_ahead 22 = .ok (.i2l, 1) := by decide +kernel
theorem dX11_ahead_23 : decode cX11_ahead 23 = .ok (.lconst 0, 1) := by decide +kernel
theorem dX11_ahead_24 : decode cX11_ahead 24 = .ok (.lconst 1, 1) := by decide +kernel
theorem dX11_ahead_25 : decode cX11_ahead 25 = .ok (.invokestatic 141, 3) := by decide +kernel
theorem dX11_ahead_28 : decode cX11_ahead 28 = .ok (.ifCond .ne 7, 3) := by decide +kernel
theorem dX11_ahead_31 : decode cX11_ahead 31 = .ok (.sipush (-1000), 3) := by decide +kernel
theorem dX11_ahead_34 : decode cX11_ahead 34 = .ok (.ireturn, 1) := by decide +kernel
theorem dX11_ahead_35 : decode cX11_ahead 35 = .ok (.aload_n 0, 1) := by decide +kernel
theorem dX11_ahead_36 : decode cX11_ahead 36 = .ok (.invokevirtual 343, 3) := by decide +kernel
theorem dX11_ahead_39 : decode cX11_ahead 39 = .ok (.sipush 20000, 3) := by decide +kernel
theorem dX11_ahead_42 : decode cX11_ahead 42 = .ok (.if_icmp .le 7, 3) := by decide +kernel
theorem dX11_ahead_45 : decode cX11_ahead 45 = .ok (.sipush (-1002), 3) := by decide +kernel
theorem dX11_ahead_48 : decode cX11_ahead 48 = .ok (.ireturn, 1) := by decide +kernel
theorem dX11_ahead_49 : decode cX11_ahead 49 = .ok (.aload_n 0, 1) := by decide +kernel
theorem dX11_ahead_50 : decode cX11_ahead 50 = .ok (.aload_n 0, 1) := by decide +kernel
theorem dX11_ahead_51 : decode cX11_ahead 51 = .ok (.invokevirtual 324, 3) := by decide +kernel
theorem dX11_ahead_54 : decode cX11_ahead 54 = .ok (.invokevirtual 327, 3) := by decide +kernel
theorem dX11_ahead_57 : decode cX11_ahead 57 = .ok (.istore 4, 2) := by decide +kernel
theorem dX11_ahead_59 : decode cX11_ahead 59 = .ok (.iload 4, 2) := by decide +kernel
theorem dX11_ahead_61 : decode cX11_ahead 61 = .ok (.iload_n 1, 1) := by decide +kernel
theorem dX11_ahead_62 : decode cX11_ahead 62 = .ok (.ishr, 1) := by decide +kernel
theorem dX11_ahead_63 : decode cX11_ahead 63 = .ok (.iconst 1, 1) := by decide +kernel
theorem dX11_ahead_64 : decode cX11_ahead 64 = .ok (.iand, 1) := by decide +kernel
theorem dX11_ahead_65 : decode cX11_ahead 65 = .ok (.ifCond .eq 12, 3) := by decide +kernel
theorem dX11_ahead_68 : decode cX11_ahead 68 = .ok (.iload 4, 2) := by decide +kernel
theorem dX11_ahead_70 : decode cX11_ahead 70 = .ok (.iload_n 2, 1) := by decide +kernel
theorem dX11_ahead_71 : decode cX11_ahead 71 = .ok (.ishr, 1) := by decide +kernel
theorem dX11_ahead_72 : decode cX11_ahead 72 = .ok (.iconst 1, 1) := by decide +kernel
theorem dX11_ahead_73 : decode cX11_ahead 73 = .ok (.iand, 1) := by decide +kernel
theorem dX11_ahead_74 : decode cX11_ahead 74 = .ok (.ifCond .ne 7, 3) := by decide +kernel
theorem dX11_ahead_77 : decode cX11_ahead 77 = .ok (.sipush (-1004), 3) := by decide +kernel
theorem dX11_ahead_80 : decode cX11_ahead 80 = .ok (.ireturn, 1) := by decide +kernel
theorem dX11_ahead_81 : decode cX11_ahead 81 = .ok (.aload_n 0, 1) := by decide +kernel
theorem dX11_ahead_82 : decode cX11_ahead 82 = .ok (.invokevirtual 334, 3) := by decide +kernel
theorem dX11_ahead_85 : decode cX11_ahead 85 = .ok (.aload_n 0, 1) := by decide +kernel
theorem dX11_ahead_86 : decode cX11_ahead 86 = .ok (.iconst 1, 1) := by decide +kernel
theorem dX11_ahead_87 : decode cX11_ahead 87 = .ok (.invokevirtual 337, 3) := by decide +kernel
theorem dX11_ahead_90 : decode cX11_ahead 90 = .ok (.ldc_w 346, 3) := by decide +kernel
theorem dX11_ahead_93 : decode cX11_ahead 93 = .ok (.istore 5, 2) := by decide +kernel
theorem dX11_ahead_95 : decode cX11_ahead 95 = .ok (.iconst 1, 1) := by decide +kernel
theorem dX11_ahead_96 : decode cX11_ahead 96 = .ok (.istore 6, 2) := by decide +kernel
theorem dX11_ahead_98 : decode cX11_ahead 98 = .ok (.iload 6, 2) := by decide +kernel
theorem dX11_ahead_100 : decode cX11_ahead 100 = .ok (.ifCond .eq 54, 3) := by decide +kernel
theorem dX11_ahead_103 : decode cX11_ahead 103 = .ok (.aload_n 0, 1) := by decide +kernel
theorem dX11_ahead_104 : decode cX11_ahead 104 = .ok (.invokevirtual 340, 3) := by decide +kernel
theorem dX11_ahead_107 : decode cX11_ahead 107 = .ok (.aload_n 0, 1) := by decide +kernel
theorem dX11_ahead_108 : decode cX11_ahead 108 = .ok (.getfield 71, 3) := by decide +kernel
theorem dX11_ahead_111 : decode cX11_ahead 111 = .ok (.iload_n 1, 1) := by decide +kernel
theorem dX11_ahead_112 : decode cX11_ahead 112 = .ok (.iaload, 1) := by decide +kernel
theorem dX11_ahead_113 : decode cX11_ahead 113 = .ok (.aload_n 0, 1) := by decide +kernel
theorem dX11_ahead_114 : decode cX11_ahead 114 = .ok (.getfield 71, 3) := by decide +kernel
theorem dX11_ahead_117 : decode cX11_ahead 117 = .ok (.iload_n 2, 1) := by decide +kernel
theorem dX11_ahead_118 : decode cX11_ahead 118 = .ok (.iaload, 1) := by decide +kernel
theorem dX11_ahead_119 : decode cX11_ahead 119 = .ok (.isub, 1) := by decide +kernel
theorem dX11_ahead_120 : decode cX11_ahead 120 = .ok (.iload 5, 2) := by decide +kernel
theorem dX11_ahead_122 : decode cX11_ahead 122 = .ok (.if_icmp .le 19, 3) := by decide +kernel
theorem dX11_ahead_125 : decode cX11_ahead 125 = .ok (.aload_n 0, 1) := by decide +kernel
theorem dX11_ahead_126 : decode cX11_ahead 126 = .ok (.getfield 71, 3) := by decide +kernel
theorem dX11_ahead_129 : decode cX11_ahead 129 = .ok (.iload_n 1, 1) := by decide +kernel
theorem dX11_ahead_130 : decode cX11_ahead 130 = .ok (.iaload, 1) := by decide +kernel
theorem dX11_ahead_131 : decode cX11_ahead 131 = .ok (.aload_n 0, 1) := by decide +kernel
theorem dX11_ahead_132 : decode cX11_ahead 132 = .ok (.getfield 71, 3) := by decide +kernel
theorem dX11_ahead_135 : decode cX11_ahead 135 = .ok (.iload_n 2, 1) := by decide +kernel
theorem dX11_ahead_136 : decode cX11_ahead 136 = .ok (.iaload, 1) := by decide +kernel
theorem dX11_ahead_137 : decode cX11_ahead 137 = .ok (.isub, 1) := by decide +kernel
theorem dX11_ahead_138 : decode cX11_ahead 138 = .ok (.goto 5, 3) := by decide +kernel
theorem dX11_ahead_141 : decode cX11_ahead 141 = .ok (.iload 5, 2) := by decide +kernel
theorem dX11_ahead_143 : decode cX11_ahead 143 = .ok (.istore 5, 2) := by decide +kernel
theorem dX11_ahead_145 : decode cX11_ahead 145 = .ok (.aload_n 0, 1) := by decide +kernel
theorem dX11_ahead_146 : decode cX11_ahead 146 = .ok (.invokevirtual 347, 3) := by decide +kernel
theorem dX11_ahead_149 : decode cX11_ahead 149 = .ok (.istore 6, 2) := by decide +kernel
theorem dX11_ahead_151 : decode cX11_ahead 151 = .ok (.goto (-53), 3) := by decide +kernel
theorem dX11_ahead_154 : decode cX11_ahead 154 = .ok (.iload_n 3, 1) := by decide +kernel
theorem dX11_ahead_155 : decode cX11_ahead 155 = .ok (.iconst 1, 1) := by decide +kernel
theorem dX11_ahead_156 : decode cX11_ahead 156 = .ok (.if_icmp .ne 8, 3) := by decide +kernel
theorem dX11_ahead_159 : decode cX11_ahead 159 = .ok (.iload 5, 2) := by decide +kernel
theorem dX11_ahead_161 : decode cX11_ahead 161 = .ok (.goto 22, 3) := by decide +kernel
theorem dX11_ahead_164 : decode cX11_ahead 164 = .ok (.iload 5, 2) := by decide +kernel
theorem dX11_ahead_166 : decode cX11_ahead 166 = .ok (.ifCond .ge 7, 3) := by decide +kernel
theorem dX11_ahead_169 : decode cX11_ahead 169 = .ok (.iconst 2, 1) := by decide +kernel
theorem dX11_ahead_170 : decode cX11_ahead 170 = .ok (.goto 13, 3) := by decide +kernel
theorem dX11_ahead_173 : decode cX11_ahead 173 = .ok (.iload 5, 2) := by decide +kernel
theorem dX11_ahead_175 : decode cX11_ahead 175 = .ok (.ifCond .ne 7, 3) := by decide +kernel
theorem dX11_ahead_178 : decode cX11_ahead 178 = .ok (.iconst 1, 1) := by decide +kernel
theorem dX11_ahead_179 : decode cX11_ahead 179 = .ok (.goto 4, 3) := by decide +kernel
theorem dX11_ahead_182 : decode cX11_ahead 182 = .ok (.iconst 0, 1) := by decide +kernel
theorem dX11_ahead_183 : decode cX11_ahead 183 = .ok (.ireturn, 1) := by decide +kernel
set_option maxRecDepth 20000 in
theorem ggX11_drawnAt_X11_drawnOf : GoodIn wsX11_drawnAt wsX11_drawnOf := goodIn_r _ [10, 1, 11, 12, 13, 9, 14, 15, 16, 17, 18, 19, 20, 21, 22, 23, 24, 25, 26, 27, 28, 29, 30, 31, 32, 33, 34, 35, 36, 37, 38, 39, 40, 41, 42, 43, 44, 45, 46, 47, 48, 49, 50, 51, 52, 53, 54, 55, 56, 57, 58, 59, 60, 61, 62, 63, 64, 65, 66, 67, 68, 69, 70, 71, 72, 73, 74] (by decide +kernel) (by decide +kernel)
set_option maxRecDepth 20000 in
theorem gX11_drawnAt_X11_drawnOf : GoodIn wsX11_drawnAt (wsV RX11 309 RX11 yX11_drawnOf wsX11_drawnOf) := goodIn_app (goodIn_of _ (by decide +kernel)) ggX11_drawnAt_X11_drawnOf
theorem dX11_drawnAt_0 : decode cX11_drawnAt 0 = .ok (.iconst 0, 1) := by decide +kernel
theorem dX11_drawnAt_1 : decode cX11_drawnAt 1 = .ok (.istore_n 2, 1) := by decide +kernel
theorem dX11_drawnAt_2 : decode cX11_drawnAt 2 = .ok (.iconst 0, 1) := by decide +kernel
theorem dX11_drawnAt_3 : decode cX11_drawnAt 3 = .ok (.istore_n 3, 1) := by decide +kernel
theorem dX11_drawnAt_4 : decode cX11_drawnAt 4 = .ok (.iconst 0, 1) := by decide +kernel
theorem dX11_drawnAt_5 : decode cX11_drawnAt 5 = .ok (.istore 4, 2) := by decide +kernel
theorem dX11_drawnAt_7 : decode cX11_drawnAt 7 = .ok (.iload 4, 2) := by decide +kernel
theorem dX11_drawnAt_9 : decode cX11_drawnAt 9 = .ok (.aload_n 0, 1) := by decide +kernel
theorem dX11_drawnAt_10 : decode cX11_drawnAt 10 = .ok (.getfield 121, 3) := by decide +kernel
theorem dX11_drawnAt_13 : decode cX11_drawnAt 13 = .ok (.if_icmp .ge 85, 3) := by decide +kernel
theorem dX11_drawnAt_16 : decode cX11_drawnAt 16 = .ok (.iload_n 2, 1) := by decide +kernel
theorem dX11_drawnAt_17 : decode cX11_drawnAt 17 = .ok (.aload_n 0, 1) := by decide +kernel
theorem dX11_drawnAt_18 : decode cX11_drawnAt 18 = .ok (.getfield 71, 3) := by decide +kernel
theorem dX11_drawnAt_21 : decode cX11_drawnAt 21 = .ok (.iload 4, 2) := by decide +kernel
theorem dX11_drawnAt_23 : decode cX11_drawnAt 23 = .ok (.iaload, 1) := by decide +kernel
theorem dX11_drawnAt_24 : decode cX11_drawnAt 24 = .ok (.iload_n 1, 1) := by decide +kernel
theorem dX11_drawnAt_25 : decode cX11_drawnAt 25 = .ok (.if_icmp .gt 10, 3) := by decide +kernel
theorem dX11_drawnAt_28 : decode cX11_drawnAt 28 = .ok (.iconst 1, 1) := by decide +kernel
theorem dX11_drawnAt_29 : decode cX11_drawnAt 29 = .ok (.iload 4, 2) := by decide +kernel
theorem dX11_drawnAt_31 : decode cX11_drawnAt 31 = .ok (.ishl, 1) := by decide +kernel
theorem dX11_drawnAt_32 : decode cX11_drawnAt 32 = .ok (.goto 4, 3) := by decide +kernel
theorem dX11_drawnAt_35 : decode cX11_drawnAt 35 = .ok (.iconst 0, 1) := by decide +kernel
theorem dX11_drawnAt_36 : decode cX11_drawnAt 36 = .ok (.ior, 1) := by decide +kernel
theorem dX11_drawnAt_37 : decode cX11_drawnAt 37 = .ok (.istore_n 2, 1) := by decide +kernel
theorem dX11_drawnAt_38 : decode cX11_drawnAt 38 = .ok (.iload_n 3, 1) := by decide +kernel
theorem dX11_drawnAt_39 : decode cX11_drawnAt 39 = .ok (.aload_n 0, 1) := by decide +kernel
theorem dX11_drawnAt_40 : decode cX11_drawnAt 40 = .ok (.getfield 68, 3) := by decide +kernel
theorem dX11_drawnAt_43 : decode cX11_drawnAt 43 = .ok (.iload 4, 2) := by decide +kernel
theorem dX11_drawnAt_45 : decode cX11_drawnAt 45 = .ok (.iaload, 1) := by decide +kernel
theorem dX11_drawnAt_46 : decode cX11_drawnAt 46 = .ok (.ldc_w 333, 3) := by decide +kernel
theorem dX11_drawnAt_49 : decode cX11_drawnAt 49 = .ok (.if_icmp .ge 40, 3) := by decide +kernel
theorem dX11_drawnAt_52 : decode cX11_drawnAt 52 = .ok (.aload_n 0, 1) := by decide +kernel
theorem dX11_drawnAt_53 : decode cX11_drawnAt 53 = .ok (.getfield 68, 3) := by decide +kernel
theorem dX11_drawnAt_56 : decode cX11_drawnAt 56 = .ok (.iload 4, 2) := by decide +kernel
theorem dX11_drawnAt_58 : decode cX11_drawnAt 58 = .ok (.iaload, 1) := by decide +kernel
theorem dX11_drawnAt_59 : decode cX11_drawnAt 59 = .ok (.aload_n 0, 1) := by decide +kernel
theorem dX11_drawnAt_60 : decode cX11_drawnAt 60 = .ok (.getfield 77, 3) := by decide +kernel
theorem dX11_drawnAt_63 : decode cX11_drawnAt 63 = .ok (.iload 4, 2) := by decide +kernel
theorem dX11_drawnAt_65 : decode cX11_drawnAt 65 = .ok (.iaload, 1) := by decide +kernel
theorem dX11_drawnAt_66 : decode cX11_drawnAt 66 = .ok (.iadd, 1) := by decide +kernel
theorem dX11_drawnAt_67 : decode cX11_drawnAt 67 = .ok (.iload_n 1, 1) := by decide +kernel
theorem dX11_drawnAt_68 : decode cX11_drawnAt 68 = .ok (.if_icmp .gt 21, 3) := by decide +kernel
theorem dX11_drawnAt_71 : decode cX11_drawnAt 71 = .ok (.aload_n 0, 1) := by decide +kernel
theorem dX11_drawnAt_72 : decode cX11_drawnAt 72 = .ok (.getfield 71, 3) := by decide +kernel
theorem dX11_drawnAt_75 : decode cX11_drawnAt 75 = .ok (.iload 4, 2) := by decide +kernel
theorem dX11_drawnAt_77 : decode cX11_drawnAt 77 = .ok (.iaload, 1) := by decide +kernel
theorem dX11_drawnAt_78 : decode cX11_drawnAt 78 = .ok (.iload_n 1, 1) := by decide +kernel
theorem dX11_drawnAt_79 : decode cX11_drawnAt 79 = .ok (.if_icmp .le 10, 3) := by decide +kernel
theorem dX11_drawnAt_82 : decode cX11_drawnAt 82 = .ok (.iconst 1, 1) := by decide +kernel
theorem dX11_drawnAt_83 : decode cX11_drawnAt 83 = .ok (.iload 4, 2) := by decide +kernel
theorem dX11_drawnAt_85 : decode cX11_drawnAt 85 = .ok (.ishl, 1) := by decide +kernel
theorem dX11_drawnAt_86 : decode cX11_drawnAt 86 = .ok (.goto 4, 3) := by decide +kernel
theorem dX11_drawnAt_89 : decode cX11_drawnAt 89 = .ok (.iconst 0, 1) := by decide +kernel
theorem dX11_drawnAt_90 : decode cX11_drawnAt 90 = .ok (.ior, 1) := by decide +kernel
theorem dX11_drawnAt_91 : decode cX11_drawnAt 91 = .ok (.istore_n 3, 1) := by decide +kernel
theorem dX11_drawnAt_92 : decode cX11_drawnAt 92 = .ok (.iinc 4 1, 3) := by decide +kernel
theorem dX11_drawnAt_95 : decode cX11_drawnAt 95 = .ok (.goto (-88), 3) := by decide +kernel
theorem dX11_drawnAt_98 : decode cX11_drawnAt 98 = .ok (.aload_n 0, 1) := by decide +kernel
theorem dX11_drawnAt_99 : decode cX11_drawnAt 99 = .ok (.iload_n 2, 1) := by decide +kernel
theorem dX11_drawnAt_100 : decode cX11_drawnAt 100 = .ok (.iload_n 3, 1) := by decide +kernel
theorem dX11_drawnAt_101 : decode cX11_drawnAt 101 = .ok (.invokevirtual 309, 3) := by decide +kernel
theorem dX11_drawnAt_104 : decode cX11_drawnAt 104 = .ok (.ireturn, 1) := by decide +kernel
set_option maxRecDepth 20000 in
theorem ggX11_drawn_X11_in : GoodIn wsX11_drawn wsX11_in := goodIn_r _ [5] (by decide +kernel) (by decide +kernel)
set_option maxRecDepth 20000 in
theorem gX11_drawn_X11_in : GoodIn wsX11_drawn (va_wsS RX11 141 yX11_in wsX11_in) := goodIn_app (goodIn_of _ (by decide +kernel)) ggX11_drawn_X11_in
set_option maxRecDepth 20000 in
theorem ggX11_drawn_X11_setWaits : GoodIn wsX11_drawn wsX11_setWaits := goodIn_r _ [9, 10, 11, 12, 13, 14, 4, 15, 16, 53, 54, 55, 56, 57, 58, 59, 60, 61, 62, 63, 64, 65, 66, 67, 68, 69, 70, 71, 72, 73, 74, 75, 76, 77, 78, 79, 80, 81, 82, 83, 84, 85, 86, 87, 88, 89, 90, 91, 92, 93, 94, 95, 96, 97, 98, 99, 100, 101, 102, 103, 104, 105, 106, 107, 108, 109, 110, 111] (by decide +kernel) (by decide +kernel)
set_option maxRecDepth 20000 in
theorem gX11_drawn_X11_setWaits : GoodIn wsX11_drawn (wsV RX11 334 RX11 yX11_setWaits wsX11_setWaits) := goodIn_app (goodIn_of _ (by decide +kernel)) ggX11_drawn_X11_setWaits
set_option maxRecDepth 20000 in
theorem ggX11_drawn_X11_setTimes : GoodIn wsX11_drawn wsX11_setTimes := goodIn_r _ [20, 10, 21, 22, 12, 13, 14, 4, 15, 16, 53, 54, 55, 56, 57, 58, 59, 60, 61, 62, 63, 64, 65, 66, 67, 68, 69, 70, 71, 72, 73, 74, 75, 76, 77, 78, 79, 80, 81, 82, 83, 84, 85, 86, 87, 88, 89, 90, 91, 92, 93, 94, 95, 96, 97, 98, 99, 100, 101, 102, 103, 104, 105, 106, 107, 108, 109, 110, 111] (by decide +kernel) (by decide +kernel)
set_option maxRecDepth 20000 in
theorem gX11_drawn_X11_setTimes : GoodIn wsX11_drawn (wsV RX11 337 RX11 yX11_setTimes wsX11_setTimes) := goodIn_app (goodIn_of _ (by decide +kernel)) ggX11_drawn_X11_setTimes
set_option maxRecDepth 20000 in
theorem ggX11_drawn_X11_findTimes : GoodIn wsX11_drawn wsX11_findTimes := goodIn_r _ [26, 27, 28, 29, 30, 10, 11, 21, 31, 32, 33, 4, 34, 35, 36, 37, 38, 39, 40, 41, 42, 43, 44, 53, 54, 55, 56, 57, 58, 59, 60, 61, 62, 63, 64, 65, 66, 67, 68, 69, 70, 71, 72, 73, 74, 75, 76, 77, 78, 79, 80, 81, 82, 83, 84, 85, 86, 87, 88, 89, 90, 91, 92, 93, 94, 95, 96, 97, 98, 99, 100, 101, 102, 103, 104, 105, 106, 107, 108, 109, 110, 111] (by decide +kernel) (by decide +kernel)
set_option maxRecDepth 20000 in
theorem gX11_drawn_X11_findTimes : GoodIn wsX11_drawn (wsV RX11 340 RX11 yX11_findTimes wsX11_findTimes) := goodIn_app (goodIn_of _ (by decide +kernel)) ggX11_drawn_X11_findTimes
set_option maxRecDepth 20000 in
theorem ggX11_drawn_X11_drawnAt : GoodIn wsX11_drawn wsX11_drawnAt := goodIn_r _ [48, 10, 30, 28, 29, 11, 49, 50, 51, 4, 52, 12, 13, 14, 15, 16, 53, 54, 55, 56, 57, 58, 59, 60, 61, 62, 63, 64, 65, 66, 67, 68, 69, 70, 71, 72, 73, 74, 75, 76, 77, 78, 79, 80, 81, 82, 83, 84, 85, 86, 87, 88, 89, 90, 91, 92, 93, 94, 95, 96, 97, 98, 99, 100, 101, 102, 103, 104, 105, 106, 107, 108, 109, 110, 111] (by decide +kernel) (by decide +kernel)
set_option maxRecDepth 20000 in
theorem gX11_drawn_X11_drawnAt : GoodIn wsX11_drawn (wsV RX11 350 RX11 yX11_drawnAt wsX11_drawnAt) := goodIn_app (goodIn_of _ (by decide +kernel)) ggX11_drawn_X11_drawnAt
theorem dX11_drawn_0 : decode cX11_drawn 0 = .ok (.iload_n 1, 1) := by decide +kernel
theorem dX11_drawn_1 : decode cX11_drawn 1 = .ok (.i2l, 1) := by decide +kernel
theorem dX11_drawn_2 : decode cX11_drawn 2 = .ok (.lconst 0, 1) := by decide +kernel
theorem dX11_drawn_3 : decode cX11_drawn 3 = .ok (.ldc2_w 315, 3) := by decide +kernel
theorem dX11_drawn_6 : decode cX11_drawn 6 = .ok (.invokestatic 141, 3) := by decide +kernel
theorem dX11_drawn_9 : decode cX11_drawn 9 = .ok (.ifCond .ne 5, 3) := by decide +kernel
theorem dX11_drawn_12 : decode cX11_drawn 12 = .ok (.iconst (-1), 1) := by decide +kernel
theorem dX11_drawn_13 : decode cX11_drawn 13 = .ok (.ireturn, 1) := by decide +kernel
theorem dX11_drawn_14 : decode cX11_drawn 14 = .ok (.aload_n 0, 1) := by decide +kernel
theorem dX11_drawn_15 : decode cX11_drawn 15 = .ok (.invokevirtual 334, 3) := by decide +kernel
theorem dX11_drawn_18 : decode cX11_drawn 18 = .ok (.aload_n 0, 1) := by decide +kernel
theorem dX11_drawn_19 : decode cX11_drawn 19 = .ok (.iconst 0, 1) := by decide +kernel
theorem dX11_drawn_20 : decode cX11_drawn 20 = .ok (.invokevirtual 337, 3) := by decide +kernel
theorem dX11_drawn_23 : decode cX11_drawn 23 = .ok (.aload_n 0, 1) := by decide +kernel
theorem dX11_drawn_24 : decode cX11_drawn 24 = .ok (.invokevirtual 340, 3) := by decide +kernel
theorem dX11_drawn_27 : decode cX11_drawn 27 = .ok (.aload_n 0, 1) := by decide +kernel
theorem dX11_drawn_28 : decode cX11_drawn 28 = .ok (.iload_n 1, 1) := by decide +kernel
theorem dX11_drawn_29 : decode cX11_drawn 29 = .ok (.invokevirtual 350, 3) := by decide +kernel
theorem dX11_drawn_32 : decode cX11_drawn 32 = .ok (.ireturn, 1) := by decide +kernel
set_option maxRecDepth 20000 in
theorem ggX11_peakNow_X11_drawnAt : GoodIn wsX11_peakNow wsX11_drawnAt := goodIn_r _ [6, 7, 8, 9, 10, 11, 12, 13, 14, 5, 15, 16, 17, 18, 19, 20, 21, 22, 23, 24, 25, 26, 27, 28, 29, 30, 31, 32, 33, 34, 35, 36, 37, 38, 39, 40, 41, 42, 43, 44, 45, 46, 47, 48, 49, 50, 51, 52, 53, 54, 55, 56, 57, 58, 59, 60, 61, 62, 63, 64, 65, 66, 67, 68, 69, 70, 71, 72, 73, 74, 75, 76, 77, 78, 79] (by decide +kernel) (by decide +kernel)
set_option maxRecDepth 20000 in
theorem gX11_peakNow_X11_drawnAt : GoodIn wsX11_peakNow (wsV RX11 350 RX11 yX11_drawnAt wsX11_drawnAt) := goodIn_app (goodIn_of _ (by decide +kernel)) ggX11_peakNow_X11_drawnAt
theorem dX11_peakNow_0 : decode cX11_peakNow 0 = .ok (.iconst (-1), 1) := by decide +kernel
theorem dX11_peakNow_1 : decode cX11_peakNow 1 = .ok (.istore_n 1, 1) := by decide +kernel
theorem dX11_peakNow_2 : decode cX11_peakNow 2 = .ok (.iconst 0, 1) := by decide +kernel
theorem dX11_peakNow_3 : decode cX11_peakNow 3 = .ok (.istore_n 2, 1) := by decide +kernel
theorem dX11_peakNow_4 : decode cX11_peakNow 4 = .ok (.iload_n 2, 1) := by decide +kernel
theorem dX11_peakNow_5 : decode cX11_peakNow 5 = .ok (.sipush 200, 3) := by decide +kernel
theorem dX11_peakNow_8 : decode cX11_peakNow 8 = .ok (.if_icmp .gt 43, 3) := by decide +kernel
theorem dX11_peakNow_11 : decode cX11_peakNow 11 = .ok (.aload_n 0, 1) := by decide +kernel
theorem dX11_peakNow_12 : decode cX11_peakNow 12 = .ok (.iload_n 2, 1) := by decide +kernel
theorem dX11_peakNow_13 : decode cX11_peakNow 13 = .ok (.invokevirtual 350, 3) := by decide +kernel
theorem dX11_peakNow_16 : decode cX11_peakNow 16 = .ok (.istore_n 3, 1) := by decide +kernel
theorem dX11_peakNow_17 : decode cX11_peakNow 17 = .ok (.aload_n 0, 1) := by decide +kernel
theorem dX11_peakNow_18 : decode cX11_peakNow 18 = .ok (.iload_n 3, 1) := by decide +kernel
theorem dX11_peakNow_19 : decode cX11_peakNow 19 = .ok (.iload_n 1, 1) := by decide +kernel
theorem dX11_peakNow_20 : decode cX11_peakNow 20 = .ok (.if_icmp .le 7, 3) := by decide +kernel
theorem dX11_peakNow_23 : decode cX11_peakNow 23 = .ok (.iload_n 2, 1) := by decide +kernel
theorem dX11_peakNow_24 : decode cX11_peakNow 24 = .ok (.goto 7, 3) := by decide +kernel
theorem dX11_peakNow_27 : decode cX11_peakNow 27 = .ok (.aload_n 0, 1) := by decide +kernel
theorem dX11_peakNow_28 : decode cX11_peakNow 28 = .ok (.getfield 353, 3) := by decide +kernel
theorem dX11_peakNow_31 : decode cX11_peakNow 31 = .ok (.putfield 353, 3) := by decide +kernel
theorem dX11_peakNow_34 : decode cX11_peakNow 34 = .ok (.iload_n 3, 1) := by decide +kernel
theorem dX11_peakNow_35 : decode cX11_peakNow 35 = .ok (.iload_n 1, 1) := by decide +kernel
theorem dX11_peakNow_36 : decode cX11_peakNow 36 = .ok (.if_icmp .le 7, 3) := by decide +kernel
theorem dX11_peakNow_39 : decode cX11_peakNow 39 = .ok (.iload_n 3, 1) := by decide +kernel
theorem dX11_peakNow_40 : decode cX11_peakNow 40 = .ok (.goto 4, 3) := by decide +kernel
theorem dX11_peakNow_43 : decode cX11_peakNow 43 = .ok (.iload_n 1, 1) := by decide +kernel
theorem dX11_peakNow_44 : decode cX11_peakNow 44 = .ok (.istore_n 1, 1) := by decide +kernel
theorem dX11_peakNow_45 : decode cX11_peakNow 45 = .ok (.iinc 2 1, 3) := by decide +kernel
theorem dX11_peakNow_48 : decode cX11_peakNow 48 = .ok (.goto (-44), 3) := by decide +kernel
theorem dX11_peakNow_51 : decode cX11_peakNow 51 = .ok (.iload_n 1, 1) := by decide +kernel
theorem dX11_peakNow_52 : decode cX11_peakNow 52 = .ok (.ireturn, 1) := by decide +kernel
set_option maxRecDepth 20000 in
theorem ggX11_peak_X11_in : GoodIn wsX11_peak wsX11_in := goodIn_r _ [6] (by decide +kernel) (by decide +kernel)
set_option maxRecDepth 20000 in
theorem gX11_peak_X11_in : GoodIn wsX11_peak (va_wsS RX11 141 yX11_in wsX11_in) := goodIn_app (goodIn_of _ (by decide +kernel)) ggX11_peak_X11_in
set_option maxRecDepth 20000 in
theorem ggX11_peak_X11_ways : GoodIn wsX11_peak wsX11_ways := goodIn_r _ [10, 11, 12, 13, 14, 5, 15, 16, 66, 67, 68, 69, 70, 71, 72, 73, 74, 75, 76, 77, 78, 79, 80, 81, 82, 83, 84, 85, 86, 87, 88, 89, 90, 91, 92, 93, 94, 95, 96, 97, 98, 99, 100, 101, 102, 103, 104, 105, 106, 107, 108, 109, 110, 111, 112, 113, 114, 115, 116, 117, 118, 119, 120, 121, 122, 123, 124] (by decide +kernel) (by decide +kernel)
set_option maxRecDepth 20000 in
theorem gX11_peak_X11_ways : GoodIn wsX11_peak (wsV RX11 343 RX11 yX11_ways wsX11_ways) := goodIn_app (goodIn_of _ (by decide +kernel)) ggX11_peak_X11_ways
set_option maxRecDepth 20000 in
theorem ggX11_peak_X11_deadOnes : GoodIn wsX11_peak wsX11_deadOnes := goodIn_r _ [20, 11, 21, 66, 67, 68, 69, 70, 71, 72, 73, 74, 75, 76, 77, 78, 79, 80, 81, 82, 83, 84, 85, 86, 87, 88, 89, 90, 91, 92, 93, 94, 95, 96, 97, 98, 99, 100, 101, 102, 103, 104, 105, 106, 107, 108, 109, 110, 111, 112, 113, 114, 115, 116, 117, 118, 119, 120, 121, 122, 123, 124] (by decide +kernel) (by decide +kernel)
set_option maxRecDepth 20000 in
theorem gX11_peak_X11_deadOnes : GoodIn wsX11_peak (wsV RX11 324 RX11 yX11_deadOnes wsX11_deadOnes) := goodIn_app (goodIn_of _ (by decide +kernel)) ggX11_peak_X11_deadOnes
set_option maxRecDepth 20000 in
theorem ggX11_peak_X11_upBut : GoodIn wsX11_peak wsX11_upBut := goodIn_r _ [25, 11, 26, 27, 28, 5, 29, 30, 66, 67, 68, 69, 70, 71, 72, 73, 74, 75, 76, 77, 78, 79, 80, 81, 82, 83, 84, 85, 86, 87, 88, 89, 90, 91, 92, 93, 94, 95, 96, 97, 98, 99, 100, 101, 102, 103, 104, 105, 106, 107, 108, 109, 110, 111, 112, 113, 114, 115, 116, 117, 118, 119, 120, 121, 122, 123, 124] (by decide +kernel) (by decide +kernel)
set_option maxRecDepth 20000 in
theorem gX11_peak_X11_upBut : GoodIn wsX11_peak (wsV RX11 327 RX11 yX11_upBut wsX11_upBut) := goodIn_app (goodIn_of _ (by decide +kernel)) ggX11_peak_X11_upBut
set_option maxRecDepth 20000 in
theorem ggX11_peak_X11_setWaits : GoodIn wsX11_peak wsX11_setWaits := goodIn_r _ [34, 11, 35, 12, 13, 14, 5, 15, 16, 66, 67, 68, 69, 70, 71, 72, 73, 74, 75, 76, 77, 78, 79, 80, 81, 82, 83, 84, 85, 86, 87, 88, 89, 90, 91, 92, 93, 94, 95, 96, 97, 98, 99, 100, 101, 102, 103, 104, 105, 106, 107, 108, 109, 110, 111, 112, 113, 114, 115, 116, 117, 118, 119, 120, 121, 122, 123, 124] (by decide +kernel) (by decide +kernel)
set_option maxRecDepth 20000 in
theorem gX11_peak_X11_setWaits : GoodIn wsX11_peak (wsV RX11 334 RX11 yX11_setWaits wsX11_setWaits) := goodIn_app (goodIn_of _ (by decide +kernel)) ggX11_peak_X11_setWaits
set_option maxRecDepth 20000 in
theorem ggX11_peak_X11_setTimes : GoodIn wsX11_peak wsX11_setTimes := goodIn_r _ [39, 11, 40, 41, 12, 13, 14, 5, 15, 16, 66, 67, 68, 69, 70, 71, 72, 73, 74, 75, 76, 77, 78, 79, 80, 81, 82, 83, 84, 85, 86, 87, 88, 89, 90, 91, 92, 93, 94, 95, 96, 97, 98, 99, 100, 101, 102, 103, 104, 105, 106, 107, 108, 109, 110, 111, 112, 113, 114, 115, 116, 117, 118, 119, 120, 121, 122, 123, 124] (by decide +kernel) (by decide +kernel)
set_option maxRecDepth 20000 in
theorem gX11_peak_X11_setTimes : GoodIn wsX11_peak (wsV RX11 337 RX11 yX11_setTimes wsX11_setTimes) := goodIn_app (goodIn_of _ (by decide +kernel)) ggX11_peak_X11_setTimes
set_option maxRecDepth 20000 in
theorem ggX11_peak_X11_findTimes : GoodIn wsX11_peak wsX11_findTimes := goodIn_r _ [45, 46, 47, 48, 49, 11, 35, 40, 17, 18, 19, 5, 20, 21, 22, 23, 24, 25, 26, 27, 28, 29, 30, 66, 67, 68, 69, 70, 71, 72, 73, 74, 75, 76, 77, 78, 79, 80, 81, 82, 83, 84, 85, 86, 87, 88, 89, 90, 91, 92, 93, 94, 95, 96, 97, 98, 99, 100, 101, 102, 103, 104, 105, 106, 107, 108, 109, 110, 111, 112, 113, 114, 115, 116, 117, 118, 119, 120, 121, 122, 123, 124] (by decide +kernel) (by decide +kernel)
set_option maxRecDepth 20000 in
theorem gX11_peak_X11_findTimes : GoodIn wsX11_peak (wsV RX11 340 RX11 yX11_findTimes wsX11_findTimes) := goodIn_app (goodIn_of _ (by decide +kernel)) ggX11_peak_X11_findTimes
set_option maxRecDepth 20000 in
theorem ggX11_peak_X11_peakNow : GoodIn wsX11_peak wsX11_peakNow := goodIn_r _ [53, 2, 54, 55, 56, 5, 57, 11, 49, 47, 48, 35, 58, 59, 60, 61, 12, 13, 14, 15, 16, 66, 67, 68, 69, 70, 71, 72, 73, 74, 75, 76, 77, 78, 79, 80, 81, 82, 83, 84, 85, 86, 87, 88, 89, 90, 91, 92, 93, 94, 95, 96, 97, 98, 99, 100, 101, 102, 103, 104, 105, 106, 107, 108, 109, 110, 111, 112, 113, 114, 115, 116, 117, 118, 119, 120, 121, 122, 123, 124] (by decide +kernel) (by decide +kernel)
set_option maxRecDepth 20000 in
theorem gX11_peak_X11_peakNow : GoodIn wsX11_peak (wsV RX11 358 RX11 yX11_peakNow wsX11_peakNow) := goodIn_app (goodIn_of _ (by decide +kernel)) ggX11_peak_X11_peakNow
set_option maxRecDepth 20000 in
theorem ggX11_peak_X11_goesOn : GoodIn wsX11_peak wsX11_goesOn := goodIn_r _ [65, 11, 40, 12, 13, 14, 5, 15, 16, 66, 67, 68, 69, 70, 71, 72, 73, 74, 75, 76, 77, 78, 79, 80, 81, 82, 83, 84, 85, 86, 87, 88, 89, 90, 91, 92, 93, 94, 95, 96, 97, 98, 99, 100, 101, 102, 103, 104, 105, 106, 107, 108, 109, 110, 111, 112, 113, 114, 115, 116, 117, 118, 119, 120, 121, 122, 123, 124] (by decide +kernel) (by decide +kernel)
set_option maxRecDepth 20000 in
theorem gX11_peak_X11_goesOn : GoodIn wsX11_peak (wsV RX11 347 RX11 yX11_goesOn wsX11_goesOn) := goodIn_app (goodIn_of _ (by decide +kernel)) ggX11_peak_X11_goesOn
theorem dX11_peak_0 : decode cX11_peak 0 = .ok (.iload_n 1, 1) := by decide +kernel
theorem dX11_peak_1 : decode cX11_peak 1 = .ok (.i2l, 1) := by decide +kernel
theorem dX11_peak_2 : decode cX11_peak 2 = .ok (.lconst 0, 1) := by decide +kernel
theorem dX11_peak_3 : decode cX11_peak 3 = .ok (.ldc2_w 356, 3) := by decide +kernel
theorem dX11_peak_6 : decode cX11_peak 6 = .ok (.invokestatic 141, 3) := by decide +kernel
theorem dX11_peak_9 : decode cX11_peak 9 = .ok (.ifCond .ne 5, 3) := by decide +kernel
theorem dX11_peak_12 : decode cX11_peak 12 = .ok (.iconst (-1), 1) := by decide +kernel
theorem dX11_peak_13 : decode cX11_peak 13 = .ok (.ireturn, 1) := by decide +kernel
theorem dX11_peak_14 : decode cX11_peak 14 = .ok (.iload_n 1, 1) := by decide +kernel
theorem dX11_peak_15 : decode cX11_peak 15 = .ok (.iconst 1, 1) := by decide +kernel
theorem dX11_peak_16 : decode cX11_peak 16 = .ok (.if_icmp .le 16, 3) := by decide +kernel
theorem dX11_peak_19 : decode cX11_peak 19 = .ok (.aload_n 0, 1) := by decide +kernel
theorem dX11_peak_20 : decode cX11_peak 20 = .ok (.invokevirtual 343, 3) := by decide +kernel
theorem dX11_peak_23 : decode cX11_peak 23 = .ok (.sipush 20000, 3) := by decide +kernel
theorem dX11_peak_26 : decode cX11_peak 26 = .ok (.if_icmp .le 6, 3) := by decide +kernel
theorem dX11_peak_29 : decode cX11_peak 29 = .ok (.bipush (-2), 2) := by decide +kernel
theorem dX11_peak_31 : decode cX11_peak 31 = .ok (.ireturn, 1) := by decide +kernel
theorem dX11_peak_32 : decode cX11_peak 32 = .ok (.aload_n 0, 1) := by decide +kernel
theorem dX11_peak_33 : decode cX11_peak 33 = .ok (.aload_n 0, 1) := by decide +kernel
theorem dX11_peak_34 : decode cX11_peak 34 = .ok (.invokevirtual 324, 3) := by decide +kernel
theorem dX11_peak_37 : decode cX11_peak 37 = .ok (.invokevirtual 327, 3) := by decide +kernel
theorem dX11_peak_40 : decode cX11_peak 40 = .ok (.ifCond .ne 6, 3) := by decide +kernel
theorem dX11_peak_43 : decode cX11_peak 43 = .ok (.bipush (-4), 2) := by decide +kernel
theorem dX11_peak_45 : decode cX11_peak 45 = .ok (.ireturn, 1) := by decide +kernel
theorem dX11_peak_46 : decode cX11_peak 46 = .ok (.aload_n 0, 1) := by decide +kernel
theorem dX11_peak_47 : decode cX11_peak 47 = .ok (.invokevirtual 334, 3) := by decide +kernel
theorem dX11_peak_50 : decode cX11_peak 50 = .ok (.iload_n 1, 1) := by decide +kernel
theorem dX11_peak_51 : decode cX11_peak 51 = .ok (.iconst 2, 1) := by decide +kernel
theorem dX11_peak_52 : decode cX11_peak 52 = .ok (.if_icmp .ge 30, 3) := by decide +kernel
theorem dX11_peak_55 : decode cX11_peak 55 = .ok (.aload_n 0, 1) := by decide +kernel
theorem dX11_peak_56 : decode cX11_peak 56 = .ok (.iconst 0, 1) := by decide +kernel
theorem dX11_peak_57 : decode cX11_peak 57 = .ok (.invokevirtual 337, 3) := by decide +kernel
theorem dX11_peak_60 : decode cX11_peak 60 = .ok (.aload_n 0, 1) := by decide +kernel
theorem dX11_peak_61 : decode cX11_peak 61 = .ok (.invokevirtual 340, 3) := by decide +kernel
theorem dX11_peak_64 : decode cX11_peak 64 = .ok (.aload_n 0, 1) := by decide +kernel
theorem dX11_peak_65 : decode cX11_peak 65 = .ok (.invokevirtual 358, 3) := by decide +kernel
theorem dX11_peak_68 : decode cX11_peak 68 = .ok (.istore_n 2, 1) := by decide +kernel
theorem dX11_peak_69 : decode cX11_peak 69 = .ok (.iload_n 1, 1) := by decide +kernel
theorem dX11_peak_70 : decode cX11_peak 70 = .ok (.ifCond .ne 7, 3) := by decide +kernel
theorem dX11_peak_73 : decode cX11_peak 73 = .ok (.iload_n 2, 1) := by decide +kernel
theorem dX11_peak_74 : decode cX11_peak 74 = .ok (.goto 7, 3) := by decide +kernel
theorem dX11_peak_77 : decode cX11_peak 77 = .ok (.aload_n 0, 1) := by decide +kernel
theorem dX11_peak_78 : decode cX11_peak 78 = .ok (.getfield 353, 3) := by decide +kernel
theorem dX11_peak_81 : decode cX11_peak 81 = .ok (.ireturn, 1) := by decide +kernel
theorem dX11_peak_82 : decode cX11_peak 82 = .ok (.aload_n 0, 1) := by decide +kernel
theorem dX11_peak_83 : decode cX11_peak 83 = .ok (.iconst 1, 1) := by decide +kernel
theorem dX11_peak_84 : decode cX11_peak 84 = .ok (.invokevirtual 337, 3) := by decide +kernel
theorem dX11_peak_87 : decode cX11_peak 87 = .ok (.bipush (-4), 2) := by decide +kernel
theorem dX11_peak_89 : decode cX11_peak 89 = .ok (.istore_n 2, 1) := by decide +kernel
theorem dX11_peak_90 : decode cX11_peak 90 = .ok (.iconst 1, 1) := by decide +kernel
theorem dX11_peak_91 : decode cX11_peak 91 = .ok (.istore_n 3, 1) := by decide +kernel
theorem dX11_peak_92 : decode cX11_peak 92 = .ok (.iload_n 3, 1) := by decide +kernel
theorem dX11_peak_93 : decode cX11_peak 93 = .ok (.ifCond .eq 54, 3) := by decide +kernel
theorem dX11_peak_96 : decode cX11_peak 96 = .ok (.aload_n 0, 1) := by decide +kernel
theorem dX11_peak_97 : decode cX11_peak 97 = .ok (.invokevirtual 340, 3) := by decide +kernel
theorem dX11_peak_100 : decode cX11_peak 100 = .ok (.aload_n 0, 1) := by decide +kernel
theorem dX11_peak_101 : decode cX11_peak 101 = .ok (.invokevirtual 358, 3) := by decide +kernel
theorem dX11_peak_104 : decode cX11_peak 104 = .ok (.istore 4, 2) := by decide +kernel
theorem dX11_peak_106 : decode cX11_peak 106 = .ok (.iload_n 2, 1) := by decide +kernel
theorem dX11_peak_107 : decode cX11_peak 107 = .ok (.bipush (-4), 2) := by decide +kernel
theorem dX11_peak_109 : decode cX11_peak 109 = .ok (.if_icmp .eq 23, 3) := by decide +kernel
theorem dX11_peak_112 : decode cX11_peak 112 = .ok (.iload_n 1, 1) := by decide +kernel
theorem dX11_peak_113 : decode cX11_peak 113 = .ok (.iconst 2, 1) := by decide +kernel
theorem dX11_peak_114 : decode cX11_peak 114 = .ok (.if_icmp .ne 12, 3) := by decide +kernel
theorem dX11_peak_117 : decode cX11_peak 117 = .ok (.iload 4, 2) := by decide +kernel
theorem dX11_peak_119 : decode cX11_peak 119 = .ok (.iload_n 2, 1) := by decide +kernel
theorem dX11_peak_120 : decode cX11_peak 120 = .ok (.if_icmp .le 17, 3) := by decide +kernel
theorem dX11_peak_123 : decode cX11_peak 123 = .ok (.goto 9, 3) := by decide +kernel
theorem dX11_peak_126 : decode cX11_peak 126 = .ok (.iload 4, 2) := by decide +kernel
theorem dX11_peak_128 : decode cX11_peak 128 = .ok (.iload_n 2, 1) := by decide +kernel
theorem dX11_peak_129 : decode cX11_peak 129 = .ok (.if_icmp .ge 8, 3) := by decide +kernel
