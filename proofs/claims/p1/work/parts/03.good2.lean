set_option maxRecDepth 20000 in
theorem gX10_measured_X6_isLane : GoodIn wsX10_measured (va_wsS RX10 298 yX6_isLane wsX6_isLane) := goodIn_app (goodIn_of _ (by decide +kernel)) ggX10_measured_X6_isLane
set_option maxRecDepth 20000 in
theorem ggX10_count_J6_bitCount_0f7a4 : GoodIn wsX10_count wsJ6_bitCount_0f7a4 := goodIn_r _ [14, 15, 16, 17] (by decide +kernel) (by decide +kernel)
set_option maxRecDepth 20000 in
theorem gX10_count_J6_bitCount_0f7a4 : GoodIn wsX10_count (va_wsS RX10 281 yJ6_bitCount_0f7a4 wsJ6_bitCount_0f7a4) := goodIn_app (goodIn_of _ (by decide +kernel)) ggX10_count_J6_bitCount_0f7a4
set_option maxRecDepth 20000 in
theorem ggX10_count_X3_countWays : GoodIn wsX10_count wsX3_countWays := goodIn_r _ [22, 23, 24, 25, 26, 21, 27, 28, 39, 40, 41, 42, 43, 44] (by decide +kernel) (by decide +kernel)
set_option maxRecDepth 20000 in
theorem gX10_count_X3_countWays : GoodIn wsX10_count (wsV RX10 230 RX3 yX3_countWays wsX3_countWays) := goodIn_app (goodIn_of _ (by decide +kernel)) ggX10_count_X3_countWays
set_option maxRecDepth 20000 in
theorem ggX10_alive_X3_allRails : GoodIn wsX10_alive wsX3_allRails := goodIn_r _ [8, 9, 34, 35, 36, 37, 38, 39] (by decide +kernel) (by decide +kernel)
set_option maxRecDepth 20000 in
theorem gX10_alive_X3_allRails : GoodIn wsX10_alive (wsV RX10 120 RX3 yX3_allRails wsX3_allRails) := goodIn_app (goodIn_of _ (by decide +kernel)) ggX10_alive_X3_allRails
set_option maxRecDepth 20000 in
theorem ggX10_followTimes_X0_setWaits : GoodIn wsX10_followTimes wsX0_setWaits := goodIn_r _ [9, 10, 11, 12, 13, 14, 15, 16, 17, 87, 88, 89, 90, 91, 92, 93, 94, 95, 96, 97, 98, 99, 100, 101] (by decide +kernel) (by decide +kernel)
set_option maxRecDepth 20000 in
theorem gX10_followTimes_X0_setWaits : GoodIn wsX10_followTimes (wsV RX10 211 RX0 yX0_setWaits wsX0_setWaits) := goodIn_app (goodIn_of _ (by decide +kernel)) ggX10_followTimes_X0_setWaits
set_option maxRecDepth 20000 in
theorem ggX10_followTimes_X0_copyTakes : GoodIn wsX10_followTimes wsX0_copyTakes := goodIn_r _ [21, 22, 23, 24, 25, 26, 93, 94, 95, 96, 97, 98, 99, 100, 101] (by decide +kernel) (by decide +kernel)
set_option maxRecDepth 20000 in
theorem gX10_followTimes_X0_copyTakes : GoodIn wsX10_followTimes (wsV RX10 318 RX0 yX0_copyTakes wsX0_copyTakes) := goodIn_app (goodIn_of _ (by decide +kernel)) ggX10_followTimes_X0_copyTakes
set_option maxRecDepth 20000 in
theorem ggX10_followTimes_X10_alive : GoodIn wsX10_followTimes wsX10_alive := goodIn_r _ [31, 2, 3, 32, 33, 34, 35, 15, 36, 37, 63, 64, 65, 66, 67, 68, 69, 70, 71, 72, 73, 74, 75, 76, 77, 78, 79, 80, 81, 82, 83, 84, 85, 86, 87, 88, 89, 90, 91, 92] (by decide +kernel) (by decide +kernel)
set_option maxRecDepth 20000 in
theorem gX10_followTimes_X10_alive : GoodIn wsX10_followTimes (wsV RX10 218 RX10 yX10_alive wsX10_alive) := goodIn_app (goodIn_of _ (by decide +kernel)) ggX10_followTimes_X10_alive
set_option maxRecDepth 20000 in
theorem ggX10_followTimes_X0_follow : GoodIn wsX10_followTimes wsX0_follow := goodIn_r _ [41, 42, 43, 44, 45, 46, 47, 8, 48, 10, 49, 11, 22, 50, 51, 52, 15, 53, 54, 55, 56, 57, 58, 59, 60, 61, 62, 93, 94, 95, 96, 97, 98, 99, 100, 101, 87, 88, 89, 90, 91, 92] (by decide +kernel) (by decide +kernel)
set_option maxRecDepth 20000 in
theorem gX10_followTimes_X0_follow : GoodIn wsX10_followTimes (wsV RX10 221 RX0 yX0_follow wsX0_follow) := goodIn_app (goodIn_of _ (by decide +kernel)) ggX10_followTimes_X0_follow
set_option maxRecDepth 20000 in
theorem ggX10_forgetReckoned_X9_forget : GoodIn wsX10_forgetReckoned wsX9_forget := goodIn_r _ [8, 9, 10, 25, 26, 27, 28, 29, 30] (by decide +kernel) (by decide +kernel)
set_option maxRecDepth 20000 in
theorem gX10_forgetReckoned_X9_forget : GoodIn wsX10_forgetReckoned (wsV RX10 321 RX9 yX9_forget wsX9_forget) := goodIn_app (goodIn_of _ (by decide +kernel)) ggX10_forgetReckoned_X9_forget
set_option maxRecDepth 20000 in
theorem ggX11_init_X11_firstDraft : GoodIn wsX11_init wsX11_firstDraft := goodIn_r _ [37, 38, 39, 40, 41, 42, 43, 44, 69, 70, 71, 72, 73, 74, 75, 76, 77, 78, 79, 80, 81, 82, 83, 84, 85, 86, 87, 88, 89, 90, 91, 92, 93, 94, 95, 96, 97, 98, 99, 100, 101, 102, 103, 104, 105, 106, 107, 108, 109, 110, 111, 112, 113, 114, 115, 116, 117, 118, 119, 120, 121, 122, 123, 124, 125, 126, 127] (by decide +kernel) (by decide +kernel)
set_option maxRecDepth 20000 in
theorem gX11_init_X11_firstDraft : GoodIn wsX11_init (wsV RX11 92 RX11 yX11_firstDraft wsX11_firstDraft) := goodIn_app (goodIn_of _ (by decide +kernel)) ggX11_init_X11_firstDraft
set_option maxRecDepth 20000 in
theorem ggX11_init_X11_keepDraft : GoodIn wsX11_init wsX11_keepDraft := goodIn_r _ [48, 38, 49, 39, 50, 40, 51, 41, 52, 5, 9, 6, 10, 8, 11, 53, 54, 55, 36, 56, 57, 58, 59, 60, 61, 62, 63, 64, 18, 19, 20, 21, 22, 23, 65, 66, 67, 68, 69, 70, 71, 72, 73, 74, 75, 76, 77, 78, 79, 80, 81, 82, 83, 84, 85, 86, 87, 88, 89, 90, 91, 92, 93, 94, 95, 96, 97, 98, 99, 100, 101, 102, 103, 104, 105, 106, 107, 108, 109, 110, 111, 112, 113, 114, 115, 116, 117, 118, 119, 120, 121, 122, 123, 124, 125, 126, 127] (by decide +kernel) (by decide +kernel)
set_option maxRecDepth 20000 in
theorem gX11_init_X11_keepDraft : GoodIn wsX11_init (wsV RX11 95 RX11 yX11_keepDraft wsX11_keepDraft) := goodIn_app (goodIn_of _ (by decide +kernel)) ggX11_init_X11_keepDraft
set_option maxRecDepth 20000 in
theorem ggX11_keepDraft_X11_begins : GoodIn wsX11_keepDraft wsX11_begins := goodIn_r _ [19, 20, 21, 22, 6, 23, 24, 25, 26, 27, 28, 29, 30, 31, 32, 2, 33, 34, 35, 36, 18, 37, 9, 38, 39, 40, 41, 42, 43, 44, 45, 46, 47, 48, 49, 50, 51, 52, 53, 54, 55, 56, 57, 58, 59, 60, 61, 62, 63, 64, 65, 66, 67, 68, 69, 70, 71, 72, 73, 74, 75, 76, 77, 78, 79, 80, 81, 82, 83, 84, 85, 86, 87, 88, 89, 90, 91, 92, 93, 94, 95, 96] (by decide +kernel) (by decide +kernel)
set_option maxRecDepth 20000 in
theorem gX11_keepDraft_X11_begins : GoodIn wsX11_keepDraft (wsV RX11 133 RX11 yX11_begins wsX11_begins) := goodIn_app (goodIn_of _ (by decide +kernel)) ggX11_keepDraft_X11_begins
set_option maxRecDepth 20000 in
theorem ggX11_end_X11_in : GoodIn wsX11_end wsX11_in := goodIn_r _ [5] (by decide +kernel) (by decide +kernel)
set_option maxRecDepth 20000 in
theorem gX11_end_X11_in : GoodIn wsX11_end (va_wsS RX11 141 yX11_in wsX11_in) := goodIn_app (goodIn_of _ (by decide +kernel)) ggX11_end_X11_in
set_option maxRecDepth 20000 in
theorem ggX11_next_X11_look : GoodIn wsX11_next wsX11_look := goodIn_r _ [14, 15, 16, 25, 26, 27, 28, 29, 30, 31, 32, 33, 34, 35, 36, 37, 38, 39, 40, 41, 42, 43, 44, 45, 46, 47, 48, 49, 50, 51, 52, 53, 54, 55, 56, 57, 58, 59, 60, 61, 62, 63, 64, 65, 66, 67, 68, 69, 70, 71, 72, 73, 74, 75, 76, 77, 78, 79, 80, 81, 82, 83] (by decide +kernel) (by decide +kernel)
set_option maxRecDepth 20000 in
theorem gX11_next_X11_look : GoodIn wsX11_next (wsV RX11 157 RX11 yX11_look wsX11_look) := goodIn_app (goodIn_of _ (by decide +kernel)) ggX11_next_X11_look
set_option maxRecDepth 20000 in
theorem ggX11_text_X11_firstDraft : GoodIn wsX11_text wsX11_firstDraft := goodIn_r _ [14, 6, 15, 16, 17, 18, 19, 4, 145, 146, 147, 148, 149, 150, 151, 152, 153, 154, 155, 156, 157, 158, 159, 160, 161, 162, 163, 164, 165, 166, 167, 168, 169, 170, 171, 172, 173, 174, 175, 176, 177, 178, 179, 180, 181, 182, 183, 184, 185, 186, 187, 188, 189, 190, 191, 192, 193, 194, 195, 196, 197, 198, 199, 200, 201, 202, 203] (by decide +kernel) (by decide +kernel)
set_option maxRecDepth 20000 in
theorem gX11_text_X11_firstDraft : GoodIn wsX11_text (wsV RX11 92 RX11 yX11_firstDraft wsX11_firstDraft) := goodIn_app (goodIn_of _ (by decide +kernel)) ggX11_text_X11_firstDraft
set_option maxRecDepth 20000 in
theorem ggX11_text_X11_next : GoodIn wsX11_text wsX11_next := goodIn_r _ [23, 1, 2, 24, 3, 25, 26, 27, 28, 29, 30, 31, 32, 13, 33, 9, 34, 35, 36, 37, 38, 39, 40, 41, 8, 145, 146, 147, 148, 149, 150, 151, 152, 153, 154, 155, 156, 157, 158, 159, 160, 161, 162, 163, 164, 165, 166, 167, 168, 169, 170, 171, 172, 173, 174, 175, 176, 177, 178, 179, 180, 181, 182, 183, 184, 185, 186, 187, 188, 189, 190, 191, 192, 193, 194, 195, 196, 197, 198, 199, 200, 201, 202, 203] (by decide +kernel) (by decide +kernel)
set_option maxRecDepth 20000 in
theorem gX11_text_X11_next : GoodIn wsX11_text (wsV RX11 185 RX11 yX11_next wsX11_next) := goodIn_app (goodIn_of _ (by decide +kernel)) ggX11_text_X11_next
set_option maxRecDepth 20000 in
theorem ggX11_text_X11_keepDraft : GoodIn wsX11_text wsX11_keepDraft := goodIn_r _ [115, 6, 116, 15, 117, 16, 118, 17, 119, 120, 61, 121, 105, 122, 106, 123, 124, 125, 13, 126, 127, 128, 129, 130, 131, 132, 133, 134, 135, 136, 137, 138, 139, 140, 141, 142, 143, 144, 145, 146, 147, 148, 149, 150, 151, 152, 153, 154, 155, 156, 157, 158, 159, 160, 161, 162, 163, 164, 165, 166, 167, 168, 169, 170, 171, 172, 173, 174, 175, 176, 177, 178, 179, 180, 181, 182, 183, 184, 185, 186, 187, 188, 189, 190, 191, 192, 193, 194, 195, 196, 197, 198, 199, 200, 201, 202, 203] (by decide +kernel) (by decide +kernel)
set_option maxRecDepth 20000 in
theorem gX11_text_X11_keepDraft : GoodIn wsX11_text (wsV RX11 95 RX11 yX11_keepDraft wsX11_keepDraft) := goodIn_app (goodIn_of _ (by decide +kernel)) ggX11_text_X11_keepDraft
set_option maxRecDepth 20000 in
theorem ggX11_isRail_X11_in : GoodIn wsX11_isRail wsX11_in := goodIn_r _ [5] (by decide +kernel) (by decide +kernel)
set_option maxRecDepth 20000 in
theorem gX11_isRail_X11_in : GoodIn wsX11_isRail (va_wsS RX11 141 yX11_in wsX11_in) := goodIn_app (goodIn_of _ (by decide +kernel)) ggX11_isRail_X11_in
set_option maxRecDepth 20000 in
theorem ggX11_areRails_X11_in : GoodIn wsX11_areRails wsX11_in := goodIn_r _ [5] (by decide +kernel) (by decide +kernel)
set_option maxRecDepth 20000 in
theorem gX11_areRails_X11_in : GoodIn wsX11_areRails (va_wsS RX11 141 yX11_in wsX11_in) := goodIn_app (goodIn_of _ (by decide +kernel)) ggX11_areRails_X11_in
set_option maxRecDepth 20000 in
theorem ggX11_rail_X11_isRail : GoodIn wsX11_rail wsX11_isRail := goodIn_r _ [7, 8, 9, 10, 6, 11, 17, 18, 19, 20, 21, 22, 23, 24, 25, 26, 27, 28, 29, 30, 31, 32, 33, 34, 35, 36, 37, 38, 39, 40, 41, 42, 43, 44, 45, 46, 47, 48, 49, 50, 51, 52, 53, 54, 55, 56, 57, 58, 59, 60, 61, 62, 63, 64, 65, 66, 67, 68, 69, 70, 71, 72, 73, 74, 75] (by decide +kernel) (by decide +kernel)
set_option maxRecDepth 20000 in
theorem gX11_rail_X11_isRail : GoodIn wsX11_rail (wsV RX11 248 RX11 yX11_isRail wsX11_isRail) := goodIn_app (goodIn_of _ (by decide +kernel)) ggX11_rail_X11_isRail
set_option maxRecDepth 20000 in
theorem ggX11_holds_X11_isRail : GoodIn wsX11_holds wsX11_isRail := goodIn_r _ [6, 7, 8, 9, 5, 10, 19, 20, 21, 22, 23, 24, 25, 26, 27, 28, 29, 30, 31, 32, 33, 34, 35, 36, 37, 38, 39, 40, 41, 42, 43, 44, 45, 46, 47, 48, 49, 50, 51, 52, 53, 54, 55, 56, 57, 58, 59, 60, 61, 62, 63, 64, 65, 66, 67, 68, 69, 70, 71, 72, 73, 74, 75, 76, 77] (by decide +kernel) (by decide +kernel)
set_option maxRecDepth 20000 in
theorem gX11_holds_X11_isRail : GoodIn wsX11_holds (wsV RX11 248 RX11 yX11_isRail wsX11_isRail) := goodIn_app (goodIn_of _ (by decide +kernel)) ggX11_holds_X11_isRail
set_option maxRecDepth 20000 in
theorem ggX11_words_X11_isRail : GoodIn wsX11_words wsX11_isRail := goodIn_r _ [5, 6, 7, 8, 4, 9, 19, 20, 21, 22, 23, 24, 25, 26, 27, 28, 29, 30, 31, 32, 33, 34, 35, 36, 37, 38, 39, 40, 41, 42, 43, 44, 45, 46, 47, 48, 49, 50, 51, 52, 53, 54, 55, 56, 57, 58, 59, 60, 61, 62, 63, 64, 65, 66, 67, 68, 69, 70, 71, 72, 73, 74, 75, 76, 77] (by decide +kernel) (by decide +kernel)
set_option maxRecDepth 20000 in
theorem gX11_words_X11_isRail : GoodIn wsX11_words (wsV RX11 248 RX11 yX11_isRail wsX11_isRail) := goodIn_app (goodIn_of _ (by decide +kernel)) ggX11_words_X11_isRail
set_option maxRecDepth 20000 in
theorem ggX11_key_X11_flag : GoodIn wsX11_key wsX11_flag := goodIn_r _ [8] (by decide +kernel) (by decide +kernel)
set_option maxRecDepth 20000 in
theorem gX11_key_X11_flag : GoodIn wsX11_key (va_wsS RX11 260 yX11_flag wsX11_flag) := goodIn_app (goodIn_of _ (by decide +kernel)) ggX11_key_X11_flag
set_option maxRecDepth 20000 in
theorem ggX11_dead_X11_isRail : GoodIn wsX11_dead wsX11_isRail := goodIn_r _ [6, 7, 8, 9, 5, 10, 14, 15, 16, 17, 18, 19, 20, 21, 22, 23, 24, 25, 26, 27, 28, 29, 30, 31, 32, 33, 34, 35, 36, 37, 38, 39, 40, 41, 42, 43, 44, 45, 46, 47, 48, 49, 50, 51, 52, 53, 54, 55, 56, 57, 58, 59, 60, 61, 62, 63, 64, 65, 66, 67, 68, 69, 70, 71, 72] (by decide +kernel) (by decide +kernel)
set_option maxRecDepth 20000 in
theorem gX11_dead_X11_isRail : GoodIn wsX11_dead (wsV RX11 248 RX11 yX11_isRail wsX11_isRail) := goodIn_app (goodIn_of _ (by decide +kernel)) ggX11_dead_X11_isRail
set_option maxRecDepth 20000 in
theorem ggX11_time_X11_isRail : GoodIn wsX11_time wsX11_isRail := goodIn_r _ [6, 7, 8, 9, 5, 10, 16, 17, 18, 19, 20, 21, 22, 23, 24, 25, 26, 27, 28, 29, 30, 31, 32, 33, 34, 35, 36, 37, 38, 39, 40, 41, 42, 43, 44, 45, 46, 47, 48, 49, 50, 51, 52, 53, 54, 55, 56, 57, 58, 59, 60, 61, 62, 63, 64, 65, 66, 67, 68, 69, 70, 71, 72, 73, 74] (by decide +kernel) (by decide +kernel)
set_option maxRecDepth 20000 in
theorem gX11_time_X11_isRail : GoodIn wsX11_time (wsV RX11 248 RX11 yX11_isRail wsX11_isRail) := goodIn_app (goodIn_of _ (by decide +kernel)) ggX11_time_X11_isRail
set_option maxRecDepth 20000 in
theorem ggX11_round_X11_allIn : GoodIn wsX11_round wsX11_allIn := goodIn_r _ [12, 2, 4, 36, 37, 38, 39, 40, 41, 42, 43, 44, 45, 46, 47, 48, 49, 50, 51, 52, 53, 54, 55, 56, 57, 58, 59, 60, 61, 62, 63, 64, 65, 66, 67, 68, 69, 70, 71, 72, 73, 74, 75, 76, 77, 78, 79, 80, 81, 82, 83, 84, 85, 86, 87, 88, 89, 90, 91, 92, 93, 94] (by decide +kernel) (by decide +kernel)
set_option maxRecDepth 20000 in
theorem gX11_round_X11_allIn : GoodIn wsX11_round (wsV RX11 291 RX11 yX11_allIn wsX11_allIn) := goodIn_app (goodIn_of _ (by decide +kernel)) ggX11_round_X11_allIn
set_option maxRecDepth 20000 in
theorem ggX11_settles_X11_round : GoodIn wsX11_settles wsX11_round := goodIn_r _ [5, 6, 7, 8, 9, 10, 11, 12, 13, 14, 15, 4, 16, 17, 18, 19, 20, 21, 22, 23, 24, 25, 26, 27, 28, 29, 30, 31, 32, 33, 34, 35, 36, 37, 38, 39, 40, 41, 42, 43, 44, 45, 46, 47, 48, 49, 50, 51, 52, 53, 54, 55, 56, 57, 58, 59, 60, 61, 62, 63, 64, 65, 66, 67, 68, 69, 70, 71, 72, 73, 74, 75, 76, 77, 78, 79, 80, 81, 82, 83, 84, 85, 86, 87, 88, 89, 90, 91, 92, 93, 94, 95, 96, 97, 98] (by decide +kernel) (by decide +kernel)
set_option maxRecDepth 20000 in
theorem gX11_settles_X11_round : GoodIn wsX11_settles (wsV RX11 302 RX11 yX11_round wsX11_round) := goodIn_app (goodIn_of _ (by decide +kernel)) ggX11_settles_X11_round
set_option maxRecDepth 20000 in
theorem ggX11_aTick_X11_settles : GoodIn wsX11_aTick wsX11_settles := goodIn_r _ [15, 16, 17, 18, 14, 19, 20, 7, 6, 21, 8, 9, 22, 23, 24, 25, 26, 27, 28, 29, 30, 31, 32, 33, 34, 35, 36, 37, 38, 39, 40, 41, 42, 43, 44, 45, 46, 47, 48, 10, 58, 59, 60, 61, 62, 63, 64, 65, 66, 67, 68, 69, 70, 71, 72, 73, 74, 75, 76, 77, 78, 79, 80, 81, 82, 83, 84, 85, 86, 87, 88, 89, 90, 91, 92, 93, 94, 95, 96, 97, 98, 99, 100, 101, 102, 103, 104, 105, 106, 107, 108, 109, 110, 111, 112, 113, 114, 115, 116] (by decide +kernel) (by decide +kernel)
set_option maxRecDepth 20000 in
theorem gX11_aTick_X11_settles : GoodIn wsX11_aTick (wsV RX11 306 RX11 yX11_settles wsX11_settles) := goodIn_app (goodIn_of _ (by decide +kernel)) ggX11_aTick_X11_settles
set_option maxRecDepth 20000 in
theorem ggX11_aTick_X11_allIn : GoodIn wsX11_aTick wsX11_allIn := goodIn_r _ [26, 7, 21, 58, 59, 60, 61, 62, 63, 64, 65, 66, 67, 68, 69, 70, 71, 72, 73, 74, 75, 76, 77, 78, 79, 80, 81, 82, 83, 84, 85, 86, 87, 88, 89, 90, 91, 92, 93, 94, 95, 96, 97, 98, 99, 100, 101, 102, 103, 104, 105, 106, 107, 108, 109, 110, 111, 112, 113, 114, 115, 116] (by decide +kernel) (by decide +kernel)
set_option maxRecDepth 20000 in
theorem gX11_aTick_X11_allIn : GoodIn wsX11_aTick (wsV RX11 291 RX11 yX11_allIn wsX11_allIn) := goodIn_app (goodIn_of _ (by decide +kernel)) ggX11_aTick_X11_allIn
set_option maxRecDepth 20000 in
theorem ggX11_aTick_X11_drawnOf : GoodIn wsX11_aTick wsX11_drawnOf := goodIn_r _ [52, 7, 38, 39, 40, 14, 41, 42, 58, 59, 60, 61, 62, 63, 64, 65, 66, 67, 68, 69, 70, 71, 72, 73, 74, 75, 76, 77, 78, 79, 80, 81, 82, 83, 84, 85, 86, 87, 88, 89, 90, 91, 92, 93, 94, 95, 96, 97, 98, 99, 100, 101, 102, 103, 104, 105, 106, 107, 108, 109, 110, 111, 112, 113, 114, 115, 116] (by decide +kernel) (by decide +kernel)
set_option maxRecDepth 20000 in
theorem gX11_aTick_X11_drawnOf : GoodIn wsX11_aTick (wsV RX11 309 RX11 yX11_drawnOf wsX11_drawnOf) := goodIn_app (goodIn_of _ (by decide +kernel)) ggX11_aTick_X11_drawnOf
set_option maxRecDepth 20000 in
theorem ggX11_aTick_X11_tripNow : GoodIn wsX11_aTick wsX11_tripNow := goodIn_r _ [56, 7, 21, 9, 1, 57, 38, 39, 40, 14, 41, 42, 58, 59, 60, 61, 62, 63, 64, 65, 66, 67, 68, 69, 70, 71, 72, 73, 74, 75, 76, 77, 78, 79, 80, 81, 82, 83, 84, 85, 86, 87, 88, 89, 90, 91, 92, 93, 94, 95, 96, 97, 98, 99, 100, 101, 102, 103, 104, 105, 106, 107, 108, 109, 110, 111, 112, 113, 114, 115, 116] (by decide +kernel) (by decide +kernel)
set_option maxRecDepth 20000 in
theorem gX11_aTick_X11_tripNow : GoodIn wsX11_aTick (wsV RX11 312 RX11 yX11_tripNow wsX11_tripNow) := goodIn_app (goodIn_of _ (by decide +kernel)) ggX11_aTick_X11_tripNow
set_option maxRecDepth 20000 in
theorem ggX11_go_X11_in : GoodIn wsX11_go wsX11_in := goodIn_r _ [6] (by decide +kernel) (by decide +kernel)
set_option maxRecDepth 20000 in
theorem gX11_go_X11_in : GoodIn wsX11_go (va_wsS RX11 141 yX11_in wsX11_in) := goodIn_app (goodIn_of _ (by decide +kernel)) ggX11_go_X11_in
set_option maxRecDepth 20000 in
theorem ggX11_go_X11_aTick : GoodIn wsX11_go wsX11_aTick := goodIn_r _ [10, 11, 12, 2, 13, 14, 15, 16, 17, 18, 19, 20, 21, 22, 5, 23, 24, 25, 26, 27, 28, 29, 30, 31, 32, 33, 34, 35, 36, 37, 38, 39, 40, 41, 42, 43, 44, 45, 46, 47, 48, 49, 50, 51, 52, 53, 54, 55, 56, 57, 58, 59, 60, 61, 62, 63, 64, 65, 66, 67, 68, 69, 70, 71, 72, 73, 74, 75, 76, 77, 78, 79, 80, 81, 82, 83, 84, 85, 86, 87, 88, 89, 90, 91, 92, 93, 94, 95, 96, 97, 98, 99, 100, 101, 102, 103, 104, 105, 106, 107, 108, 109, 110, 111, 112, 113, 114, 115, 116, 117, 118, 119, 120, 121, 122, 123, 124] (by decide +kernel) (by decide +kernel)
set_option maxRecDepth 20000 in
theorem gX11_go_X11_aTick : GoodIn wsX11_go (wsV RX11 317 RX11 yX11_aTick wsX11_aTick) := goodIn_app (goodIn_of _ (by decide +kernel)) ggX11_go_X11_aTick
set_option maxRecDepth 20000 in
theorem ggX11_now_X11_allIn : GoodIn wsX11_now wsX11_allIn := goodIn_r _ [12, 13, 14, 18, 19, 20, 21, 22, 23, 24, 25, 26, 27, 28, 29, 30, 31, 32, 33, 34, 35, 36, 37, 38, 39, 40, 41, 42, 43, 44, 45, 46, 47, 48, 49, 50, 51, 52, 53, 54, 55, 56, 57, 58, 59, 60, 61, 62, 63, 64, 65, 66, 67, 68, 69, 70, 71, 72, 73, 74, 75, 76] (by decide +kernel) (by decide +kernel)
set_option maxRecDepth 20000 in
theorem gX11_now_X11_allIn : GoodIn wsX11_now (wsV RX11 291 RX11 yX11_allIn wsX11_allIn) := goodIn_app (goodIn_of _ (by decide +kernel)) ggX11_now_X11_allIn
set_option maxRecDepth 20000 in
theorem ggX11_now_X11_flag : GoodIn wsX11_now wsX11_flag := goodIn_r _ [17] (by decide +kernel) (by decide +kernel)
set_option maxRecDepth 20000 in
theorem gX11_now_X11_flag : GoodIn wsX11_now (va_wsS RX11 260 yX11_flag wsX11_flag) := goodIn_app (goodIn_of _ (by decide +kernel)) ggX11_now_X11_flag
set_option maxRecDepth 20000 in
theorem ggX11_is__X11_isRail : GoodIn wsX11_is_ wsX11_isRail := goodIn_r _ [11, 12, 13, 14, 10, 15, 19, 20, 21, 22, 23, 24, 25, 26, 27, 28, 29, 30, 31, 32, 33, 34, 35, 36, 37, 38, 39, 40, 41, 42, 43, 44, 45, 46, 47, 48, 49, 50, 51, 52, 53, 54, 55, 56, 57, 58, 59, 60, 61, 62, 63, 64, 65, 66, 67, 68, 69, 70, 71, 72, 73, 74, 75, 76, 77] (by decide +kernel) (by decide +kernel)
set_option maxRecDepth 20000 in
theorem gX11_is__X11_isRail : GoodIn wsX11_is_ (wsV RX11 248 RX11 yX11_isRail wsX11_isRail) := goodIn_app (goodIn_of _ (by decide +kernel)) ggX11_is__X11_isRail
set_option maxRecDepth 20000 in
theorem ggX11_happened_X11_in : GoodIn wsX11_happened wsX11_in := goodIn_r _ [7] (by decide +kernel) (by decide +kernel)
set_option maxRecDepth 20000 in
theorem gX11_happened_X11_in : GoodIn wsX11_happened (va_wsS RX11 141 yX11_in wsX11_in) := goodIn_app (goodIn_of _ (by decide +kernel)) ggX11_happened_X11_in
set_option maxRecDepth 20000 in
theorem ggX11_up_X11_in : GoodIn wsX11_up wsX11_in := goodIn_r _ [6] (by decide +kernel) (by decide +kernel)
set_option maxRecDepth 20000 in
theorem gX11_up_X11_in : GoodIn wsX11_up (va_wsS RX11 141 yX11_in wsX11_in) := goodIn_app (goodIn_of _ (by decide +kernel)) ggX11_up_X11_in
set_option maxRecDepth 20000 in
theorem ggX11_up_X11_deadOnes : GoodIn wsX11_up wsX11_deadOnes := goodIn_r _ [10, 2, 11, 21, 22, 23, 24, 25, 26, 27, 28, 29, 30, 31, 32, 33, 34, 35, 36, 37, 38, 39, 40, 41, 42, 43, 44, 45, 46, 47, 48, 49, 50, 51, 52, 53, 54, 55, 56, 57, 58, 59, 60, 61, 62, 63, 64, 65, 66, 67, 68, 69, 70, 71, 72, 73, 74, 75, 76, 77, 78, 79] (by decide +kernel) (by decide +kernel)
set_option maxRecDepth 20000 in
theorem gX11_up_X11_deadOnes : GoodIn wsX11_up (wsV RX11 324 RX11 yX11_deadOnes wsX11_deadOnes) := goodIn_app (goodIn_of _ (by decide +kernel)) ggX11_up_X11_deadOnes
set_option maxRecDepth 20000 in
theorem ggX11_up_X11_upBut : GoodIn wsX11_up wsX11_upBut := goodIn_r _ [15, 2, 16, 17, 18, 5, 19, 20, 21, 22, 23, 24, 25, 26, 27, 28, 29, 30, 31, 32, 33, 34, 35, 36, 37, 38, 39, 40, 41, 42, 43, 44, 45, 46, 47, 48, 49, 50, 51, 52, 53, 54, 55, 56, 57, 58, 59, 60, 61, 62, 63, 64, 65, 66, 67, 68, 69, 70, 71, 72, 73, 74, 75, 76, 77, 78, 79] (by decide +kernel) (by decide +kernel)
set_option maxRecDepth 20000 in
theorem gX11_up_X11_upBut : GoodIn wsX11_up (wsV RX11 327 RX11 yX11_upBut wsX11_upBut) := goodIn_app (goodIn_of _ (by decide +kernel)) ggX11_up_X11_upBut
set_option maxRecDepth 20000 in
theorem ggX11_findTimes_X11_deadOnes : GoodIn wsX11_findTimes wsX11_deadOnes := goodIn_r _ [12, 5, 13, 23, 24, 25, 26, 27, 28, 29, 30, 31, 32, 33, 34, 35, 36, 37, 38, 39, 40, 41, 42, 43, 44, 45, 46, 47, 48, 49, 50, 51, 52, 53, 54, 55, 56, 57, 58, 59, 60, 61, 62, 63, 64, 65, 66, 67, 68, 69, 70, 71, 72, 73, 74, 75, 76, 77, 78, 79, 80, 81] (by decide +kernel) (by decide +kernel)
set_option maxRecDepth 20000 in
theorem gX11_findTimes_X11_deadOnes : GoodIn wsX11_findTimes (wsV RX11 324 RX11 yX11_deadOnes wsX11_deadOnes) := goodIn_app (goodIn_of _ (by decide +kernel)) ggX11_findTimes_X11_deadOnes
set_option maxRecDepth 20000 in
theorem ggX11_findTimes_X11_upBut : GoodIn wsX11_findTimes wsX11_upBut := goodIn_r _ [17, 5, 18, 19, 20, 11, 21, 22, 23, 24, 25, 26, 27, 28, 29, 30, 31, 32, 33, 34, 35, 36, 37, 38, 39, 40, 41, 42, 43, 44, 45, 46, 47, 48, 49, 50, 51, 52, 53, 54, 55, 56, 57, 58, 59, 60, 61, 62, 63, 64, 65, 66, 67, 68, 69, 70, 71, 72, 73, 74, 75, 76, 77, 78, 79, 80, 81] (by decide +kernel) (by decide +kernel)
set_option maxRecDepth 20000 in
theorem gX11_findTimes_X11_upBut : GoodIn wsX11_findTimes (wsV RX11 327 RX11 yX11_upBut wsX11_upBut) := goodIn_app (goodIn_of _ (by decide +kernel)) ggX11_findTimes_X11_upBut
set_option maxRecDepth 20000 in
theorem ggX11_when_X11_isRail : GoodIn wsX11_when wsX11_isRail := goodIn_r _ [8, 9, 10, 11, 7, 12, 49, 50, 51, 52, 53, 54, 55, 56, 57, 58, 59, 60, 61, 62, 63, 64, 65, 66, 67, 68, 69, 70, 71, 72, 73, 74, 75, 76, 77, 78, 79, 80, 81, 82, 83, 84, 85, 86, 87, 88, 89, 90, 91, 92, 93, 94, 95, 96, 97, 98, 99, 100, 101, 102, 103, 104, 105, 106, 107] (by decide +kernel) (by decide +kernel)
set_option maxRecDepth 20000 in
theorem gX11_when_X11_isRail : GoodIn wsX11_when (wsV RX11 248 RX11 yX11_isRail wsX11_isRail) := goodIn_app (goodIn_of _ (by decide +kernel)) ggX11_when_X11_isRail
set_option maxRecDepth 20000 in
theorem ggX11_ahead_X11_isRail : GoodIn wsX11_ahead wsX11_isRail := goodIn_r _ [7, 8, 9, 10, 6, 11, 57, 58, 59, 60, 61, 62, 63, 64, 65, 66, 67, 68, 69, 70, 71, 72, 73, 74, 75, 76, 77, 78, 79, 80, 81, 82, 83, 84, 85, 86, 87, 88, 89, 90, 91, 92, 93, 94, 95, 96, 97, 98, 99, 100, 101, 102, 103, 104, 105, 106, 107, 108, 109, 110, 111, 112, 113, 114, 115] (by decide +kernel) (by decide +kernel)
set_option maxRecDepth 20000 in
theorem gX11_ahead_X11_isRail : GoodIn wsX11_ahead (wsV RX11 248 RX11 yX11_isRail wsX11_isRail) := goodIn_app (goodIn_of _ (by decide +kernel)) ggX11_ahead_X11_isRail
set_option maxRecDepth 20000 in
theorem ggX11_drawnAt_X11_drawnOf : GoodIn wsX11_drawnAt wsX11_drawnOf := goodIn_r _ [10, 1, 11, 12, 13, 9, 14, 15, 16, 17, 18, 19, 20, 21, 22, 23, 24, 25, 26, 27, 28, 29, 30, 31, 32, 33, 34, 35, 36, 37, 38, 39, 40, 41, 42, 43, 44, 45, 46, 47, 48, 49, 50, 51, 52, 53, 54, 55, 56, 57, 58, 59, 60, 61, 62, 63, 64, 65, 66, 67, 68, 69, 70, 71, 72, 73, 74] (by decide +kernel) (by decide +kernel)
set_option maxRecDepth 20000 in
theorem gX11_drawnAt_X11_drawnOf : GoodIn wsX11_drawnAt (wsV RX11 309 RX11 yX11_drawnOf wsX11_drawnOf) := goodIn_app (goodIn_of _ (by decide +kernel)) ggX11_drawnAt_X11_drawnOf
set_option maxRecDepth 20000 in
theorem ggX11_drawn_X11_in : GoodIn wsX11_drawn wsX11_in := goodIn_r _ [5] (by decide +kernel) (by decide +kernel)
set_option maxRecDepth 20000 in
theorem gX11_drawn_X11_in : GoodIn wsX11_drawn (va_wsS RX11 141 yX11_in wsX11_in) := goodIn_app (goodIn_of _ (by decide +kernel)) ggX11_drawn_X11_in
set_option maxRecDepth 20000 in
theorem ggX11_drawn_X11_setWaits : GoodIn wsX11_drawn wsX11_setWaits := goodIn_r _ [9, 10, 11, 12, 13, 14, 4, 15, 16, 53, 54, 55, 56, 57, 58, 59, 60, 61, 62, 63, 64, 65, 66, 67, 68, 69, 70, 71, 72, 73, 74, 75, 76, 77, 78, 79, 80, 81, 82, 83, 84, 85, 86, 87, 88, 89, 90, 91, 92, 93, 94, 95, 96, 97, 98, 99, 100, 101, 102, 103, 104, 105, 106, 107, 108, 109, 110, 111] (by decide +kernel) (by decide +kernel)
set_option maxRecDepth 20000 in
theorem gX11_drawn_X11_setWaits : GoodIn wsX11_drawn (wsV RX11 334 RX11 yX11_setWaits wsX11_setWaits) := goodIn_app (goodIn_of _ (by decide +kernel)) ggX11_drawn_X11_setWaits
set_option maxRecDepth 20000 in
theorem ggX11_drawn_X11_setTimes : GoodIn wsX11_drawn wsX11_setTimes := goodIn_r _ [20, 10, 21, 22, 12, 13, 14, 4, 15, 16, 53, 54, 55, 56, 57, 58, 59, 60, 61, 62, 63, 64, 65, 66, 67, 68, 69, 70, 71, 72, 73, 74, 75, 76, 77, 78, 79, 80, 81, 82, 83, 84, 85, 86, 87, 88, 89, 90, 91, 92, 93, 94, 95, 96, 97, 98, 99, 100, 101, 102, 103, 104, 105, 106, 107, 108, 109, 110, 111] (by decide +kernel) (by decide +kernel)
set_option maxRecDepth 20000 in
theorem gX11_drawn_X11_setTimes : GoodIn wsX11_drawn (wsV RX11 337 RX11 yX11_setTimes wsX11_setTimes) := goodIn_app (goodIn_of _ (by decide +kernel)) ggX11_drawn_X11_setTimes
set_option maxRecDepth 20000 in
theorem ggX11_drawn_X11_findTimes : GoodIn wsX11_drawn wsX11_findTimes := goodIn_r _ [26, 27, 28, 29, 30, 10, 11, 21, 31, 32, 33, 4, 34, 35, 36, 37, 38, 39, 40, 41, 42, 43, 44, 53, 54, 55, 56, 57, 58, 59, 60, 61, 62, 63, 64, 65, 66, 67, 68, 69, 70, 71, 72, 73, 74, 75, 76, 77, 78, 79, 80, 81, 82, 83, 84, 85, 86, 87, 88, 89, 90, 91, 92, 93, 94, 95, 96, 97, 98, 99, 100, 101, 102, 103, 104, 105, 106, 107, 108, 109, 110, 111] (by decide +kernel) (by decide +kernel)
set_option maxRecDepth 20000 in
theorem gX11_drawn_X11_findTimes : GoodIn wsX11_drawn (wsV RX11 340 RX11 yX11_findTimes wsX11_findTimes) := goodIn_app (goodIn_of _ (by decide +kernel)) ggX11_drawn_X11_findTimes
set_option maxRecDepth 20000 in
theorem ggX11_drawn_X11_drawnAt : GoodIn wsX11_drawn wsX11_drawnAt := goodIn_r _ [48, 10, 30, 28, 29, 11, 49, 50, 51, 4, 52, 12, 13, 14, 15, 16, 53, 54, 55, 56, 57, 58, 59, 60, 61, 62, 63, 64, 65, 66, 67, 68, 69, 70, 71, 72, 73, 74, 75, 76, 77, 78, 79, 80, 81, 82, 83, 84, 85, 86, 87, 88, 89, 90, 91, 92, 93, 94, 95, 96, 97, 98, 99, 100, 101, 102, 103, 104, 105, 106, 107, 108, 109, 110, 111] (by decide +kernel) (by decide +kernel)
set_option maxRecDepth 20000 in
theorem gX11_drawn_X11_drawnAt : GoodIn wsX11_drawn (wsV RX11 350 RX11 yX11_drawnAt wsX11_drawnAt) := goodIn_app (goodIn_of _ (by decide +kernel)) ggX11_drawn_X11_drawnAt
set_option maxRecDepth 20000 in
theorem ggX11_peak_X11_in : GoodIn wsX11_peak wsX11_in := goodIn_r _ [6] (by decide +kernel) (by decide +kernel)
set_option maxRecDepth 20000 in
theorem gX11_peak_X11_in : GoodIn wsX11_peak (va_wsS RX11 141 yX11_in wsX11_in) := goodIn_app (goodIn_of _ (by decide +kernel)) ggX11_peak_X11_in
set_option maxRecDepth 20000 in
theorem ggX11_peak_X11_ways : GoodIn wsX11_peak wsX11_ways := goodIn_r _ [10, 11, 12, 13, 14, 5, 15, 16, 66, 67, 68, 69, 70, 71, 72, 73, 74, 75, 76, 77, 78, 79, 80, 81, 82, 83, 84, 85, 86, 87, 88, 89, 90, 91, 92, 93, 94, 95, 96, 97, 98, 99, 100, 101, 102, 103, 104, 105, 106, 107, 108, 109, 110, 111, 112, 113, 114, 115, 116, 117, 118, 119, 120, 121, 122, 123, 124] (by decide +kernel) (by decide +kernel)
set_option maxRecDepth 20000 in
theorem gX11_peak_X11_ways : GoodIn wsX11_peak (wsV RX11 343 RX11 yX11_ways wsX11_ways) := goodIn_app (goodIn_of _ (by decide +kernel)) ggX11_peak_X11_ways
set_option maxRecDepth 20000 in
theorem ggX11_peak_X11_deadOnes : GoodIn wsX11_peak wsX11_deadOnes := goodIn_r _ [20, 11, 21, 66, 67, 68, 69, 70, 71, 72, 73, 74, 75, 76, 77, 78, 79, 80, 81, 82, 83, 84, 85, 86, 87, 88, 89, 90, 91, 92, 93, 94, 95, 96, 97, 98, 99, 100, 101, 102, 103, 104, 105, 106, 107, 108, 109, 110, 111, 112, 113, 114, 115, 116, 117, 118, 119, 120, 121, 122, 123, 124] (by decide +kernel) (by decide +kernel)
set_option maxRecDepth 20000 in
theorem gX11_peak_X11_deadOnes : GoodIn wsX11_peak (wsV RX11 324 RX11 yX11_deadOnes wsX11_deadOnes) := goodIn_app (goodIn_of _ (by decide +kernel)) ggX11_peak_X11_deadOnes
set_option maxRecDepth 20000 in
theorem ggX11_peak_X11_upBut : GoodIn wsX11_peak wsX11_upBut := goodIn_r _ [25, 11, 26, 27, 28, 5, 29, 30, 66, 67, 68, 69, 70, 71, 72, 73, 74, 75, 76, 77, 78, 79, 80, 81, 82, 83, 84, 85, 86, 87, 88, 89, 90, 91, 92, 93, 94, 95, 96, 97, 98, 99, 100, 101, 102, 103, 104, 105, 106, 107, 108, 109, 110, 111, 112, 113, 114, 115, 116, 117, 118, 119, 120, 121, 122, 123, 124] (by decide +kernel) (by decide +kernel)
set_option maxRecDepth 20000 in
theorem gX11_peak_X11_upBut : GoodIn wsX11_peak (wsV RX11 327 RX11 yX11_upBut wsX11_upBut) := goodIn_app (goodIn_of _ (by decide +kernel)) ggX11_peak_X11_upBut
set_option maxRecDepth 20000 in
theorem ggX11_findStagger_X11_setTimes : GoodIn wsX11_findStagger wsX11_setTimes := goodIn_r _ [10, 2, 11, 12, 13, 14, 15, 9, 16, 17, 57, 58, 59, 60, 61, 62, 63, 64, 65, 66, 67, 68, 69, 70, 71, 72, 73, 74, 75, 76, 77, 78, 79, 80, 81, 82, 83, 84, 85, 86, 87, 88, 89, 90, 91, 92, 93, 94, 95, 96, 97, 98, 99, 100, 101, 102, 103, 104, 105, 106, 107, 108, 109, 110, 111, 112, 113, 114, 115] (by decide +kernel) (by decide +kernel)
set_option maxRecDepth 20000 in
theorem gX11_findStagger_X11_setTimes : GoodIn wsX11_findStagger (wsV RX11 337 RX11 yX11_setTimes wsX11_setTimes) := goodIn_app (goodIn_of _ (by decide +kernel)) ggX11_findStagger_X11_setTimes
set_option maxRecDepth 20000 in
theorem ggX11_findStagger_X11_findTimes : GoodIn wsX11_findStagger wsX11_findTimes := goodIn_r _ [21, 22, 23, 24, 25, 2, 3, 11, 26, 27, 28, 9, 29, 30, 31, 32, 33, 34, 35, 36, 37, 38, 39, 57, 58, 59, 60, 61, 62, 63, 64, 65, 66, 67, 68, 69, 70, 71, 72, 73, 74, 75, 76, 77, 78, 79, 80, 81, 82, 83, 84, 85, 86, 87, 88, 89, 90, 91, 92, 93, 94, 95, 96, 97, 98, 99, 100, 101, 102, 103, 104, 105, 106, 107, 108, 109, 110, 111, 112, 113, 114, 115] (by decide +kernel) (by decide +kernel)
set_option maxRecDepth 20000 in
theorem gX11_findStagger_X11_findTimes : GoodIn wsX11_findStagger (wsV RX11 340 RX11 yX11_findTimes wsX11_findTimes) := goodIn_app (goodIn_of _ (by decide +kernel)) ggX11_findStagger_X11_findTimes
set_option maxRecDepth 20000 in
theorem ggX11_findStagger_X11_lastGood : GoodIn wsX11_findStagger wsX11_lastGood := goodIn_r _ [43, 2, 25, 24, 57, 58, 59, 60, 61, 62, 63, 64, 65, 66, 67, 68, 69, 70, 71, 72, 73, 74, 75, 76, 77, 78, 79, 80, 81, 82, 83, 84, 85, 86, 87, 88, 89, 90, 91, 92, 93, 94, 95, 96, 97, 98, 99, 100, 101, 102, 103, 104, 105, 106, 107, 108, 109, 110, 111, 112, 113, 114, 115] (by decide +kernel) (by decide +kernel)
set_option maxRecDepth 20000 in
theorem gX11_findStagger_X11_lastGood : GoodIn wsX11_findStagger (wsV RX11 364 RX11 yX11_lastGood wsX11_lastGood) := goodIn_app (goodIn_of _ (by decide +kernel)) ggX11_findStagger_X11_lastGood
set_option maxRecDepth 20000 in
theorem ggX11_stagger_X11_in : GoodIn wsX11_stagger wsX11_in := goodIn_r _ [8] (by decide +kernel) (by decide +kernel)
set_option maxRecDepth 20000 in
theorem gX11_stagger_X11_in : GoodIn wsX11_stagger (va_wsS RX11 141 yX11_in wsX11_in) := goodIn_app (goodIn_of _ (by decide +kernel)) ggX11_stagger_X11_in
set_option maxRecDepth 20000 in
theorem ggX11_stagger_X11_findStagger : GoodIn wsX11_stagger wsX11_findStagger := goodIn_r _ [12, 3, 2, 13, 14, 4, 15, 16, 17, 7, 18, 19, 20, 21, 22, 23, 24, 25, 26, 27, 28, 29, 30, 31, 32, 33, 34, 35, 36, 37, 38, 39, 40, 41, 42, 43, 44, 45, 46, 47, 48, 49, 50, 51, 52, 53, 54, 55, 56, 57, 58, 59, 60, 61, 62, 63, 64, 65, 66, 67, 68, 69, 70, 71, 72, 73, 74, 75, 76, 77, 78, 79, 80, 81, 82, 83, 84, 85, 86, 87, 88, 89, 90, 91, 92, 93, 94, 95, 96, 97, 98, 99, 100, 101, 102, 103, 104, 105, 106, 107, 108, 109, 110, 111, 112, 113, 114, 115, 116, 117, 118, 119, 120, 121, 122, 123] (by decide +kernel) (by decide +kernel)
set_option maxRecDepth 20000 in
theorem gX11_stagger_X11_findStagger : GoodIn wsX11_stagger (wsV RX11 369 RX11 yX11_findStagger wsX11_findStagger) := goodIn_app (goodIn_of _ (by decide +kernel)) ggX11_stagger_X11_findStagger
set_option maxRecDepth 20000 in
theorem ggX11_adopt_X11_findStagger : GoodIn wsX11_adopt wsX11_findStagger := goodIn_r _ [9, 2, 1, 10, 11, 4, 12, 13, 14, 8, 15, 16, 17, 18, 19, 20, 21, 3, 22, 23, 24, 25, 26, 27, 28, 29, 30, 31, 32, 33, 34, 35, 36, 37, 38, 39, 40, 41, 42, 43, 44, 45, 46, 47, 48, 49, 50, 51, 52, 53, 54, 55, 56, 57, 58, 59, 60, 61, 62, 63, 64, 65, 66, 67, 68, 69, 70, 71, 72, 73, 74, 75, 76, 77, 78, 79, 80, 81, 82, 83, 84, 85, 86, 87, 88, 89, 90, 91, 92, 93, 94, 95, 96, 97, 98, 99, 100, 101, 102, 103, 104, 105, 106, 107, 108, 109, 110, 111, 112, 113, 114, 115, 116, 117, 118, 119] (by decide +kernel) (by decide +kernel)
set_option maxRecDepth 20000 in
theorem gX11_adopt_X11_findStagger : GoodIn wsX11_adopt (wsV RX11 369 RX11 yX11_findStagger wsX11_findStagger) := goodIn_app (goodIn_of _ (by decide +kernel)) ggX11_adopt_X11_findStagger
set_option maxRecDepth 20000 in
theorem ggX11_down_X11_areRails : GoodIn wsX11_down wsX11_areRails := goodIn_r _ [5, 6, 7, 8, 4, 9, 24, 25, 26, 27, 28, 29, 30, 31, 32, 33, 34, 35, 36, 37, 38, 39, 40, 41, 42, 43, 44, 45, 46, 47, 48, 49, 50, 51, 52, 53, 54, 55, 56, 57, 58, 59, 60, 61, 62, 63, 64, 65, 66, 67, 68, 69, 70, 71, 72, 73, 74, 75, 76, 77, 78, 79, 80, 81, 82] (by decide +kernel) (by decide +kernel)
set_option maxRecDepth 20000 in
theorem gX11_down_X11_areRails : GoodIn wsX11_down (wsV RX11 372 RX11 yX11_areRails wsX11_areRails) := goodIn_app (goodIn_of _ (by decide +kernel)) ggX11_down_X11_areRails
set_option maxRecDepth 20000 in
theorem ggX11_down_X11_deadOnes : GoodIn wsX11_down wsX11_deadOnes := goodIn_r _ [13, 6, 14, 24, 25, 26, 27, 28, 29, 30, 31, 32, 33, 34, 35, 36, 37, 38, 39, 40, 41, 42, 43, 44, 45, 46, 47, 48, 49, 50, 51, 52, 53, 54, 55, 56, 57, 58, 59, 60, 61, 62, 63, 64, 65, 66, 67, 68, 69, 70, 71, 72, 73, 74, 75, 76, 77, 78, 79, 80, 81, 82] (by decide +kernel) (by decide +kernel)
set_option maxRecDepth 20000 in
theorem gX11_down_X11_deadOnes : GoodIn wsX11_down (wsV RX11 324 RX11 yX11_deadOnes wsX11_deadOnes) := goodIn_app (goodIn_of _ (by decide +kernel)) ggX11_down_X11_deadOnes
set_option maxRecDepth 20000 in
theorem ggX11_down_X11_upBut : GoodIn wsX11_down wsX11_upBut := goodIn_r _ [18, 6, 19, 20, 21, 4, 22, 23, 24, 25, 26, 27, 28, 29, 30, 31, 32, 33, 34, 35, 36, 37, 38, 39, 40, 41, 42, 43, 44, 45, 46, 47, 48, 49, 50, 51, 52, 53, 54, 55, 56, 57, 58, 59, 60, 61, 62, 63, 64, 65, 66, 67, 68, 69, 70, 71, 72, 73, 74, 75, 76, 77, 78, 79, 80, 81, 82] (by decide +kernel) (by decide +kernel)
set_option maxRecDepth 20000 in
theorem gX11_down_X11_upBut : GoodIn wsX11_down (wsV RX11 327 RX11 yX11_upBut wsX11_upBut) := goodIn_app (goodIn_of _ (by decide +kernel)) ggX11_down_X11_upBut
set_option maxRecDepth 20000 in
theorem ggX11_cut_X11_isRail : GoodIn wsX11_cut wsX11_isRail := goodIn_r _ [6, 1, 7, 8, 5, 9, 31, 32, 33, 34, 35, 36, 37, 38, 39, 40, 41, 42, 43, 44, 45, 46, 47, 48, 49, 50, 51, 52, 53, 54, 55, 56, 57, 58, 59, 60, 61, 62, 63, 64, 65, 66, 67, 68, 69, 70, 71, 72, 73, 74, 75, 76, 77, 78, 79, 80, 81, 82, 83, 84, 85, 86, 87, 88, 89] (by decide +kernel) (by decide +kernel)
set_option maxRecDepth 20000 in
theorem gX11_cut_X11_isRail : GoodIn wsX11_cut (wsV RX11 248 RX11 yX11_isRail wsX11_isRail) := goodIn_app (goodIn_of _ (by decide +kernel)) ggX11_cut_X11_isRail
set_option maxRecDepth 20000 in
theorem ggX11_need_X11_isRail : GoodIn wsX11_need wsX11_isRail := goodIn_r _ [6, 1, 7, 8, 5, 9, 31, 32, 33, 34, 35, 36, 37, 38, 39, 40, 41, 42, 43, 44, 45, 46, 47, 48, 49, 50, 51, 52, 53, 54, 55, 56, 57, 58, 59, 60, 61, 62, 63, 64, 65, 66, 67, 68, 69, 70, 71, 72, 73, 74, 75, 76, 77, 78, 79, 80, 81, 82, 83, 84, 85, 86, 87, 88, 89] (by decide +kernel) (by decide +kernel)
set_option maxRecDepth 20000 in
theorem gX11_need_X11_isRail : GoodIn wsX11_need (wsV RX11 248 RX11 yX11_isRail wsX11_isRail) := goodIn_app (goodIn_of _ (by decide +kernel)) ggX11_need_X11_isRail
set_option maxRecDepth 20000 in
theorem ggX11_must_X11_isRail : GoodIn wsX11_must wsX11_isRail := goodIn_r _ [6, 1, 7, 8, 5, 9, 28, 29, 30, 31, 32, 33, 34, 35, 36, 37, 38, 39, 40, 41, 42, 43, 44, 45, 46, 47, 48, 49, 50, 51, 52, 53, 54, 55, 56, 57, 58, 59, 60, 61, 62, 63, 64, 65, 66, 67, 68, 69, 70, 71, 72, 73, 74, 75, 76, 77, 78, 79, 80, 81, 82, 83, 84, 85, 86] (by decide +kernel) (by decide +kernel)
set_option maxRecDepth 20000 in
theorem gX11_must_X11_isRail : GoodIn wsX11_must (wsV RX11 248 RX11 yX11_isRail wsX11_isRail) := goodIn_app (goodIn_of _ (by decide +kernel)) ggX11_must_X11_isRail
set_option maxRecDepth 20000 in
theorem ggX11_seen_X11_areRails : GoodIn wsX11_seen wsX11_areRails := goodIn_r _ [6, 1, 7, 8, 5, 9, 19, 20, 21, 22, 23, 24, 25, 26, 27, 28, 29, 30, 31, 32, 33, 34, 35, 36, 37, 38, 39, 40, 41, 42, 43, 44, 45, 46, 47, 48, 49, 50, 51, 52, 53, 54, 55, 56, 57, 58, 59, 60, 61, 62, 63, 64, 65, 66, 67, 68, 69, 70, 71, 72, 73, 74, 75, 76, 77] (by decide +kernel) (by decide +kernel)
set_option maxRecDepth 20000 in
theorem gX11_seen_X11_areRails : GoodIn wsX11_seen (wsV RX11 372 RX11 yX11_areRails wsX11_areRails) := goodIn_app (goodIn_of _ (by decide +kernel)) ggX11_seen_X11_areRails
set_option maxRecDepth 20000 in
theorem ggX11_seen_X11_upBut : GoodIn wsX11_seen wsX11_upBut := goodIn_r _ [13, 1, 14, 15, 16, 5, 17, 18, 19, 20, 21, 22, 23, 24, 25, 26, 27, 28, 29, 30, 31, 32, 33, 34, 35, 36, 37, 38, 39, 40, 41, 42, 43, 44, 45, 46, 47, 48, 49, 50, 51, 52, 53, 54, 55, 56, 57, 58, 59, 60, 61, 62, 63, 64, 65, 66, 67, 68, 69, 70, 71, 72, 73, 74, 75, 76, 77] (by decide +kernel) (by decide +kernel)
set_option maxRecDepth 20000 in
theorem gX11_seen_X11_upBut : GoodIn wsX11_seen (wsV RX11 327 RX11 yX11_upBut wsX11_upBut) := goodIn_app (goodIn_of _ (by decide +kernel)) ggX11_seen_X11_upBut
set_option maxRecDepth 20000 in
theorem ggX11_isSheet_X11_in : GoodIn wsX11_isSheet wsX11_in := goodIn_r _ [6] (by decide +kernel) (by decide +kernel)
set_option maxRecDepth 20000 in
theorem gX11_isSheet_X11_in : GoodIn wsX11_isSheet (va_wsS RX11 141 yX11_in wsX11_in) := goodIn_app (goodIn_of _ (by decide +kernel)) ggX11_isSheet_X11_in
set_option maxRecDepth 20000 in
theorem ggX11_sheet_X11_isSheet : GoodIn wsX11_sheet wsX11_isSheet := goodIn_r _ [7, 8, 9, 10, 11, 6, 12] (by decide +kernel) (by decide +kernel)
set_option maxRecDepth 20000 in
theorem gX11_sheet_X11_isSheet : GoodIn wsX11_sheet (va_wsS RX11 381 yX11_isSheet wsX11_isSheet) := goodIn_app (goodIn_of _ (by decide +kernel)) ggX11_sheet_X11_isSheet
set_option maxRecDepth 20000 in
theorem ggX11_lay_X11_isSheet : GoodIn wsX11_lay wsX11_isSheet := goodIn_r _ [7, 8, 9, 10, 11, 6, 12] (by decide +kernel) (by decide +kernel)
set_option maxRecDepth 20000 in
theorem gX11_lay_X11_isSheet : GoodIn wsX11_lay (va_wsS RX11 381 yX11_isSheet wsX11_isSheet) := goodIn_app (goodIn_of _ (by decide +kernel)) ggX11_lay_X11_isSheet
