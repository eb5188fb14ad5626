set_option maxRecDepth 20000 in
theorem ggX0_follow_X0_begin : GoodIn wsX0_follow wsX0_begin := goodIn_r _ [8, 9, 1, 10, 2, 11, 3, 12, 13, 14, 15, 16, 17, 18, 36, 37, 38, 39, 40, 41, 27, 28, 29, 30, 31, 32, 33, 34, 35] (by decide +kernel) (by decide +kernel)
set_option maxRecDepth 20000 in
theorem gX0_follow_X0_begin : GoodIn wsX0_follow (wsV RX0 49 RX0 yX0_begin wsX0_begin) := goodIn_app (goodIn_of _ (by decide +kernel)) ggX0_follow_X0_begin
set_option maxRecDepth 20000 in
theorem ggX1_thatExplain_X3_allRails : GoodIn wsX1_thatExplain wsX3_allRails := goodIn_r _ [6, 7, 17, 18, 19, 20, 21, 22] (by decide +kernel) (by decide +kernel)
set_option maxRecDepth 20000 in
theorem gX1_thatExplain_X3_allRails : GoodIn wsX1_thatExplain (wsV RX1 15 RX3 yX3_allRails wsX3_allRails) := goodIn_app (goodIn_of _ (by decide +kernel)) ggX1_thatExplain_X3_allRails
set_option maxRecDepth 20000 in
theorem ggX1_thatExplain_X3_upAmong : GoodIn wsX1_thatExplain wsX3_upAmong := goodIn_r _ [11, 7, 12, 13, 14, 5, 15, 16, 17, 18, 19, 20, 21, 22] (by decide +kernel) (by decide +kernel)
set_option maxRecDepth 20000 in
theorem gX1_thatExplain_X3_upAmong : GoodIn wsX1_thatExplain (wsV RX1 9 RX3 yX3_upAmong wsX3_upAmong) := goodIn_app (goodIn_of _ (by decide +kernel)) ggX1_thatExplain_X3_upAmong
set_option maxRecDepth 20000 in
theorem ggX4_readText_X3_reset : GoodIn wsX4_readText wsX3_reset := goodIn_r _ [12, 13, 14, 15, 16, 214, 215, 216, 217, 218, 219] (by decide +kernel) (by decide +kernel)
set_option maxRecDepth 20000 in
theorem gX4_readText_X3_reset : GoodIn wsX4_readText (wsV RX4 33 RX3 yX3_reset wsX3_reset) := goodIn_app (goodIn_of _ (by decide +kernel)) ggX4_readText_X3_reset
set_option maxRecDepth 20000 in
theorem ggX4_readText_J7_fill_53178 : GoodIn wsX4_readText wsJ7_fill_53178 := goodIn_r _ [20] (by decide +kernel) (by decide +kernel)
set_option maxRecDepth 20000 in
theorem gX4_readText_J7_fill_53178 : GoodIn wsX4_readText (va_wsS RX4 49 yJ7_fill_53178 wsJ7_fill_53178) := goodIn_app (goodIn_of _ (by decide +kernel)) ggX4_readText_J7_fill_53178
set_option maxRecDepth 20000 in
theorem ggX4_readText_X4_step : GoodIn wsX4_readText wsX4_step := goodIn_r _ [25, 2, 26, 27, 28, 29, 30, 7, 31, 32, 33, 24, 34, 35, 36, 37, 38, 39, 40, 41, 42, 4, 5, 201, 202, 203, 204, 205, 206, 207, 208, 209, 210, 211, 212, 213, 220, 221] (by decide +kernel) (by decide +kernel)
set_option maxRecDepth 20000 in
theorem gX4_readText_X4_step : GoodIn wsX4_readText (wsV RX4 55 RX4 yX4_step wsX4_step) := goodIn_app (goodIn_of _ (by decide +kernel)) ggX4_readText_X4_step
set_option maxRecDepth 20000 in
theorem ggX4_readText_X4_findNotTold : GoodIn wsX4_readText wsX4_findNotTold := goodIn_r _ [196, 1, 100, 6, 197, 198, 199, 200, 39, 40, 41, 24, 42, 4, 5, 201, 202, 203, 204, 205, 206, 207, 208, 209, 210, 211, 212, 213, 214, 215, 216, 217, 218, 219] (by decide +kernel) (by decide +kernel)
set_option maxRecDepth 20000 in
theorem gX4_readText_X4_findNotTold : GoodIn wsX4_readText (wsV RX4 79 RX4 yX4_findNotTold wsX4_findNotTold) := goodIn_app (goodIn_of _ (by decide +kernel)) ggX4_readText_X4_findNotTold
set_option maxRecDepth 20000 in
theorem ggX5_init_X2_init : GoodIn wsX5_init wsX2_init := goodIn_r _ [18, 19, 2, 3, 8, 20, 21, 22, 23, 24, 25, 26, 27] (by decide +kernel) (by decide +kernel)
set_option maxRecDepth 20000 in
theorem gX5_init_X2_init : GoodIn wsX5_init (wsX2_init) := ggX5_init_X2_init
set_option maxRecDepth 20000 in
theorem ggX5_reset_X3_number : GoodIn wsX5_reset wsX3_number := goodIn_r _ [21, 22, 41, 42, 43, 44, 45, 46] (by decide +kernel) (by decide +kernel)
set_option maxRecDepth 20000 in
theorem gX5_reset_X3_number : GoodIn wsX5_reset (wsV RX5 47 RX3 yX3_number wsX3_number) := goodIn_app (goodIn_of _ (by decide +kernel)) ggX5_reset_X3_number
set_option maxRecDepth 20000 in
theorem ggX5_passTick_X5_settle : GoodIn wsX5_passTick wsX5_settle := goodIn_r _ [11, 12, 13, 14, 10, 15, 16, 17, 18, 19, 20, 21, 22, 23, 24, 25, 26, 27, 28, 29, 30, 31, 32, 33, 34, 35, 36, 37, 38, 39, 40, 41, 42, 43, 44, 45, 46, 47, 48, 49, 50, 51, 52, 53, 54, 55, 56, 57, 58, 59, 60, 61, 62, 83, 84, 85, 86, 87, 88, 89, 90, 91, 92, 93, 94, 95, 96, 97, 98, 99, 100, 101, 102, 103, 104, 105, 106] (by decide +kernel) (by decide +kernel)
set_option maxRecDepth 20000 in
theorem gX5_passTick_X5_settle : GoodIn wsX5_passTick (wsV RX5 72 RX5 yX5_settle wsX5_settle) := goodIn_app (goodIn_of _ (by decide +kernel)) ggX5_passTick_X5_settle
set_option maxRecDepth 20000 in
theorem ggX5_passTick_X5_sumDraw : GoodIn wsX5_passTick wsX5_sumDraw := goodIn_r _ [66, 18, 23, 41, 42, 43, 27, 44, 45, 97, 98, 99, 100, 101, 102, 83, 84, 85, 86, 87, 88, 89, 90, 91, 92, 93, 94, 95, 96] (by decide +kernel) (by decide +kernel)
set_option maxRecDepth 20000 in
theorem gX5_passTick_X5_sumDraw : GoodIn wsX5_passTick (wsV RX5 76 RX5 yX5_sumDraw wsX5_sumDraw) := goodIn_app (goodIn_of _ (by decide +kernel)) ggX5_passTick_X5_sumDraw
set_option maxRecDepth 20000 in
theorem ggX5_passTick_X5_whyTrip : GoodIn wsX5_passTick wsX5_whyTrip := goodIn_r _ [70, 1, 71, 18, 23, 50, 41, 42, 43, 27, 44, 45, 83, 84, 85, 86, 87, 88, 89, 90, 91, 92, 93, 94, 95, 96, 97, 98, 99, 100, 101, 102] (by decide +kernel) (by decide +kernel)
set_option maxRecDepth 20000 in
theorem gX5_passTick_X5_whyTrip : GoodIn wsX5_passTick (wsV RX5 85 RX5 yX5_whyTrip wsX5_whyTrip) := goodIn_app (goodIn_of _ (by decide +kernel)) ggX5_passTick_X5_whyTrip
set_option maxRecDepth 20000 in
theorem ggX5_passTick_X5_growOlder : GoodIn wsX5_passTick wsX5_growOlder := goodIn_r _ [82, 18, 39, 50, 53, 16, 97, 98, 99, 100, 101, 102, 83, 84, 85, 86, 87, 88, 89, 90, 91, 92, 93, 94, 95, 96] (by decide +kernel) (by decide +kernel)
set_option maxRecDepth 20000 in
theorem gX5_passTick_X5_growOlder : GoodIn wsX5_passTick (wsV RX5 92 RX5 yX5_growOlder wsX5_growOlder) := goodIn_app (goodIn_of _ (by decide +kernel)) ggX5_passTick_X5_growOlder
set_option maxRecDepth 20000 in
theorem ggX5_settle_X5_railsThatMay : GoodIn wsX5_settle wsX5_railsThatMay := goodIn_r _ [5, 6, 7, 8, 9, 10, 11, 4, 12, 13, 14, 15, 16, 17, 18, 19, 53, 54, 55, 56, 57, 58, 59, 60, 61, 62, 63, 64, 65, 66, 67, 68, 69, 70, 71, 72] (by decide +kernel) (by decide +kernel)
set_option maxRecDepth 20000 in
theorem gX5_settle_X5_railsThatMay : GoodIn wsX5_settle (wsV RX5 95 RX5 yX5_railsThatMay wsX5_railsThatMay) := goodIn_app (goodIn_of _ (by decide +kernel)) ggX5_settle_X5_railsThatMay
set_option maxRecDepth 20000 in
theorem ggX5_settle_X5_changeRails : GoodIn wsX5_settle wsX5_changeRails := goodIn_r _ [23, 8, 13, 24, 25, 26, 4, 27, 28, 29, 30, 31, 32, 33, 17, 34, 35, 36, 37, 38, 39, 40, 41, 42, 43, 44, 45, 46, 47, 48, 49, 50, 51, 52, 67, 68, 69, 70, 71, 72, 53, 54, 55, 56, 57, 58, 59, 60, 61, 62, 63, 64, 65, 66, 73, 74, 75, 76] (by decide +kernel) (by decide +kernel)
set_option maxRecDepth 20000 in
theorem gX5_settle_X5_changeRails : GoodIn wsX5_settle (wsV RX5 98 RX5 yX5_changeRails wsX5_changeRails) := goodIn_app (goodIn_of _ (by decide +kernel)) ggX5_settle_X5_changeRails
set_option maxRecDepth 20000 in
theorem ggX5_railsThatMay_X5_railsThatAre : GoodIn wsX5_railsThatMay wsX5_railsThatAre := goodIn_r _ [8, 9, 16, 17, 18, 19, 20, 21, 22, 23, 24, 25, 26, 27, 28, 29] (by decide +kernel) (by decide +kernel)
set_option maxRecDepth 20000 in
theorem gX5_railsThatMay_X5_railsThatAre : GoodIn wsX5_railsThatMay (wsV RX5 102 RX5 yX5_railsThatAre wsX5_railsThatAre) := goodIn_app (goodIn_of _ (by decide +kernel)) ggX5_railsThatMay_X5_railsThatAre
set_option maxRecDepth 20000 in
theorem ggX6_init_J7_fill_53178 : GoodIn wsX6_init wsJ7_fill_53178 := goodIn_r _ [12] (by decide +kernel) (by decide +kernel)
set_option maxRecDepth 20000 in
theorem gX6_init_J7_fill_53178 : GoodIn wsX6_init (va_wsS RX6 23 yJ7_fill_53178 wsJ7_fill_53178) := goodIn_app (goodIn_of _ (by decide +kernel)) ggX6_init_J7_fill_53178
set_option maxRecDepth 20000 in
theorem ggX6_renew_J7_fill_53178 : GoodIn wsX6_renew wsJ7_fill_53178 := goodIn_r _ [7] (by decide +kernel) (by decide +kernel)
set_option maxRecDepth 20000 in
theorem gX6_renew_J7_fill_53178 : GoodIn wsX6_renew (va_wsS RX6 23 yJ7_fill_53178 wsJ7_fill_53178) := goodIn_app (goodIn_of _ (by decide +kernel)) ggX6_renew_J7_fill_53178
set_option maxRecDepth 20000 in
theorem ggX7_findRow_J7_fill_53178 : GoodIn wsX7_findRow wsJ7_fill_53178 := goodIn_r _ [11] (by decide +kernel) (by decide +kernel)
set_option maxRecDepth 20000 in
theorem gX7_findRow_J7_fill_53178 : GoodIn wsX7_findRow (va_wsS RX7 27 yJ7_fill_53178 wsJ7_fill_53178) := goodIn_app (goodIn_of _ (by decide +kernel)) ggX7_findRow_J7_fill_53178
set_option maxRecDepth 20000 in
theorem ggX7_findRow_X0_copyTakes : GoodIn wsX7_findRow wsX0_copyTakes := goodIn_r _ [16, 17, 18, 19, 20, 21, 82, 83, 84, 85, 86, 87, 88, 89, 90] (by decide +kernel) (by decide +kernel)
set_option maxRecDepth 20000 in
theorem gX7_findRow_X0_copyTakes : GoodIn wsX7_findRow (wsV RX7 38 RX0 yX0_copyTakes wsX0_copyTakes) := goodIn_app (goodIn_of _ (by decide +kernel)) ggX7_findRow_X0_copyTakes
set_option maxRecDepth 20000 in
theorem ggX7_findRow_X0_follow : GoodIn wsX7_findRow wsX0_follow := goodIn_r _ [25, 26, 27, 28, 29, 30, 31, 15, 32, 33, 34, 35, 17, 36, 37, 38, 39, 40, 41, 42, 43, 44, 45, 46, 47, 48, 49, 82, 83, 84, 85, 86, 87, 88, 89, 90, 91, 92, 93, 94, 95, 96] (by decide +kernel) (by decide +kernel)
set_option maxRecDepth 20000 in
theorem gX7_findRow_X0_follow : GoodIn wsX7_findRow (wsV RX7 42 RX0 yX0_follow wsX0_follow) := goodIn_app (goodIn_of _ (by decide +kernel)) ggX7_findRow_X0_follow
set_option maxRecDepth 20000 in
theorem ggX10_init_X8_init : GoodIn wsX10_init wsX8_init := goodIn_r _ [40, 41, 2, 3, 42, 43, 44, 127, 128] (by decide +kernel) (by decide +kernel)
set_option maxRecDepth 20000 in
theorem gX10_init_X8_init : GoodIn wsX10_init (wsX8_init) := ggX10_init_X8_init
set_option maxRecDepth 20000 in
theorem ggX10_init_X5_init : GoodIn wsX10_init wsX5_init := goodIn_r _ [47, 48, 2, 3, 49, 50, 51, 52, 42, 53, 54, 55, 56, 57, 58, 59, 60, 61, 62, 63, 64, 65, 66, 67, 194, 195, 196, 197, 139, 140, 141, 142, 143, 144, 145, 146, 147, 148, 149, 150, 151, 152] (by decide +kernel) (by decide +kernel)
set_option maxRecDepth 20000 in
theorem gX10_init_X5_init : GoodIn wsX10_init (wsX5_init) := ggX10_init_X5_init
set_option maxRecDepth 20000 in
theorem ggX10_init_X0_init : GoodIn wsX10_init wsX0_init := goodIn_r _ [70, 71, 2, 3, 42, 72, 73, 74, 75, 76, 153, 154, 155, 156, 157, 158, 159, 160, 161] (by decide +kernel) (by decide +kernel)
set_option maxRecDepth 20000 in
theorem gX10_init_X0_init : GoodIn wsX10_init (wsX0_init) := ggX10_init_X0_init
set_option maxRecDepth 20000 in
theorem ggX10_init_X9_init : GoodIn wsX10_init wsX9_init := goodIn_r _ [79, 80, 2, 3, 81, 42, 82, 83, 84, 85, 162, 163, 164, 165, 166, 167] (by decide +kernel) (by decide +kernel)
set_option maxRecDepth 20000 in
theorem gX10_init_X9_init : GoodIn wsX10_init (wsX9_init) := ggX10_init_X9_init
set_option maxRecDepth 20000 in
theorem ggX10_init_X7_init : GoodIn wsX10_init wsX7_init := goodIn_r _ [88, 89, 2, 3, 90, 42, 91, 92, 93, 168, 169, 170, 171] (by decide +kernel) (by decide +kernel)
set_option maxRecDepth 20000 in
theorem gX10_init_X7_init : GoodIn wsX10_init (wsX7_init) := ggX10_init_X7_init
set_option maxRecDepth 20000 in
theorem ggX10_init_X6_init : GoodIn wsX10_init wsX6_init := goodIn_r _ [96, 97, 2, 3, 98, 42, 99, 100, 101, 102, 103, 104, 105, 172, 173, 174] (by decide +kernel) (by decide +kernel)
set_option maxRecDepth 20000 in
theorem gX10_init_X6_init : GoodIn wsX10_init (wsX6_init) := ggX10_init_X6_init
set_option maxRecDepth 20000 in
theorem ggX10_init_X3_init : GoodIn wsX10_init wsX3_init := goodIn_r _ [108, 109, 2, 3, 42, 110, 111, 112, 113, 114, 115, 116, 175, 176, 177, 178, 179, 180] (by decide +kernel) (by decide +kernel)
set_option maxRecDepth 20000 in
theorem gX10_init_X3_init : GoodIn wsX10_init (wsX3_init) := ggX10_init_X3_init
set_option maxRecDepth 20000 in
theorem ggX10_init_X4_init : GoodIn wsX10_init wsX4_init := goodIn_r _ [119, 120, 2, 3, 121, 122, 42, 123, 124, 111, 125, 126, 181, 182, 183, 184, 185, 186, 187, 188, 189, 190, 191, 192, 193] (by decide +kernel) (by decide +kernel)
set_option maxRecDepth 20000 in
theorem gX10_init_X4_init : GoodIn wsX10_init (wsX4_init) := ggX10_init_X4_init
set_option maxRecDepth 20000 in
theorem ggX10_feed_X8_push : GoodIn wsX10_feed wsX8_push := goodIn_r _ [7, 8, 9, 20, 21] (by decide +kernel) (by decide +kernel)
set_option maxRecDepth 20000 in
theorem gX10_feed_X8_push : GoodIn wsX10_feed (wsV RX10 76 RX8 yX8_push wsX8_push) := goodIn_app (goodIn_of _ (by decide +kernel)) ggX10_feed_X8_push
set_option maxRecDepth 20000 in
theorem ggX10_text_X4_readText : GoodIn wsX10_text wsX4_readText := goodIn_r _ [14, 15, 16, 17, 18, 19, 20, 21, 22, 23, 24, 25, 26, 27, 28, 29, 30, 31, 32, 33, 34, 35, 36, 37, 13, 38, 39, 40, 41, 42, 43, 44, 45, 46, 47, 48, 49, 50, 51, 52, 53, 54, 55, 56, 57, 58, 59, 60, 61, 62, 63, 64, 65, 66, 67, 68, 69, 70, 71, 72, 73, 74, 75, 76, 77, 78, 79, 80, 81, 82, 83, 84, 85, 86, 87, 88, 89, 90, 91, 92, 93, 94, 95, 96, 97, 98, 99, 100, 101, 102, 103, 104, 105, 106, 107, 108, 109, 110, 111, 112, 113, 114, 115, 116, 117, 118, 119, 120, 121, 122, 123, 124, 125, 126, 127, 128, 129, 130, 131, 132, 133, 134, 135, 136, 137, 138, 139, 140, 141, 142, 143, 144, 145, 146, 147, 148, 149, 150, 151, 152, 153, 154, 155, 156, 157, 158, 159, 160, 161, 162, 163, 164, 165, 166, 167, 168, 169, 170, 171, 172, 173, 174, 175, 176, 177, 178, 179, 180, 181, 182, 183, 184, 185, 186, 187, 188, 189, 190, 191, 192, 193, 194, 195, 196, 197, 198, 199, 200, 201, 202, 203, 204, 205, 206, 207, 208, 209, 210, 211, 212, 213, 263, 264, 265, 266, 267, 268, 269, 270, 271, 272, 273, 274, 275, 276, 277, 278, 279, 280, 281, 261, 262] (by decide +kernel) (by decide +kernel)
set_option maxRecDepth 20000 in
theorem gX10_text_X4_readText : GoodIn wsX10_text (wsV RX10 83 RX4 yX4_readText wsX4_readText) := goodIn_app (goodIn_of _ (by decide +kernel)) ggX10_text_X4_readText
set_option maxRecDepth 20000 in
theorem ggX10_text_X5_reset : GoodIn wsX10_text wsX5_reset := goodIn_r _ [218, 219, 220, 221, 222, 223, 224, 225, 226, 227, 228, 229, 230, 231, 232, 233, 234, 235, 180, 181, 25, 182, 124, 282, 283, 284, 285, 286, 287, 288, 289, 290, 291, 292, 293, 294, 295, 296, 297, 298, 299, 276, 277, 278, 279, 280, 281] (by decide +kernel) (by decide +kernel)
set_option maxRecDepth 20000 in
theorem gX10_text_X5_reset : GoodIn wsX10_text (wsV RX10 93 RX5 yX5_reset wsX5_reset) := goodIn_app (goodIn_of _ (by decide +kernel)) ggX10_text_X5_reset
set_option maxRecDepth 20000 in
theorem ggX10_text_X10_forgetReckoned : GoodIn wsX10_text wsX10_forgetReckoned := goodIn_r _ [240, 241, 242, 243, 244, 245, 246, 247, 248, 249, 250, 251, 252, 253, 254, 255, 256, 257, 258, 259, 260, 300, 301, 302, 303, 304, 305, 306, 307, 308, 309] (by decide +kernel) (by decide +kernel)
set_option maxRecDepth 20000 in
theorem gX10_text_X10_forgetReckoned : GoodIn wsX10_text (wsV RX10 97 RX10 yX10_forgetReckoned wsX10_forgetReckoned) := goodIn_app (goodIn_of _ (by decide +kernel)) ggX10_text_X10_forgetReckoned
set_option maxRecDepth 20000 in
theorem ggX10_rail_X3_hasRail : GoodIn wsX10_rail wsX3_hasRail := goodIn_r _ [6, 7, 23, 24, 25, 26, 27, 28] (by decide +kernel) (by decide +kernel)
set_option maxRecDepth 20000 in
theorem gX10_rail_X3_hasRail : GoodIn wsX10_rail (wsV RX10 100 RX3 yX3_hasRail wsX3_hasRail) := goodIn_app (goodIn_of _ (by decide +kernel)) ggX10_rail_X3_hasRail
set_option maxRecDepth 20000 in
theorem ggX10_holds_X3_hasRail : GoodIn wsX10_holds wsX3_hasRail := goodIn_r _ [6, 7, 31, 32, 33, 34, 35, 36] (by decide +kernel) (by decide +kernel)
set_option maxRecDepth 20000 in
theorem gX10_holds_X3_hasRail : GoodIn wsX10_holds (wsV RX10 100 RX3 yX3_hasRail wsX3_hasRail) := goodIn_app (goodIn_of _ (by decide +kernel)) ggX10_holds_X3_hasRail
set_option maxRecDepth 20000 in
theorem ggX10_words_X3_hasRail : GoodIn wsX10_words wsX3_hasRail := goodIn_r _ [6, 7, 35, 36, 37, 38, 39, 40] (by decide +kernel) (by decide +kernel)
set_option maxRecDepth 20000 in
theorem gX10_words_X3_hasRail : GoodIn wsX10_words (wsV RX10 100 RX3 yX3_hasRail wsX3_hasRail) := goodIn_app (goodIn_of _ (by decide +kernel)) ggX10_words_X3_hasRail
set_option maxRecDepth 20000 in
theorem ggX10_key_X10_asNumber : GoodIn wsX10_key wsX10_asNumber := goodIn_r _ [7] (by decide +kernel) (by decide +kernel)
set_option maxRecDepth 20000 in
theorem gX10_key_X10_asNumber : GoodIn wsX10_key (va_wsS RX10 128 yX10_asNumber wsX10_asNumber) := goodIn_app (goodIn_of _ (by decide +kernel)) ggX10_key_X10_asNumber
set_option maxRecDepth 20000 in
theorem ggX10_key_X5_turnKey : GoodIn wsX10_key wsX5_turnKey := goodIn_r _ [12, 13, 14, 15, 16, 27, 28, 29, 30, 31, 32, 33, 34, 35, 36, 37, 38, 39, 40, 41, 42, 43, 44, 45, 46] (by decide +kernel) (by decide +kernel)
set_option maxRecDepth 20000 in
theorem gX10_key_X5_turnKey : GoodIn wsX10_key (wsV RX10 143 RX5 yX5_turnKey wsX5_turnKey) := goodIn_app (goodIn_of _ (by decide +kernel)) ggX10_key_X5_turnKey
set_option maxRecDepth 20000 in
theorem ggX10_dead_X3_hasRail : GoodIn wsX10_dead wsX3_hasRail := goodIn_r _ [8, 9, 52, 53, 54, 55, 56, 57] (by decide +kernel) (by decide +kernel)
set_option maxRecDepth 20000 in
theorem gX10_dead_X3_hasRail : GoodIn wsX10_dead (wsV RX10 100 RX3 yX3_hasRail wsX3_hasRail) := goodIn_app (goodIn_of _ (by decide +kernel)) ggX10_dead_X3_hasRail
set_option maxRecDepth 20000 in
theorem ggX10_time_X3_hasRail : GoodIn wsX10_time wsX3_hasRail := goodIn_r _ [8, 9, 54, 55, 56, 57, 58, 59] (by decide +kernel) (by decide +kernel)
set_option maxRecDepth 20000 in
theorem gX10_time_X3_hasRail : GoodIn wsX10_time (wsV RX10 100 RX3 yX3_hasRail wsX3_hasRail) := goodIn_app (goodIn_of _ (by decide +kernel)) ggX10_time_X3_hasRail
set_option maxRecDepth 20000 in
theorem ggX10_go_X5_passTick : GoodIn wsX10_go wsX5_passTick := goodIn_r _ [8, 9, 10, 11, 12, 13, 14, 15, 16, 17, 7, 18, 19, 20, 21, 22, 23, 24, 25, 26, 27, 28, 29, 30, 31, 32, 33, 34, 35, 36, 37, 38, 39, 40, 41, 42, 43, 44, 45, 46, 47, 48, 49, 50, 51, 52, 53, 54, 55, 56, 57, 58, 59, 60, 61, 62, 63, 64, 65, 66, 67, 68, 69, 70, 71, 72, 73, 74, 75, 76, 77, 78, 79, 80, 81, 82, 83, 84, 85, 86, 87, 88, 89, 100, 101, 102, 103, 104, 105, 106, 107, 108, 109, 110, 111, 112, 113, 114, 115, 116, 117, 118, 119, 120, 121, 122, 123] (by decide +kernel) (by decide +kernel)
set_option maxRecDepth 20000 in
theorem gX10_go_X5_passTick : GoodIn wsX10_go (wsV RX10 157 RX5 yX5_passTick wsX5_passTick) := goodIn_app (goodIn_of _ (by decide +kernel)) ggX10_go_X5_passTick
set_option maxRecDepth 20000 in
theorem ggX10_now_X5_railsThatAre : GoodIn wsX10_now wsX5_railsThatAre := goodIn_r _ [13, 14, 29, 30, 31, 32, 33, 34, 35, 36, 37, 38, 39, 40, 41, 42] (by decide +kernel) (by decide +kernel)
set_option maxRecDepth 20000 in
theorem gX10_now_X5_railsThatAre : GoodIn wsX10_now (wsV RX10 163 RX5 yX5_railsThatAre wsX5_railsThatAre) := goodIn_app (goodIn_of _ (by decide +kernel)) ggX10_now_X5_railsThatAre
set_option maxRecDepth 20000 in
theorem ggX10_now_X10_asNumber : GoodIn wsX10_now wsX10_asNumber := goodIn_r _ [18] (by decide +kernel) (by decide +kernel)
set_option maxRecDepth 20000 in
theorem gX10_now_X10_asNumber : GoodIn wsX10_now (va_wsS RX10 128 yX10_asNumber wsX10_asNumber) := goodIn_app (goodIn_of _ (by decide +kernel)) ggX10_now_X10_asNumber
set_option maxRecDepth 20000 in
theorem ggX10_is_X3_hasRail : GoodIn wsX10_is wsX3_hasRail := goodIn_r _ [12, 13, 38, 39, 40, 41, 42, 43] (by decide +kernel) (by decide +kernel)
set_option maxRecDepth 20000 in
theorem gX10_is_X3_hasRail : GoodIn wsX10_is (wsV RX10 100 RX3 yX3_hasRail wsX3_hasRail) := goodIn_app (goodIn_of _ (by decide +kernel)) ggX10_is_X3_hasRail
set_option maxRecDepth 20000 in
theorem ggX10_up_X3_allRails : GoodIn wsX10_up wsX3_allRails := goodIn_r _ [8, 9, 43, 44, 45, 46, 47, 48] (by decide +kernel) (by decide +kernel)
set_option maxRecDepth 20000 in
theorem gX10_up_X3_allRails : GoodIn wsX10_up (wsV RX10 120 RX3 yX3_allRails wsX3_allRails) := goodIn_app (goodIn_of _ (by decide +kernel)) ggX10_up_X3_allRails
set_option maxRecDepth 20000 in
theorem ggX10_up_X3_upAmong : GoodIn wsX10_up wsX3_upAmong := goodIn_r _ [13, 9, 14, 15, 16, 7, 17, 18, 43, 44, 45, 46, 47, 48] (by decide +kernel) (by decide +kernel)
set_option maxRecDepth 20000 in
theorem gX10_up_X3_upAmong : GoodIn wsX10_up (wsV RX10 205 RX3 yX3_upAmong wsX3_upAmong) := goodIn_app (goodIn_of _ (by decide +kernel)) ggX10_up_X3_upAmong
set_option maxRecDepth 20000 in
theorem ggX10_when_X3_hasRail : GoodIn wsX10_when wsX3_hasRail := goodIn_r _ [8, 9, 99, 100, 101, 102, 103, 104] (by decide +kernel) (by decide +kernel)
set_option maxRecDepth 20000 in
theorem gX10_when_X3_hasRail : GoodIn wsX10_when (wsV RX10 100 RX3 yX3_hasRail wsX3_hasRail) := goodIn_app (goodIn_of _ (by decide +kernel)) ggX10_when_X3_hasRail
set_option maxRecDepth 20000 in
theorem ggX10_ahead_X3_hasRail : GoodIn wsX10_ahead wsX3_hasRail := goodIn_r _ [7, 8, 111, 112, 113, 114, 115, 116] (by decide +kernel) (by decide +kernel)
set_option maxRecDepth 20000 in
theorem gX10_ahead_X3_hasRail : GoodIn wsX10_ahead (wsV RX10 100 RX3 yX3_hasRail wsX3_hasRail) := goodIn_app (goodIn_of _ (by decide +kernel)) ggX10_ahead_X3_hasRail
set_option maxRecDepth 20000 in
theorem ggX10_drawn_X10_followTimes : GoodIn wsX10_drawn wsX10_followTimes := goodIn_r _ [7, 1, 2, 8, 9, 10, 11, 12, 13, 14, 15, 16, 17, 18, 19, 20, 21, 22, 23, 24, 25, 26, 27, 28, 29, 30, 31, 32, 33, 34, 6, 35, 36, 37, 38, 39, 40, 41, 42, 43, 44, 45, 46, 47, 48, 49, 50, 51, 52, 53, 54, 55, 56, 57, 58, 59, 60, 61, 62, 63, 64, 65, 66, 75, 76, 77, 78, 79, 80, 81, 82, 83, 84, 85, 86, 87, 88, 89, 90, 91, 92, 93, 94, 95, 96, 97, 98, 99, 100, 101, 102, 103, 104, 105, 106, 107, 108, 109, 110, 111, 112, 113] (by decide +kernel) (by decide +kernel)
set_option maxRecDepth 20000 in
theorem gX10_drawn_X10_followTimes : GoodIn wsX10_drawn (wsV RX10 208 RX10 yX10_followTimes wsX10_followTimes) := goodIn_app (goodIn_of _ (by decide +kernel)) ggX10_drawn_X10_followTimes
set_option maxRecDepth 20000 in
theorem ggX10_drawn_X0_drawnAt : GoodIn wsX10_drawn wsX0_drawnAt := goodIn_r _ [70, 15, 48, 53, 71, 72, 73, 13, 74, 46, 17, 18, 19, 20, 21, 22, 99, 100, 101, 102, 103, 104, 105, 106, 107, 108, 109, 110, 111, 112, 113] (by decide +kernel) (by decide +kernel)
set_option maxRecDepth 20000 in
theorem gX10_drawn_X0_drawnAt : GoodIn wsX10_drawn (wsV RX10 237 RX0 yX0_drawnAt wsX0_drawnAt) := goodIn_app (goodIn_of _ (by decide +kernel)) ggX10_drawn_X0_drawnAt
set_option maxRecDepth 20000 in
theorem ggX10_peak_X3_countWays : GoodIn wsX10_peak wsX3_countWays := goodIn_r _ [12, 13, 14, 15, 16, 11, 17, 18, 151, 152, 153, 154, 155, 156] (by decide +kernel) (by decide +kernel)
set_option maxRecDepth 20000 in
theorem gX10_peak_X3_countWays : GoodIn wsX10_peak (wsV RX10 230 RX3 yX3_countWays wsX3_countWays) := goodIn_app (goodIn_of _ (by decide +kernel)) ggX10_peak_X3_countWays
set_option maxRecDepth 20000 in
theorem ggX10_peak_X10_alive : GoodIn wsX10_peak wsX10_alive := goodIn_r _ [23, 1, 24, 25, 26, 27, 28, 11, 29, 13, 126, 127, 128, 129, 130, 131, 132, 133, 134, 135, 157, 158, 159, 160, 161, 162, 163, 164, 165, 166, 167, 168, 169, 170, 151, 152, 153, 154, 155, 156] (by decide +kernel) (by decide +kernel)
set_option maxRecDepth 20000 in
theorem gX10_peak_X10_alive : GoodIn wsX10_peak (wsV RX10 218 RX10 yX10_alive wsX10_alive) := goodIn_app (goodIn_of _ (by decide +kernel)) ggX10_peak_X10_alive
set_option maxRecDepth 20000 in
theorem ggX10_peak_X3_upAmong : GoodIn wsX10_peak wsX3_upAmong := goodIn_r _ [33, 13, 34, 35, 36, 11, 37, 38, 151, 152, 153, 154, 155, 156] (by decide +kernel) (by decide +kernel)
set_option maxRecDepth 20000 in
theorem gX10_peak_X3_upAmong : GoodIn wsX10_peak (wsV RX10 205 RX3 yX3_upAmong wsX3_upAmong) := goodIn_app (goodIn_of _ (by decide +kernel)) ggX10_peak_X3_upAmong
set_option maxRecDepth 20000 in
theorem ggX10_stagger_X10_alive : GoodIn wsX10_stagger wsX10_alive := goodIn_r _ [12, 1, 4, 13, 14, 15, 16, 17, 18, 19, 100, 101, 102, 103, 104, 105, 106, 107, 108, 109, 116, 117, 118, 119, 120, 121, 122, 123, 124, 125, 126, 127, 128, 129, 110, 111, 112, 113, 114, 115] (by decide +kernel) (by decide +kernel)
set_option maxRecDepth 20000 in
theorem gX10_stagger_X10_alive : GoodIn wsX10_stagger (wsV RX10 218 RX10 yX10_alive wsX10_alive) := goodIn_app (goodIn_of _ (by decide +kernel)) ggX10_stagger_X10_alive
set_option maxRecDepth 20000 in
theorem ggX10_stagger_X7_findRow : GoodIn wsX10_stagger wsX7_findRow := goodIn_r _ [24, 25, 26, 27, 28, 29, 30, 31, 32, 33, 34, 35, 36, 37, 38, 39, 40, 41, 42, 43, 44, 45, 46, 47, 48, 49, 50, 51, 52, 53, 54, 55, 56, 57, 58, 59, 60, 61, 62, 17, 63, 64, 65, 66, 67, 68, 69, 70, 71, 72, 73, 74, 75, 23, 76, 77, 78, 79, 80, 81, 82, 83, 84, 85, 86, 87, 88, 89, 90, 91, 92, 93, 94, 95, 96, 97, 98, 99, 130, 131, 132, 133, 134, 135, 136, 137, 138, 139, 140, 141, 142, 110, 111, 112, 113, 114, 115] (by decide +kernel) (by decide +kernel)
set_option maxRecDepth 20000 in
theorem gX10_stagger_X7_findRow : GoodIn wsX10_stagger (wsV RX10 259 RX7 yX7_findRow wsX7_findRow) := goodIn_app (goodIn_of _ (by decide +kernel)) ggX10_stagger_X7_findRow
set_option maxRecDepth 20000 in
theorem ggX10_adopt_X10_alive : GoodIn wsX10_adopt wsX10_alive := goodIn_r _ [12, 1, 4, 13, 14, 15, 16, 17, 18, 19, 121, 122, 123, 124, 125, 126, 127, 128, 129, 130, 137, 138, 139, 140, 141, 142, 143, 144, 145, 146, 147, 148, 149, 150, 131, 132, 133, 134, 135, 136] (by decide +kernel) (by decide +kernel)
set_option maxRecDepth 20000 in
theorem gX10_adopt_X10_alive : GoodIn wsX10_adopt (wsV RX10 218 RX10 yX10_alive wsX10_alive) := goodIn_app (goodIn_of _ (by decide +kernel)) ggX10_adopt_X10_alive
set_option maxRecDepth 20000 in
theorem ggX10_adopt_X7_findRow : GoodIn wsX10_adopt wsX7_findRow := goodIn_r _ [24, 25, 26, 27, 28, 29, 30, 31, 32, 33, 34, 35, 36, 37, 38, 39, 40, 41, 42, 43, 44, 45, 46, 47, 48, 49, 50, 51, 52, 53, 54, 55, 56, 57, 58, 59, 60, 61, 62, 17, 63, 64, 65, 66, 67, 68, 69, 70, 71, 72, 73, 74, 75, 23, 76, 77, 78, 79, 80, 81, 82, 83, 84, 85, 86, 87, 88, 89, 90, 91, 92, 93, 94, 95, 96, 97, 98, 99, 151, 152, 153, 154, 155, 156, 157, 158, 159, 160, 161, 162, 163, 131, 132, 133, 134, 135, 136] (by decide +kernel) (by decide +kernel)
set_option maxRecDepth 20000 in
theorem gX10_adopt_X7_findRow : GoodIn wsX10_adopt (wsV RX10 259 RX7 yX7_findRow wsX7_findRow) := goodIn_app (goodIn_of _ (by decide +kernel)) ggX10_adopt_X7_findRow
set_option maxRecDepth 20000 in
theorem ggX10_down_X3_allRails : GoodIn wsX10_down wsX3_allRails := goodIn_r _ [6, 7, 34, 35, 36, 37, 38, 39] (by decide +kernel) (by decide +kernel)
set_option maxRecDepth 20000 in
theorem gX10_down_X3_allRails : GoodIn wsX10_down (wsV RX10 120 RX3 yX3_allRails wsX3_allRails) := goodIn_app (goodIn_of _ (by decide +kernel)) ggX10_down_X3_allRails
set_option maxRecDepth 20000 in
theorem ggX10_down_X10_alive : GoodIn wsX10_down wsX10_alive := goodIn_r _ [12, 1, 13, 14, 2, 3, 4, 5, 6, 7, 24, 25, 26, 27, 28, 29, 30, 31, 32, 33, 40, 41, 42, 43, 44, 45, 46, 47, 48, 49, 50, 51, 52, 53, 34, 35, 36, 37, 38, 39] (by decide +kernel) (by decide +kernel)
set_option maxRecDepth 20000 in
theorem gX10_down_X10_alive : GoodIn wsX10_down (wsV RX10 218 RX10 yX10_alive wsX10_alive) := goodIn_app (goodIn_of _ (by decide +kernel)) ggX10_down_X10_alive
set_option maxRecDepth 20000 in
theorem ggX10_down_X3_upAmong : GoodIn wsX10_down wsX3_upAmong := goodIn_r _ [18, 7, 19, 20, 21, 5, 22, 23, 34, 35, 36, 37, 38, 39] (by decide +kernel) (by decide +kernel)
set_option maxRecDepth 20000 in
theorem gX10_down_X3_upAmong : GoodIn wsX10_down (wsV RX10 205 RX3 yX3_upAmong wsX3_upAmong) := goodIn_app (goodIn_of _ (by decide +kernel)) ggX10_down_X3_upAmong
set_option maxRecDepth 20000 in
theorem ggX10_cut_X3_hasRail : GoodIn wsX10_cut wsX3_hasRail := goodIn_r _ [6, 7, 59, 60, 61, 62, 63, 64] (by decide +kernel) (by decide +kernel)
set_option maxRecDepth 20000 in
theorem gX10_cut_X3_hasRail : GoodIn wsX10_cut (wsV RX10 100 RX3 yX3_hasRail wsX3_hasRail) := goodIn_app (goodIn_of _ (by decide +kernel)) ggX10_cut_X3_hasRail
set_option maxRecDepth 20000 in
theorem ggX10_need_X3_hasRail : GoodIn wsX10_need wsX3_hasRail := goodIn_r _ [6, 7, 59, 60, 61, 62, 63, 64] (by decide +kernel) (by decide +kernel)
set_option maxRecDepth 20000 in
theorem gX10_need_X3_hasRail : GoodIn wsX10_need (wsV RX10 100 RX3 yX3_hasRail wsX3_hasRail) := goodIn_app (goodIn_of _ (by decide +kernel)) ggX10_need_X3_hasRail
set_option maxRecDepth 20000 in
theorem ggX10_must_X3_hasRail : GoodIn wsX10_must wsX3_hasRail := goodIn_r _ [6, 7, 51, 52, 53, 54, 55, 56] (by decide +kernel) (by decide +kernel)
set_option maxRecDepth 20000 in
theorem gX10_must_X3_hasRail : GoodIn wsX10_must (wsV RX10 100 RX3 yX3_hasRail wsX3_hasRail) := goodIn_app (goodIn_of _ (by decide +kernel)) ggX10_must_X3_hasRail
set_option maxRecDepth 20000 in
theorem ggX10_seen_X3_allRails : GoodIn wsX10_seen wsX3_allRails := goodIn_r _ [6, 7, 33, 34, 35, 36, 37, 38] (by decide +kernel) (by decide +kernel)
set_option maxRecDepth 20000 in
theorem gX10_seen_X3_allRails : GoodIn wsX10_seen (wsV RX10 120 RX3 yX3_allRails wsX3_allRails) := goodIn_app (goodIn_of _ (by decide +kernel)) ggX10_seen_X3_allRails
set_option maxRecDepth 20000 in
theorem ggX10_seen_X1_thatExplain : GoodIn wsX10_seen wsX1_thatExplain := goodIn_r _ [11, 12, 13, 3, 4, 5, 6, 7, 14, 15, 16, 17, 18, 19, 20, 21, 22, 33, 34, 35, 36, 37, 38] (by decide +kernel) (by decide +kernel)
set_option maxRecDepth 20000 in
theorem gX10_seen_X1_thatExplain : GoodIn wsX10_seen (va_wsS RX10 292 yX1_thatExplain wsX1_thatExplain) := goodIn_app (goodIn_of _ (by decide +kernel)) ggX10_seen_X1_thatExplain
set_option maxRecDepth 20000 in
theorem ggX10_sheet_X6_hasPlace : GoodIn wsX10_sheet wsX6_hasPlace := goodIn_r _ [5] (by decide +kernel) (by decide +kernel)
set_option maxRecDepth 20000 in
theorem gX10_sheet_X6_hasPlace : GoodIn wsX10_sheet (va_wsS RX10 295 yX6_hasPlace wsX6_hasPlace) := goodIn_app (goodIn_of _ (by decide +kernel)) ggX10_sheet_X6_hasPlace
set_option maxRecDepth 20000 in
theorem ggX10_sheet_X6_isLane : GoodIn wsX10_sheet wsX6_isLane := goodIn_r _ [8] (by decide +kernel) (by decide +kernel)
set_option maxRecDepth 20000 in
theorem gX10_sheet_X6_isLane : GoodIn wsX10_sheet (va_wsS RX10 298 yX6_isLane wsX6_isLane) := goodIn_app (goodIn_of _ (by decide +kernel)) ggX10_sheet_X6_isLane
set_option maxRecDepth 20000 in
theorem ggX10_sheet_X6_renew : GoodIn wsX10_sheet wsX6_renew := goodIn_r _ [12, 13, 14, 15, 16, 17, 18, 19, 30, 31, 32] (by decide +kernel) (by decide +kernel)
set_option maxRecDepth 20000 in
theorem gX10_sheet_X6_renew : GoodIn wsX10_sheet (wsV RX10 301 RX6 yX6_renew wsX6_renew) := goodIn_app (goodIn_of _ (by decide +kernel)) ggX10_sheet_X6_renew
set_option maxRecDepth 20000 in
theorem ggX10_lay_X6_hasPlace : GoodIn wsX10_lay wsX6_hasPlace := goodIn_r _ [6] (by decide +kernel) (by decide +kernel)
set_option maxRecDepth 20000 in
theorem gX10_lay_X6_hasPlace : GoodIn wsX10_lay (va_wsS RX10 295 yX6_hasPlace wsX6_hasPlace) := goodIn_app (goodIn_of _ (by decide +kernel)) ggX10_lay_X6_hasPlace
set_option maxRecDepth 20000 in
theorem ggX10_measured_X6_hasPlace : GoodIn wsX10_measured wsX6_hasPlace := goodIn_r _ [7] (by decide +kernel) (by decide +kernel)
set_option maxRecDepth 20000 in
theorem gX10_measured_X6_hasPlace : GoodIn wsX10_measured (va_wsS RX10 295 yX6_hasPlace wsX6_hasPlace) := goodIn_app (goodIn_of _ (by decide +kernel)) ggX10_measured_X6_hasPlace
set_option maxRecDepth 20000 in
theorem ggX10_measured_X6_isLane : GoodIn wsX10_measured wsX6_isLane := goodIn_r _ [10] (by decide +kernel) (by decide +kernel)
