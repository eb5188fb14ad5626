theorem xg_cons {big t : List Cond} {c : Cond} (hc : GoodIn big [c]) (ht : GoodIn big t) : GoodIn big (c :: t) := fun w h => (List.mem_cons.mp h).elim (fun e => hc w (List.mem_cons.mpr (Or.inl e))) (ht w)
set_option maxRecDepth 20000 in
theorem xg_wsX10_init_r1 : GoodIn lw_tbl wsX10_init_r1 := goodIn_r _ [76, 77, 78, 79, 80, 52, 393, 96, 97, 53, 395, 182, 183, 55, 396, 226, 227, 56, 397, 254, 255, 57, 398, 276] (by decide +kernel) (by decide +kernel)
set_option maxRecDepth 20000 in
theorem xg_wsX10_init_r2 : GoodIn lw_tbl wsX10_init_r2 := goodIn_r _ [277, 58, 399, 300, 301, 60, 400, 401, 343, 344, 61, 394, 402, 81, 82, 83, 84, 95, 85, 87, 98, 99, 100, 101] (by decide +kernel) (by decide +kernel)
set_option maxRecDepth 20000 in
theorem xg_wsX10_init_r3 : GoodIn lw_tbl wsX10_init_r3 := goodIn_r _ [102, 103, 54, 126, 128, 130, 132, 133, 135, 137, 139, 104, 105, 106, 107, 108, 110, 112, 114, 184, 185, 186, 187, 188] (by decide +kernel) (by decide +kernel)
set_option maxRecDepth 20000 in
theorem xg_wsX10_init_r4 : GoodIn lw_tbl wsX10_init_r4 := goodIn_r _ [190, 192, 193, 196, 228, 229, 230, 231, 232, 233, 253, 234, 235, 256, 257, 258, 259, 260, 261, 263, 265, 278, 279, 280] (by decide +kernel) (by decide +kernel)
set_option maxRecDepth 20000 in
theorem xg_wsX10_init_r5 : GoodIn lw_tbl wsX10_init_r5 := goodIn_r _ [281, 282, 287, 289, 291, 284, 285, 59, 286, 302, 303, 304, 305, 306, 342, 307, 309, 316, 321, 325, 345, 346, 347, 348] (by decide +kernel) (by decide +kernel)
set_option maxRecDepth 20000 in
theorem xg_wsX10_init_r6 : GoodIn lw_tbl wsX10_init_r6 := goodIn_r _ [351, 355, 352, 349, 353, 354] (by decide +kernel) (by decide +kernel)
set_option maxRecDepth 20000 in
theorem xg_wsX80 : GoodIn lw_tbl wsX80 := goodIn_r _ [90, 92] (by decide +kernel) (by decide +kernel)
set_option maxRecDepth 20000 in
theorem xg_wsX100 : GoodIn lw_tbl wsX100 := goodIn_r _ [403, 405, 407, 409, 411, 413, 415, 417, 419, 421] (by decide +kernel) (by decide +kernel)
set_option maxRecDepth 20000 in
theorem xg_wsX50 : GoodIn lw_tbl wsX50 := goodIn_r _ [153, 155, 157, 159, 161, 163, 165, 167, 169, 171, 173, 175, 177, 179] (by decide +kernel) (by decide +kernel)
set_option maxRecDepth 20000 in
theorem xg_wsX00 : GoodIn lw_tbl wsX00 := goodIn_r _ [207, 209, 211, 213, 215, 217, 219, 221, 223] (by decide +kernel) (by decide +kernel)
set_option maxRecDepth 20000 in
theorem xg_wsX90 : GoodIn lw_tbl wsX90 := goodIn_r _ [240, 242, 244, 246, 248, 250] (by decide +kernel) (by decide +kernel)
set_option maxRecDepth 20000 in
theorem xg_wsX70 : GoodIn lw_tbl wsX70 := goodIn_r _ [267, 269, 271, 273] (by decide +kernel) (by decide +kernel)
set_option maxRecDepth 20000 in
theorem xg_wsX60 : GoodIn lw_tbl wsX60 := goodIn_r _ [293, 295, 297] (by decide +kernel) (by decide +kernel)
set_option maxRecDepth 20000 in
theorem xg_wsX30 : GoodIn lw_tbl wsX30 := goodIn_r _ [329, 331, 333, 335, 337, 339] (by decide +kernel) (by decide +kernel)
set_option maxRecDepth 20000 in
theorem xg_wsX40 : GoodIn lw_tbl wsX40 := goodIn_r _ [366, 368, 370, 372, 374, 376, 378, 380, 382, 384, 386, 388, 390] (by decide +kernel) (by decide +kernel)
set_option maxRecDepth 20000 in
theorem xg_wsX20 : GoodIn lw_tbl wsX20 := goodIn_r _ [117, 119, 121, 123] (by decide +kernel) (by decide +kernel)
theorem xgc_X10_init : GoodIn lw_tbl ([.code yX10_init cX10_init 1 none] : List Cond) := goodIn_r _ [75] (by decide +kernel) (by decide +kernel)
set_option maxRecDepth 20000 in
theorem xgw_X10_init : GoodIn lw_tbl wsX10_init := xg_cons xgc_X10_init (goodIn_app (goodIn_app (goodIn_app (goodIn_app (goodIn_app (goodIn_app (goodIn_app (goodIn_app (goodIn_app (goodIn_app (goodIn_app xg_wsX10_init_r1 (goodIn_app xg_wsX10_init_r2 (goodIn_app xg_wsX10_init_r3 (goodIn_app xg_wsX10_init_r4 (goodIn_app xg_wsX10_init_r5 xg_wsX10_init_r6))))) xg_wsX80) xg_wsX100) xg_wsX50) xg_wsX00) xg_wsX90) xg_wsX70) xg_wsX60) xg_wsX30) xg_wsX40) xg_wsX20)
theorem xL_law_X10_init : GoodIn lw_tbl (wsX10_init) := xgw_X10_init
set_option maxRecDepth 20000 in
theorem xg_wsX11_init_r1 : GoodIn lw_tbl wsX11_init_r1 := goodIn_r _ [994, 77, 78, 95, 1012, 1013, 253, 1014, 1019, 1020, 1021, 1028, 1029, 1031, 1033, 1035, 1036, 1046, 1047, 1048, 1049, 1050, 1051, 1058] (by decide +kernel) (by decide +kernel)
set_option maxRecDepth 20000 in
theorem xg_wsX11_init_r2 : GoodIn lw_tbl wsX11_init_r2 := goodIn_r _ [1059, 1060, 1061, 1062, 1065, 1067, 1068, 1069, 995, 997, 5, 62, 998, 1018, 1022, 1023, 1024, 1025, 1026, 1027, 999, 1001, 6, 1002] (by decide +kernel) (by decide +kernel)
set_option maxRecDepth 20000 in
theorem xg_wsX11_init_r3 : GoodIn lw_tbl wsX11_init_r3 := goodIn_r _ [1011, 1015, 1016, 1017, 1003, 1005, 7, 1006, 1044, 1045, 1052, 1053, 1054, 1055, 1056, 1057, 1007, 1009, 8, 1010] (by decide +kernel) (by decide +kernel)
set_option maxRecDepth 20000 in
theorem xg_wsX110 : GoodIn lw_tbl wsX110 := goodIn_r _ [1070, 1072, 1074, 1076, 1078, 1080, 1082, 1084, 1086, 1088, 1090, 1092, 1094, 1096, 1098, 1100, 1102, 1104, 1106, 1108, 1110, 1112, 1114, 1116, 1118, 1120, 1122, 1124, 1126, 1128, 1130, 1132, 1134, 1136, 1138, 1140, 1142, 1144, 1146, 1148, 1150, 1152, 1154, 1156, 1158, 1160, 1162, 1164, 1166, 1168, 1170, 1172, 1174, 1176, 1178, 1180, 1182, 1184, 1186] (by decide +kernel) (by decide +kernel)
theorem xgc_X11_init : GoodIn lw_tbl ([.code yX11_init cX11_init 2 none] : List Cond) := goodIn_r _ [993] (by decide +kernel) (by decide +kernel)
set_option maxRecDepth 20000 in
theorem xgw_X11_init : GoodIn lw_tbl wsX11_init := xg_cons xgc_X11_init (goodIn_app (goodIn_app xg_wsX11_init_r1 (goodIn_app xg_wsX11_init_r2 xg_wsX11_init_r3)) xg_wsX110)
theorem xL_law_X11_init : GoodIn lw_tbl (wsX11_init) := xgw_X11_init
set_option maxRecDepth 20000 in
theorem xg_X10_feed_49 : GoodIn lw_tbl ([.fieldLink RX10 10 "PowerRails" "tape" "LPowerRails$Tape;", .fieldLink RX10 80 "PowerRails$Tape" "length" "I", .methodLink RX10 76 yX8_push, .instanceMethod yX8_push, .selects RX8 yX8_push yX8_push, .initialized RX8, .code yX8_push cX8_push 4 (some .boolean), .fieldLink RX8 13 "PowerRails$Tape" "length" "I", .fieldLink RX8 9 "PowerRails$Tape" "bytes" "[I"] : List Cond) := goodIn_r _ [393, 88, 428, 429, 430, 52, 431, 87, 85] (by decide +kernel) (by decide +kernel)
theorem xgc_X10_feed : GoodIn lw_tbl ([.code yX10_feed cX10_feed 3 (some .int)] : List Cond) := goodIn_r _ [427] (by decide +kernel) (by decide +kernel)
set_option maxRecDepth 20000 in
theorem xgw_X10_feed : GoodIn lw_tbl wsX10_feed := xg_cons xgc_X10_feed (goodIn_app (goodIn_app xg_X10_feed_49 xg_wsX100) xg_wsX80)
theorem xg4_X10_feed : GoodIn lw_tbl ([.methodLink RL 15 yX10_feed, .instanceMethod yX10_feed, .selects RX10 yX10_feed yX10_feed, .initialized RX10] : List Cond) := goodIn_r _ [424, 425, 426, 51] (by decide +kernel) (by decide +kernel)
theorem xL_law_X10_feed : GoodIn lw_tbl (wsV RL 15 RX10 yX10_feed wsX10_feed) := goodIn_app xg4_X10_feed xgw_X10_feed
set_option maxRecDepth 20000 in
theorem xg_X11_feed_56 : GoodIn lw_tbl ([.fieldLink RX11 136 "PowerRailsModel" "taped" "I", .fieldLink RX11 44 "PowerRailsModel" "tape" "[I", .constantLong RX11 139 (255)] : List Cond) := goodIn_r _ [1037, 1036, 1193] (by decide +kernel) (by decide +kernel)
theorem xgc_X11_feed : GoodIn lw_tbl ([.code yX11_feed cX11_feed 4 (some .int)] : List Cond) := goodIn_r _ [1192] (by decide +kernel) (by decide +kernel)
set_option maxRecDepth 20000 in
theorem xgw_X11_feed : GoodIn lw_tbl wsX11_feed := xg_cons xgc_X11_feed (goodIn_app xg_X11_feed_56 xg_wsX110)
theorem xg4_X11_feed : GoodIn lw_tbl ([.methodLink RL 19 yX11_feed, .instanceMethod yX11_feed, .selects RX11 yX11_feed yX11_feed, .initialized RX11] : List Cond) := goodIn_r _ [1189, 1190, 1191, 62] (by decide +kernel) (by decide +kernel)
theorem xL_law_X11_feed : GoodIn lw_tbl (wsV RL 19 RX11 yX11_feed wsX11_feed) := goodIn_app xg4_X11_feed xgw_X11_feed
set_option maxRecDepth 20000 in
theorem xg_X10_end_63 : GoodIn lw_tbl ([.fieldLink RX10 10 "PowerRails" "tape" "LPowerRails$Tape;", .fieldLink RX10 80 "PowerRails$Tape" "length" "I"] : List Cond) := goodIn_r _ [393, 88] (by decide +kernel) (by decide +kernel)
theorem xgc_X10_end : GoodIn lw_tbl ([.code yX10_end cX10_end 3 (some .int)] : List Cond) := goodIn_r _ [435] (by decide +kernel) (by decide +kernel)
set_option maxRecDepth 20000 in
theorem xgw_X10_end : GoodIn lw_tbl wsX10_end := xg_cons xgc_X10_end (goodIn_app (goodIn_app xg_X10_end_63 xg_wsX100) xg_wsX80)
theorem xg4_X10_end : GoodIn lw_tbl ([.methodLink RL 20 yX10_end, .instanceMethod yX10_end, .selects RX10 yX10_end yX10_end, .initialized RX10] : List Cond) := goodIn_r _ [432, 433, 434, 51] (by decide +kernel) (by decide +kernel)
theorem xL_law_X10_end : GoodIn lw_tbl (wsV RL 20 RX10 yX10_end wsX10_end) := goodIn_app xg4_X10_end xgw_X10_end
set_option maxRecDepth 20000 in
theorem xg_X11_end_70 : GoodIn lw_tbl ([.fieldLink RX11 136 "PowerRailsModel" "taped" "I", .methodLink RX11 141 yX11_in, .static yX11_in, .initialized RX11, .code yX11_in cX11_in 6 (some .boolean)] : List Cond) := goodIn_r _ [1037, 1198, 1199, 62, 1200] (by decide +kernel) (by decide +kernel)
theorem xgc_X11_end : GoodIn lw_tbl ([.code yX11_end cX11_end 3 (some .int)] : List Cond) := goodIn_r _ [1197] (by decide +kernel) (by decide +kernel)
set_option maxRecDepth 20000 in
theorem xgw_X11_end : GoodIn lw_tbl wsX11_end := xg_cons xgc_X11_end (goodIn_app xg_X11_end_70 xg_wsX110)
theorem xg4_X11_end : GoodIn lw_tbl ([.methodLink RL 24 yX11_end, .instanceMethod yX11_end, .selects RX11 yX11_end yX11_end, .initialized RX11] : List Cond) := goodIn_r _ [1194, 1195, 1196, 62] (by decide +kernel) (by decide +kernel)
theorem xL_law_X11_end : GoodIn lw_tbl (wsV RL 24 RX11 yX11_end wsX11_end) := goodIn_app xg4_X11_end xgw_X11_end
set_option maxRecDepth 20000 in
theorem xg_wsX10_text_r1 : GoodIn lw_tbl wsX10_text_r1 := goodIn_r _ [394, 401, 393, 88, 363, 402, 365, 400, 395, 440, 441, 442, 61, 443, 355, 356, 360, 362, 364, 352, 357, 444, 445, 446] (by decide +kernel) (by decide +kernel)
set_option maxRecDepth 20000 in
theorem xg_wsX10_text_r2 : GoodIn lw_tbl wsX10_text_r2 := goodIn_r _ [60, 447, 309, 316, 321, 325, 448, 285, 59, 286, 449, 450, 451, 452, 351, 89, 86, 358, 359, 453, 454, 455, 456, 457] (by decide +kernel) (by decide +kernel)
set_option maxRecDepth 20000 in
theorem xg_wsX10_text_r3 : GoodIn lw_tbl wsX10_text_r3 := goodIn_r _ [458, 459, 460, 461, 462, 463, 464, 466, 467, 468, 469, 470, 471, 472, 63, 473, 1510, 474, 475, 476, 477, 478, 1511, 480] (by decide +kernel) (by decide +kernel)
set_option maxRecDepth 20000 in
theorem xg_wsX10_text_r4 : GoodIn lw_tbl wsX10_text_r4 := goodIn_r _ [481, 482, 483, 484, 485, 486, 487, 488, 489, 64, 490, 491, 492, 493, 494, 496, 497, 65, 498, 499, 500, 66, 501, 502] (by decide +kernel) (by decide +kernel)
set_option maxRecDepth 20000 in
theorem xg_wsX10_text_r5 : GoodIn lw_tbl wsX10_text_r5 := goodIn_r _ [503, 504, 505, 506, 507, 508, 509, 510, 511, 512, 514, 516, 518, 519, 520, 521, 315, 522, 523, 524, 525, 307, 530, 526] (by decide +kernel) (by decide +kernel)
set_option maxRecDepth 20000 in
theorem xg_wsX10_text_r6 : GoodIn lw_tbl wsX10_text_r6 := goodIn_r _ [527, 528, 529, 306, 531, 532, 533, 534, 535, 536, 537, 538, 539, 540, 541, 542, 543, 545, 546, 547, 548, 550, 551, 552] (by decide +kernel) (by decide +kernel)
set_option maxRecDepth 20000 in
theorem xg_wsX10_text_r7 : GoodIn lw_tbl wsX10_text_r7 := goodIn_r _ [553, 557, 558, 559, 560, 361, 353, 308, 600, 602, 601, 67, 561, 562, 563, 564, 354, 568, 565, 566, 567, 569, 570, 571] (by decide +kernel) (by decide +kernel)
set_option maxRecDepth 20000 in
theorem xg_wsX10_text_r8 : GoodIn lw_tbl wsX10_text_r8 := goodIn_r _ [572, 573, 574, 575, 576, 578, 579, 580, 581, 586, 582, 583, 584, 585, 588, 589, 590, 591, 592, 593, 594, 595, 596, 597] (by decide +kernel) (by decide +kernel)
set_option maxRecDepth 20000 in
theorem xg_wsX10_text_r9 : GoodIn lw_tbl wsX10_text_r9 := goodIn_r _ [598, 599, 603, 604, 605, 606, 320, 324, 328, 609, 610, 611, 612, 613, 614, 615, 616, 617, 618, 68, 619, 620, 621, 622] (by decide +kernel) (by decide +kernel)
set_option maxRecDepth 20000 in
theorem xg_wsX10_text_r10 : GoodIn lw_tbl wsX10_text_r10 := goodIn_r _ [53, 623, 126, 115, 128, 130, 132, 133, 135, 137, 139, 141, 143, 322, 145, 147, 149, 151, 624, 625, 627, 0, 51, 628] (by decide +kernel) (by decide +kernel)
set_option maxRecDepth 20000 in
theorem xg_wsX10_text_r11 : GoodIn lw_tbl wsX10_text_r11 := goodIn_r _ [397, 398, 264, 629, 630, 631, 56, 632, 235, 234] (by decide +kernel) (by decide +kernel)
theorem xgc_X10_text : GoodIn lw_tbl ([.code yX10_text cX10_text 3 (some .int)] : List Cond) := goodIn_r _ [439] (by decide +kernel) (by decide +kernel)
set_option maxRecDepth 20000 in
theorem xgw_X10_text : GoodIn lw_tbl wsX10_text := xg_cons xgc_X10_text (goodIn_app (goodIn_app (goodIn_app (goodIn_app (goodIn_app (goodIn_app (goodIn_app (goodIn_app (goodIn_app xg_wsX10_text_r1 (goodIn_app xg_wsX10_text_r2 (goodIn_app xg_wsX10_text_r3 (goodIn_app xg_wsX10_text_r4 (goodIn_app xg_wsX10_text_r5 (goodIn_app xg_wsX10_text_r6 (goodIn_app xg_wsX10_text_r7 (goodIn_app xg_wsX10_text_r8 (goodIn_app xg_wsX10_text_r9 (goodIn_app xg_wsX10_text_r10 xg_wsX10_text_r11)))))))))) xg_wsX100) xg_wsX80) xg_wsX40) xg_wsX30) xg_wsX50) xg_wsX20) xg_wsX70) xg_wsX90)
theorem xg4_X10_text : GoodIn lw_tbl ([.methodLink RL 25 yX10_text, .instanceMethod yX10_text, .selects RX10 yX10_text yX10_text, .initialized RX10] : List Cond) := goodIn_r _ [436, 437, 438, 51] (by decide +kernel) (by decide +kernel)
theorem xL_law_X10_text : GoodIn lw_tbl (wsV RL 25 RX10 yX10_text wsX10_text) := goodIn_app xg4_X10_text xgw_X10_text
set_option maxRecDepth 20000 in
theorem xg_wsX11_text_r1 : GoodIn lw_tbl wsX11_text_r1 := goodIn_r _ [1042, 1038, 1040, 1027, 1028, 1018, 1029, 1043, 1037, 995, 997, 5, 62, 998, 1022, 1023, 1024, 1025, 1026, 1205, 1207, 9, 1208, 1039] (by decide +kernel) (by decide +kernel)
set_option maxRecDepth 20000 in
theorem xg_wsX11_text_r2 : GoodIn lw_tbl wsX11_text_r2 := goodIn_r _ [1213, 1214, 1215, 1216, 1041, 1209, 1211, 10, 1212, 1036, 1198, 1199, 1200, 1217, 1219, 11, 1220, 1221, 1223, 12, 1224, 1234, 1235, 1225] (by decide +kernel) (by decide +kernel)
set_option maxRecDepth 20000 in
theorem xg_wsX11_text_r3 : GoodIn lw_tbl wsX11_text_r3 := goodIn_r _ [1227, 13, 1228, 1229, 1230, 1232, 14, 1233, 1236, 1238, 15, 1239, 1019, 1244, 1245, 1240, 1242, 16, 1243, 1246, 1248, 17, 1249, 1250] (by decide +kernel) (by decide +kernel)
set_option maxRecDepth 20000 in
theorem xg_wsX11_text_r4 : GoodIn lw_tbl wsX11_text_r4 := goodIn_r _ [1252, 18, 1253, 1031, 1030, 1254, 1256, 19, 1257, 1032, 1034, 1258, 1260, 20, 1261, 1262, 1264, 21, 1265, 1033, 1266, 1268, 22, 1269] (by decide +kernel) (by decide +kernel)
set_option maxRecDepth 20000 in
theorem xg_wsX11_text_r5 : GoodIn lw_tbl wsX11_text_r5 := goodIn_r _ [1270, 1272, 23, 1273, 1274, 1276, 24, 1277, 1020, 1021, 1278, 1280, 25, 1281, 1035, 999, 1001, 6, 1002, 1011, 1015, 1016, 1017, 1012] (by decide +kernel) (by decide +kernel)
set_option maxRecDepth 20000 in
theorem xg_wsX11_text_r6 : GoodIn lw_tbl wsX11_text_r6 := goodIn_r _ [1013, 1014, 1003, 1005, 7, 1006, 1044, 1045, 1052, 1053, 1054, 1055, 1056, 1057, 1046, 1047, 1048, 1049, 1050, 1051, 1007, 1009, 8, 1010] (by decide +kernel) (by decide +kernel)
theorem xgc_X11_text : GoodIn lw_tbl ([.code yX11_text cX11_text 3 (some .int)] : List Cond) := goodIn_r _ [1204] (by decide +kernel) (by decide +kernel)
set_option maxRecDepth 20000 in
theorem xgw_X11_text : GoodIn lw_tbl wsX11_text := xg_cons xgc_X11_text (goodIn_app (goodIn_app xg_wsX11_text_r1 (goodIn_app xg_wsX11_text_r2 (goodIn_app xg_wsX11_text_r3 (goodIn_app xg_wsX11_text_r4 (goodIn_app xg_wsX11_text_r5 xg_wsX11_text_r6))))) xg_wsX110)
theorem xg4_X11_text : GoodIn lw_tbl ([.methodLink RL 29 yX11_text, .instanceMethod yX11_text, .selects RX11 yX11_text yX11_text, .initialized RX11] : List Cond) := goodIn_r _ [1201, 1202, 1203, 62] (by decide +kernel) (by decide +kernel)
theorem xL_law_X11_text : GoodIn lw_tbl (wsV RL 29 RX11 yX11_text wsX11_text) := goodIn_app xg4_X11_text xgw_X11_text
set_option maxRecDepth 20000 in
theorem xg_X10_fault_121 : GoodIn lw_tbl ([.fieldLink RX10 72 "PowerRails" "latestFault" "I"] : List Cond) := goodIn_r _ [402] (by decide +kernel) (by decide +kernel)
theorem xgc_X10_fault : GoodIn lw_tbl ([.code yX10_fault cX10_fault 1 (some .int)] : List Cond) := goodIn_r _ [637] (by decide +kernel) (by decide +kernel)
set_option maxRecDepth 20000 in
theorem xgw_X10_fault : GoodIn lw_tbl wsX10_fault := xg_cons xgc_X10_fault (goodIn_app xg_X10_fault_121 xg_wsX100)
theorem xg4_X10_fault : GoodIn lw_tbl ([.methodLink RL 30 yX10_fault, .instanceMethod yX10_fault, .selects RX10 yX10_fault yX10_fault, .initialized RX10] : List Cond) := goodIn_r _ [634, 635, 636, 51] (by decide +kernel) (by decide +kernel)
theorem xL_law_X10_fault : GoodIn lw_tbl (wsV RL 30 RX10 yX10_fault wsX10_fault) := goodIn_app xg4_X10_fault xgw_X10_fault
set_option maxRecDepth 20000 in
theorem xg_X11_fault_128 : GoodIn lw_tbl ([.fieldLink RX11 145 "PowerRailsModel" "fault" "I"] : List Cond) := goodIn_r _ [1042] (by decide +kernel) (by decide +kernel)
theorem xgc_X11_fault : GoodIn lw_tbl ([.code yX11_fault cX11_fault 1 (some .int)] : List Cond) := goodIn_r _ [1285] (by decide +kernel) (by decide +kernel)
set_option maxRecDepth 20000 in
theorem xgw_X11_fault : GoodIn lw_tbl wsX11_fault := xg_cons xgc_X11_fault (goodIn_app xg_X11_fault_128 xg_wsX110)
theorem xg4_X11_fault : GoodIn lw_tbl ([.methodLink RL 33 yX11_fault, .instanceMethod yX11_fault, .selects RX11 yX11_fault yX11_fault, .initialized RX11] : List Cond) := goodIn_r _ [1282, 1283, 1284, 62] (by decide +kernel) (by decide +kernel)
theorem xL_law_X11_fault : GoodIn lw_tbl (wsV RL 33 RX11 yX11_fault wsX11_fault) := goodIn_app xg4_X11_fault xgw_X11_fault
set_option maxRecDepth 20000 in
theorem xg_X10_rail_135 : GoodIn lw_tbl ([.fieldLink RX10 56 "PowerRails" "plan" "LPowerRails$Plan;", .methodLink RX10 100 yX3_hasRail, .instanceMethod yX3_hasRail, .selects RX3 yX3_hasRail yX3_hasRail, .initialized RX3, .code yX3_hasRail cX3_hasRail 2 (some .boolean), .fieldLink RX3 19 "PowerRails$Plan" "rails" "I", .methodLink RX10 104 yX3_number, .instanceMethod yX3_number, .selects RX3 yX3_number yX3_number, .code yX3_number cX3_number 3 (some .int), .fieldLink RX3 11 "PowerRails$Plan" "numbers" "[I"] : List Cond) := goodIn_r _ [400, 642, 643, 644, 60, 645, 309, 646, 583, 584, 585, 306] (by decide +kernel) (by decide +kernel)
theorem xgc_X10_rail : GoodIn lw_tbl ([.code yX10_rail cX10_rail 3 (some .int)] : List Cond) := goodIn_r _ [641] (by decide +kernel) (by decide +kernel)
set_option maxRecDepth 20000 in
theorem xgw_X10_rail : GoodIn lw_tbl wsX10_rail := xg_cons xgc_X10_rail (goodIn_app (goodIn_app xg_X10_rail_135 xg_wsX100) xg_wsX30)
theorem xg4_X10_rail : GoodIn lw_tbl ([.methodLink RL 34 yX10_rail, .instanceMethod yX10_rail, .selects RX10 yX10_rail yX10_rail, .initialized RX10] : List Cond) := goodIn_r _ [638, 639, 640, 51] (by decide +kernel) (by decide +kernel)
theorem xL_law_X10_rail : GoodIn lw_tbl (wsV RL 34 RX10 yX10_rail wsX10_rail) := goodIn_app xg4_X10_rail xgw_X10_rail
set_option maxRecDepth 20000 in
theorem xg_X11_rail_142 : GoodIn lw_tbl ([.constantLong RX11 161 (7), .fieldLink RX11 13 "PowerRailsModel" "names" "[I", .methodLink RX11 248 yX11_isRail, .instanceMethod yX11_isRail, .selects RX11 yX11_isRail yX11_isRail, .initialized RX11, .code yX11_isRail cX11_isRail 2 (some .boolean), .fieldLink RX11 121 "PowerRailsModel" "rails" "I", .methodLink RX11 141 yX11_in, .static yX11_in, .code yX11_in cX11_in 6 (some .boolean), .methodLink RX11 251 yX11_of, .instanceMethod yX11_of, .selects RX11 yX11_of yX11_of, .code yX11_of cX11_of 3 (some .int), .fieldLink RX11 7 "PowerRailsModel" "told" "[I"] : List Cond) := goodIn_r _ [1229, 1013, 1290, 1292, 26, 62, 1293, 1011, 1198, 1199, 1200, 1007, 1009, 8, 1010, 1012] (by decide +kernel) (by decide +kernel)
theorem xgc_X11_rail : GoodIn lw_tbl ([.code yX11_rail cX11_rail 3 (some .int)] : List Cond) := goodIn_r _ [1289] (by decide +kernel) (by decide +kernel)
set_option maxRecDepth 20000 in
theorem xgw_X11_rail : GoodIn lw_tbl wsX11_rail := xg_cons xgc_X11_rail (goodIn_app xg_X11_rail_142 xg_wsX110)
theorem xg4_X11_rail : GoodIn lw_tbl ([.methodLink RL 38 yX11_rail, .instanceMethod yX11_rail, .selects RX11 yX11_rail yX11_rail, .initialized RX11] : List Cond) := goodIn_r _ [1286, 1287, 1288, 62] (by decide +kernel) (by decide +kernel)
theorem xL_law_X11_rail : GoodIn lw_tbl (wsV RL 38 RX11 yX11_rail wsX11_rail) := goodIn_app xg4_X11_rail xgw_X11_rail
set_option maxRecDepth 20000 in
theorem xg_X10_rule_149 : GoodIn lw_tbl ([.fieldLink RX10 56 "PowerRails" "plan" "LPowerRails$Plan;", .fieldLink RX10 108 "PowerRails$Plan" "limit" "I", .fieldLink RX10 111 "PowerRails$Plan" "retry" "I", .fieldLink RX10 114 "PowerRails$Plan" "behind" "I", .fieldLink RX10 117 "PowerRails$Plan" "rails" "I"] : List Cond) := goodIn_r _ [400, 318, 323, 326, 314] (by decide +kernel) (by decide +kernel)
theorem xgc_X10_rule : GoodIn lw_tbl ([.code yX10_rule cX10_rule 2 (some .int)] : List Cond) := goodIn_r _ [650] (by decide +kernel) (by decide +kernel)
set_option maxRecDepth 20000 in
theorem xgw_X10_rule : GoodIn lw_tbl wsX10_rule := xg_cons xgc_X10_rule (goodIn_app (goodIn_app xg_X10_rule_149 xg_wsX100) xg_wsX30)
theorem xg4_X10_rule : GoodIn lw_tbl ([.methodLink RL 39 yX10_rule, .instanceMethod yX10_rule, .selects RX10 yX10_rule yX10_rule, .initialized RX10] : List Cond) := goodIn_r _ [647, 648, 649, 51] (by decide +kernel) (by decide +kernel)
theorem xL_law_X10_rule : GoodIn lw_tbl (wsV RL 39 RX10 yX10_rule wsX10_rule) := goodIn_app xg4_X10_rule xgw_X10_rule
set_option maxRecDepth 20000 in
theorem xg_X11_rule_156 : GoodIn lw_tbl ([.fieldLink RX11 124 "PowerRailsModel" "limit" "I", .fieldLink RX11 127 "PowerRailsModel" "retry" "I", .fieldLink RX11 130 "PowerRailsModel" "pause" "I", .fieldLink RX11 121 "PowerRailsModel" "rails" "I"] : List Cond) := goodIn_r _ [1015, 1016, 1017, 1011] (by decide +kernel) (by decide +kernel)
theorem xgc_X11_rule : GoodIn lw_tbl ([.code yX11_rule cX11_rule 2 (some .int)] : List Cond) := goodIn_r _ [1297] (by decide +kernel) (by decide +kernel)
set_option maxRecDepth 20000 in
theorem xgw_X11_rule : GoodIn lw_tbl wsX11_rule := xg_cons xgc_X11_rule (goodIn_app xg_X11_rule_156 xg_wsX110)
theorem xg4_X11_rule : GoodIn lw_tbl ([.methodLink RL 42 yX11_rule, .instanceMethod yX11_rule, .selects RX11 yX11_rule yX11_rule, .initialized RX11] : List Cond) := goodIn_r _ [1294, 1295, 1296, 62] (by decide +kernel) (by decide +kernel)
theorem xL_law_X11_rule : GoodIn lw_tbl (wsV RL 42 RX11 yX11_rule wsX11_rule) := goodIn_app xg4_X11_rule xgw_X11_rule
set_option maxRecDepth 20000 in
theorem xg_X10_holds_163 : GoodIn lw_tbl ([.fieldLink RX10 56 "PowerRails" "plan" "LPowerRails$Plan;", .methodLink RX10 100 yX3_hasRail, .instanceMethod yX3_hasRail, .selects RX3 yX3_hasRail yX3_hasRail, .initialized RX3, .code yX3_hasRail cX3_hasRail 2 (some .boolean), .fieldLink RX3 19 "PowerRails$Plan" "rails" "I", .methodLink RX10 120 yX3_allRails, .instanceMethod yX3_allRails, .selects RX3 yX3_allRails yX3_allRails, .code yX3_allRails cX3_allRails 1 (some .int), .methodLink RX10 124 yX3_holdsWith, .instanceMethod yX3_holdsWith, .selects RX3 yX3_holdsWith yX3_holdsWith, .code yX3_holdsWith cX3_holdsWith 3 (some .boolean), .fieldLink RX3 15 "PowerRails$Plan" "tables" "[J", .methodLink RX10 128 yX10_asNumber, .static yX10_asNumber, .initialized RX10, .code yX10_asNumber cX10_asNumber 1 (some .int)] : List Cond) := goodIn_r _ [400, 642, 643, 644, 60, 645, 309, 655, 656, 657, 658, 659, 660, 661, 662, 307, 663, 664, 51, 665] (by decide +kernel) (by decide +kernel)
theorem xgc_X10_holds : GoodIn lw_tbl ([.code yX10_holds cX10_holds 3 (some .int)] : List Cond) := goodIn_r _ [654] (by decide +kernel) (by decide +kernel)
set_option maxRecDepth 20000 in
theorem xgw_X10_holds : GoodIn lw_tbl wsX10_holds := xg_cons xgc_X10_holds (goodIn_app (goodIn_app xg_X10_holds_163 xg_wsX100) xg_wsX30)
theorem xg4_X10_holds : GoodIn lw_tbl ([.methodLink RL 43 yX10_holds, .instanceMethod yX10_holds, .selects RX10 yX10_holds yX10_holds, .initialized RX10] : List Cond) := goodIn_r _ [651, 652, 653, 51] (by decide +kernel) (by decide +kernel)
theorem xL_law_X10_holds : GoodIn lw_tbl (wsV RL 43 RX10 yX10_holds wsX10_holds) := goodIn_app xg4_X10_holds xgw_X10_holds
set_option maxRecDepth 20000 in
theorem xg_X11_holds_170 : GoodIn lw_tbl ([.constantLong RX11 254 (511), .methodLink RX11 248 yX11_isRail, .instanceMethod yX11_isRail, .selects RX11 yX11_isRail yX11_isRail, .initialized RX11, .code yX11_isRail cX11_isRail 2 (some .boolean), .fieldLink RX11 121 "PowerRailsModel" "rails" "I", .methodLink RX11 141 yX11_in, .static yX11_in, .code yX11_in cX11_in 6 (some .boolean), .methodLink RX11 256 yX11_isSo, .instanceMethod yX11_isSo, .selects RX11 yX11_isSo yX11_isSo, .code yX11_isSo cX11_isSo 3 (some .boolean), .fieldLink RX11 16 "PowerRailsModel" "table" "[Z", .methodLink RX11 260 yX11_flag, .static yX11_flag, .code yX11_flag cX11_flag 1 (some .int)] : List Cond) := goodIn_r _ [1302, 1290, 1292, 26, 62, 1293, 1011, 1198, 1199, 1200, 1303, 1305, 27, 1306, 1014, 1307, 1308, 1309] (by decide +kernel) (by decide +kernel)
theorem xgc_X11_holds : GoodIn lw_tbl ([.code yX11_holds cX11_holds 3 (some .int)] : List Cond) := goodIn_r _ [1301] (by decide +kernel) (by decide +kernel)
set_option maxRecDepth 20000 in
theorem xgw_X11_holds : GoodIn lw_tbl wsX11_holds := xg_cons xgc_X11_holds (goodIn_app xg_X11_holds_170 xg_wsX110)
theorem xg4_X11_holds : GoodIn lw_tbl ([.methodLink RL 46 yX11_holds, .instanceMethod yX11_holds, .selects RX11 yX11_holds yX11_holds, .initialized RX11] : List Cond) := goodIn_r _ [1298, 1299, 1300, 62] (by decide +kernel) (by decide +kernel)
theorem xL_law_X11_holds : GoodIn lw_tbl (wsV RL 46 RX11 yX11_holds wsX11_holds) := goodIn_app xg4_X11_holds xgw_X11_holds
set_option maxRecDepth 20000 in
theorem xg_X10_words_177 : GoodIn lw_tbl ([.fieldLink RX10 56 "PowerRails" "plan" "LPowerRails$Plan;", .methodLink RX10 100 yX3_hasRail, .instanceMethod yX3_hasRail, .selects RX3 yX3_hasRail yX3_hasRail, .initialized RX3, .code yX3_hasRail cX3_hasRail 2 (some .boolean), .fieldLink RX3 19 "PowerRails$Plan" "rails" "I", .methodLink RX10 132 yX3_countLeastSets, .instanceMethod yX3_countLeastSets, .selects RX3 yX3_countLeastSets yX3_countLeastSets, .code yX3_countLeastSets cX3_countLeastSets 4 (some .int), .methodLink RX3 42 yX3_isLeastSet, .instanceMethod yX3_isLeastSet, .selects RX3 yX3_isLeastSet yX3_isLeastSet, .code yX3_isLeastSet cX3_isLeastSet 4 (some .boolean), .methodLink RX3 38 yX3_holdsWith, .instanceMethod yX3_holdsWith, .selects RX3 yX3_holdsWith yX3_holdsWith, .code yX3_holdsWith cX3_holdsWith 3 (some .boolean), .fieldLink RX3 15 "PowerRails$Plan" "tables" "[J"] : List Cond) := goodIn_r _ [400, 642, 643, 644, 60, 645, 309, 670, 671, 672, 673, 674, 675, 676, 677, 678, 660, 661, 662, 307] (by decide +kernel) (by decide +kernel)
set_option maxRecDepth 20000 in
theorem xg_X10_words_179 : GoodIn lw_tbl ([.methodLink RX10 136 yX3_leastSet, .instanceMethod yX3_leastSet, .selects RX3 yX3_leastSet yX3_leastSet, .code yX3_leastSet cX3_leastSet 5 (some .int)] : List Cond) := goodIn_r _ [679, 680, 681, 682] (by decide +kernel) (by decide +kernel)
theorem xgc_X10_words : GoodIn lw_tbl ([.code yX10_words cX10_words 3 (some .int)] : List Cond) := goodIn_r _ [669] (by decide +kernel) (by decide +kernel)
set_option maxRecDepth 20000 in
theorem xgw_X10_words : GoodIn lw_tbl wsX10_words := xg_cons xgc_X10_words (goodIn_app (goodIn_app (goodIn_app xg_X10_words_177 xg_X10_words_179) xg_wsX100) xg_wsX30)
theorem xg4_X10_words : GoodIn lw_tbl ([.methodLink RL 47 yX10_words, .instanceMethod yX10_words, .selects RX10 yX10_words yX10_words, .initialized RX10] : List Cond) := goodIn_r _ [666, 667, 668, 51] (by decide +kernel) (by decide +kernel)
theorem xL_law_X10_words : GoodIn lw_tbl (wsV RL 47 RX10 yX10_words wsX10_words) := goodIn_app xg4_X10_words xgw_X10_words
set_option maxRecDepth 20000 in
theorem xg_X11_words_186 : GoodIn lw_tbl ([.methodLink RX11 248 yX11_isRail, .instanceMethod yX11_isRail, .selects RX11 yX11_isRail yX11_isRail, .initialized RX11, .code yX11_isRail cX11_isRail 2 (some .boolean), .fieldLink RX11 121 "PowerRailsModel" "rails" "I", .methodLink RX11 141 yX11_in, .static yX11_in, .code yX11_in cX11_in 6 (some .boolean), .methodLink RX11 264 yX11_isLeast, .instanceMethod yX11_isLeast, .selects RX11 yX11_isLeast yX11_isLeast, .code yX11_isLeast cX11_isLeast 5 (some .boolean), .methodLink RX11 256 yX11_isSo, .instanceMethod yX11_isSo, .selects RX11 yX11_isSo yX11_isSo, .code yX11_isSo cX11_isSo 3 (some .boolean), .fieldLink RX11 16 "PowerRailsModel" "table" "[Z"] : List Cond) := goodIn_r _ [1290, 1292, 26, 62, 1293, 1011, 1198, 1199, 1200, 1314, 1316, 28, 1317, 1303, 1305, 27, 1306, 1014] (by decide +kernel) (by decide +kernel)
theorem xgc_X11_words : GoodIn lw_tbl ([.code yX11_words cX11_words 5 (some .int)] : List Cond) := goodIn_r _ [1313] (by decide +kernel) (by decide +kernel)
set_option maxRecDepth 20000 in
theorem xgw_X11_words : GoodIn lw_tbl wsX11_words := xg_cons xgc_X11_words (goodIn_app xg_X11_words_186 xg_wsX110)
theorem xg4_X11_words : GoodIn lw_tbl ([.methodLink RL 50 yX11_words, .instanceMethod yX11_words, .selects RX11 yX11_words yX11_words, .initialized RX11] : List Cond) := goodIn_r _ [1310, 1311, 1312, 62] (by decide +kernel) (by decide +kernel)
theorem xL_law_X11_words : GoodIn lw_tbl (wsV RL 50 RX11 yX11_words wsX11_words) := goodIn_app xg4_X11_words xgw_X11_words
set_option maxRecDepth 20000 in
theorem xg_X10_key_193 : GoodIn lw_tbl ([.fieldLink RX10 19 "PowerRails" "run" "LPowerRails$Run;", .fieldLink RX10 139 "PowerRails$Run" "key" "Z", .fieldLink RX10 56 "PowerRails" "plan" "LPowerRails$Plan;", .methodLink RX10 128 yX10_asNumber, .static yX10_asNumber, .initialized RX10, .code yX10_asNumber cX10_asNumber 1 (some .int), .methodLink RX10 143 yX5_turnKey, .instanceMethod yX5_turnKey, .selects RX5 yX5_turnKey yX5_turnKey, .initialized RX5, .code yX5_turnKey cX5_turnKey 3 none, .fieldLink RX5 38 "PowerRails$Run" "key" "Z", .fieldLink RX5 57 "PowerRails$Plan" "retry" "I", .fieldLink RX5 60 "PowerRails$Run" "tries" "I", .fieldLink RX5 54 "PowerRails$Run" "held" "I"] : List Cond) := goodIn_r _ [395, 140, 400, 663, 664, 51, 665, 687, 688, 689, 53, 690, 139, 322, 145, 143] (by decide +kernel) (by decide +kernel)
theorem xgc_X10_key : GoodIn lw_tbl ([.code yX10_key cX10_key 3 (some .int)] : List Cond) := goodIn_r _ [686] (by decide +kernel) (by decide +kernel)
set_option maxRecDepth 20000 in
theorem xgw_X10_key : GoodIn lw_tbl wsX10_key := xg_cons xgc_X10_key (goodIn_app (goodIn_app (goodIn_app xg_X10_key_193 xg_wsX100) xg_wsX50) xg_wsX30)
theorem xg4_X10_key : GoodIn lw_tbl ([.methodLink RL 51 yX10_key, .instanceMethod yX10_key, .selects RX10 yX10_key yX10_key, .initialized RX10] : List Cond) := goodIn_r _ [683, 684, 685, 51] (by decide +kernel) (by decide +kernel)
theorem xL_law_X10_key : GoodIn lw_tbl (wsV RL 51 RX10 yX10_key wsX10_key) := goodIn_app xg4_X10_key xgw_X10_key
set_option maxRecDepth 20000 in
theorem xg_X11_key_200 : GoodIn lw_tbl ([.fieldLink RX11 270 "PowerRailsModel" "isOn" "Z", .fieldLink RX11 273 "PowerRailsModel" "held" "I", .fieldLink RX11 127 "PowerRailsModel" "retry" "I", .fieldLink RX11 276 "PowerRailsModel" "tries" "I", .methodLink RX11 260 yX11_flag, .static yX11_flag, .initialized RX11, .code yX11_flag cX11_flag 1 (some .int)] : List Cond) := goodIn_r _ [1045, 1052, 1016, 1053, 1307, 1308, 62, 1309] (by decide +kernel) (by decide +kernel)
theorem xgc_X11_key : GoodIn lw_tbl ([.code yX11_key cX11_key 3 (some .int)] : List Cond) := goodIn_r _ [1321] (by decide +kernel) (by decide +kernel)
set_option maxRecDepth 20000 in
theorem xgw_X11_key : GoodIn lw_tbl wsX11_key := xg_cons xgc_X11_key (goodIn_app xg_X11_key_200 xg_wsX110)
theorem xg4_X11_key : GoodIn lw_tbl ([.methodLink RL 55 yX11_key, .instanceMethod yX11_key, .selects RX11 yX11_key yX11_key, .initialized RX11] : List Cond) := goodIn_r _ [1318, 1319, 1320, 62] (by decide +kernel) (by decide +kernel)
theorem xL_law_X11_key : GoodIn lw_tbl (wsV RL 55 RX11 yX11_key wsX11_key) := goodIn_app xg4_X11_key xgw_X11_key
set_option maxRecDepth 20000 in
theorem xg_wsX10_dead_r1 : GoodIn lw_tbl wsX10_dead_r1 := goodIn_r _ [400, 395, 138, 642, 643, 644, 60, 645, 309, 663, 664, 51, 665, 625, 627, 0, 628, 397, 398, 264, 629, 630, 631, 56] (by decide +kernel) (by decide +kernel)
set_option maxRecDepth 20000 in
theorem xg_wsX10_dead_r2 : GoodIn lw_tbl wsX10_dead_r2 := goodIn_r _ [632, 235, 234] (by decide +kernel) (by decide +kernel)
theorem xgc_X10_dead : GoodIn lw_tbl ([.code yX10_dead cX10_dead 5 (some .int)] : List Cond) := goodIn_r _ [694] (by decide +kernel) (by decide +kernel)
set_option maxRecDepth 20000 in
theorem xgw_X10_dead : GoodIn lw_tbl wsX10_dead := xg_cons xgc_X10_dead (goodIn_app (goodIn_app (goodIn_app (goodIn_app (goodIn_app (goodIn_app xg_wsX10_dead_r1 xg_wsX10_dead_r2) xg_wsX100) xg_wsX50) xg_wsX30) xg_wsX70) xg_wsX90)
theorem xg4_X10_dead : GoodIn lw_tbl ([.methodLink RL 56 yX10_dead, .instanceMethod yX10_dead, .selects RX10 yX10_dead yX10_dead, .initialized RX10] : List Cond) := goodIn_r _ [691, 692, 693, 51] (by decide +kernel) (by decide +kernel)
theorem xL_law_X10_dead : GoodIn lw_tbl (wsV RL 56 RX10 yX10_dead wsX10_dead) := goodIn_app xg4_X10_dead xgw_X10_dead
set_option maxRecDepth 20000 in
theorem xg_X11_dead_216 : GoodIn lw_tbl ([.fieldLink RX11 56 "PowerRailsModel" "isDead" "[Z", .methodLink RX11 248 yX11_isRail, .instanceMethod yX11_isRail, .selects RX11 yX11_isRail yX11_isRail, .initialized RX11, .code yX11_isRail cX11_isRail 2 (some .boolean), .fieldLink RX11 121 "PowerRailsModel" "rails" "I", .methodLink RX11 141 yX11_in, .static yX11_in, .code yX11_in cX11_in 6 (some .boolean), .methodLink RX11 260 yX11_flag, .static yX11_flag, .code yX11_flag cX11_flag 1 (some .int)] : List Cond) := goodIn_r _ [1049, 1290, 1292, 26, 62, 1293, 1011, 1198, 1199, 1200, 1307, 1308, 1309] (by decide +kernel) (by decide +kernel)
theorem xgc_X11_dead : GoodIn lw_tbl ([.code yX11_dead cX11_dead 4 (some .int)] : List Cond) := goodIn_r _ [1325] (by decide +kernel) (by decide +kernel)
set_option maxRecDepth 20000 in
theorem xgw_X11_dead : GoodIn lw_tbl wsX11_dead := xg_cons xgc_X11_dead (goodIn_app xg_X11_dead_216 xg_wsX110)
theorem xg4_X11_dead : GoodIn lw_tbl ([.methodLink RL 60 yX11_dead, .instanceMethod yX11_dead, .selects RX11 yX11_dead yX11_dead, .initialized RX11] : List Cond) := goodIn_r _ [1322, 1323, 1324, 62] (by decide +kernel) (by decide +kernel)
theorem xL_law_X11_dead : GoodIn lw_tbl (wsV RL 60 RX11 yX11_dead wsX11_dead) := goodIn_app xg4_X11_dead xgw_X11_dead
set_option maxRecDepth 20000 in
theorem xg_wsX10_time_r1 : GoodIn lw_tbl wsX10_time_r1 := goodIn_r _ [400, 395, 134, 642, 643, 644, 60, 645, 309, 646, 583, 584, 585, 306, 625, 627, 0, 51, 628, 397, 398, 264, 629, 630] (by decide +kernel) (by decide +kernel)
set_option maxRecDepth 20000 in
theorem xg_wsX10_time_r2 : GoodIn lw_tbl wsX10_time_r2 := goodIn_r _ [631, 56, 632, 235, 234] (by decide +kernel) (by decide +kernel)
theorem xgc_X10_time : GoodIn lw_tbl ([.code yX10_time cX10_time 4 (some .int)] : List Cond) := goodIn_r _ [698] (by decide +kernel) (by decide +kernel)
set_option maxRecDepth 20000 in
theorem xgw_X10_time : GoodIn lw_tbl wsX10_time := xg_cons xgc_X10_time (goodIn_app (goodIn_app (goodIn_app (goodIn_app (goodIn_app (goodIn_app xg_wsX10_time_r1 xg_wsX10_time_r2) xg_wsX100) xg_wsX50) xg_wsX30) xg_wsX70) xg_wsX90)
theorem xg4_X10_time : GoodIn lw_tbl ([.methodLink RL 61 yX10_time, .instanceMethod yX10_time, .selects RX10 yX10_time yX10_time, .initialized RX10] : List Cond) := goodIn_r _ [695, 696, 697, 51] (by decide +kernel) (by decide +kernel)
theorem xL_law_X10_time : GoodIn lw_tbl (wsV RL 61 RX10 yX10_time wsX10_time) := goodIn_app xg4_X10_time xgw_X10_time
set_option maxRecDepth 20000 in
theorem xg_X11_time_232 : GoodIn lw_tbl ([.fieldLink RX11 59 "PowerRailsModel" "takes" "[I", .methodLink RX11 248 yX11_isRail, .instanceMethod yX11_isRail, .selects RX11 yX11_isRail yX11_isRail, .initialized RX11, .code yX11_isRail cX11_isRail 2 (some .boolean), .fieldLink RX11 121 "PowerRailsModel" "rails" "I", .methodLink RX11 141 yX11_in, .static yX11_in, .code yX11_in cX11_in 6 (some .boolean), .methodLink RX11 251 yX11_of, .instanceMethod yX11_of, .selects RX11 yX11_of yX11_of, .code yX11_of cX11_of 3 (some .int), .fieldLink RX11 7 "PowerRailsModel" "told" "[I"] : List Cond) := goodIn_r _ [1050, 1290, 1292, 26, 62, 1293, 1011, 1198, 1199, 1200, 1007, 1009, 8, 1010, 1012] (by decide +kernel) (by decide +kernel)
theorem xgc_X11_time : GoodIn lw_tbl ([.code yX11_time cX11_time 4 (some .int)] : List Cond) := goodIn_r _ [1329] (by decide +kernel) (by decide +kernel)
set_option maxRecDepth 20000 in
theorem xgw_X11_time : GoodIn lw_tbl wsX11_time := xg_cons xgc_X11_time (goodIn_app xg_X11_time_232 xg_wsX110)
theorem xg4_X11_time : GoodIn lw_tbl ([.methodLink RL 64 yX11_time, .instanceMethod yX11_time, .selects RX11 yX11_time yX11_time, .initialized RX11] : List Cond) := goodIn_r _ [1326, 1327, 1328, 62] (by decide +kernel) (by decide +kernel)
theorem xL_law_X11_time : GoodIn lw_tbl (wsV RL 64 RX11 yX11_time wsX11_time) := goodIn_app xg4_X11_time xgw_X11_time
set_option maxRecDepth 20000 in
theorem xg_wsX10_go_r1 : GoodIn lw_tbl wsX10_go_r1 := goodIn_r _ [395, 148, 400, 703, 704, 705, 53, 706, 149, 151, 740, 741, 68, 742, 707, 708, 709, 710, 711, 712, 713, 714, 143, 139] (by decide +kernel) (by decide +kernel)
set_option maxRecDepth 20000 in
theorem xg_wsX10_go_r2 : GoodIn lw_tbl wsX10_go_r2 := goodIn_r _ [313, 715, 716, 717, 718, 128, 719, 660, 661, 60, 662, 307, 720, 721, 722, 723, 724, 725, 726, 727, 137, 130, 133, 624] (by decide +kernel) (by decide +kernel)
set_option maxRecDepth 20000 in
theorem xg_wsX10_go_r3 : GoodIn lw_tbl wsX10_go_r3 := goodIn_r _ [583, 584, 585, 306, 728, 729, 730, 731, 132, 135, 126, 141, 732, 733, 734, 54, 735, 114, 108, 110, 112, 736, 737, 738] (by decide +kernel) (by decide +kernel)
set_option maxRecDepth 20000 in
theorem xg_wsX10_go_r4 : GoodIn lw_tbl wsX10_go_r4 := goodIn_r _ [739, 743, 744, 745, 746, 319, 747, 748, 749, 750, 147, 145, 327, 751, 752, 753, 754] (by decide +kernel) (by decide +kernel)
theorem xgc_X10_go : GoodIn lw_tbl ([.code yX10_go cX10_go 4 (some .int)] : List Cond) := goodIn_r _ [702] (by decide +kernel) (by decide +kernel)
set_option maxRecDepth 20000 in
theorem xgw_X10_go : GoodIn lw_tbl wsX10_go := xg_cons xgc_X10_go (goodIn_app (goodIn_app (goodIn_app (goodIn_app (goodIn_app xg_wsX10_go_r1 (goodIn_app xg_wsX10_go_r2 (goodIn_app xg_wsX10_go_r3 xg_wsX10_go_r4))) xg_wsX100) xg_wsX50) xg_wsX30) xg_wsX20)
theorem xg4_X10_go : GoodIn lw_tbl ([.methodLink RL 65 yX10_go, .instanceMethod yX10_go, .selects RX10 yX10_go yX10_go, .initialized RX10] : List Cond) := goodIn_r _ [699, 700, 701, 51] (by decide +kernel) (by decide +kernel)
theorem xL_law_X10_go : GoodIn lw_tbl (wsV RL 65 RX10 yX10_go wsX10_go) := goodIn_app xg4_X10_go xgw_X10_go
set_option maxRecDepth 20000 in
theorem xg_wsX11_go_r1 : GoodIn lw_tbl wsX11_go_r1 := goodIn_r _ [1334, 1056, 1198, 1199, 62, 1200, 1335, 1337, 29, 1338, 1054, 1055, 1053, 1017, 1052, 1011, 1047, 1048, 1044, 1339, 1341, 30, 1342, 1343] (by decide +kernel) (by decide +kernel)
set_option maxRecDepth 20000 in
theorem xg_wsX11_go_r2 : GoodIn lw_tbl wsX11_go_r2 := goodIn_r _ [1345, 31, 1346, 1045, 1046, 1051, 1347, 1349, 32, 1350, 1303, 1305, 27, 1306, 1014, 1351, 1353, 33, 1354, 1049, 1050, 1007, 1009, 8] (by decide +kernel) (by decide +kernel)
set_option maxRecDepth 20000 in
theorem xg_wsX11_go_r3 : GoodIn lw_tbl wsX11_go_r3 := goodIn_r _ [1010, 1012, 1355, 1357, 34, 1358, 1057, 1058, 1359, 1361, 35, 1362, 1363, 1365, 36, 1366, 1015] (by decide +kernel) (by decide +kernel)
theorem xgc_X11_go : GoodIn lw_tbl ([.code yX11_go cX11_go 4 (some .int)] : List Cond) := goodIn_r _ [1333] (by decide +kernel) (by decide +kernel)
set_option maxRecDepth 20000 in
theorem xgw_X11_go : GoodIn lw_tbl wsX11_go := xg_cons xgc_X11_go (goodIn_app (goodIn_app xg_wsX11_go_r1 (goodIn_app xg_wsX11_go_r2 xg_wsX11_go_r3)) xg_wsX110)
theorem xg4_X11_go : GoodIn lw_tbl ([.methodLink RL 68 yX11_go, .instanceMethod yX11_go, .selects RX11 yX11_go yX11_go, .initialized RX11] : List Cond) := goodIn_r _ [1330, 1331, 1332, 62] (by decide +kernel) (by decide +kernel)
theorem xL_law_X11_go : GoodIn lw_tbl (wsV RL 68 RX11 yX11_go wsX11_go) := goodIn_app xg4_X11_go xgw_X11_go
set_option maxRecDepth 20000 in
theorem xg_X10_now_263 : GoodIn lw_tbl ([.fieldLink RX10 19 "PowerRails" "run" "LPowerRails$Run;", .fieldLink RX10 160 "PowerRails$Run" "tick" "I", .fieldLink RX10 166 "PowerRails$Run" "latestDraw" "I", .fieldLink RX10 169 "PowerRails$Run" "held" "I", .fieldLink RX10 172 "PowerRails$Run" "tries" "I", .fieldLink RX10 175 "PowerRails$Run" "greatestDraw" "I", .fieldLink RX10 139 "PowerRails$Run" "key" "Z", .fieldLink RX10 154 "PowerRails$Run" "trips" "I", .methodLink RX10 163 yX5_railsThatAre, .instanceMethod yX5_railsThatAre, .selects RX5 yX5_railsThatAre yX5_railsThatAre, .initialized RX5, .code yX5_railsThatAre cX5_railsThatAre 4 (some .int), .fieldLink RX5 18 "PowerRails$Run" "states" "[I", .methodLink RX10 128 yX10_asNumber, .static yX10_asNumber, .initialized RX10, .code yX10_asNumber cX10_asNumber 1 (some .int)] : List Cond) := goodIn_r _ [395, 142, 150, 144, 146, 152, 140, 148, 759, 716, 717, 53, 718, 128, 663, 664, 51, 665] (by decide +kernel) (by decide +kernel)
theorem xgc_X10_now : GoodIn lw_tbl ([.code yX10_now cX10_now 2 (some .int)] : List Cond) := goodIn_r _ [758] (by decide +kernel) (by decide +kernel)
set_option maxRecDepth 20000 in
theorem xgw_X10_now : GoodIn lw_tbl wsX10_now := xg_cons xgc_X10_now (goodIn_app (goodIn_app xg_X10_now_263 xg_wsX100) xg_wsX50)
theorem xg4_X10_now : GoodIn lw_tbl ([.methodLink RL 69 yX10_now, .instanceMethod yX10_now, .selects RX10 yX10_now yX10_now, .initialized RX10] : List Cond) := goodIn_r _ [755, 756, 757, 51] (by decide +kernel) (by decide +kernel)
theorem xL_law_X10_now : GoodIn lw_tbl (wsV RL 69 RX10 yX10_now wsX10_now) := goodIn_app xg4_X10_now xgw_X10_now
set_option maxRecDepth 20000 in
theorem xg_X11_now_270 : GoodIn lw_tbl ([.fieldLink RX11 267 "PowerRailsModel" "tick" "I", .fieldLink RX11 279 "PowerRailsModel" "drawnNow" "I", .fieldLink RX11 273 "PowerRailsModel" "held" "I", .fieldLink RX11 276 "PowerRailsModel" "tries" "I", .fieldLink RX11 282 "PowerRailsModel" "drawnMost" "I", .fieldLink RX11 270 "PowerRailsModel" "isOn" "Z", .fieldLink RX11 285 "PowerRailsModel" "trips" "I", .methodLink RX11 291 yX11_allIn, .instanceMethod yX11_allIn, .selects RX11 yX11_allIn yX11_allIn, .initialized RX11, .code yX11_allIn cX11_allIn 4 (some .int), .fieldLink RX11 121 "PowerRailsModel" "rails" "I", .fieldLink RX11 47 "PowerRailsModel" "state" "[I", .methodLink RX11 260 yX11_flag, .static yX11_flag, .code yX11_flag cX11_flag 1 (some .int)] : List Cond) := goodIn_r _ [1044, 1054, 1052, 1053, 1055, 1045, 1056, 1347, 1349, 32, 62, 1350, 1011, 1046, 1307, 1308, 1309] (by decide +kernel) (by decide +kernel)
theorem xgc_X11_now : GoodIn lw_tbl ([.code yX11_now cX11_now 2 (some .int)] : List Cond) := goodIn_r _ [1370] (by decide +kernel) (by decide +kernel)
set_option maxRecDepth 20000 in
theorem xgw_X11_now : GoodIn lw_tbl wsX11_now := xg_cons xgc_X11_now (goodIn_app xg_X11_now_270 xg_wsX110)
theorem xg4_X11_now : GoodIn lw_tbl ([.methodLink RL 72 yX11_now, .instanceMethod yX11_now, .selects RX11 yX11_now yX11_now, .initialized RX11] : List Cond) := goodIn_r _ [1367, 1368, 1369, 62] (by decide +kernel) (by decide +kernel)
theorem xL_law_X11_now : GoodIn lw_tbl (wsV RL 72 RX11 yX11_now wsX11_now) := goodIn_app xg4_X11_now xgw_X11_now
set_option maxRecDepth 20000 in
theorem xg_X10_is_277 : GoodIn lw_tbl ([.fieldLink RX10 56 "PowerRails" "plan" "LPowerRails$Plan;", .fieldLink RX10 19 "PowerRails" "run" "LPowerRails$Run;", .fieldLink RX10 178 "PowerRails$Run" "states" "[I", .fieldLink RX10 181 "PowerRails$Run" "since" "[I", .fieldLink RX10 147 "PowerRails$Run" "dead" "I", .fieldLink RX10 150 "PowerRails$Run" "takes" "[I", .fieldLink RX10 184 "PowerRails$Run" "timesGood" "[I", .methodLink RX10 100 yX3_hasRail, .instanceMethod yX3_hasRail, .selects RX3 yX3_hasRail yX3_hasRail, .initialized RX3, .code yX3_hasRail cX3_hasRail 2 (some .boolean), .fieldLink RX3 19 "PowerRails$Plan" "rails" "I"] : List Cond) := goodIn_r _ [400, 395, 129, 131, 138, 134, 136, 642, 643, 644, 60, 645, 309] (by decide +kernel) (by decide +kernel)
theorem xgc_X10_is : GoodIn lw_tbl ([.code yX10_is cX10_is 3 (some .int)] : List Cond) := goodIn_r _ [763] (by decide +kernel) (by decide +kernel)
set_option maxRecDepth 20000 in
theorem xgw_X10_is : GoodIn lw_tbl wsX10_is := xg_cons xgc_X10_is (goodIn_app (goodIn_app (goodIn_app xg_X10_is_277 xg_wsX100) xg_wsX50) xg_wsX30)
theorem xg4_X10_is : GoodIn lw_tbl ([.methodLink RL 73 yX10_is, .instanceMethod yX10_is, .selects RX10 yX10_is yX10_is, .initialized RX10] : List Cond) := goodIn_r _ [760, 761, 762, 51] (by decide +kernel) (by decide +kernel)
theorem xL_law_X10_is : GoodIn lw_tbl (wsV RL 73 RX10 yX10_is wsX10_is) := goodIn_app xg4_X10_is xgw_X10_is
set_option maxRecDepth 20000 in
theorem xg_X11_is__284 : GoodIn lw_tbl ([.constantLong RX11 320 (4), .fieldLink RX11 47 "PowerRailsModel" "state" "[I", .fieldLink RX11 50 "PowerRailsModel" "since" "[I", .fieldLink RX11 56 "PowerRailsModel" "isDead" "[Z", .fieldLink RX11 59 "PowerRailsModel" "takes" "[I", .fieldLink RX11 62 "PowerRailsModel" "wasGood" "[I", .methodLink RX11 248 yX11_isRail, .instanceMethod yX11_isRail, .selects RX11 yX11_isRail yX11_isRail, .initialized RX11, .code yX11_isRail cX11_isRail 2 (some .boolean), .fieldLink RX11 121 "PowerRailsModel" "rails" "I", .methodLink RX11 141 yX11_in, .static yX11_in, .code yX11_in cX11_in 6 (some .boolean), .methodLink RX11 260 yX11_flag, .static yX11_flag, .code yX11_flag cX11_flag 1 (some .int)] : List Cond) := goodIn_r _ [1375, 1046, 1047, 1049, 1050, 1051, 1290, 1292, 26, 62, 1293, 1011, 1198, 1199, 1200, 1307, 1308, 1309] (by decide +kernel) (by decide +kernel)
theorem xgc_X11_is_ : GoodIn lw_tbl ([.code yX11_is_ cX11_is_ 3 (some .int)] : List Cond) := goodIn_r _ [1374] (by decide +kernel) (by decide +kernel)
set_option maxRecDepth 20000 in
theorem xgw_X11_is_ : GoodIn lw_tbl wsX11_is_ := xg_cons xgc_X11_is_ (goodIn_app xg_X11_is__284 xg_wsX110)
theorem xg4_X11_is_ : GoodIn lw_tbl ([.methodLink RL 76 yX11_is_, .instanceMethod yX11_is_, .selects RX11 yX11_is_ yX11_is_, .initialized RX11] : List Cond) := goodIn_r _ [1371, 1372, 1373, 62] (by decide +kernel) (by decide +kernel)
theorem xL_law_X11_is_ : GoodIn lw_tbl (wsV RL 76 RX11 yX11_is_ wsX11_is_) := goodIn_app xg4_X11_is_ xgw_X11_is_
set_option maxRecDepth 20000 in
theorem xg_X10_happened_291 : GoodIn lw_tbl ([.fieldLink RX10 19 "PowerRails" "run" "LPowerRails$Run;", .fieldLink RX10 187 "PowerRails$Run" "history" "LPowerRails$History;", .fieldLink RX10 191 "PowerRails$History" "size" "I", .fieldLink RX10 196 "PowerRails$History" "ticks" "[I", .fieldLink RX10 199 "PowerRails$History" "who" "[I", .fieldLink RX10 202 "PowerRails$History" "became" "[I"] : List Cond) := goodIn_r _ [395, 127, 116, 109, 111, 113] (by decide +kernel) (by decide +kernel)
theorem xgc_X10_happened : GoodIn lw_tbl ([.code yX10_happened cX10_happened 3 (some .int)] : List Cond) := goodIn_r _ [767] (by decide +kernel) (by decide +kernel)
set_option maxRecDepth 20000 in
theorem xgw_X10_happened : GoodIn lw_tbl wsX10_happened := xg_cons xgc_X10_happened (goodIn_app (goodIn_app (goodIn_app xg_X10_happened_291 xg_wsX100) xg_wsX50) xg_wsX20)
theorem xg4_X10_happened : GoodIn lw_tbl ([.methodLink RL 77 yX10_happened, .instanceMethod yX10_happened, .selects RX10 yX10_happened yX10_happened, .initialized RX10] : List Cond) := goodIn_r _ [764, 765, 766, 51] (by decide +kernel) (by decide +kernel)
theorem xL_law_X10_happened : GoodIn lw_tbl (wsV RL 77 RX10 yX10_happened wsX10_happened) := goodIn_app xg4_X10_happened xgw_X10_happened
set_option maxRecDepth 20000 in
theorem xg_X11_happened_298 : GoodIn lw_tbl ([.fieldLink RX11 288 "PowerRailsModel" "happenings" "I", .constantLong RX11 322 (2), .fieldLink RX11 65 "PowerRailsModel" "happening" "[I", .methodLink RX11 141 yX11_in, .static yX11_in, .initialized RX11, .code yX11_in cX11_in 6 (some .boolean)] : List Cond) := goodIn_r _ [1057, 1380, 1058, 1198, 1199, 62, 1200] (by decide +kernel) (by decide +kernel)
theorem xgc_X11_happened : GoodIn lw_tbl ([.code yX11_happened cX11_happened 3 (some .int)] : List Cond) := goodIn_r _ [1379] (by decide +kernel) (by decide +kernel)
set_option maxRecDepth 20000 in
theorem xgw_X11_happened : GoodIn lw_tbl wsX11_happened := xg_cons xgc_X11_happened (goodIn_app xg_X11_happened_298 xg_wsX110)
theorem xg4_X11_happened : GoodIn lw_tbl ([.methodLink RL 80 yX11_happened, .instanceMethod yX11_happened, .selects RX11 yX11_happened yX11_happened, .initialized RX11] : List Cond) := goodIn_r _ [1376, 1377, 1378, 62] (by decide +kernel) (by decide +kernel)
theorem xL_law_X11_happened : GoodIn lw_tbl (wsV RL 80 RX11 yX11_happened wsX11_happened) := goodIn_app xg4_X11_happened xgw_X11_happened
set_option maxRecDepth 20000 in
theorem xg_X10_up_305 : GoodIn lw_tbl ([.fieldLink RX10 56 "PowerRails" "plan" "LPowerRails$Plan;", .fieldLink RX10 19 "PowerRails" "run" "LPowerRails$Run;", .fieldLink RX10 147 "PowerRails$Run" "dead" "I", .methodLink RX10 120 yX3_allRails, .instanceMethod yX3_allRails, .selects RX3 yX3_allRails yX3_allRails, .initialized RX3, .code yX3_allRails cX3_allRails 1 (some .int), .fieldLink RX3 19 "PowerRails$Plan" "rails" "I", .methodLink RX10 205 yX3_upAmong, .instanceMethod yX3_upAmong, .selects RX3 yX3_upAmong yX3_upAmong, .code yX3_upAmong cX3_upAmong 6 (some .int), .methodLink RX3 38 yX3_holdsWith, .instanceMethod yX3_holdsWith, .selects RX3 yX3_holdsWith yX3_holdsWith, .code yX3_holdsWith cX3_holdsWith 3 (some .boolean), .fieldLink RX3 15 "PowerRails$Plan" "tables" "[J"] : List Cond) := goodIn_r _ [400, 395, 138, 655, 656, 657, 60, 658, 309, 772, 773, 774, 775, 678, 660, 661, 662, 307] (by decide +kernel) (by decide +kernel)
theorem xgc_X10_up : GoodIn lw_tbl ([.code yX10_up cX10_up 4 (some .int)] : List Cond) := goodIn_r _ [771] (by decide +kernel) (by decide +kernel)
set_option maxRecDepth 20000 in
theorem xgw_X10_up : GoodIn lw_tbl wsX10_up := xg_cons xgc_X10_up (goodIn_app (goodIn_app (goodIn_app xg_X10_up_305 xg_wsX100) xg_wsX50) xg_wsX30)
theorem xg4_X10_up : GoodIn lw_tbl ([.methodLink RL 81 yX10_up, .instanceMethod yX10_up, .selects RX10 yX10_up yX10_up, .initialized RX10] : List Cond) := goodIn_r _ [768, 769, 770, 51] (by decide +kernel) (by decide +kernel)
theorem xL_law_X10_up : GoodIn lw_tbl (wsV RL 81 RX10 yX10_up wsX10_up) := goodIn_app xg4_X10_up xgw_X10_up
set_option maxRecDepth 20000 in
theorem xg_X11_up_312 : GoodIn lw_tbl ([.constantLong RX11 322 (2), .fieldLink RX11 121 "PowerRailsModel" "rails" "I", .methodLink RX11 141 yX11_in, .static yX11_in, .initialized RX11, .code yX11_in cX11_in 6 (some .boolean), .methodLink RX11 324 yX11_deadOnes, .instanceMethod yX11_deadOnes, .selects RX11 yX11_deadOnes yX11_deadOnes, .code yX11_deadOnes cX11_deadOnes 3 (some .int), .fieldLink RX11 56 "PowerRailsModel" "isDead" "[Z", .methodLink RX11 327 yX11_upBut, .instanceMethod yX11_upBut, .selects RX11 yX11_upBut yX11_upBut, .code yX11_upBut cX11_upBut 6 (some .int), .methodLink RX11 256 yX11_isSo, .instanceMethod yX11_isSo, .selects RX11 yX11_isSo yX11_isSo, .code yX11_isSo cX11_isSo 3 (some .boolean), .fieldLink RX11 16 "PowerRailsModel" "table" "[Z"] : List Cond) := goodIn_r _ [1380, 1011, 1198, 1199, 62, 1200, 1385, 1387, 37, 1388, 1049, 1389, 1391, 38, 1392, 1303, 1305, 27, 1306, 1014] (by decide +kernel) (by decide +kernel)
theorem xgc_X11_up : GoodIn lw_tbl ([.code yX11_up cX11_up 4 (some .int)] : List Cond) := goodIn_r _ [1384] (by decide +kernel) (by decide +kernel)
set_option maxRecDepth 20000 in
theorem xgw_X11_up : GoodIn lw_tbl wsX11_up := xg_cons xgc_X11_up (goodIn_app xg_X11_up_312 xg_wsX110)
theorem xg4_X11_up : GoodIn lw_tbl ([.methodLink RL 84 yX11_up, .instanceMethod yX11_up, .selects RX11 yX11_up yX11_up, .initialized RX11] : List Cond) := goodIn_r _ [1381, 1382, 1383, 62] (by decide +kernel) (by decide +kernel)
theorem xL_law_X11_up : GoodIn lw_tbl (wsV RL 84 RX11 yX11_up wsX11_up) := goodIn_app xg4_X11_up xgw_X11_up
set_option maxRecDepth 20000 in
theorem xg_wsX10_when_r1 : GoodIn lw_tbl wsX10_when_r1 := goodIn_r _ [400, 396, 195, 642, 643, 644, 60, 645, 309, 780, 782, 1, 51, 783, 395, 134, 784, 785, 786, 55, 787, 310, 188, 788] (by decide +kernel) (by decide +kernel)
set_option maxRecDepth 20000 in
theorem xg_wsX10_when_r2 : GoodIn lw_tbl wsX10_when_r2 := goodIn_r _ [583, 584, 585, 306, 789, 790, 791, 792, 190, 793, 602, 601, 67, 794, 796, 2, 797, 138, 655, 656, 657, 658, 798, 799] (by decide +kernel) (by decide +kernel)
set_option maxRecDepth 20000 in
theorem xg_wsX10_when_r3 : GoodIn lw_tbl wsX10_when_r3 := goodIn_r _ [800, 801, 198, 200, 193, 802, 803, 804, 805, 192, 806, 660, 661, 662, 307, 807, 808, 809, 810, 811, 618, 68, 619, 812] (by decide +kernel) (by decide +kernel)
set_option maxRecDepth 20000 in
theorem xg_wsX10_when_r4 : GoodIn lw_tbl wsX10_when_r4 := goodIn_r _ [813, 814, 815, 816, 817, 818, 819] (by decide +kernel) (by decide +kernel)
theorem xgc_X10_when : GoodIn lw_tbl ([.code yX10_when cX10_when 3 (some .int)] : List Cond) := goodIn_r _ [779] (by decide +kernel) (by decide +kernel)
set_option maxRecDepth 20000 in
theorem xgw_X10_when : GoodIn lw_tbl wsX10_when := xg_cons xgc_X10_when (goodIn_app (goodIn_app (goodIn_app (goodIn_app (goodIn_app xg_wsX10_when_r1 (goodIn_app xg_wsX10_when_r2 (goodIn_app xg_wsX10_when_r3 xg_wsX10_when_r4))) xg_wsX100) xg_wsX00) xg_wsX30) xg_wsX50)
theorem xg4_X10_when : GoodIn lw_tbl ([.methodLink RL 85 yX10_when, .instanceMethod yX10_when, .selects RX10 yX10_when yX10_when, .initialized RX10] : List Cond) := goodIn_r _ [776, 777, 778, 51] (by decide +kernel) (by decide +kernel)
theorem xL_law_X10_when : GoodIn lw_tbl (wsV RL 85 RX10 yX10_when wsX10_when) := goodIn_app xg4_X10_when xgw_X10_when
set_option maxRecDepth 20000 in
theorem xg_wsX11_when_r1 : GoodIn lw_tbl wsX11_when_r1 := goodIn_r _ [1380, 1063, 1060, 1290, 1292, 26, 62, 1293, 1011, 1198, 1199, 1200, 1397, 1399, 39, 1400, 1062, 1007, 1009, 8, 1010, 1012, 1401, 1403] (by decide +kernel) (by decide +kernel)
set_option maxRecDepth 20000 in
theorem xg_wsX11_when_r2 : GoodIn lw_tbl wsX11_when_r2 := goodIn_r _ [40, 1404, 1061, 1050, 1405, 1407, 41, 1408, 1059, 1409, 1385, 1387, 37, 1388, 1049, 1389, 1391, 38, 1392, 1303, 1305, 27, 1306, 1014] (by decide +kernel) (by decide +kernel)
theorem xgc_X11_when : GoodIn lw_tbl ([.code yX11_when cX11_when 3 (some .int)] : List Cond) := goodIn_r _ [1396] (by decide +kernel) (by decide +kernel)
set_option maxRecDepth 20000 in
theorem xgw_X11_when : GoodIn lw_tbl wsX11_when := xg_cons xgc_X11_when (goodIn_app (goodIn_app xg_wsX11_when_r1 xg_wsX11_when_r2) xg_wsX110)
theorem xg4_X11_when : GoodIn lw_tbl ([.methodLink RL 88 yX11_when, .instanceMethod yX11_when, .selects RX11 yX11_when yX11_when, .initialized RX11] : List Cond) := goodIn_r _ [1393, 1394, 1395, 62] (by decide +kernel) (by decide +kernel)
theorem xL_law_X11_when : GoodIn lw_tbl (wsV RL 88 RX11 yX11_when wsX11_when) := goodIn_app xg4_X11_when xgw_X11_when
set_option maxRecDepth 20000 in
theorem xg_wsX10_ahead_r1 : GoodIn lw_tbl wsX10_ahead_r1 := goodIn_r _ [400, 397, 642, 643, 644, 60, 645, 309, 824, 825, 826, 827, 828, 583, 584, 585, 306, 794, 796, 2, 51, 797, 395, 138] (by decide +kernel) (by decide +kernel)
set_option maxRecDepth 20000 in
theorem xg_wsX10_ahead_r2 : GoodIn lw_tbl wsX10_ahead_r2 := goodIn_r _ [655, 656, 657, 658, 772, 773, 774, 775, 678, 660, 661, 662, 307, 829, 830, 831, 56, 832, 234, 233, 232, 194, 846, 741] (by decide +kernel) (by decide +kernel)
set_option maxRecDepth 20000 in
theorem xg_wsX10_ahead_r3 : GoodIn lw_tbl wsX10_ahead_r3 := goodIn_r _ [68, 742, 833, 834, 835, 836, 837, 838, 839, 840, 841, 842, 843, 785, 786, 55, 787, 310, 188, 788, 844, 813, 814, 815] (by decide +kernel) (by decide +kernel)
set_option maxRecDepth 20000 in
theorem xg_wsX10_ahead_r4 : GoodIn lw_tbl wsX10_ahead_r4 := goodIn_r _ [190, 845, 799, 800, 801, 198, 200, 193, 802, 803, 804, 805, 192, 806, 807, 808, 809, 810, 811, 618, 619, 847, 848, 849] (by decide +kernel) (by decide +kernel)
set_option maxRecDepth 20000 in
theorem xg_wsX10_ahead_r5 : GoodIn lw_tbl wsX10_ahead_r5 := goodIn_r _ [850, 312, 191, 851] (by decide +kernel) (by decide +kernel)
theorem xgc_X10_ahead : GoodIn lw_tbl ([.code yX10_ahead cX10_ahead 6 (some .int)] : List Cond) := goodIn_r _ [823] (by decide +kernel) (by decide +kernel)
set_option maxRecDepth 20000 in
theorem xgw_X10_ahead : GoodIn lw_tbl wsX10_ahead := xg_cons xgc_X10_ahead (goodIn_app (goodIn_app (goodIn_app (goodIn_app (goodIn_app (goodIn_app xg_wsX10_ahead_r1 (goodIn_app xg_wsX10_ahead_r2 (goodIn_app xg_wsX10_ahead_r3 (goodIn_app xg_wsX10_ahead_r4 xg_wsX10_ahead_r5)))) xg_wsX100) xg_wsX30) xg_wsX50) xg_wsX90) xg_wsX00)
theorem xg4_X10_ahead : GoodIn lw_tbl ([.methodLink RL 89 yX10_ahead, .instanceMethod yX10_ahead, .selects RX10 yX10_ahead yX10_ahead, .initialized RX10] : List Cond) := goodIn_r _ [820, 821, 822, 51] (by decide +kernel) (by decide +kernel)
theorem xL_law_X10_ahead : GoodIn lw_tbl (wsV RL 89 RX10 yX10_ahead wsX10_ahead) := goodIn_app xg4_X10_ahead xgw_X10_ahead
set_option maxRecDepth 20000 in
theorem xg_wsX11_ahead_r1 : GoodIn lw_tbl wsX11_ahead_r1 := goodIn_r _ [1418, 1060, 1290, 1292, 26, 62, 1293, 1011, 1198, 1199, 1200, 1414, 1416, 42, 1417, 1007, 1009, 8, 1010, 1012, 1385, 1387, 37, 1388] (by decide +kernel) (by decide +kernel)
set_option maxRecDepth 20000 in
theorem xg_wsX11_ahead_r2 : GoodIn lw_tbl wsX11_ahead_r2 := goodIn_r _ [1049, 1389, 1391, 38, 1392, 1303, 1305, 27, 1306, 1014, 1397, 1399, 39, 1400, 1062, 1401, 1403, 40, 1404, 1061, 1050, 1405, 1407, 41] (by decide +kernel) (by decide +kernel)
set_option maxRecDepth 20000 in
theorem xg_wsX11_ahead_r3 : GoodIn lw_tbl wsX11_ahead_r3 := goodIn_r _ [1408, 1063, 1059, 1409, 1419, 1421, 43, 1422] (by decide +kernel) (by decide +kernel)
theorem xgc_X11_ahead : GoodIn lw_tbl ([.code yX11_ahead cX11_ahead 7 (some .int)] : List Cond) := goodIn_r _ [1413] (by decide +kernel) (by decide +kernel)
set_option maxRecDepth 20000 in
theorem xgw_X11_ahead : GoodIn lw_tbl wsX11_ahead := xg_cons xgc_X11_ahead (goodIn_app (goodIn_app xg_wsX11_ahead_r1 (goodIn_app xg_wsX11_ahead_r2 xg_wsX11_ahead_r3)) xg_wsX110)
theorem xg4_X11_ahead : GoodIn lw_tbl ([.methodLink RL 93 yX11_ahead, .instanceMethod yX11_ahead, .selects RX11 yX11_ahead yX11_ahead, .initialized RX11] : List Cond) := goodIn_r _ [1410, 1411, 1412, 62] (by decide +kernel) (by decide +kernel)
theorem xL_law_X11_ahead : GoodIn lw_tbl (wsV RL 93 RX11 yX11_ahead wsX11_ahead) := goodIn_app xg4_X11_ahead xgw_X11_ahead
set_option maxRecDepth 20000 in
theorem xg_wsX10_drawn_r1 : GoodIn lw_tbl wsX10_drawn_r1 := goodIn_r _ [396, 400, 780, 782, 1, 51, 783, 395, 134, 784, 785, 786, 55, 787, 310, 188, 788, 583, 584, 60, 585, 306, 789, 790] (by decide +kernel) (by decide +kernel)
set_option maxRecDepth 20000 in
theorem xg_wsX10_drawn_r2 : GoodIn lw_tbl wsX10_drawn_r2 := goodIn_r _ [791, 792, 190, 793, 602, 601, 67, 794, 796, 2, 797, 138, 655, 656, 657, 658, 309, 798, 799, 800, 801, 198, 200, 193] (by decide +kernel) (by decide +kernel)
set_option maxRecDepth 20000 in
theorem xg_wsX10_drawn_r3 : GoodIn lw_tbl wsX10_drawn_r3 := goodIn_r _ [802, 803, 804, 805, 192, 806, 660, 661, 662, 307, 807, 808, 809, 810, 811, 618, 68, 619, 856, 857, 858, 859, 860, 817] (by decide +kernel) (by decide +kernel)
set_option maxRecDepth 20000 in
theorem xg_wsX10_drawn_r4 : GoodIn lw_tbl wsX10_drawn_r4 := goodIn_r _ [818, 819] (by decide +kernel) (by decide +kernel)
theorem xgc_X10_drawn : GoodIn lw_tbl ([.code yX10_drawn cX10_drawn 2 (some .int)] : List Cond) := goodIn_r _ [855] (by decide +kernel) (by decide +kernel)
set_option maxRecDepth 20000 in
theorem xgw_X10_drawn : GoodIn lw_tbl wsX10_drawn := xg_cons xgc_X10_drawn (goodIn_app (goodIn_app (goodIn_app (goodIn_app (goodIn_app xg_wsX10_drawn_r1 (goodIn_app xg_wsX10_drawn_r2 (goodIn_app xg_wsX10_drawn_r3 xg_wsX10_drawn_r4))) xg_wsX100) xg_wsX50) xg_wsX30) xg_wsX00)
theorem xg4_X10_drawn : GoodIn lw_tbl ([.methodLink RL 94 yX10_drawn, .instanceMethod yX10_drawn, .selects RX10 yX10_drawn yX10_drawn, .initialized RX10] : List Cond) := goodIn_r _ [852, 853, 854, 51] (by decide +kernel) (by decide +kernel)
theorem xL_law_X10_drawn : GoodIn lw_tbl (wsV RL 94 RX10 yX10_drawn wsX10_drawn) := goodIn_app xg4_X10_drawn xgw_X10_drawn
set_option maxRecDepth 20000 in
theorem xg_wsX11_drawn_r1 : GoodIn lw_tbl wsX11_drawn_r1 := goodIn_r _ [1334, 1198, 1199, 62, 1200, 1397, 1399, 39, 1400, 1011, 1062, 1007, 1009, 8, 1010, 1012, 1401, 1403, 40, 1404, 1061, 1050, 1405, 1407] (by decide +kernel) (by decide +kernel)
set_option maxRecDepth 20000 in
theorem xg_wsX11_drawn_r2 : GoodIn lw_tbl wsX11_drawn_r2 := goodIn_r _ [41, 1408, 1063, 1059, 1409, 1060, 1385, 1387, 37, 1388, 1049, 1389, 1391, 38, 1392, 1303, 1305, 27, 1306, 1014, 1427, 1429, 44, 1430] (by decide +kernel) (by decide +kernel)
set_option maxRecDepth 20000 in
theorem xg_wsX11_drawn_r3 : GoodIn lw_tbl wsX11_drawn_r3 := goodIn_r _ [1359, 1361, 35, 1362] (by decide +kernel) (by decide +kernel)
theorem xgc_X11_drawn : GoodIn lw_tbl ([.code yX11_drawn cX11_drawn 2 (some .int)] : List Cond) := goodIn_r _ [1426] (by decide +kernel) (by decide +kernel)
set_option maxRecDepth 20000 in
theorem xgw_X11_drawn : GoodIn lw_tbl wsX11_drawn := xg_cons xgc_X11_drawn (goodIn_app (goodIn_app xg_wsX11_drawn_r1 (goodIn_app xg_wsX11_drawn_r2 xg_wsX11_drawn_r3)) xg_wsX110)
theorem xg4_X11_drawn : GoodIn lw_tbl ([.methodLink RL 97 yX11_drawn, .instanceMethod yX11_drawn, .selects RX11 yX11_drawn yX11_drawn, .initialized RX11] : List Cond) := goodIn_r _ [1423, 1424, 1425, 62] (by decide +kernel) (by decide +kernel)
theorem xL_law_X11_drawn : GoodIn lw_tbl (wsV RL 97 RX11 yX11_drawn wsX11_drawn) := goodIn_app xg4_X11_drawn xgw_X11_drawn
set_option maxRecDepth 20000 in
theorem xg_wsX10_peak_r1 : GoodIn lw_tbl wsX10_peak_r1 := goodIn_r _ [400, 397, 237, 239, 396, 204, 206, 824, 825, 826, 60, 827, 309, 828, 583, 584, 585, 306, 794, 796, 2, 51, 797, 395] (by decide +kernel) (by decide +kernel)
set_option maxRecDepth 20000 in
theorem xg_wsX10_peak_r2 : GoodIn lw_tbl wsX10_peak_r2 := goodIn_r _ [138, 655, 656, 657, 658, 772, 773, 774, 775, 678, 660, 661, 662, 307, 865, 866, 867, 56, 868, 235, 232, 202, 236, 238] (by decide +kernel) (by decide +kernel)
set_option maxRecDepth 20000 in
theorem xg_wsX10_peak_r3 : GoodIn lw_tbl wsX10_peak_r3 := goodIn_r _ [846, 741, 68, 742, 873, 618, 619, 838, 839, 840, 841, 842, 843, 785, 786, 55, 787, 310, 188, 788, 844, 813, 814, 815] (by decide +kernel) (by decide +kernel)
set_option maxRecDepth 20000 in
theorem xg_wsX10_peak_r4 : GoodIn lw_tbl wsX10_peak_r4 := goodIn_r _ [190, 845, 799, 800, 801, 198, 200, 193, 802, 803, 804, 805, 192, 806, 807, 808, 809, 810, 811, 869, 870, 871, 872, 196] (by decide +kernel) (by decide +kernel)
set_option maxRecDepth 20000 in
theorem xg_wsX10_peak_r5 : GoodIn lw_tbl wsX10_peak_r5 := goodIn_r _ [203, 205, 860, 817, 818, 819, 847, 848, 849, 850, 312, 191, 851, 780, 782, 1, 783, 134, 784, 789, 790, 791, 792, 793] (by decide +kernel) (by decide +kernel)
set_option maxRecDepth 20000 in
theorem xg_wsX10_peak_r6 : GoodIn lw_tbl wsX10_peak_r6 := goodIn_r _ [602, 601, 67, 798, 874] (by decide +kernel) (by decide +kernel)
theorem xgc_X10_peak : GoodIn lw_tbl ([.code yX10_peak cX10_peak 2 (some .int)] : List Cond) := goodIn_r _ [864] (by decide +kernel) (by decide +kernel)
set_option maxRecDepth 20000 in
theorem xgw_X10_peak : GoodIn lw_tbl wsX10_peak := xg_cons xgc_X10_peak (goodIn_app (goodIn_app (goodIn_app (goodIn_app (goodIn_app (goodIn_app xg_wsX10_peak_r1 (goodIn_app xg_wsX10_peak_r2 (goodIn_app xg_wsX10_peak_r3 (goodIn_app xg_wsX10_peak_r4 (goodIn_app xg_wsX10_peak_r5 xg_wsX10_peak_r6))))) xg_wsX100) xg_wsX90) xg_wsX00) xg_wsX30) xg_wsX50)
theorem xg4_X10_peak : GoodIn lw_tbl ([.methodLink RL 98 yX10_peak, .instanceMethod yX10_peak, .selects RX10 yX10_peak yX10_peak, .initialized RX10] : List Cond) := goodIn_r _ [861, 862, 863, 51] (by decide +kernel) (by decide +kernel)
theorem xL_law_X10_peak : GoodIn lw_tbl (wsV RL 98 RX10 yX10_peak wsX10_peak) := goodIn_app xg4_X10_peak xgw_X10_peak
set_option maxRecDepth 20000 in
theorem xg_wsX11_peak_r1 : GoodIn lw_tbl wsX11_peak_r1 := goodIn_r _ [1435, 1064, 1198, 1199, 62, 1200, 1414, 1416, 42, 1417, 1011, 1007, 1009, 8, 1010, 1012, 1385, 1387, 37, 1388, 1049, 1389, 1391, 38] (by decide +kernel) (by decide +kernel)
set_option maxRecDepth 20000 in
theorem xg_wsX11_peak_r2 : GoodIn lw_tbl wsX11_peak_r2 := goodIn_r _ [1392, 1303, 1305, 27, 1306, 1014, 1397, 1399, 39, 1400, 1062, 1401, 1403, 40, 1404, 1061, 1050, 1405, 1407, 41, 1408, 1063, 1059, 1409] (by decide +kernel) (by decide +kernel)
set_option maxRecDepth 20000 in
theorem xg_wsX11_peak_r3 : GoodIn lw_tbl wsX11_peak_r3 := goodIn_r _ [1060, 1436, 1438, 45, 1439, 1427, 1429, 44, 1430, 1359, 1361, 35, 1362, 1419, 1421, 43, 1422] (by decide +kernel) (by decide +kernel)
theorem xgc_X11_peak : GoodIn lw_tbl ([.code yX11_peak cX11_peak 5 (some .int)] : List Cond) := goodIn_r _ [1434] (by decide +kernel) (by decide +kernel)
set_option maxRecDepth 20000 in
theorem xgw_X11_peak : GoodIn lw_tbl wsX11_peak := xg_cons xgc_X11_peak (goodIn_app (goodIn_app xg_wsX11_peak_r1 (goodIn_app xg_wsX11_peak_r2 xg_wsX11_peak_r3)) xg_wsX110)
theorem xg4_X11_peak : GoodIn lw_tbl ([.methodLink RL 101 yX11_peak, .instanceMethod yX11_peak, .selects RX11 yX11_peak yX11_peak, .initialized RX11] : List Cond) := goodIn_r _ [1431, 1432, 1433, 62] (by decide +kernel) (by decide +kernel)
theorem xL_law_X11_peak : GoodIn lw_tbl (wsV RL 101 RX11 yX11_peak wsX11_peak) := goodIn_app xg4_X11_peak xgw_X11_peak
set_option maxRecDepth 20000 in
theorem xg_wsX10_stagger_r1 : GoodIn lw_tbl wsX10_stagger_r1 := goodIn_r _ [400, 314, 398, 395, 134, 266, 262, 794, 796, 2, 51, 797, 138, 655, 656, 657, 60, 658, 309, 879, 880, 881, 57, 882] (by decide +kernel) (by decide +kernel)
set_option maxRecDepth 20000 in
theorem xg_wsX10_stagger_r2 : GoodIn lw_tbl wsX10_stagger_r2 := goodIn_r _ [263, 265, 261, 260, 189, 197, 199, 883, 285, 59, 286, 884, 790, 791, 55, 792, 190, 793, 602, 601, 67, 885, 799, 800] (by decide +kernel) (by decide +kernel)
set_option maxRecDepth 20000 in
theorem xg_wsX10_stagger_r3 : GoodIn lw_tbl wsX10_stagger_r3 := goodIn_r _ [801, 198, 200, 193, 802, 803, 804, 805, 310, 192, 188, 806, 660, 661, 662, 307, 807, 808, 809, 810, 811, 618, 68, 619] (by decide +kernel) (by decide +kernel)
set_option maxRecDepth 20000 in
theorem xg_wsX10_stagger_r4 : GoodIn lw_tbl wsX10_stagger_r4 := goodIn_r _ [886, 887, 888, 889, 201, 317, 891, 890, 870, 871, 872, 196, 203, 205, 860, 817, 818, 819, 788, 583, 584, 585, 306, 892] (by decide +kernel) (by decide +kernel)
set_option maxRecDepth 20000 in
theorem xg_wsX10_stagger_r5 : GoodIn lw_tbl wsX10_stagger_r5 := goodIn_r _ [893, 894, 895] (by decide +kernel) (by decide +kernel)
theorem xgc_X10_stagger : GoodIn lw_tbl ([.code yX10_stagger cX10_stagger 2 (some .int)] : List Cond) := goodIn_r _ [878] (by decide +kernel) (by decide +kernel)
set_option maxRecDepth 20000 in
theorem xgw_X10_stagger : GoodIn lw_tbl wsX10_stagger := xg_cons xgc_X10_stagger (goodIn_app (goodIn_app (goodIn_app (goodIn_app (goodIn_app (goodIn_app xg_wsX10_stagger_r1 (goodIn_app xg_wsX10_stagger_r2 (goodIn_app xg_wsX10_stagger_r3 (goodIn_app xg_wsX10_stagger_r4 xg_wsX10_stagger_r5)))) xg_wsX100) xg_wsX30) xg_wsX50) xg_wsX70) xg_wsX00)
theorem xg4_X10_stagger : GoodIn lw_tbl ([.methodLink RL 102 yX10_stagger, .instanceMethod yX10_stagger, .selects RX10 yX10_stagger yX10_stagger, .initialized RX10] : List Cond) := goodIn_r _ [875, 876, 877, 51] (by decide +kernel) (by decide +kernel)
theorem xL_law_X10_stagger : GoodIn lw_tbl (wsV RL 102 RX10 yX10_stagger wsX10_stagger) := goodIn_app xg4_X10_stagger xgw_X10_stagger
set_option maxRecDepth 20000 in
theorem xg_wsX11_stagger_r1 : GoodIn lw_tbl wsX11_stagger_r1 := goodIn_r _ [1444, 1011, 1066, 1065, 1198, 1199, 62, 1200, 1445, 1447, 46, 1448, 1062, 1015, 1401, 1403, 40, 1404, 1061, 1050, 1007, 1009, 8, 1010] (by decide +kernel) (by decide +kernel)
set_option maxRecDepth 20000 in
theorem xg_wsX11_stagger_r2 : GoodIn lw_tbl wsX11_stagger_r2 := goodIn_r _ [1012, 1405, 1407, 41, 1408, 1063, 1059, 1409, 1060, 1385, 1387, 37, 1388, 1049, 1389, 1391, 38, 1392, 1303, 1305, 27, 1306, 1014, 1449] (by decide +kernel) (by decide +kernel)
set_option maxRecDepth 20000 in
theorem xg_wsX11_stagger_r3 : GoodIn lw_tbl wsX11_stagger_r3 := goodIn_r _ [1451, 47, 1452, 1436, 1438, 45, 1439, 1064, 1427, 1429, 44, 1430, 1359, 1361, 35, 1362] (by decide +kernel) (by decide +kernel)
theorem xgc_X11_stagger : GoodIn lw_tbl ([.code yX11_stagger cX11_stagger 2 (some .int)] : List Cond) := goodIn_r _ [1443] (by decide +kernel) (by decide +kernel)
set_option maxRecDepth 20000 in
theorem xgw_X11_stagger : GoodIn lw_tbl wsX11_stagger := xg_cons xgc_X11_stagger (goodIn_app (goodIn_app xg_wsX11_stagger_r1 (goodIn_app xg_wsX11_stagger_r2 xg_wsX11_stagger_r3)) xg_wsX110)
theorem xg4_X11_stagger : GoodIn lw_tbl ([.methodLink RL 105 yX11_stagger, .instanceMethod yX11_stagger, .selects RX11 yX11_stagger yX11_stagger, .initialized RX11] : List Cond) := goodIn_r _ [1440, 1441, 1442, 62] (by decide +kernel) (by decide +kernel)
theorem xL_law_X11_stagger : GoodIn lw_tbl (wsV RL 105 RX11 yX11_stagger wsX11_stagger) := goodIn_app xg4_X11_stagger xgw_X11_stagger
set_option maxRecDepth 20000 in
theorem xg_wsX10_adopt_r1 : GoodIn lw_tbl wsX10_adopt_r1 := goodIn_r _ [400, 314, 398, 395, 134, 266, 262, 794, 796, 2, 51, 797, 138, 655, 656, 657, 60, 658, 309, 879, 880, 881, 57, 882] (by decide +kernel) (by decide +kernel)
set_option maxRecDepth 20000 in
theorem xg_wsX10_adopt_r2 : GoodIn lw_tbl wsX10_adopt_r2 := goodIn_r _ [263, 265, 261, 260, 189, 197, 199, 883, 285, 59, 286, 884, 790, 791, 55, 792, 190, 793, 602, 601, 67, 885, 799, 800] (by decide +kernel) (by decide +kernel)
set_option maxRecDepth 20000 in
theorem xg_wsX10_adopt_r3 : GoodIn lw_tbl wsX10_adopt_r3 := goodIn_r _ [801, 198, 200, 193, 802, 803, 804, 805, 310, 192, 188, 806, 660, 661, 662, 307, 807, 808, 809, 810, 811, 618, 68, 619] (by decide +kernel) (by decide +kernel)
set_option maxRecDepth 20000 in
theorem xg_wsX10_adopt_r4 : GoodIn lw_tbl wsX10_adopt_r4 := goodIn_r _ [886, 887, 888, 889, 201, 317, 891, 890, 870, 871, 872, 196, 203, 205, 860, 817, 818, 819, 788, 583, 584, 585, 306, 892] (by decide +kernel) (by decide +kernel)
set_option maxRecDepth 20000 in
theorem xg_wsX10_adopt_r5 : GoodIn lw_tbl wsX10_adopt_r5 := goodIn_r _ [893, 894, 895, 900, 901, 902, 903, 526, 527, 528, 529, 625, 627, 0, 628, 397, 264, 629, 630, 631, 56, 632, 235, 234] (by decide +kernel) (by decide +kernel)
theorem xgc_X10_adopt : GoodIn lw_tbl ([.code yX10_adopt cX10_adopt 2 (some .int)] : List Cond) := goodIn_r _ [899] (by decide +kernel) (by decide +kernel)
set_option maxRecDepth 20000 in
theorem xgw_X10_adopt : GoodIn lw_tbl wsX10_adopt := xg_cons xgc_X10_adopt (goodIn_app (goodIn_app (goodIn_app (goodIn_app (goodIn_app (goodIn_app (goodIn_app xg_wsX10_adopt_r1 (goodIn_app xg_wsX10_adopt_r2 (goodIn_app xg_wsX10_adopt_r3 (goodIn_app xg_wsX10_adopt_r4 xg_wsX10_adopt_r5)))) xg_wsX100) xg_wsX30) xg_wsX50) xg_wsX70) xg_wsX00) xg_wsX90)
theorem xg4_X10_adopt : GoodIn lw_tbl ([.methodLink RL 106 yX10_adopt, .instanceMethod yX10_adopt, .selects RX10 yX10_adopt yX10_adopt, .initialized RX10] : List Cond) := goodIn_r _ [896, 897, 898, 51] (by decide +kernel) (by decide +kernel)
theorem xL_law_X10_adopt : GoodIn lw_tbl (wsV RL 106 RX10 yX10_adopt wsX10_adopt) := goodIn_app xg4_X10_adopt xgw_X10_adopt
set_option maxRecDepth 20000 in
theorem xg_wsX11_adopt_r1 : GoodIn lw_tbl wsX11_adopt_r1 := goodIn_r _ [1011, 1066, 1012, 1065, 1445, 1447, 46, 62, 1448, 1062, 1015, 1401, 1403, 40, 1404, 1061, 1050, 1007, 1009, 8, 1010, 1405, 1407, 41] (by decide +kernel) (by decide +kernel)
set_option maxRecDepth 20000 in
theorem xg_wsX11_adopt_r2 : GoodIn lw_tbl wsX11_adopt_r2 := goodIn_r _ [1408, 1063, 1059, 1409, 1060, 1385, 1387, 37, 1388, 1049, 1389, 1391, 38, 1392, 1303, 1305, 27, 1306, 1014, 1449, 1451, 47, 1452, 1436] (by decide +kernel) (by decide +kernel)
set_option maxRecDepth 20000 in
theorem xg_wsX11_adopt_r3 : GoodIn lw_tbl wsX11_adopt_r3 := goodIn_r _ [1438, 45, 1439, 1064, 1427, 1429, 44, 1430, 1359, 1361, 35, 1362] (by decide +kernel) (by decide +kernel)
theorem xgc_X11_adopt : GoodIn lw_tbl ([.code yX11_adopt cX11_adopt 2 (some .int)] : List Cond) := goodIn_r _ [1456] (by decide +kernel) (by decide +kernel)
set_option maxRecDepth 20000 in
theorem xgw_X11_adopt : GoodIn lw_tbl wsX11_adopt := xg_cons xgc_X11_adopt (goodIn_app (goodIn_app xg_wsX11_adopt_r1 (goodIn_app xg_wsX11_adopt_r2 xg_wsX11_adopt_r3)) xg_wsX110)
theorem xg4_X11_adopt : GoodIn lw_tbl ([.methodLink RL 109 yX11_adopt, .instanceMethod yX11_adopt, .selects RX11 yX11_adopt yX11_adopt, .initialized RX11] : List Cond) := goodIn_r _ [1453, 1454, 1455, 62] (by decide +kernel) (by decide +kernel)
theorem xL_law_X11_adopt : GoodIn lw_tbl (wsV RL 109 RX11 yX11_adopt wsX11_adopt) := goodIn_app xg4_X11_adopt xgw_X11_adopt
set_option maxRecDepth 20000 in
theorem xg_X10_down_471 : GoodIn lw_tbl ([.fieldLink RX10 56 "PowerRails" "plan" "LPowerRails$Plan;", .methodLink RX10 120 yX3_allRails, .instanceMethod yX3_allRails, .selects RX3 yX3_allRails yX3_allRails, .initialized RX3, .code yX3_allRails cX3_allRails 1 (some .int), .fieldLink RX3 19 "PowerRails$Plan" "rails" "I", .methodLink RX10 218 yX10_alive, .instanceMethod yX10_alive, .selects RX10 yX10_alive yX10_alive, .initialized RX10, .code yX10_alive cX10_alive 1 (some .int), .fieldLink RX10 19 "PowerRails" "run" "LPowerRails$Run;", .fieldLink RX10 147 "PowerRails$Run" "dead" "I", .methodLink RX10 205 yX3_upAmong, .instanceMethod yX3_upAmong, .selects RX3 yX3_upAmong yX3_upAmong, .code yX3_upAmong cX3_upAmong 6 (some .int), .methodLink RX3 38 yX3_holdsWith, .instanceMethod yX3_holdsWith] : List Cond) := goodIn_r _ [400, 655, 656, 657, 60, 658, 309, 794, 796, 2, 51, 797, 395, 138, 772, 773, 774, 775, 678, 660] (by decide +kernel) (by decide +kernel)
set_option maxRecDepth 20000 in
theorem xg_X10_down_473 : GoodIn lw_tbl ([.selects RX3 yX3_holdsWith yX3_holdsWith, .code yX3_holdsWith cX3_holdsWith 3 (some .boolean), .fieldLink RX3 15 "PowerRails$Plan" "tables" "[J"] : List Cond) := goodIn_r _ [661, 662, 307] (by decide +kernel) (by decide +kernel)
theorem xgc_X10_down : GoodIn lw_tbl ([.code yX10_down cX10_down 2 (some .int)] : List Cond) := goodIn_r _ [907] (by decide +kernel) (by decide +kernel)
set_option maxRecDepth 20000 in
theorem xgw_X10_down : GoodIn lw_tbl wsX10_down := xg_cons xgc_X10_down (goodIn_app (goodIn_app (goodIn_app (goodIn_app xg_X10_down_471 xg_X10_down_473) xg_wsX100) xg_wsX30) xg_wsX50)
theorem xg4_X10_down : GoodIn lw_tbl ([.methodLink RL 110 yX10_down, .instanceMethod yX10_down, .selects RX10 yX10_down yX10_down, .initialized RX10] : List Cond) := goodIn_r _ [904, 905, 906, 51] (by decide +kernel) (by decide +kernel)
theorem xL_law_X10_down : GoodIn lw_tbl (wsV RL 110 RX10 yX10_down wsX10_down) := goodIn_app xg4_X10_down xgw_X10_down
set_option maxRecDepth 20000 in
theorem xg_X11_down_480 : GoodIn lw_tbl ([.methodLink RX11 372 yX11_areRails, .instanceMethod yX11_areRails, .selects RX11 yX11_areRails yX11_areRails, .initialized RX11, .code yX11_areRails cX11_areRails 2 (some .boolean), .fieldLink RX11 121 "PowerRailsModel" "rails" "I", .methodLink RX11 141 yX11_in, .static yX11_in, .code yX11_in cX11_in 6 (some .boolean), .methodLink RX11 324 yX11_deadOnes, .instanceMethod yX11_deadOnes, .selects RX11 yX11_deadOnes yX11_deadOnes, .code yX11_deadOnes cX11_deadOnes 3 (some .int), .fieldLink RX11 56 "PowerRailsModel" "isDead" "[Z", .methodLink RX11 327 yX11_upBut, .instanceMethod yX11_upBut, .selects RX11 yX11_upBut yX11_upBut, .code yX11_upBut cX11_upBut 6 (some .int), .methodLink RX11 256 yX11_isSo, .instanceMethod yX11_isSo] : List Cond) := goodIn_r _ [1461, 1463, 48, 62, 1464, 1011, 1198, 1199, 1200, 1385, 1387, 37, 1388, 1049, 1389, 1391, 38, 1392, 1303, 1305] (by decide +kernel) (by decide +kernel)
set_option maxRecDepth 20000 in
theorem xg_X11_down_482 : GoodIn lw_tbl ([.selects RX11 yX11_isSo yX11_isSo, .code yX11_isSo cX11_isSo 3 (some .boolean), .fieldLink RX11 16 "PowerRailsModel" "table" "[Z"] : List Cond) := goodIn_r _ [27, 1306, 1014] (by decide +kernel) (by decide +kernel)
theorem xgc_X11_down : GoodIn lw_tbl ([.code yX11_down cX11_down 2 (some .int)] : List Cond) := goodIn_r _ [1460] (by decide +kernel) (by decide +kernel)
set_option maxRecDepth 20000 in
theorem xgw_X11_down : GoodIn lw_tbl wsX11_down := xg_cons xgc_X11_down (goodIn_app (goodIn_app xg_X11_down_480 xg_X11_down_482) xg_wsX110)
theorem xg4_X11_down : GoodIn lw_tbl ([.methodLink RL 113 yX11_down, .instanceMethod yX11_down, .selects RX11 yX11_down yX11_down, .initialized RX11] : List Cond) := goodIn_r _ [1457, 1458, 1459, 62] (by decide +kernel) (by decide +kernel)
theorem xL_law_X11_down : GoodIn lw_tbl (wsV RL 113 RX11 yX11_down wsX11_down) := goodIn_app xg4_X11_down xgw_X11_down
set_option maxRecDepth 20000 in
theorem xg_wsX10_cut_r1 : GoodIn lw_tbl wsX10_cut_r1 := goodIn_r _ [400, 642, 643, 644, 60, 645, 309, 912, 914, 3, 51, 915, 794, 796, 2, 797, 395, 138, 655, 656, 657, 658, 772, 773] (by decide +kernel) (by decide +kernel)
set_option maxRecDepth 20000 in
theorem xg_wsX10_cut_r2 : GoodIn lw_tbl wsX10_cut_r2 := goodIn_r _ [774, 775, 678, 660, 661, 662, 307, 916, 917, 69, 918, 919, 920, 921, 70, 922, 923, 924, 925, 926, 927, 928, 929, 930] (by decide +kernel) (by decide +kernel)
theorem xgc_X10_cut : GoodIn lw_tbl ([.code yX10_cut cX10_cut 4 (some .int)] : List Cond) := goodIn_r _ [911] (by decide +kernel) (by decide +kernel)
set_option maxRecDepth 20000 in
theorem xgw_X10_cut : GoodIn lw_tbl wsX10_cut := xg_cons xgc_X10_cut (goodIn_app (goodIn_app (goodIn_app (goodIn_app xg_wsX10_cut_r1 xg_wsX10_cut_r2) xg_wsX100) xg_wsX30) xg_wsX50)
theorem xg4_X10_cut : GoodIn lw_tbl ([.methodLink RL 114 yX10_cut, .instanceMethod yX10_cut, .selects RX10 yX10_cut yX10_cut, .initialized RX10] : List Cond) := goodIn_r _ [908, 909, 910, 51] (by decide +kernel) (by decide +kernel)
theorem xL_law_X10_cut : GoodIn lw_tbl (wsV RL 114 RX10 yX10_cut wsX10_cut) := goodIn_app xg4_X10_cut xgw_X10_cut
set_option maxRecDepth 20000 in
theorem xg_wsX11_cut_r1 : GoodIn lw_tbl wsX11_cut_r1 := goodIn_r _ [1011, 1290, 1292, 26, 62, 1293, 1198, 1199, 1200, 1385, 1387, 37, 1388, 1049, 1469, 1471, 49, 1472, 1389, 1391, 38, 1392, 1303, 1305] (by decide +kernel) (by decide +kernel)
set_option maxRecDepth 20000 in
theorem xg_wsX11_cut_r2 : GoodIn lw_tbl wsX11_cut_r2 := goodIn_r _ [27, 1306, 1014, 1473, 1474, 1475] (by decide +kernel) (by decide +kernel)
theorem xgc_X11_cut : GoodIn lw_tbl ([.code yX11_cut cX11_cut 6 (some .int)] : List Cond) := goodIn_r _ [1468] (by decide +kernel) (by decide +kernel)
set_option maxRecDepth 20000 in
theorem xgw_X11_cut : GoodIn lw_tbl wsX11_cut := xg_cons xgc_X11_cut (goodIn_app (goodIn_app xg_wsX11_cut_r1 xg_wsX11_cut_r2) xg_wsX110)
theorem xg4_X11_cut : GoodIn lw_tbl ([.methodLink RL 117 yX11_cut, .instanceMethod yX11_cut, .selects RX11 yX11_cut yX11_cut, .initialized RX11] : List Cond) := goodIn_r _ [1465, 1466, 1467, 62] (by decide +kernel) (by decide +kernel)
theorem xL_law_X11_cut : GoodIn lw_tbl (wsV RL 117 RX11 yX11_cut wsX11_cut) := goodIn_app xg4_X11_cut xgw_X11_cut
set_option maxRecDepth 20000 in
theorem xg_wsX10_need_r1 : GoodIn lw_tbl wsX10_need_r1 := goodIn_r _ [400, 642, 643, 644, 60, 645, 309, 912, 914, 3, 51, 915, 794, 796, 2, 797, 395, 138, 655, 656, 657, 658, 772, 773] (by decide +kernel) (by decide +kernel)
set_option maxRecDepth 20000 in
theorem xg_wsX10_need_r2 : GoodIn lw_tbl wsX10_need_r2 := goodIn_r _ [774, 775, 678, 660, 661, 662, 307, 935, 936, 69, 937, 919, 920, 921, 70, 922, 923, 924, 925, 926, 927, 928, 929, 930] (by decide +kernel) (by decide +kernel)
theorem xgc_X10_need : GoodIn lw_tbl ([.code yX10_need cX10_need 4 (some .int)] : List Cond) := goodIn_r _ [934] (by decide +kernel) (by decide +kernel)
set_option maxRecDepth 20000 in
theorem xgw_X10_need : GoodIn lw_tbl wsX10_need := xg_cons xgc_X10_need (goodIn_app (goodIn_app (goodIn_app (goodIn_app xg_wsX10_need_r1 xg_wsX10_need_r2) xg_wsX100) xg_wsX30) xg_wsX50)
theorem xg4_X10_need : GoodIn lw_tbl ([.methodLink RL 118 yX10_need, .instanceMethod yX10_need, .selects RX10 yX10_need yX10_need, .initialized RX10] : List Cond) := goodIn_r _ [931, 932, 933, 51] (by decide +kernel) (by decide +kernel)
theorem xL_law_X10_need : GoodIn lw_tbl (wsV RL 118 RX10 yX10_need wsX10_need) := goodIn_app xg4_X10_need xgw_X10_need
set_option maxRecDepth 20000 in
theorem xg_wsX11_need_r1 : GoodIn lw_tbl wsX11_need_r1 := goodIn_r _ [1011, 1290, 1292, 26, 62, 1293, 1198, 1199, 1200, 1385, 1387, 37, 1388, 1049, 1469, 1471, 49, 1472, 1389, 1391, 38, 1392, 1303, 1305] (by decide +kernel) (by decide +kernel)
set_option maxRecDepth 20000 in
theorem xg_wsX11_need_r2 : GoodIn lw_tbl wsX11_need_r2 := goodIn_r _ [27, 1306, 1014, 1473, 1474, 1475] (by decide +kernel) (by decide +kernel)
theorem xgc_X11_need : GoodIn lw_tbl ([.code yX11_need cX11_need 7 (some .int)] : List Cond) := goodIn_r _ [1479] (by decide +kernel) (by decide +kernel)
set_option maxRecDepth 20000 in
theorem xgw_X11_need : GoodIn lw_tbl wsX11_need := xg_cons xgc_X11_need (goodIn_app (goodIn_app xg_wsX11_need_r1 xg_wsX11_need_r2) xg_wsX110)
theorem xg4_X11_need : GoodIn lw_tbl ([.methodLink RL 121 yX11_need, .instanceMethod yX11_need, .selects RX11 yX11_need yX11_need, .initialized RX11] : List Cond) := goodIn_r _ [1476, 1477, 1478, 62] (by decide +kernel) (by decide +kernel)
theorem xL_law_X11_need : GoodIn lw_tbl (wsV RL 121 RX11 yX11_need wsX11_need) := goodIn_app xg4_X11_need xgw_X11_need
set_option maxRecDepth 20000 in
theorem xg_wsX10_must_r1 : GoodIn lw_tbl wsX10_must_r1 := goodIn_r _ [400, 642, 643, 644, 60, 645, 309, 912, 914, 3, 51, 915, 794, 796, 2, 797, 395, 138, 655, 656, 657, 658, 772, 773] (by decide +kernel) (by decide +kernel)
set_option maxRecDepth 20000 in
theorem xg_wsX10_must_r2 : GoodIn lw_tbl wsX10_must_r2 := goodIn_r _ [774, 775, 678, 660, 661, 662, 307, 942, 943, 69, 944, 311, 926, 927, 928, 929] (by decide +kernel) (by decide +kernel)
theorem xgc_X10_must : GoodIn lw_tbl ([.code yX10_must cX10_must 2 (some .int)] : List Cond) := goodIn_r _ [941] (by decide +kernel) (by decide +kernel)
set_option maxRecDepth 20000 in
theorem xgw_X10_must : GoodIn lw_tbl wsX10_must := xg_cons xgc_X10_must (goodIn_app (goodIn_app (goodIn_app (goodIn_app xg_wsX10_must_r1 xg_wsX10_must_r2) xg_wsX100) xg_wsX30) xg_wsX50)
theorem xg4_X10_must : GoodIn lw_tbl ([.methodLink RL 122 yX10_must, .instanceMethod yX10_must, .selects RX10 yX10_must yX10_must, .initialized RX10] : List Cond) := goodIn_r _ [938, 939, 940, 51] (by decide +kernel) (by decide +kernel)
theorem xL_law_X10_must : GoodIn lw_tbl (wsV RL 122 RX10 yX10_must wsX10_must) := goodIn_app xg4_X10_must xgw_X10_must
set_option maxRecDepth 20000 in
theorem xg_wsX11_must_r1 : GoodIn lw_tbl wsX11_must_r1 := goodIn_r _ [1011, 1290, 1292, 26, 62, 1293, 1198, 1199, 1200, 1385, 1387, 37, 1388, 1049, 1469, 1471, 49, 1472, 1389, 1391, 38, 1392, 1303, 1305] (by decide +kernel) (by decide +kernel)
set_option maxRecDepth 20000 in
theorem xg_wsX11_must_r2 : GoodIn lw_tbl wsX11_must_r2 := goodIn_r _ [27, 1306, 1014] (by decide +kernel) (by decide +kernel)
theorem xgc_X11_must : GoodIn lw_tbl ([.code yX11_must cX11_must 4 (some .int)] : List Cond) := goodIn_r _ [1483] (by decide +kernel) (by decide +kernel)
set_option maxRecDepth 20000 in
theorem xgw_X11_must : GoodIn lw_tbl wsX11_must := xg_cons xgc_X11_must (goodIn_app (goodIn_app xg_wsX11_must_r1 xg_wsX11_must_r2) xg_wsX110)
theorem xg4_X11_must : GoodIn lw_tbl ([.methodLink RL 125 yX11_must, .instanceMethod yX11_must, .selects RX11 yX11_must yX11_must, .initialized RX11] : List Cond) := goodIn_r _ [1480, 1481, 1482, 62] (by decide +kernel) (by decide +kernel)
theorem xL_law_X11_must : GoodIn lw_tbl (wsV RL 125 RX11 yX11_must wsX11_must) := goodIn_app xg4_X11_must xgw_X11_must
set_option maxRecDepth 20000 in
theorem xg_X10_seen_543 : GoodIn lw_tbl ([.fieldLink RX10 56 "PowerRails" "plan" "LPowerRails$Plan;", .methodLink RX10 120 yX3_allRails, .instanceMethod yX3_allRails, .selects RX3 yX3_allRails yX3_allRails, .initialized RX3, .code yX3_allRails cX3_allRails 1 (some .int), .fieldLink RX3 19 "PowerRails$Plan" "rails" "I", .methodLink RX10 292 yX1_thatExplain, .static yX1_thatExplain, .initialized RX1, .code yX1_thatExplain cX1_thatExplain 5 (some .int), .fieldLink RX1 30 "PowerRails$Plan" "rails" "I", .methodLink RX1 15 yX3_allRails, .methodLink RX1 9 yX3_upAmong, .instanceMethod yX3_upAmong, .selects RX3 yX3_upAmong yX3_upAmong, .code yX3_upAmong cX3_upAmong 6 (some .int), .methodLink RX3 38 yX3_holdsWith, .instanceMethod yX3_holdsWith, .selects RX3 yX3_holdsWith yX3_holdsWith] : List Cond) := goodIn_r _ [400, 655, 656, 657, 60, 658, 309, 949, 950, 69, 951, 311, 919, 929, 773, 774, 775, 678, 660, 661] (by decide +kernel) (by decide +kernel)
set_option maxRecDepth 20000 in
theorem xg_X10_seen_545 : GoodIn lw_tbl ([.code yX3_holdsWith cX3_holdsWith 3 (some .boolean), .fieldLink RX3 15 "PowerRails$Plan" "tables" "[J"] : List Cond) := goodIn_r _ [662, 307] (by decide +kernel) (by decide +kernel)
theorem xgc_X10_seen : GoodIn lw_tbl ([.code yX10_seen cX10_seen 2 (some .int)] : List Cond) := goodIn_r _ [948] (by decide +kernel) (by decide +kernel)
set_option maxRecDepth 20000 in
theorem xgw_X10_seen : GoodIn lw_tbl wsX10_seen := xg_cons xgc_X10_seen (goodIn_app (goodIn_app (goodIn_app xg_X10_seen_543 xg_X10_seen_545) xg_wsX100) xg_wsX30)
theorem xg4_X10_seen : GoodIn lw_tbl ([.methodLink RL 126 yX10_seen, .instanceMethod yX10_seen, .selects RX10 yX10_seen yX10_seen, .initialized RX10] : List Cond) := goodIn_r _ [945, 946, 947, 51] (by decide +kernel) (by decide +kernel)
theorem xL_law_X10_seen : GoodIn lw_tbl (wsV RL 126 RX10 yX10_seen wsX10_seen) := goodIn_app xg4_X10_seen xgw_X10_seen
set_option maxRecDepth 20000 in
theorem xg_X11_seen_552 : GoodIn lw_tbl ([.fieldLink RX11 121 "PowerRailsModel" "rails" "I", .methodLink RX11 372 yX11_areRails, .instanceMethod yX11_areRails, .selects RX11 yX11_areRails yX11_areRails, .initialized RX11, .code yX11_areRails cX11_areRails 2 (some .boolean), .methodLink RX11 141 yX11_in, .static yX11_in, .code yX11_in cX11_in 6 (some .boolean), .methodLink RX11 327 yX11_upBut, .instanceMethod yX11_upBut, .selects RX11 yX11_upBut yX11_upBut, .code yX11_upBut cX11_upBut 6 (some .int), .methodLink RX11 256 yX11_isSo, .instanceMethod yX11_isSo, .selects RX11 yX11_isSo yX11_isSo, .code yX11_isSo cX11_isSo 3 (some .boolean), .fieldLink RX11 16 "PowerRailsModel" "table" "[Z"] : List Cond) := goodIn_r _ [1011, 1461, 1463, 48, 62, 1464, 1198, 1199, 1200, 1389, 1391, 38, 1392, 1303, 1305, 27, 1306, 1014] (by decide +kernel) (by decide +kernel)
theorem xgc_X11_seen : GoodIn lw_tbl ([.code yX11_seen cX11_seen 4 (some .int)] : List Cond) := goodIn_r _ [1487] (by decide +kernel) (by decide +kernel)
set_option maxRecDepth 20000 in
theorem xgw_X11_seen : GoodIn lw_tbl wsX11_seen := xg_cons xgc_X11_seen (goodIn_app xg_X11_seen_552 xg_wsX110)
theorem xg4_X11_seen : GoodIn lw_tbl ([.methodLink RL 129 yX11_seen, .instanceMethod yX11_seen, .selects RX11 yX11_seen yX11_seen, .initialized RX11] : List Cond) := goodIn_r _ [1484, 1485, 1486, 62] (by decide +kernel) (by decide +kernel)
theorem xL_law_X11_seen : GoodIn lw_tbl (wsV RL 129 RX11 yX11_seen wsX11_seen) := goodIn_app xg4_X11_seen xgw_X11_seen
set_option maxRecDepth 20000 in
theorem xg_X10_sheet_559 : GoodIn lw_tbl ([.fieldLink RX10 49 "PowerRails" "sheets" "LPowerRails$Sheets;", .methodLink RX10 295 yX6_hasPlace, .static yX6_hasPlace, .initialized RX6, .code yX6_hasPlace cX6_hasPlace 1 (some .boolean), .methodLink RX10 298 yX6_isLane, .static yX6_isLane, .code yX6_isLane cX6_isLane 1 (some .boolean), .methodLink RX10 301 yX6_renew, .instanceMethod yX6_renew, .selects RX6 yX6_renew yX6_renew, .code yX6_renew cX6_renew 4 none, .fieldLink RX6 16 "PowerRails$Sheets" "lanes" "[I", .fieldLink RX6 20 "PowerRails$Sheets" "sizes" "[I", .fieldLink RX6 13 "PowerRails$Sheets" "cells" "[[I", .methodLink RX6 23 yJ7_fill_53178, .static yJ7_fill_53178, .initialized RJ7, .code yJ7_fill_53178 cJ7_fill_53178 4 none] : List Cond) := goodIn_r _ [399, 956, 957, 58, 958, 959, 960, 961, 962, 963, 964, 965, 289, 291, 287, 284, 285, 59, 286] (by decide +kernel) (by decide +kernel)
theorem xgc_X10_sheet : GoodIn lw_tbl ([.code yX10_sheet cX10_sheet 4 (some .int)] : List Cond) := goodIn_r _ [955] (by decide +kernel) (by decide +kernel)
set_option maxRecDepth 20000 in
theorem xgw_X10_sheet : GoodIn lw_tbl wsX10_sheet := xg_cons xgc_X10_sheet (goodIn_app (goodIn_app xg_X10_sheet_559 xg_wsX100) xg_wsX60)
theorem xg4_X10_sheet : GoodIn lw_tbl ([.methodLink RL 130 yX10_sheet, .instanceMethod yX10_sheet, .selects RX10 yX10_sheet yX10_sheet, .initialized RX10] : List Cond) := goodIn_r _ [952, 953, 954, 51] (by decide +kernel) (by decide +kernel)
theorem xL_law_X10_sheet : GoodIn lw_tbl (wsV RL 130 RX10 yX10_sheet wsX10_sheet) := goodIn_app xg4_X10_sheet xgw_X10_sheet
set_option maxRecDepth 20000 in
theorem xg_X11_sheet_566 : GoodIn lw_tbl ([.fieldLink RX11 83 "PowerRailsModel" "lanes" "[I", .fieldLink RX11 86 "PowerRailsModel" "sizes" "[I", .fieldLink RX11 89 "PowerRailsModel" "cells" "[I", .methodLink RX11 381 yX11_isSheet, .static yX11_isSheet, .initialized RX11, .code yX11_isSheet cX11_isSheet 2 (some .boolean), .constantLong RX11 356 (3), .constantLong RX11 322 (2), .methodLink RX11 141 yX11_in, .static yX11_in, .code yX11_in cX11_in 6 (some .boolean)] : List Cond) := goodIn_r _ [1067, 1068, 1069, 1492, 1493, 62, 1494, 1435, 1380, 1198, 1199, 1200] (by decide +kernel) (by decide +kernel)
theorem xgc_X11_sheet : GoodIn lw_tbl ([.code yX11_sheet cX11_sheet 5 (some .int)] : List Cond) := goodIn_r _ [1491] (by decide +kernel) (by decide +kernel)
set_option maxRecDepth 20000 in
theorem xgw_X11_sheet : GoodIn lw_tbl wsX11_sheet := xg_cons xgc_X11_sheet (goodIn_app xg_X11_sheet_566 xg_wsX110)
theorem xg4_X11_sheet : GoodIn lw_tbl ([.methodLink RL 133 yX11_sheet, .instanceMethod yX11_sheet, .selects RX11 yX11_sheet yX11_sheet, .initialized RX11] : List Cond) := goodIn_r _ [1488, 1489, 1490, 62] (by decide +kernel) (by decide +kernel)
theorem xL_law_X11_sheet : GoodIn lw_tbl (wsV RL 133 RX11 yX11_sheet wsX11_sheet) := goodIn_app xg4_X11_sheet xgw_X11_sheet
set_option maxRecDepth 20000 in
theorem xg_X10_lay_573 : GoodIn lw_tbl ([.fieldLink RX10 49 "PowerRails" "sheets" "LPowerRails$Sheets;", .fieldLink RX10 305 "PowerRails$Sheets" "sizes" "[I", .methodLink RX10 295 yX6_hasPlace, .static yX6_hasPlace, .initialized RX6, .code yX6_hasPlace cX6_hasPlace 1 (some .boolean), .methodLink RX10 308 yX6_put, .instanceMethod yX6_put, .selects RX6 yX6_put yX6_put, .code yX6_put cX6_put 4 none, .fieldLink RX6 16 "PowerRails$Sheets" "lanes" "[I", .fieldLink RX6 13 "PowerRails$Sheets" "cells" "[[I"] : List Cond) := goodIn_r _ [399, 292, 956, 957, 58, 958, 970, 971, 972, 973, 289, 287] (by decide +kernel) (by decide +kernel)
theorem xgc_X10_lay : GoodIn lw_tbl ([.code yX10_lay cX10_lay 4 (some .int)] : List Cond) := goodIn_r _ [969] (by decide +kernel) (by decide +kernel)
set_option maxRecDepth 20000 in
theorem xgw_X10_lay : GoodIn lw_tbl wsX10_lay := xg_cons xgc_X10_lay (goodIn_app (goodIn_app xg_X10_lay_573 xg_wsX100) xg_wsX60)
theorem xg4_X10_lay : GoodIn lw_tbl ([.methodLink RL 134 yX10_lay, .instanceMethod yX10_lay, .selects RX10 yX10_lay yX10_lay, .initialized RX10] : List Cond) := goodIn_r _ [966, 967, 968, 51] (by decide +kernel) (by decide +kernel)
theorem xL_law_X10_lay : GoodIn lw_tbl (wsV RL 134 RX10 yX10_lay wsX10_lay) := goodIn_app xg4_X10_lay xgw_X10_lay
set_option maxRecDepth 20000 in
theorem xg_X11_lay_580 : GoodIn lw_tbl ([.fieldLink RX11 83 "PowerRailsModel" "lanes" "[I", .fieldLink RX11 86 "PowerRailsModel" "sizes" "[I", .fieldLink RX11 89 "PowerRailsModel" "cells" "[I", .methodLink RX11 381 yX11_isSheet, .static yX11_isSheet, .initialized RX11, .code yX11_isSheet cX11_isSheet 2 (some .boolean), .constantLong RX11 356 (3), .constantLong RX11 322 (2), .methodLink RX11 141 yX11_in, .static yX11_in, .code yX11_in cX11_in 6 (some .boolean)] : List Cond) := goodIn_r _ [1067, 1068, 1069, 1492, 1493, 62, 1494, 1435, 1380, 1198, 1199, 1200] (by decide +kernel) (by decide +kernel)
theorem xgc_X11_lay : GoodIn lw_tbl ([.code yX11_lay cX11_lay 4 (some .int)] : List Cond) := goodIn_r _ [1498] (by decide +kernel) (by decide +kernel)
set_option maxRecDepth 20000 in
theorem xgw_X11_lay : GoodIn lw_tbl wsX11_lay := xg_cons xgc_X11_lay (goodIn_app xg_X11_lay_580 xg_wsX110)
theorem xg4_X11_lay : GoodIn lw_tbl ([.methodLink RL 137 yX11_lay, .instanceMethod yX11_lay, .selects RX11 yX11_lay yX11_lay, .initialized RX11] : List Cond) := goodIn_r _ [1495, 1496, 1497, 62] (by decide +kernel) (by decide +kernel)
theorem xL_law_X11_lay : GoodIn lw_tbl (wsV RL 137 RX11 yX11_lay wsX11_lay) := goodIn_app xg4_X11_lay xgw_X11_lay
set_option maxRecDepth 20000 in
theorem xg_wsX10_measured_r1 : GoodIn lw_tbl wsX10_measured_r1 := goodIn_r _ [399, 292, 290, 956, 957, 58, 958, 959, 960, 961, 780, 782, 1, 51, 783, 396, 400, 395, 134, 784, 785, 786, 55, 787] (by decide +kernel) (by decide +kernel)
set_option maxRecDepth 20000 in
theorem xg_wsX10_measured_r2 : GoodIn lw_tbl wsX10_measured_r2 := goodIn_r _ [310, 188, 788, 583, 584, 60, 585, 306, 789, 790, 791, 792, 190, 793, 602, 601, 67, 794, 796, 2, 797, 138, 655, 656] (by decide +kernel) (by decide +kernel)
set_option maxRecDepth 20000 in
theorem xg_wsX10_measured_r3 : GoodIn lw_tbl wsX10_measured_r3 := goodIn_r _ [657, 658, 309, 798, 799, 800, 801, 198, 200, 193, 802, 803, 804, 805, 192, 806, 660, 661, 662, 307, 807, 808, 809, 810] (by decide +kernel) (by decide +kernel)
set_option maxRecDepth 20000 in
theorem xg_wsX10_measured_r4 : GoodIn lw_tbl wsX10_measured_r4 := goodIn_r _ [811, 618, 68, 619, 978, 980, 4, 981, 288, 982, 983, 984, 856, 857, 858, 859, 860, 817, 818, 819] (by decide +kernel) (by decide +kernel)
theorem xgc_X10_measured : GoodIn lw_tbl ([.code yX10_measured cX10_measured 6 (some .int)] : List Cond) := goodIn_r _ [977] (by decide +kernel) (by decide +kernel)
set_option maxRecDepth 20000 in
theorem xgw_X10_measured : GoodIn lw_tbl wsX10_measured := xg_cons xgc_X10_measured (goodIn_app (goodIn_app (goodIn_app (goodIn_app (goodIn_app (goodIn_app xg_wsX10_measured_r1 (goodIn_app xg_wsX10_measured_r2 (goodIn_app xg_wsX10_measured_r3 xg_wsX10_measured_r4))) xg_wsX100) xg_wsX60) xg_wsX50) xg_wsX30) xg_wsX00)
theorem xg4_X10_measured : GoodIn lw_tbl ([.methodLink RL 138 yX10_measured, .instanceMethod yX10_measured, .selects RX10 yX10_measured yX10_measured, .initialized RX10] : List Cond) := goodIn_r _ [974, 975, 976, 51] (by decide +kernel) (by decide +kernel)
theorem xL_law_X10_measured : GoodIn lw_tbl (wsV RL 138 RX10 yX10_measured wsX10_measured) := goodIn_app xg4_X10_measured xgw_X10_measured
set_option maxRecDepth 20000 in
theorem xg_wsX11_measured_r1 : GoodIn lw_tbl wsX11_measured_r1 := goodIn_r _ [1503, 1380, 1067, 1068, 1069, 1504, 1492, 1493, 62, 1494, 1435, 1198, 1199, 1200, 1397, 1399, 39, 1400, 1011, 1062, 1007, 1009, 8, 1010] (by decide +kernel) (by decide +kernel)
set_option maxRecDepth 20000 in
theorem xg_wsX11_measured_r2 : GoodIn lw_tbl wsX11_measured_r2 := goodIn_r _ [1012, 1401, 1403, 40, 1404, 1061, 1050, 1405, 1407, 41, 1408, 1063, 1059, 1409, 1060, 1385, 1387, 37, 1388, 1049, 1389, 1391, 38, 1392] (by decide +kernel) (by decide +kernel)
set_option maxRecDepth 20000 in
theorem xg_wsX11_measured_r3 : GoodIn lw_tbl wsX11_measured_r3 := goodIn_r _ [1303, 1305, 27, 1306, 1014, 1427, 1429, 44, 1430, 1359, 1361, 35, 1362] (by decide +kernel) (by decide +kernel)
theorem xgc_X11_measured : GoodIn lw_tbl ([.code yX11_measured cX11_measured 14 (some .int)] : List Cond) := goodIn_r _ [1502] (by decide +kernel) (by decide +kernel)
set_option maxRecDepth 20000 in
theorem xgw_X11_measured : GoodIn lw_tbl wsX11_measured := xg_cons xgc_X11_measured (goodIn_app (goodIn_app xg_wsX11_measured_r1 (goodIn_app xg_wsX11_measured_r2 xg_wsX11_measured_r3)) xg_wsX110)
theorem xg4_X11_measured : GoodIn lw_tbl ([.methodLink RL 142 yX11_measured, .instanceMethod yX11_measured, .selects RX11 yX11_measured yX11_measured, .initialized RX11] : List Cond) := goodIn_r _ [1499, 1500, 1501, 62] (by decide +kernel) (by decide +kernel)
theorem xL_law_X11_measured : GoodIn lw_tbl (wsV RL 142 RX11 yX11_measured wsX11_measured) := goodIn_app xg4_X11_measured xgw_X11_measured
set_option maxRecDepth 20000 in
theorem xg_wsX10_count_r1 : GoodIn lw_tbl wsX10_count_r1 := goodIn_r _ [400, 314, 395, 138, 127, 116, 393, 88, 399, 292, 930, 921, 70, 922, 923, 924, 925, 824, 825, 826, 60, 827, 309, 828] (by decide +kernel) (by decide +kernel)
set_option maxRecDepth 20000 in
theorem xg_wsX10_count_r2 : GoodIn lw_tbl wsX10_count_r2 := goodIn_r _ [583, 584, 585, 306] (by decide +kernel) (by decide +kernel)
theorem xgc_X10_count : GoodIn lw_tbl ([.code yX10_count cX10_count 2 (some .int)] : List Cond) := goodIn_r _ [988] (by decide +kernel) (by decide +kernel)
set_option maxRecDepth 20000 in
theorem xgw_X10_count : GoodIn lw_tbl wsX10_count := xg_cons xgc_X10_count (goodIn_app (goodIn_app (goodIn_app (goodIn_app (goodIn_app (goodIn_app (goodIn_app xg_wsX10_count_r1 xg_wsX10_count_r2) xg_wsX100) xg_wsX30) xg_wsX50) xg_wsX20) xg_wsX80) xg_wsX60)
theorem xg4_X10_count : GoodIn lw_tbl ([.methodLink RL 143 yX10_count, .instanceMethod yX10_count, .selects RX10 yX10_count yX10_count, .initialized RX10] : List Cond) := goodIn_r _ [985, 986, 987, 51] (by decide +kernel) (by decide +kernel)
theorem xL_law_X10_count : GoodIn lw_tbl (wsV RL 143 RX10 yX10_count wsX10_count) := goodIn_app xg4_X10_count xgw_X10_count
set_option maxRecDepth 20000 in
theorem xg_X11_count_620 : GoodIn lw_tbl ([.fieldLink RX11 121 "PowerRailsModel" "rails" "I", .fieldLink RX11 288 "PowerRailsModel" "happenings" "I", .fieldLink RX11 136 "PowerRailsModel" "taped" "I", .fieldLink RX11 83 "PowerRailsModel" "lanes" "[I", .fieldLink RX11 86 "PowerRailsModel" "sizes" "[I", .methodLink RX11 324 yX11_deadOnes, .instanceMethod yX11_deadOnes, .selects RX11 yX11_deadOnes yX11_deadOnes, .initialized RX11, .code yX11_deadOnes cX11_deadOnes 3 (some .int), .fieldLink RX11 56 "PowerRailsModel" "isDead" "[Z", .methodLink RX11 378 yX11_countOf, .static yX11_countOf, .code yX11_countOf cX11_countOf 3 (some .int), .methodLink RX11 343 yX11_ways, .instanceMethod yX11_ways, .selects RX11 yX11_ways yX11_ways, .code yX11_ways cX11_ways 3 (some .int), .methodLink RX11 251 yX11_of, .instanceMethod yX11_of] : List Cond) := goodIn_r _ [1011, 1057, 1037, 1067, 1068, 1385, 1387, 37, 62, 1388, 1049, 1473, 1474, 1475, 1414, 1416, 42, 1417, 1007, 1009] (by decide +kernel) (by decide +kernel)
set_option maxRecDepth 20000 in
theorem xg_X11_count_622 : GoodIn lw_tbl ([.selects RX11 yX11_of yX11_of, .code yX11_of cX11_of 3 (some .int), .fieldLink RX11 7 "PowerRailsModel" "told" "[I"] : List Cond) := goodIn_r _ [8, 1010, 1012] (by decide +kernel) (by decide +kernel)
theorem xgc_X11_count : GoodIn lw_tbl ([.code yX11_count cX11_count 2 (some .int)] : List Cond) := goodIn_r _ [1508] (by decide +kernel) (by decide +kernel)
set_option maxRecDepth 20000 in
theorem xgw_X11_count : GoodIn lw_tbl wsX11_count := xg_cons xgc_X11_count (goodIn_app (goodIn_app xg_X11_count_620 xg_X11_count_622) xg_wsX110)
theorem xg4_X11_count : GoodIn lw_tbl ([.methodLink RL 146 yX11_count, .instanceMethod yX11_count, .selects RX11 yX11_count yX11_count, .initialized RX11] : List Cond) := goodIn_r _ [1505, 1506, 1507, 62] (by decide +kernel) (by decide +kernel)
theorem xL_law_X11_count : GoodIn lw_tbl (wsV RL 146 RX11 yX11_count wsX11_count) := goodIn_app xg4_X11_count xgw_X11_count
