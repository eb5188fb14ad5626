set_option maxRecDepth 20000 in
theorem ggL_law_X10_init : GoodIn wsL_law wsX10_init := goodIn_r _ [9, 10, 11, 12, 13, 14, 15, 16, 17, 18, 19, 20, 21, 22, 23, 24, 25, 26, 27, 28, 29, 30, 31, 32, 33, 34, 35, 36, 37, 38, 39, 40, 41, 42, 43, 44, 45, 46, 47, 48, 49, 50, 51, 52, 53, 54, 55, 56, 57, 58, 59, 60, 61, 62, 63, 64, 65, 66, 67, 68, 69, 70, 71, 72, 73, 74, 75, 76, 77, 78, 79, 80, 81, 82, 83, 84, 85, 86, 87, 88, 89, 90, 91, 92, 93, 94, 95, 96, 97, 98, 99, 100, 101, 102, 103, 104, 105, 106, 107, 108, 109, 110, 111, 112, 113, 114, 115, 116, 117, 118, 119, 120, 121, 122, 123, 124, 125, 126, 127, 128, 129, 130, 131, 132, 133, 134, 135, 1241, 1242, 1172, 1173, 1174, 1175, 1176, 1177, 1178, 1179, 1180, 1181, 1243, 1244, 1245, 1246, 1247, 1248, 1249, 1250, 1251, 1252, 1253, 1254, 1255, 1256, 1257, 1258, 1259, 1260, 1261, 1262, 1263, 1264, 1265, 1266, 1267, 1268, 1269, 1270, 1271, 1272, 1273, 1274, 1275, 1276, 1277, 1278, 1279, 1280, 1281, 1282, 1283, 1284, 1285, 1286, 1287, 1288, 1289, 1290, 1291, 1292, 1293, 1294, 1295, 1296, 1297, 1298, 1299, 1300, 1301] (by decide +kernel) (by decide +kernel)
set_option maxRecDepth 20000 in
theorem gL_law_X10_init : GoodIn wsL_law (wsX10_init) := ggL_law_X10_init
set_option maxRecDepth 20000 in
theorem ggL_law_X11_init : GoodIn wsL_law wsX11_init := goodIn_r _ [138, 139, 11, 12, 51, 140, 141, 92, 142, 143, 144, 145, 146, 147, 148, 149, 150, 151, 152, 153, 154, 155, 156, 157, 158, 159, 160, 161, 162, 163, 164, 165, 166, 167, 168, 169, 5, 170, 171, 172, 173, 174, 175, 176, 177, 178, 179, 180, 181, 182, 183, 184, 185, 186, 187, 188, 189, 190, 191, 192, 193, 194, 195, 196, 197, 198, 199, 200, 201, 1182, 1183, 1184, 1185, 1186, 1187, 1188, 1189, 1190, 1191, 1192, 1193, 1194, 1195, 1196, 1197, 1198, 1199, 1200, 1201, 1202, 1203, 1204, 1205, 1206, 1207, 1208, 1209, 1210, 1211, 1212, 1213, 1214, 1215, 1216, 1217, 1218, 1219, 1220, 1221, 1222, 1223, 1224, 1225, 1226, 1227, 1228, 1229, 1230, 1231, 1232, 1233, 1234, 1235, 1236, 1237, 1238, 1239, 1240] (by decide +kernel) (by decide +kernel)
set_option maxRecDepth 20000 in
theorem gL_law_X11_init : GoodIn wsL_law (wsX11_init) := ggL_law_X11_init
set_option maxRecDepth 20000 in
theorem ggL_law_X10_feed : GoodIn wsL_law wsX10_feed := goodIn_r _ [205, 16, 206, 207, 208, 209, 15, 210, 53, 52, 1172, 1173, 1174, 1175, 1176, 1177, 1178, 1179, 1180, 1181, 1241, 1242] (by decide +kernel) (by decide +kernel)
set_option maxRecDepth 20000 in
theorem gL_law_X10_feed : GoodIn wsL_law (wsV RL 15 RX10 yX10_feed wsX10_feed) := goodIn_app (goodIn_of _ (by decide +kernel)) ggL_law_X10_feed
set_option maxRecDepth 20000 in
theorem ggL_law_X11_feed : GoodIn wsL_law wsX11_feed := goodIn_r _ [214, 215, 151, 216, 1182, 1183, 1184, 1185, 1186, 1187, 1188, 1189, 1190, 1191, 1192, 1193, 1194, 1195, 1196, 1197, 1198, 1199, 1200, 1201, 1202, 1203, 1204, 1205, 1206, 1207, 1208, 1209, 1210, 1211, 1212, 1213, 1214, 1215, 1216, 1217, 1218, 1219, 1220, 1221, 1222, 1223, 1224, 1225, 1226, 1227, 1228, 1229, 1230, 1231, 1232, 1233, 1234, 1235, 1236, 1237, 1238, 1239, 1240] (by decide +kernel) (by decide +kernel)
set_option maxRecDepth 20000 in
theorem gL_law_X11_feed : GoodIn wsL_law (wsV RL 19 RX11 yX11_feed wsX11_feed) := goodIn_app (goodIn_of _ (by decide +kernel)) ggL_law_X11_feed
set_option maxRecDepth 20000 in
theorem ggL_law_X10_end : GoodIn wsL_law wsX10_end := goodIn_r _ [220, 16, 206, 1172, 1173, 1174, 1175, 1176, 1177, 1178, 1179, 1180, 1181, 1241, 1242] (by decide +kernel) (by decide +kernel)
set_option maxRecDepth 20000 in
theorem gL_law_X10_end : GoodIn wsL_law (wsV RL 20 RX10 yX10_end wsX10_end) := goodIn_app (goodIn_of _ (by decide +kernel)) ggL_law_X10_end
set_option maxRecDepth 20000 in
theorem ggL_law_X11_end : GoodIn wsL_law wsX11_end := goodIn_r _ [224, 215, 225, 226, 5, 227, 1182, 1183, 1184, 1185, 1186, 1187, 1188, 1189, 1190, 1191, 1192, 1193, 1194, 1195, 1196, 1197, 1198, 1199, 1200, 1201, 1202, 1203, 1204, 1205, 1206, 1207, 1208, 1209, 1210, 1211, 1212, 1213, 1214, 1215, 1216, 1217, 1218, 1219, 1220, 1221, 1222, 1223, 1224, 1225, 1226, 1227, 1228, 1229, 1230, 1231, 1232, 1233, 1234, 1235, 1236, 1237, 1238, 1239, 1240] (by decide +kernel) (by decide +kernel)
set_option maxRecDepth 20000 in
theorem gL_law_X11_end : GoodIn wsL_law (wsV RL 24 RX11 yX11_end wsX11_end) := goodIn_app (goodIn_of _ (by decide +kernel)) ggL_law_X11_end
set_option maxRecDepth 20000 in
theorem ggL_law_X10_text : GoodIn wsL_law wsX10_text := goodIn_r _ [231, 45, 41, 16, 206, 232, 46, 233, 40, 20, 234, 235, 236, 44, 237, 131, 238, 239, 240, 241, 132, 242, 243, 244, 245, 39, 246, 122, 123, 124, 125, 247, 112, 113, 114, 248, 249, 250, 251, 130, 252, 253, 254, 255, 256, 257, 258, 259, 260, 261, 262, 263, 264, 265, 266, 267, 268, 269, 270, 271, 272, 273, 274, 275, 276, 277, 278, 279, 280, 281, 282, 283, 284, 285, 286, 287, 288, 289, 290, 291, 292, 293, 294, 295, 296, 297, 298, 299, 300, 301, 302, 303, 304, 305, 306, 307, 308, 309, 310, 311, 312, 313, 314, 315, 316, 317, 318, 319, 320, 321, 322, 323, 324, 325, 326, 327, 328, 329, 121, 330, 331, 332, 333, 334, 119, 335, 336, 337, 338, 339, 340, 341, 342, 343, 344, 345, 346, 347, 348, 349, 350, 351, 352, 353, 354, 355, 356, 357, 358, 359, 360, 134, 361, 362, 363, 364, 365, 366, 367, 368, 369, 135, 370, 371, 372, 373, 374, 375, 376, 377, 378, 379, 380, 381, 382, 383, 384, 385, 386, 387, 388, 389, 390, 391, 392, 393, 394, 395, 396, 397, 398, 399, 400, 401, 402, 403, 404, 405, 406, 407, 408, 409, 410, 411, 412, 413, 414, 415, 416, 417, 418, 419, 420, 421, 422, 423, 424, 19, 425, 61, 426, 62, 63, 64, 65, 66, 67, 68, 427, 428, 429, 430, 431, 432, 433, 434, 435, 436, 437, 2, 438, 28, 32, 439, 440, 441, 442, 27, 443, 94, 93, 1172, 1173, 1174, 1175, 1176, 1177, 1178, 1179, 1180, 1181, 1241, 1242, 1285, 1286, 1287, 1288, 1289, 1290, 1291, 1292, 1293, 1294, 1295, 1296, 1297, 1279, 1280, 1281, 1282, 1283, 1284, 1243, 1244, 1245, 1246, 1247, 1248, 1249, 1250, 1251, 1252, 1253, 1254, 1255, 1256, 1298, 1299, 1300, 1301, 1272, 1273, 1274, 1275, 1266, 1267, 1268, 1269, 1270, 1271] (by decide +kernel) (by decide +kernel)
set_option maxRecDepth 20000 in
theorem gL_law_X10_text : GoodIn wsL_law (wsV RL 25 RX10 yX10_text wsX10_text) := goodIn_app (goodIn_of _ (by decide +kernel)) ggL_law_X10_text
set_option maxRecDepth 20000 in
theorem ggL_law_X11_text : GoodIn wsL_law wsX11_text := goodIn_r _ [447, 448, 449, 450, 177, 146, 171, 147, 451, 215, 167, 168, 169, 5, 170, 172, 173, 174, 175, 176, 452, 453, 454, 455, 456, 457, 458, 459, 460, 461, 462, 463, 464, 465, 151, 225, 226, 227, 466, 467, 468, 469, 470, 471, 472, 473, 474, 475, 476, 477, 478, 479, 480, 481, 482, 483, 484, 485, 486, 487, 488, 143, 489, 490, 491, 492, 493, 494, 495, 496, 497, 498, 499, 500, 501, 502, 148, 503, 504, 505, 506, 507, 508, 509, 510, 511, 512, 513, 514, 515, 516, 517, 149, 518, 519, 520, 521, 522, 523, 524, 525, 526, 527, 528, 529, 144, 145, 530, 531, 532, 533, 150, 178, 179, 180, 181, 182, 183, 184, 185, 140, 141, 142, 186, 187, 188, 189, 190, 191, 192, 193, 194, 195, 196, 197, 152, 153, 154, 155, 156, 157, 198, 199, 200, 201, 1182, 1183, 1184, 1185, 1186, 1187, 1188, 1189, 1190, 1191, 1192, 1193, 1194, 1195, 1196, 1197, 1198, 1199, 1200, 1201, 1202, 1203, 1204, 1205, 1206, 1207, 1208, 1209, 1210, 1211, 1212, 1213, 1214, 1215, 1216, 1217, 1218, 1219, 1220, 1221, 1222, 1223, 1224, 1225, 1226, 1227, 1228, 1229, 1230, 1231, 1232, 1233, 1234, 1235, 1236, 1237, 1238, 1239, 1240] (by decide +kernel) (by decide +kernel)
set_option maxRecDepth 20000 in
theorem gL_law_X11_text : GoodIn wsL_law (wsV RL 29 RX11 yX11_text wsX11_text) := goodIn_app (goodIn_of _ (by decide +kernel)) ggL_law_X11_text
set_option maxRecDepth 20000 in
theorem ggL_law_X10_fault : GoodIn wsL_law wsX10_fault := goodIn_r _ [537, 46, 1172, 1173, 1174, 1175, 1176, 1177, 1178, 1179, 1180, 1181] (by decide +kernel) (by decide +kernel)
set_option maxRecDepth 20000 in
theorem gL_law_X10_fault : GoodIn wsL_law (wsV RL 30 RX10 yX10_fault wsX10_fault) := goodIn_app (goodIn_of _ (by decide +kernel)) ggL_law_X10_fault
set_option maxRecDepth 20000 in
theorem ggL_law_X11_fault : GoodIn wsL_law wsX11_fault := goodIn_r _ [541, 448, 1182, 1183, 1184, 1185, 1186, 1187, 1188, 1189, 1190, 1191, 1192, 1193, 1194, 1195, 1196, 1197, 1198, 1199, 1200, 1201, 1202, 1203, 1204, 1205, 1206, 1207, 1208, 1209, 1210, 1211, 1212, 1213, 1214, 1215, 1216, 1217, 1218, 1219, 1220, 1221, 1222, 1223, 1224, 1225, 1226, 1227, 1228, 1229, 1230, 1231, 1232, 1233, 1234, 1235, 1236, 1237, 1238, 1239, 1240] (by decide +kernel) (by decide +kernel)
set_option maxRecDepth 20000 in
theorem gL_law_X11_fault : GoodIn wsL_law (wsV RL 33 RX11 yX11_fault wsX11_fault) := goodIn_app (goodIn_of _ (by decide +kernel)) ggL_law_X11_fault
set_option maxRecDepth 20000 in
theorem ggL_law_X10_rail : GoodIn wsL_law wsX10_rail := goodIn_r _ [545, 40, 546, 547, 548, 39, 549, 122, 550, 388, 389, 390, 119, 1172, 1173, 1174, 1175, 1176, 1177, 1178, 1179, 1180, 1181, 1279, 1280, 1281, 1282, 1283, 1284] (by decide +kernel) (by decide +kernel)
set_option maxRecDepth 20000 in
theorem gL_law_X10_rail : GoodIn wsL_law (wsV RL 34 RX10 yX10_rail wsX10_rail) := goodIn_app (goodIn_of _ (by decide +kernel)) ggL_law_X10_rail
set_option maxRecDepth 20000 in
theorem ggL_law_X11_rail : GoodIn wsL_law wsX11_rail := goodIn_r _ [554, 480, 141, 555, 556, 557, 5, 558, 182, 225, 226, 227, 198, 199, 200, 201, 140, 1182, 1183, 1184, 1185, 1186, 1187, 1188, 1189, 1190, 1191, 1192, 1193, 1194, 1195, 1196, 1197, 1198, 1199, 1200, 1201, 1202, 1203, 1204, 1205, 1206, 1207, 1208, 1209, 1210, 1211, 1212, 1213, 1214, 1215, 1216, 1217, 1218, 1219, 1220, 1221, 1222, 1223, 1224, 1225, 1226, 1227, 1228, 1229, 1230, 1231, 1232, 1233, 1234, 1235, 1236, 1237, 1238, 1239, 1240] (by decide +kernel) (by decide +kernel)
set_option maxRecDepth 20000 in
theorem gL_law_X11_rail : GoodIn wsL_law (wsV RL 38 RX11 yX11_rail wsX11_rail) := goodIn_app (goodIn_of _ (by decide +kernel)) ggL_law_X11_rail
set_option maxRecDepth 20000 in
theorem ggL_law_X10_rule : GoodIn wsL_law wsX10_rule := goodIn_r _ [562, 40, 563, 564, 565, 566, 1172, 1173, 1174, 1175, 1176, 1177, 1178, 1179, 1180, 1181, 1279, 1280, 1281, 1282, 1283, 1284] (by decide +kernel) (by decide +kernel)
set_option maxRecDepth 20000 in
theorem gL_law_X10_rule : GoodIn wsL_law (wsV RL 39 RX10 yX10_rule wsX10_rule) := goodIn_app (goodIn_of _ (by decide +kernel)) ggL_law_X10_rule
set_option maxRecDepth 20000 in
theorem ggL_law_X11_rule : GoodIn wsL_law wsX11_rule := goodIn_r _ [570, 183, 184, 185, 182, 1182, 1183, 1184, 1185, 1186, 1187, 1188, 1189, 1190, 1191, 1192, 1193, 1194, 1195, 1196, 1197, 1198, 1199, 1200, 1201, 1202, 1203, 1204, 1205, 1206, 1207, 1208, 1209, 1210, 1211, 1212, 1213, 1214, 1215, 1216, 1217, 1218, 1219, 1220, 1221, 1222, 1223, 1224, 1225, 1226, 1227, 1228, 1229, 1230, 1231, 1232, 1233, 1234, 1235, 1236, 1237, 1238, 1239, 1240] (by decide +kernel) (by decide +kernel)
set_option maxRecDepth 20000 in
theorem gL_law_X11_rule : GoodIn wsL_law (wsV RL 42 RX11 yX11_rule wsX11_rule) := goodIn_app (goodIn_of _ (by decide +kernel)) ggL_law_X11_rule
set_option maxRecDepth 20000 in
theorem ggL_law_X10_holds : GoodIn wsL_law wsX10_holds := goodIn_r _ [574, 40, 546, 547, 548, 39, 549, 122, 575, 576, 577, 578, 579, 580, 581, 582, 121, 583, 584, 2, 585, 1172, 1173, 1174, 1175, 1176, 1177, 1178, 1179, 1180, 1181, 1279, 1280, 1281, 1282, 1283, 1284] (by decide +kernel) (by decide +kernel)
set_option maxRecDepth 20000 in
theorem gL_law_X10_holds : GoodIn wsL_law (wsV RL 43 RX10 yX10_holds wsX10_holds) := goodIn_app (goodIn_of _ (by decide +kernel)) ggL_law_X10_holds
set_option maxRecDepth 20000 in
theorem ggL_law_X11_holds : GoodIn wsL_law wsX11_holds := goodIn_r _ [589, 590, 555, 556, 557, 5, 558, 182, 225, 226, 227, 591, 592, 593, 594, 142, 595, 596, 597, 1182, 1183, 1184, 1185, 1186, 1187, 1188, 1189, 1190, 1191, 1192, 1193, 1194, 1195, 1196, 1197, 1198, 1199, 1200, 1201, 1202, 1203, 1204, 1205, 1206, 1207, 1208, 1209, 1210, 1211, 1212, 1213, 1214, 1215, 1216, 1217, 1218, 1219, 1220, 1221, 1222, 1223, 1224, 1225, 1226, 1227, 1228, 1229, 1230, 1231, 1232, 1233, 1234, 1235, 1236, 1237, 1238, 1239, 1240] (by decide +kernel) (by decide +kernel)
set_option maxRecDepth 20000 in
theorem gL_law_X11_holds : GoodIn wsL_law (wsV RL 46 RX11 yX11_holds wsX11_holds) := goodIn_app (goodIn_of _ (by decide +kernel)) ggL_law_X11_holds
set_option maxRecDepth 20000 in
theorem ggL_law_X10_words : GoodIn wsL_law wsX10_words := goodIn_r _ [601, 40, 546, 547, 548, 39, 549, 122, 602, 603, 604, 605, 606, 607, 608, 609, 610, 580, 581, 582, 121, 611, 612, 613, 614, 1172, 1173, 1174, 1175, 1176, 1177, 1178, 1179, 1180, 1181, 1279, 1280, 1281, 1282, 1283, 1284] (by decide +kernel) (by decide +kernel)
set_option maxRecDepth 20000 in
theorem gL_law_X10_words : GoodIn wsL_law (wsV RL 47 RX10 yX10_words wsX10_words) := goodIn_app (goodIn_of _ (by decide +kernel)) ggL_law_X10_words
set_option maxRecDepth 20000 in
theorem ggL_law_X11_words : GoodIn wsL_law wsX11_words := goodIn_r _ [618, 555, 556, 557, 5, 558, 182, 225, 226, 227, 619, 620, 621, 622, 591, 592, 593, 594, 142, 1182, 1183, 1184, 1185, 1186, 1187, 1188, 1189, 1190, 1191, 1192, 1193, 1194, 1195, 1196, 1197, 1198, 1199, 1200, 1201, 1202, 1203, 1204, 1205, 1206, 1207, 1208, 1209, 1210, 1211, 1212, 1213, 1214, 1215, 1216, 1217, 1218, 1219, 1220, 1221, 1222, 1223, 1224, 1225, 1226, 1227, 1228, 1229, 1230, 1231, 1232, 1233, 1234, 1235, 1236, 1237, 1238, 1239, 1240] (by decide +kernel) (by decide +kernel)
set_option maxRecDepth 20000 in
theorem gL_law_X11_words : GoodIn wsL_law (wsV RL 50 RX11 yX11_words wsX11_words) := goodIn_app (goodIn_of _ (by decide +kernel)) ggL_law_X11_words
set_option maxRecDepth 20000 in
theorem ggL_law_X10_key : GoodIn wsL_law wsX10_key := goodIn_r _ [626, 20, 627, 40, 583, 584, 2, 585, 628, 629, 630, 19, 631, 68, 429, 430, 428, 1172, 1173, 1174, 1175, 1176, 1177, 1178, 1179, 1180, 1181, 1243, 1244, 1245, 1246, 1247, 1248, 1249, 1250, 1251, 1252, 1253, 1254, 1255, 1256, 1279, 1280, 1281, 1282, 1283, 1284] (by decide +kernel) (by decide +kernel)
set_option maxRecDepth 20000 in
theorem gL_law_X10_key : GoodIn wsL_law (wsV RL 51 RX10 yX10_key wsX10_key) := goodIn_app (goodIn_of _ (by decide +kernel)) ggL_law_X10_key
set_option maxRecDepth 20000 in
theorem ggL_law_X11_key : GoodIn wsL_law wsX11_key := goodIn_r _ [635, 191, 192, 184, 193, 595, 596, 5, 597, 1182, 1183, 1184, 1185, 1186, 1187, 1188, 1189, 1190, 1191, 1192, 1193, 1194, 1195, 1196, 1197, 1198, 1199, 1200, 1201, 1202, 1203, 1204, 1205, 1206, 1207, 1208, 1209, 1210, 1211, 1212, 1213, 1214, 1215, 1216, 1217, 1218, 1219, 1220, 1221, 1222, 1223, 1224, 1225, 1226, 1227, 1228, 1229, 1230, 1231, 1232, 1233, 1234, 1235, 1236, 1237, 1238, 1239, 1240] (by decide +kernel) (by decide +kernel)
set_option maxRecDepth 20000 in
theorem gL_law_X11_key : GoodIn wsL_law (wsV RL 55 RX11 yX11_key wsX11_key) := goodIn_app (goodIn_of _ (by decide +kernel)) ggL_law_X11_key
set_option maxRecDepth 20000 in
theorem ggL_law_X10_dead : GoodIn wsL_law wsX10_dead := goodIn_r _ [639, 40, 20, 640, 546, 547, 548, 39, 549, 122, 583, 584, 2, 585, 435, 436, 437, 438, 28, 32, 439, 440, 441, 442, 27, 443, 94, 93, 1172, 1173, 1174, 1175, 1176, 1177, 1178, 1179, 1180, 1181, 1243, 1244, 1245, 1246, 1247, 1248, 1249, 1250, 1251, 1252, 1253, 1254, 1255, 1256, 1279, 1280, 1281, 1282, 1283, 1284, 1272, 1273, 1274, 1275, 1266, 1267, 1268, 1269, 1270, 1271] (by decide +kernel) (by decide +kernel)
set_option maxRecDepth 20000 in
theorem gL_law_X10_dead : GoodIn wsL_law (wsV RL 56 RX10 yX10_dead wsX10_dead) := goodIn_app (goodIn_of _ (by decide +kernel)) ggL_law_X10_dead
set_option maxRecDepth 20000 in
theorem ggL_law_X11_dead : GoodIn wsL_law wsX11_dead := goodIn_r _ [644, 155, 555, 556, 557, 5, 558, 182, 225, 226, 227, 595, 596, 597, 1182, 1183, 1184, 1185, 1186, 1187, 1188, 1189, 1190, 1191, 1192, 1193, 1194, 1195, 1196, 1197, 1198, 1199, 1200, 1201, 1202, 1203, 1204, 1205, 1206, 1207, 1208, 1209, 1210, 1211, 1212, 1213, 1214, 1215, 1216, 1217, 1218, 1219, 1220, 1221, 1222, 1223, 1224, 1225, 1226, 1227, 1228, 1229, 1230, 1231, 1232, 1233, 1234, 1235, 1236, 1237, 1238, 1239, 1240] (by decide +kernel) (by decide +kernel)
set_option maxRecDepth 20000 in
theorem gL_law_X11_dead : GoodIn wsL_law (wsV RL 60 RX11 yX11_dead wsX11_dead) := goodIn_app (goodIn_of _ (by decide +kernel)) ggL_law_X11_dead
set_option maxRecDepth 20000 in
theorem ggL_law_X10_time : GoodIn wsL_law wsX10_time := goodIn_r _ [648, 40, 20, 649, 546, 547, 548, 39, 549, 122, 550, 388, 389, 390, 119, 435, 436, 437, 2, 438, 28, 32, 439, 440, 441, 442, 27, 443, 94, 93, 1172, 1173, 1174, 1175, 1176, 1177, 1178, 1179, 1180, 1181, 1243, 1244, 1245, 1246, 1247, 1248, 1249, 1250, 1251, 1252, 1253, 1254, 1255, 1256, 1279, 1280, 1281, 1282, 1283, 1284, 1272, 1273, 1274, 1275, 1266, 1267, 1268, 1269, 1270, 1271] (by decide +kernel) (by decide +kernel)
set_option maxRecDepth 20000 in
theorem gL_law_X10_time : GoodIn wsL_law (wsV RL 61 RX10 yX10_time wsX10_time) := goodIn_app (goodIn_of _ (by decide +kernel)) ggL_law_X10_time
set_option maxRecDepth 20000 in
theorem ggL_law_X11_time : GoodIn wsL_law wsX11_time := goodIn_r _ [653, 156, 555, 556, 557, 5, 558, 182, 225, 226, 227, 198, 199, 200, 201, 140, 1182, 1183, 1184, 1185, 1186, 1187, 1188, 1189, 1190, 1191, 1192, 1193, 1194, 1195, 1196, 1197, 1198, 1199, 1200, 1201, 1202, 1203, 1204, 1205, 1206, 1207, 1208, 1209, 1210, 1211, 1212, 1213, 1214, 1215, 1216, 1217, 1218, 1219, 1220, 1221, 1222, 1223, 1224, 1225, 1226, 1227, 1228, 1229, 1230, 1231, 1232, 1233, 1234, 1235, 1236, 1237, 1238, 1239, 1240] (by decide +kernel) (by decide +kernel)
set_option maxRecDepth 20000 in
theorem gL_law_X11_time : GoodIn wsL_law (wsV RL 64 RX11 yX11_time wsX11_time) := goodIn_app (goodIn_of _ (by decide +kernel)) ggL_law_X11_time
set_option maxRecDepth 20000 in
theorem ggL_law_X10_go : GoodIn wsL_law wsX10_go := goodIn_r _ [657, 20, 658, 40, 659, 660, 661, 19, 662, 432, 433, 663, 664, 420, 665, 666, 667, 668, 669, 670, 671, 672, 673, 428, 68, 674, 675, 676, 677, 678, 62, 679, 580, 581, 39, 582, 121, 680, 681, 682, 683, 684, 685, 686, 687, 67, 63, 65, 434, 388, 389, 390, 119, 688, 689, 690, 691, 64, 66, 61, 427, 692, 693, 694, 60, 695, 76, 73, 74, 75, 696, 697, 698, 699, 700, 701, 702, 703, 704, 705, 706, 707, 708, 431, 430, 709, 710, 711, 712, 713, 1172, 1173, 1174, 1175, 1176, 1177, 1178, 1179, 1180, 1181, 1243, 1244, 1245, 1246, 1247, 1248, 1249, 1250, 1251, 1252, 1253, 1254, 1255, 1256, 1279, 1280, 1281, 1282, 1283, 1284, 1298, 1299, 1300, 1301] (by decide +kernel) (by decide +kernel)
set_option maxRecDepth 20000 in
theorem gL_law_X10_go : GoodIn wsL_law (wsV RL 65 RX10 yX10_go wsX10_go) := goodIn_app (goodIn_of _ (by decide +kernel)) ggL_law_X10_go
set_option maxRecDepth 20000 in
theorem ggL_law_X11_go : GoodIn wsL_law wsX11_go := goodIn_r _ [717, 718, 196, 225, 226, 5, 227, 719, 720, 721, 722, 194, 195, 193, 185, 192, 182, 153, 154, 190, 723, 724, 725, 726, 727, 728, 729, 730, 191, 152, 157, 731, 732, 733, 734, 591, 592, 593, 594, 142, 735, 736, 737, 738, 155, 156, 198, 199, 200, 201, 140, 739, 740, 741, 742, 197, 158, 743, 744, 745, 746, 747, 748, 749, 750, 183, 1182, 1183, 1184, 1185, 1186, 1187, 1188, 1189, 1190, 1191, 1192, 1193, 1194, 1195, 1196, 1197, 1198, 1199, 1200, 1201, 1202, 1203, 1204, 1205, 1206, 1207, 1208, 1209, 1210, 1211, 1212, 1213, 1214, 1215, 1216, 1217, 1218, 1219, 1220, 1221, 1222, 1223, 1224, 1225, 1226, 1227, 1228, 1229, 1230, 1231, 1232, 1233, 1234, 1235, 1236, 1237, 1238, 1239, 1240] (by decide +kernel) (by decide +kernel)
set_option maxRecDepth 20000 in
theorem gL_law_X11_go : GoodIn wsL_law (wsV RL 68 RX11 yX11_go wsX11_go) := goodIn_app (goodIn_of _ (by decide +kernel)) ggL_law_X11_go
set_option maxRecDepth 20000 in
theorem ggL_law_X10_now : GoodIn wsL_law wsX10_now := goodIn_r _ [754, 20, 755, 756, 757, 758, 759, 627, 658, 760, 676, 677, 19, 678, 62, 583, 584, 2, 585, 1172, 1173, 1174, 1175, 1176, 1177, 1178, 1179, 1180, 1181, 1243, 1244, 1245, 1246, 1247, 1248, 1249, 1250, 1251, 1252, 1253, 1254, 1255, 1256] (by decide +kernel) (by decide +kernel)
set_option maxRecDepth 20000 in
theorem gL_law_X10_now : GoodIn wsL_law (wsV RL 69 RX10 yX10_now wsX10_now) := goodIn_app (goodIn_of _ (by decide +kernel)) ggL_law_X10_now
set_option maxRecDepth 20000 in
theorem ggL_law_X11_now : GoodIn wsL_law wsX11_now := goodIn_r _ [764, 190, 194, 192, 193, 195, 191, 196, 731, 732, 733, 5, 734, 182, 152, 595, 596, 597, 1182, 1183, 1184, 1185, 1186, 1187, 1188, 1189, 1190, 1191, 1192, 1193, 1194, 1195, 1196, 1197, 1198, 1199, 1200, 1201, 1202, 1203, 1204, 1205, 1206, 1207, 1208, 1209, 1210, 1211, 1212, 1213, 1214, 1215, 1216, 1217, 1218, 1219, 1220, 1221, 1222, 1223, 1224, 1225, 1226, 1227, 1228, 1229, 1230, 1231, 1232, 1233, 1234, 1235, 1236, 1237, 1238, 1239, 1240] (by decide +kernel) (by decide +kernel)
set_option maxRecDepth 20000 in
theorem gL_law_X11_now : GoodIn wsL_law (wsV RL 72 RX11 yX11_now wsX11_now) := goodIn_app (goodIn_of _ (by decide +kernel)) ggL_law_X11_now
set_option maxRecDepth 20000 in
theorem ggL_law_X10_is : GoodIn wsL_law wsX10_is := goodIn_r _ [768, 40, 20, 769, 770, 640, 649, 771, 546, 547, 548, 39, 549, 122, 1172, 1173, 1174, 1175, 1176, 1177, 1178, 1179, 1180, 1181, 1243, 1244, 1245, 1246, 1247, 1248, 1249, 1250, 1251, 1252, 1253, 1254, 1255, 1256, 1279, 1280, 1281, 1282, 1283, 1284] (by decide +kernel) (by decide +kernel)
set_option maxRecDepth 20000 in
theorem gL_law_X10_is : GoodIn wsL_law (wsV RL 73 RX10 yX10_is wsX10_is) := goodIn_app (goodIn_of _ (by decide +kernel)) ggL_law_X10_is
set_option maxRecDepth 20000 in
theorem ggL_law_X11_is_ : GoodIn wsL_law wsX11_is_ := goodIn_r _ [775, 776, 152, 153, 155, 156, 157, 555, 556, 557, 5, 558, 182, 225, 226, 227, 595, 596, 597, 1182, 1183, 1184, 1185, 1186, 1187, 1188, 1189, 1190, 1191, 1192, 1193, 1194, 1195, 1196, 1197, 1198, 1199, 1200, 1201, 1202, 1203, 1204, 1205, 1206, 1207, 1208, 1209, 1210, 1211, 1212, 1213, 1214, 1215, 1216, 1217, 1218, 1219, 1220, 1221, 1222, 1223, 1224, 1225, 1226, 1227, 1228, 1229, 1230, 1231, 1232, 1233, 1234, 1235, 1236, 1237, 1238, 1239, 1240] (by decide +kernel) (by decide +kernel)
set_option maxRecDepth 20000 in
theorem gL_law_X11_is_ : GoodIn wsL_law (wsV RL 76 RX11 yX11_is_ wsX11_is_) := goodIn_app (goodIn_of _ (by decide +kernel)) ggL_law_X11_is_
set_option maxRecDepth 20000 in
theorem ggL_law_X10_happened : GoodIn wsL_law wsX10_happened := goodIn_r _ [780, 20, 781, 782, 783, 784, 785, 1172, 1173, 1174, 1175, 1176, 1177, 1178, 1179, 1180, 1181, 1243, 1244, 1245, 1246, 1247, 1248, 1249, 1250, 1251, 1252, 1253, 1254, 1255, 1256, 1298, 1299, 1300, 1301] (by decide +kernel) (by decide +kernel)
set_option maxRecDepth 20000 in
theorem gL_law_X10_happened : GoodIn wsL_law (wsV RL 77 RX10 yX10_happened wsX10_happened) := goodIn_app (goodIn_of _ (by decide +kernel)) ggL_law_X10_happened
set_option maxRecDepth 20000 in
theorem ggL_law_X11_happened : GoodIn wsL_law wsX11_happened := goodIn_r _ [789, 197, 790, 158, 225, 226, 5, 227, 1182, 1183, 1184, 1185, 1186, 1187, 1188, 1189, 1190, 1191, 1192, 1193, 1194, 1195, 1196, 1197, 1198, 1199, 1200, 1201, 1202, 1203, 1204, 1205, 1206, 1207, 1208, 1209, 1210, 1211, 1212, 1213, 1214, 1215, 1216, 1217, 1218, 1219, 1220, 1221, 1222, 1223, 1224, 1225, 1226, 1227, 1228, 1229, 1230, 1231, 1232, 1233, 1234, 1235, 1236, 1237, 1238, 1239, 1240] (by decide +kernel) (by decide +kernel)
set_option maxRecDepth 20000 in
theorem gL_law_X11_happened : GoodIn wsL_law (wsV RL 80 RX11 yX11_happened wsX11_happened) := goodIn_app (goodIn_of _ (by decide +kernel)) ggL_law_X11_happened
set_option maxRecDepth 20000 in
theorem ggL_law_X10_up : GoodIn wsL_law wsX10_up := goodIn_r _ [794, 40, 20, 640, 575, 576, 577, 39, 578, 122, 795, 796, 797, 798, 610, 580, 581, 582, 121, 1172, 1173, 1174, 1175, 1176, 1177, 1178, 1179, 1180, 1181, 1243, 1244, 1245, 1246, 1247, 1248, 1249, 1250, 1251, 1252, 1253, 1254, 1255, 1256, 1279, 1280, 1281, 1282, 1283, 1284] (by decide +kernel) (by decide +kernel)
set_option maxRecDepth 20000 in
theorem gL_law_X10_up : GoodIn wsL_law (wsV RL 81 RX10 yX10_up wsX10_up) := goodIn_app (goodIn_of _ (by decide +kernel)) ggL_law_X10_up
set_option maxRecDepth 20000 in
theorem ggL_law_X11_up : GoodIn wsL_law wsX11_up := goodIn_r _ [802, 790, 182, 225, 226, 5, 227, 803, 804, 805, 806, 155, 807, 808, 809, 810, 591, 592, 593, 594, 142, 1182, 1183, 1184, 1185, 1186, 1187, 1188, 1189, 1190, 1191, 1192, 1193, 1194, 1195, 1196, 1197, 1198, 1199, 1200, 1201, 1202, 1203, 1204, 1205, 1206, 1207, 1208, 1209, 1210, 1211, 1212, 1213, 1214, 1215, 1216, 1217, 1218, 1219, 1220, 1221, 1222, 1223, 1224, 1225, 1226, 1227, 1228, 1229, 1230, 1231, 1232, 1233, 1234, 1235, 1236, 1237, 1238, 1239, 1240] (by decide +kernel) (by decide +kernel)
set_option maxRecDepth 20000 in
theorem gL_law_X11_up : GoodIn wsL_law (wsV RL 84 RX11 yX11_up wsX11_up) := goodIn_app (goodIn_of _ (by decide +kernel)) ggL_law_X11_up
set_option maxRecDepth 20000 in
theorem ggL_law_X10_when : GoodIn wsL_law wsX10_when := goodIn_r _ [814, 40, 24, 815, 546, 547, 548, 39, 549, 122, 816, 817, 818, 2, 819, 20, 649, 820, 821, 822, 23, 823, 824, 81, 825, 388, 389, 390, 119, 826, 827, 828, 829, 82, 830, 363, 364, 365, 831, 832, 833, 834, 640, 575, 576, 577, 578, 835, 836, 837, 838, 839, 840, 84, 841, 842, 843, 844, 83, 845, 580, 581, 582, 121, 846, 847, 848, 849, 850, 419, 420, 421, 851, 852, 853, 854, 855, 856, 857, 858, 1172, 1173, 1174, 1175, 1176, 1177, 1178, 1179, 1180, 1181, 1257, 1258, 1259, 1260, 1261, 1262, 1263, 1264, 1265, 1279, 1280, 1281, 1282, 1283, 1284, 1243, 1244, 1245, 1246, 1247, 1248, 1249, 1250, 1251, 1252, 1253, 1254, 1255, 1256] (by decide +kernel) (by decide +kernel)
set_option maxRecDepth 20000 in
theorem gL_law_X10_when : GoodIn wsL_law (wsV RL 85 RX10 yX10_when wsX10_when) := goodIn_app (goodIn_of _ (by decide +kernel)) ggL_law_X10_when
set_option maxRecDepth 20000 in
theorem ggL_law_X11_when : GoodIn wsL_law wsX11_when := goodIn_r _ [862, 790, 863, 160, 555, 556, 557, 5, 558, 182, 225, 226, 227, 864, 865, 866, 867, 162, 198, 199, 200, 201, 140, 868, 869, 870, 871, 161, 156, 872, 873, 874, 875, 159, 876, 803, 804, 805, 806, 155, 807, 808, 809, 810, 591, 592, 593, 594, 142, 1182, 1183, 1184, 1185, 1186, 1187, 1188, 1189, 1190, 1191, 1192, 1193, 1194, 1195, 1196, 1197, 1198, 1199, 1200, 1201, 1202, 1203, 1204, 1205, 1206, 1207, 1208, 1209, 1210, 1211, 1212, 1213, 1214, 1215, 1216, 1217, 1218, 1219, 1220, 1221, 1222, 1223, 1224, 1225, 1226, 1227, 1228, 1229, 1230, 1231, 1232, 1233, 1234, 1235, 1236, 1237, 1238, 1239, 1240] (by decide +kernel) (by decide +kernel)
set_option maxRecDepth 20000 in
theorem gL_law_X11_when : GoodIn wsL_law (wsV RL 88 RX11 yX11_when wsX11_when) := goodIn_app (goodIn_of _ (by decide +kernel)) ggL_law_X11_when
set_option maxRecDepth 20000 in
theorem ggL_law_X10_ahead : GoodIn wsL_law wsX10_ahead := goodIn_r _ [880, 40, 28, 546, 547, 548, 39, 549, 122, 881, 882, 883, 884, 885, 388, 389, 390, 119, 831, 832, 833, 2, 834, 20, 640, 575, 576, 577, 578, 795, 796, 797, 798, 610, 580, 581, 582, 121, 886, 887, 888, 27, 889, 93, 91, 90, 890, 891, 664, 420, 665, 892, 893, 894, 895, 896, 897, 898, 899, 900, 901, 902, 821, 822, 23, 823, 824, 81, 825, 903, 852, 853, 854, 82, 904, 836, 837, 838, 839, 840, 84, 841, 842, 843, 844, 83, 845, 846, 847, 848, 849, 850, 419, 421, 905, 906, 907, 908, 909, 910, 911, 1172, 1173, 1174, 1175, 1176, 1177, 1178, 1179, 1180, 1181, 1279, 1280, 1281, 1282, 1283, 1284, 1243, 1244, 1245, 1246, 1247, 1248, 1249, 1250, 1251, 1252, 1253, 1254, 1255, 1256, 1266, 1267, 1268, 1269, 1270, 1271, 1257, 1258, 1259, 1260, 1261, 1262, 1263, 1264, 1265] (by decide +kernel) (by decide +kernel)
set_option maxRecDepth 20000 in
theorem gL_law_X10_ahead : GoodIn wsL_law (wsV RL 89 RX10 yX10_ahead wsX10_ahead) := goodIn_app (goodIn_of _ (by decide +kernel)) ggL_law_X10_ahead
set_option maxRecDepth 20000 in
theorem ggL_law_X11_ahead : GoodIn wsL_law wsX11_ahead := goodIn_r _ [915, 916, 160, 555, 556, 557, 5, 558, 182, 225, 226, 227, 917, 918, 919, 920, 198, 199, 200, 201, 140, 803, 804, 805, 806, 155, 807, 808, 809, 810, 591, 592, 593, 594, 142, 864, 865, 866, 867, 162, 868, 869, 870, 871, 161, 156, 872, 873, 874, 875, 863, 159, 876, 921, 922, 923, 924, 1182, 1183, 1184, 1185, 1186, 1187, 1188, 1189, 1190, 1191, 1192, 1193, 1194, 1195, 1196, 1197, 1198, 1199, 1200, 1201, 1202, 1203, 1204, 1205, 1206, 1207, 1208, 1209, 1210, 1211, 1212, 1213, 1214, 1215, 1216, 1217, 1218, 1219, 1220, 1221, 1222, 1223, 1224, 1225, 1226, 1227, 1228, 1229, 1230, 1231, 1232, 1233, 1234, 1235, 1236, 1237, 1238, 1239, 1240] (by decide +kernel) (by decide +kernel)
set_option maxRecDepth 20000 in
theorem gL_law_X11_ahead : GoodIn wsL_law (wsV RL 93 RX11 yX11_ahead wsX11_ahead) := goodIn_app (goodIn_of _ (by decide +kernel)) ggL_law_X11_ahead
set_option maxRecDepth 20000 in
theorem ggL_law_X10_drawn : GoodIn wsL_law wsX10_drawn := goodIn_r _ [928, 24, 40, 816, 817, 818, 2, 819, 20, 649, 820, 821, 822, 23, 823, 824, 81, 825, 388, 389, 39, 390, 119, 826, 827, 828, 829, 82, 830, 363, 364, 365, 831, 832, 833, 834, 640, 575, 576, 577, 578, 122, 835, 836, 837, 838, 839, 840, 84, 841, 842, 843, 844, 83, 845, 580, 581, 582, 121, 846, 847, 848, 849, 850, 419, 420, 421, 929, 930, 931, 932, 933, 856, 857, 858, 1172, 1173, 1174, 1175, 1176, 1177, 1178, 1179, 1180, 1181, 1243, 1244, 1245, 1246, 1247, 1248, 1249, 1250, 1251, 1252, 1253, 1254, 1255, 1256, 1279, 1280, 1281, 1282, 1283, 1284, 1257, 1258, 1259, 1260, 1261, 1262, 1263, 1264, 1265] (by decide +kernel) (by decide +kernel)
set_option maxRecDepth 20000 in
theorem gL_law_X10_drawn : GoodIn wsL_law (wsV RL 94 RX10 yX10_drawn wsX10_drawn) := goodIn_app (goodIn_of _ (by decide +kernel)) ggL_law_X10_drawn
set_option maxRecDepth 20000 in
theorem ggL_law_X11_drawn : GoodIn wsL_law wsX11_drawn := goodIn_r _ [937, 718, 225, 226, 5, 227, 864, 865, 866, 867, 182, 162, 198, 199, 200, 201, 140, 868, 869, 870, 871, 161, 156, 872, 873, 874, 875, 863, 159, 876, 160, 803, 804, 805, 806, 155, 807, 808, 809, 810, 591, 592, 593, 594, 142, 938, 939, 940, 941, 743, 744, 745, 746, 1182, 1183, 1184, 1185, 1186, 1187, 1188, 1189, 1190, 1191, 1192, 1193, 1194, 1195, 1196, 1197, 1198, 1199, 1200, 1201, 1202, 1203, 1204, 1205, 1206, 1207, 1208, 1209, 1210, 1211, 1212, 1213, 1214, 1215, 1216, 1217, 1218, 1219, 1220, 1221, 1222, 1223, 1224, 1225, 1226, 1227, 1228, 1229, 1230, 1231, 1232, 1233, 1234, 1235, 1236, 1237, 1238, 1239, 1240] (by decide +kernel) (by decide +kernel)
set_option maxRecDepth 20000 in
theorem gL_law_X11_drawn : GoodIn wsL_law (wsV RL 97 RX11 yX11_drawn wsX11_drawn) := goodIn_app (goodIn_of _ (by decide +kernel)) ggL_law_X11_drawn
set_option maxRecDepth 20000 in
theorem ggL_law_X10_peak : GoodIn wsL_law wsX10_peak := goodIn_r _ [945, 40, 28, 946, 947, 24, 948, 949, 881, 882, 883, 39, 884, 122, 885, 388, 389, 390, 119, 831, 832, 833, 2, 834, 20, 640, 575, 576, 577, 578, 795, 796, 797, 798, 610, 580, 581, 582, 121, 950, 951, 952, 27, 953, 94, 90, 954, 955, 956, 891, 664, 420, 665, 957, 419, 421, 897, 898, 899, 900, 901, 902, 821, 822, 23, 823, 824, 81, 825, 903, 852, 853, 854, 82, 904, 836, 837, 838, 839, 840, 84, 841, 842, 843, 844, 83, 845, 846, 847, 848, 849, 850, 958, 959, 960, 961, 85, 962, 963, 933, 856, 857, 858, 905, 906, 907, 908, 909, 910, 911, 816, 817, 818, 819, 649, 820, 826, 827, 828, 829, 830, 363, 364, 365, 835, 964, 1172, 1173, 1174, 1175, 1176, 1177, 1178, 1179, 1180, 1181, 1266, 1267, 1268, 1269, 1270, 1271, 1257, 1258, 1259, 1260, 1261, 1262, 1263, 1264, 1265, 1279, 1280, 1281, 1282, 1283, 1284, 1243, 1244, 1245, 1246, 1247, 1248, 1249, 1250, 1251, 1252, 1253, 1254, 1255, 1256] (by decide +kernel) (by decide +kernel)
set_option maxRecDepth 20000 in
theorem gL_law_X10_peak : GoodIn wsL_law (wsV RL 98 RX10 yX10_peak wsX10_peak) := goodIn_app (goodIn_of _ (by decide +kernel)) ggL_law_X10_peak
set_option maxRecDepth 20000 in
theorem ggL_law_X11_peak : GoodIn wsL_law wsX11_peak := goodIn_r _ [968, 969, 970, 225, 226, 5, 227, 917, 918, 919, 920, 182, 198, 199, 200, 201, 140, 803, 804, 805, 806, 155, 807, 808, 809, 810, 591, 592, 593, 594, 142, 864, 865, 866, 867, 162, 868, 869, 870, 871, 161, 156, 872, 873, 874, 875, 863, 159, 876, 160, 971, 972, 973, 974, 938, 939, 940, 941, 743, 744, 745, 746, 921, 922, 923, 924, 1182, 1183, 1184, 1185, 1186, 1187, 1188, 1189, 1190, 1191, 1192, 1193, 1194, 1195, 1196, 1197, 1198, 1199, 1200, 1201, 1202, 1203, 1204, 1205, 1206, 1207, 1208, 1209, 1210, 1211, 1212, 1213, 1214, 1215, 1216, 1217, 1218, 1219, 1220, 1221, 1222, 1223, 1224, 1225, 1226, 1227, 1228, 1229, 1230, 1231, 1232, 1233, 1234, 1235, 1236, 1237, 1238, 1239, 1240] (by decide +kernel) (by decide +kernel)
set_option maxRecDepth 20000 in
theorem gL_law_X11_peak : GoodIn wsL_law (wsV RL 101 RX11 yX11_peak wsX11_peak) := goodIn_app (goodIn_of _ (by decide +kernel)) ggL_law_X11_peak
set_option maxRecDepth 20000 in
theorem ggL_law_X10_stagger : GoodIn wsL_law wsX10_stagger := goodIn_r _ [978, 40, 566, 32, 20, 649, 979, 980, 831, 832, 833, 2, 834, 640, 575, 576, 577, 39, 578, 122, 981, 982, 983, 31, 984, 101, 102, 100, 99, 985, 986, 987, 988, 112, 113, 114, 989, 827, 828, 23, 829, 82, 830, 363, 364, 365, 990, 836, 837, 838, 839, 840, 84, 841, 842, 843, 844, 824, 83, 81, 845, 580, 581, 582, 121, 846, 847, 848, 849, 850, 419, 420, 421, 991, 992, 993, 994, 995, 996, 997, 998, 959, 960, 961, 85, 962, 963, 933, 856, 857, 858, 825, 388, 389, 390, 119, 999, 1000, 1001, 1002, 1172, 1173, 1174, 1175, 1176, 1177, 1178, 1179, 1180, 1181, 1279, 1280, 1281, 1282, 1283, 1284, 1243, 1244, 1245, 1246, 1247, 1248, 1249, 1250, 1251, 1252, 1253, 1254, 1255, 1256, 1272, 1273, 1274, 1275, 1257, 1258, 1259, 1260, 1261, 1262, 1263, 1264, 1265] (by decide +kernel) (by decide +kernel)
set_option maxRecDepth 20000 in
theorem gL_law_X10_stagger : GoodIn wsL_law (wsV RL 102 RX10 yX10_stagger wsX10_stagger) := goodIn_app (goodIn_of _ (by decide +kernel)) ggL_law_X10_stagger
set_option maxRecDepth 20000 in
theorem ggL_law_X11_stagger : GoodIn wsL_law wsX11_stagger := goodIn_r _ [1006, 1007, 182, 1008, 163, 225, 226, 5, 227, 1009, 1010, 1011, 1012, 162, 183, 868, 869, 870, 871, 161, 156, 198, 199, 200, 201, 140, 872, 873, 874, 875, 863, 159, 876, 160, 803, 804, 805, 806, 155, 807, 808, 809, 810, 591, 592, 593, 594, 142, 1013, 1014, 1015, 1016, 971, 972, 973, 974, 970, 938, 939, 940, 941, 743, 744, 745, 746, 1182, 1183, 1184, 1185, 1186, 1187, 1188, 1189, 1190, 1191, 1192, 1193, 1194, 1195, 1196, 1197, 1198, 1199, 1200, 1201, 1202, 1203, 1204, 1205, 1206, 1207, 1208, 1209, 1210, 1211, 1212, 1213, 1214, 1215, 1216, 1217, 1218, 1219, 1220, 1221, 1222, 1223, 1224, 1225, 1226, 1227, 1228, 1229, 1230, 1231, 1232, 1233, 1234, 1235, 1236, 1237, 1238, 1239, 1240] (by decide +kernel) (by decide +kernel)
set_option maxRecDepth 20000 in
theorem gL_law_X11_stagger : GoodIn wsL_law (wsV RL 105 RX11 yX11_stagger wsX11_stagger) := goodIn_app (goodIn_of _ (by decide +kernel)) ggL_law_X11_stagger
set_option maxRecDepth 20000 in
theorem ggL_law_X10_adopt : GoodIn wsL_law wsX10_adopt := goodIn_r _ [1020, 40, 566, 32, 20, 649, 979, 980, 831, 832, 833, 2, 834, 640, 575, 576, 577, 39, 578, 122, 981, 982, 983, 31, 984, 101, 102, 100, 99, 985, 986, 987, 988, 112, 113, 114, 989, 827, 828, 23, 829, 82, 830, 363, 364, 365, 990, 836, 837, 838, 839, 840, 84, 841, 842, 843, 844, 824, 83, 81, 845, 580, 581, 582, 121, 846, 847, 848, 849, 850, 419, 420, 421, 991, 992, 993, 994, 995, 996, 997, 998, 959, 960, 961, 85, 962, 963, 933, 856, 857, 858, 825, 388, 389, 390, 119, 999, 1000, 1001, 1002, 1021, 1022, 1023, 1024, 331, 332, 333, 334, 435, 436, 437, 438, 28, 439, 440, 441, 442, 27, 443, 94, 93, 1172, 1173, 1174, 1175, 1176, 1177, 1178, 1179, 1180, 1181, 1279, 1280, 1281, 1282, 1283, 1284, 1243, 1244, 1245, 1246, 1247, 1248, 1249, 1250, 1251, 1252, 1253, 1254, 1255, 1256, 1272, 1273, 1274, 1275, 1257, 1258, 1259, 1260, 1261, 1262, 1263, 1264, 1265, 1266, 1267, 1268, 1269, 1270, 1271] (by decide +kernel) (by decide +kernel)
set_option maxRecDepth 20000 in
theorem gL_law_X10_adopt : GoodIn wsL_law (wsV RL 106 RX10 yX10_adopt wsX10_adopt) := goodIn_app (goodIn_of _ (by decide +kernel)) ggL_law_X10_adopt
set_option maxRecDepth 20000 in
theorem ggL_law_X11_adopt : GoodIn wsL_law wsX11_adopt := goodIn_r _ [1028, 182, 1008, 140, 163, 1009, 1010, 1011, 5, 1012, 162, 183, 868, 869, 870, 871, 161, 156, 198, 199, 200, 201, 872, 873, 874, 875, 863, 159, 876, 160, 803, 804, 805, 806, 155, 807, 808, 809, 810, 591, 592, 593, 594, 142, 1013, 1014, 1015, 1016, 971, 972, 973, 974, 970, 938, 939, 940, 941, 743, 744, 745, 746, 1182, 1183, 1184, 1185, 1186, 1187, 1188, 1189, 1190, 1191, 1192, 1193, 1194, 1195, 1196, 1197, 1198, 1199, 1200, 1201, 1202, 1203, 1204, 1205, 1206, 1207, 1208, 1209, 1210, 1211, 1212, 1213, 1214, 1215, 1216, 1217, 1218, 1219, 1220, 1221, 1222, 1223, 1224, 1225, 1226, 1227, 1228, 1229, 1230, 1231, 1232, 1233, 1234, 1235, 1236, 1237, 1238, 1239, 1240] (by decide +kernel) (by decide +kernel)
set_option maxRecDepth 20000 in
theorem gL_law_X11_adopt : GoodIn wsL_law (wsV RL 109 RX11 yX11_adopt wsX11_adopt) := goodIn_app (goodIn_of _ (by decide +kernel)) ggL_law_X11_adopt
set_option maxRecDepth 20000 in
theorem ggL_law_X10_down : GoodIn wsL_law wsX10_down := goodIn_r _ [1032, 40, 575, 576, 577, 39, 578, 122, 831, 832, 833, 2, 834, 20, 640, 795, 796, 797, 798, 610, 580, 581, 582, 121, 1172, 1173, 1174, 1175, 1176, 1177, 1178, 1179, 1180, 1181, 1279, 1280, 1281, 1282, 1283, 1284, 1243, 1244, 1245, 1246, 1247, 1248, 1249, 1250, 1251, 1252, 1253, 1254, 1255, 1256] (by decide +kernel) (by decide +kernel)
set_option maxRecDepth 20000 in
theorem gL_law_X10_down : GoodIn wsL_law (wsV RL 110 RX10 yX10_down wsX10_down) := goodIn_app (goodIn_of _ (by decide +kernel)) ggL_law_X10_down
set_option maxRecDepth 20000 in
theorem ggL_law_X11_down : GoodIn wsL_law wsX11_down := goodIn_r _ [1036, 1037, 1038, 1039, 5, 1040, 182, 225, 226, 227, 803, 804, 805, 806, 155, 807, 808, 809, 810, 591, 592, 593, 594, 142, 1182, 1183, 1184, 1185, 1186, 1187, 1188, 1189, 1190, 1191, 1192, 1193, 1194, 1195, 1196, 1197, 1198, 1199, 1200, 1201, 1202, 1203, 1204, 1205, 1206, 1207, 1208, 1209, 1210, 1211, 1212, 1213, 1214, 1215, 1216, 1217, 1218, 1219, 1220, 1221, 1222, 1223, 1224, 1225, 1226, 1227, 1228, 1229, 1230, 1231, 1232, 1233, 1234, 1235, 1236, 1237, 1238, 1239, 1240] (by decide +kernel) (by decide +kernel)
set_option maxRecDepth 20000 in
theorem gL_law_X11_down : GoodIn wsL_law (wsV RL 113 RX11 yX11_down wsX11_down) := goodIn_app (goodIn_of _ (by decide +kernel)) ggL_law_X11_down
set_option maxRecDepth 20000 in
theorem ggL_law_X10_cut : GoodIn wsL_law wsX10_cut := goodIn_r _ [1044, 40, 546, 547, 548, 39, 549, 122, 1045, 1046, 1047, 2, 1048, 831, 832, 833, 834, 20, 640, 575, 576, 577, 578, 795, 796, 797, 798, 610, 580, 581, 582, 121, 1049, 1050, 1051, 1052, 1053, 1054, 1055, 1056, 1057, 1058, 1059, 1060, 1061, 1062, 1063, 1064, 1065, 1172, 1173, 1174, 1175, 1176, 1177, 1178, 1179, 1180, 1181, 1279, 1280, 1281, 1282, 1283, 1284, 1243, 1244, 1245, 1246, 1247, 1248, 1249, 1250, 1251, 1252, 1253, 1254, 1255, 1256] (by decide +kernel) (by decide +kernel)
set_option maxRecDepth 20000 in
theorem gL_law_X10_cut : GoodIn wsL_law (wsV RL 114 RX10 yX10_cut wsX10_cut) := goodIn_app (goodIn_of _ (by decide +kernel)) ggL_law_X10_cut
set_option maxRecDepth 20000 in
theorem ggL_law_X11_cut : GoodIn wsL_law wsX11_cut := goodIn_r _ [1069, 182, 555, 556, 557, 5, 558, 225, 226, 227, 803, 804, 805, 806, 155, 1070, 1071, 1072, 1073, 807, 808, 809, 810, 591, 592, 593, 594, 142, 1074, 1075, 1076, 1182, 1183, 1184, 1185, 1186, 1187, 1188, 1189, 1190, 1191, 1192, 1193, 1194, 1195, 1196, 1197, 1198, 1199, 1200, 1201, 1202, 1203, 1204, 1205, 1206, 1207, 1208, 1209, 1210, 1211, 1212, 1213, 1214, 1215, 1216, 1217, 1218, 1219, 1220, 1221, 1222, 1223, 1224, 1225, 1226, 1227, 1228, 1229, 1230, 1231, 1232, 1233, 1234, 1235, 1236, 1237, 1238, 1239, 1240] (by decide +kernel) (by decide +kernel)
set_option maxRecDepth 20000 in
theorem gL_law_X11_cut : GoodIn wsL_law (wsV RL 117 RX11 yX11_cut wsX11_cut) := goodIn_app (goodIn_of _ (by decide +kernel)) ggL_law_X11_cut
set_option maxRecDepth 20000 in
theorem ggL_law_X10_need : GoodIn wsL_law wsX10_need := goodIn_r _ [1080, 40, 546, 547, 548, 39, 549, 122, 1045, 1046, 1047, 2, 1048, 831, 832, 833, 834, 20, 640, 575, 576, 577, 578, 795, 796, 797, 798, 610, 580, 581, 582, 121, 1081, 1082, 1051, 1083, 1053, 1054, 1055, 1056, 1057, 1058, 1059, 1060, 1061, 1062, 1063, 1064, 1065, 1172, 1173, 1174, 1175, 1176, 1177, 1178, 1179, 1180, 1181, 1279, 1280, 1281, 1282, 1283, 1284, 1243, 1244, 1245, 1246, 1247, 1248, 1249, 1250, 1251, 1252, 1253, 1254, 1255, 1256] (by decide +kernel) (by decide +kernel)
set_option maxRecDepth 20000 in
theorem gL_law_X10_need : GoodIn wsL_law (wsV RL 118 RX10 yX10_need wsX10_need) := goodIn_app (goodIn_of _ (by decide +kernel)) ggL_law_X10_need
set_option maxRecDepth 20000 in
theorem ggL_law_X11_need : GoodIn wsL_law wsX11_need := goodIn_r _ [1087, 182, 555, 556, 557, 5, 558, 225, 226, 227, 803, 804, 805, 806, 155, 1070, 1071, 1072, 1073, 807, 808, 809, 810, 591, 592, 593, 594, 142, 1074, 1075, 1076, 1182, 1183, 1184, 1185, 1186, 1187, 1188, 1189, 1190, 1191, 1192, 1193, 1194, 1195, 1196, 1197, 1198, 1199, 1200, 1201, 1202, 1203, 1204, 1205, 1206, 1207, 1208, 1209, 1210, 1211, 1212, 1213, 1214, 1215, 1216, 1217, 1218, 1219, 1220, 1221, 1222, 1223, 1224, 1225, 1226, 1227, 1228, 1229, 1230, 1231, 1232, 1233, 1234, 1235, 1236, 1237, 1238, 1239, 1240] (by decide +kernel) (by decide +kernel)
set_option maxRecDepth 20000 in
theorem gL_law_X11_need : GoodIn wsL_law (wsV RL 121 RX11 yX11_need wsX11_need) := goodIn_app (goodIn_of _ (by decide +kernel)) ggL_law_X11_need
set_option maxRecDepth 20000 in
theorem ggL_law_X10_must : GoodIn wsL_law wsX10_must := goodIn_r _ [1091, 40, 546, 547, 548, 39, 549, 122, 1045, 1046, 1047, 2, 1048, 831, 832, 833, 834, 20, 640, 575, 576, 577, 578, 795, 796, 797, 798, 610, 580, 581, 582, 121, 1092, 1093, 1051, 1094, 1095, 1061, 1062, 1063, 1064, 1172, 1173, 1174, 1175, 1176, 1177, 1178, 1179, 1180, 1181, 1279, 1280, 1281, 1282, 1283, 1284, 1243, 1244, 1245, 1246, 1247, 1248, 1249, 1250, 1251, 1252, 1253, 1254, 1255, 1256] (by decide +kernel) (by decide +kernel)
set_option maxRecDepth 20000 in
theorem gL_law_X10_must : GoodIn wsL_law (wsV RL 122 RX10 yX10_must wsX10_must) := goodIn_app (goodIn_of _ (by decide +kernel)) ggL_law_X10_must
set_option maxRecDepth 20000 in
theorem ggL_law_X11_must : GoodIn wsL_law wsX11_must := goodIn_r _ [1099, 182, 555, 556, 557, 5, 558, 225, 226, 227, 803, 804, 805, 806, 155, 1070, 1071, 1072, 1073, 807, 808, 809, 810, 591, 592, 593, 594, 142, 1182, 1183, 1184, 1185, 1186, 1187, 1188, 1189, 1190, 1191, 1192, 1193, 1194, 1195, 1196, 1197, 1198, 1199, 1200, 1201, 1202, 1203, 1204, 1205, 1206, 1207, 1208, 1209, 1210, 1211, 1212, 1213, 1214, 1215, 1216, 1217, 1218, 1219, 1220, 1221, 1222, 1223, 1224, 1225, 1226, 1227, 1228, 1229, 1230, 1231, 1232, 1233, 1234, 1235, 1236, 1237, 1238, 1239, 1240] (by decide +kernel) (by decide +kernel)
set_option maxRecDepth 20000 in
theorem gL_law_X11_must : GoodIn wsL_law (wsV RL 125 RX11 yX11_must wsX11_must) := goodIn_app (goodIn_of _ (by decide +kernel)) ggL_law_X11_must
set_option maxRecDepth 20000 in
theorem ggL_law_X10_seen : GoodIn wsL_law wsX10_seen := goodIn_r _ [1103, 40, 575, 576, 577, 39, 578, 122, 1104, 1105, 1051, 1106, 1095, 1053, 1064, 796, 797, 798, 610, 580, 581, 582, 121, 1172, 1173, 1174, 1175, 1176, 1177, 1178, 1179, 1180, 1181, 1279, 1280, 1281, 1282, 1283, 1284] (by decide +kernel) (by decide +kernel)
set_option maxRecDepth 20000 in
theorem gL_law_X10_seen : GoodIn wsL_law (wsV RL 126 RX10 yX10_seen wsX10_seen) := goodIn_app (goodIn_of _ (by decide +kernel)) ggL_law_X10_seen
set_option maxRecDepth 20000 in
theorem ggL_law_X11_seen : GoodIn wsL_law wsX11_seen := goodIn_r _ [1110, 182, 1037, 1038, 1039, 5, 1040, 225, 226, 227, 807, 808, 809, 810, 591, 592, 593, 594, 142, 1182, 1183, 1184, 1185, 1186, 1187, 1188, 1189, 1190, 1191, 1192, 1193, 1194, 1195, 1196, 1197, 1198, 1199, 1200, 1201, 1202, 1203, 1204, 1205, 1206, 1207, 1208, 1209, 1210, 1211, 1212, 1213, 1214, 1215, 1216, 1217, 1218, 1219, 1220, 1221, 1222, 1223, 1224, 1225, 1226, 1227, 1228, 1229, 1230, 1231, 1232, 1233, 1234, 1235, 1236, 1237, 1238, 1239, 1240] (by decide +kernel) (by decide +kernel)
set_option maxRecDepth 20000 in
theorem gL_law_X11_seen : GoodIn wsL_law (wsV RL 129 RX11 yX11_seen wsX11_seen) := goodIn_app (goodIn_of _ (by decide +kernel)) ggL_law_X11_seen
set_option maxRecDepth 20000 in
theorem ggL_law_X10_sheet : GoodIn wsL_law wsX10_sheet := goodIn_r _ [1114, 36, 1115, 1116, 35, 1117, 1118, 1119, 1120, 1121, 1122, 1123, 1124, 109, 110, 108, 111, 112, 113, 114, 1172, 1173, 1174, 1175, 1176, 1177, 1178, 1179, 1180, 1181, 1276, 1277, 1278] (by decide +kernel) (by decide +kernel)
set_option maxRecDepth 20000 in
theorem gL_law_X10_sheet : GoodIn wsL_law (wsV RL 130 RX10 yX10_sheet wsX10_sheet) := goodIn_app (goodIn_of _ (by decide +kernel)) ggL_law_X10_sheet
set_option maxRecDepth 20000 in
theorem ggL_law_X11_sheet : GoodIn wsL_law wsX11_sheet := goodIn_r _ [1128, 164, 165, 166, 1129, 1130, 5, 1131, 969, 790, 225, 226, 227, 1182, 1183, 1184, 1185, 1186, 1187, 1188, 1189, 1190, 1191, 1192, 1193, 1194, 1195, 1196, 1197, 1198, 1199, 1200, 1201, 1202, 1203, 1204, 1205, 1206, 1207, 1208, 1209, 1210, 1211, 1212, 1213, 1214, 1215, 1216, 1217, 1218, 1219, 1220, 1221, 1222, 1223, 1224, 1225, 1226, 1227, 1228, 1229, 1230, 1231, 1232, 1233, 1234, 1235, 1236, 1237, 1238, 1239, 1240] (by decide +kernel) (by decide +kernel)
set_option maxRecDepth 20000 in
theorem gL_law_X11_sheet : GoodIn wsL_law (wsV RL 133 RX11 yX11_sheet wsX11_sheet) := goodIn_app (goodIn_of _ (by decide +kernel)) ggL_law_X11_sheet
set_option maxRecDepth 20000 in
theorem ggL_law_X10_lay : GoodIn wsL_law wsX10_lay := goodIn_r _ [1135, 36, 1136, 1115, 1116, 35, 1117, 1137, 1138, 1139, 1140, 109, 108, 1172, 1173, 1174, 1175, 1176, 1177, 1178, 1179, 1180, 1181, 1276, 1277, 1278] (by decide +kernel) (by decide +kernel)
set_option maxRecDepth 20000 in
theorem gL_law_X10_lay : GoodIn wsL_law (wsV RL 134 RX10 yX10_lay wsX10_lay) := goodIn_app (goodIn_of _ (by decide +kernel)) ggL_law_X10_lay
set_option maxRecDepth 20000 in
theorem ggL_law_X11_lay : GoodIn wsL_law wsX11_lay := goodIn_r _ [1144, 164, 165, 166, 1129, 1130, 5, 1131, 969, 790, 225, 226, 227, 1182, 1183, 1184, 1185, 1186, 1187, 1188, 1189, 1190, 1191, 1192, 1193, 1194, 1195, 1196, 1197, 1198, 1199, 1200, 1201, 1202, 1203, 1204, 1205, 1206, 1207, 1208, 1209, 1210, 1211, 1212, 1213, 1214, 1215, 1216, 1217, 1218, 1219, 1220, 1221, 1222, 1223, 1224, 1225, 1226, 1227, 1228, 1229, 1230, 1231, 1232, 1233, 1234, 1235, 1236, 1237, 1238, 1239, 1240] (by decide +kernel) (by decide +kernel)
set_option maxRecDepth 20000 in
theorem gL_law_X11_lay : GoodIn wsL_law (wsV RL 137 RX11 yX11_lay wsX11_lay) := goodIn_app (goodIn_of _ (by decide +kernel)) ggL_law_X11_lay
set_option maxRecDepth 20000 in
theorem ggL_law_X10_measured : GoodIn wsL_law wsX10_measured := goodIn_r _ [1148, 36, 1136, 1149, 1115, 1116, 35, 1117, 1118, 1119, 1120, 816, 817, 818, 2, 819, 24, 40, 20, 649, 820, 821, 822, 23, 823, 824, 81, 825, 388, 389, 39, 390, 119, 826, 827, 828, 829, 82, 830, 363, 364, 365, 831, 832, 833, 834, 640, 575, 576, 577, 578, 122, 835, 836, 837, 838, 839, 840, 84, 841, 842, 843, 844, 83, 845, 580, 581, 582, 121, 846, 847, 848, 849, 850, 419, 420, 421, 1150, 1151, 1152, 1153, 1154, 1155, 1156, 1157, 929, 930, 931, 932, 933, 856, 857, 858, 1172, 1173, 1174, 1175, 1176, 1177, 1178, 1179, 1180, 1181, 1276, 1277, 1278, 1243, 1244, 1245, 1246, 1247, 1248, 1249, 1250, 1251, 1252, 1253, 1254, 1255, 1256, 1279, 1280, 1281, 1282, 1283, 1284, 1257, 1258, 1259, 1260, 1261, 1262, 1263, 1264, 1265] (by decide +kernel) (by decide +kernel)
set_option maxRecDepth 20000 in
theorem gL_law_X10_measured : GoodIn wsL_law (wsV RL 138 RX10 yX10_measured wsX10_measured) := goodIn_app (goodIn_of _ (by decide +kernel)) ggL_law_X10_measured
set_option maxRecDepth 20000 in
theorem ggL_law_X11_measured : GoodIn wsL_law wsX11_measured := goodIn_r _ [1161, 1162, 790, 164, 165, 166, 1163, 1129, 1130, 5, 1131, 969, 225, 226, 227, 864, 865, 866, 867, 182, 162, 198, 199, 200, 201, 140, 868, 869, 870, 871, 161, 156, 872, 873, 874, 875, 863, 159, 876, 160, 803, 804, 805, 806, 155, 807, 808, 809, 810, 591, 592, 593, 594, 142, 938, 939, 940, 941, 743, 744, 745, 746, 1182, 1183, 1184, 1185, 1186, 1187, 1188, 1189, 1190, 1191, 1192, 1193, 1194, 1195, 1196, 1197, 1198, 1199, 1200, 1201, 1202, 1203, 1204, 1205, 1206, 1207, 1208, 1209, 1210, 1211, 1212, 1213, 1214, 1215, 1216, 1217, 1218, 1219, 1220, 1221, 1222, 1223, 1224, 1225, 1226, 1227, 1228, 1229, 1230, 1231, 1232, 1233, 1234, 1235, 1236, 1237, 1238, 1239, 1240] (by decide +kernel) (by decide +kernel)
set_option maxRecDepth 20000 in
theorem gL_law_X11_measured : GoodIn wsL_law (wsV RL 142 RX11 yX11_measured wsX11_measured) := goodIn_app (goodIn_of _ (by decide +kernel)) ggL_law_X11_measured
set_option maxRecDepth 20000 in
theorem ggL_law_X10_count : GoodIn wsL_law wsX10_count := goodIn_r _ [1167, 40, 566, 20, 640, 781, 782, 16, 206, 36, 1136, 1065, 1055, 1056, 1057, 1058, 1059, 1060, 881, 882, 883, 39, 884, 122, 885, 388, 389, 390, 119, 1172, 1173, 1174, 1175, 1176, 1177, 1178, 1179, 1180, 1181, 1279, 1280, 1281, 1282, 1283, 1284, 1243, 1244, 1245, 1246, 1247, 1248, 1249, 1250, 1251, 1252, 1253, 1254, 1255, 1256, 1298, 1299, 1300, 1301, 1241, 1242, 1276, 1277, 1278] (by decide +kernel) (by decide +kernel)
set_option maxRecDepth 20000 in
theorem gL_law_X10_count : GoodIn wsL_law (wsV RL 143 RX10 yX10_count wsX10_count) := goodIn_app (goodIn_of _ (by decide +kernel)) ggL_law_X10_count
set_option maxRecDepth 20000 in
theorem ggL_law_X11_count : GoodIn wsL_law wsX11_count := goodIn_r _ [1171, 182, 197, 215, 164, 165, 803, 804, 805, 5, 806, 155, 1074, 1075, 1076, 917, 918, 919, 920, 198, 199, 200, 201, 140, 1182, 1183, 1184, 1185, 1186, 1187, 1188, 1189, 1190, 1191, 1192, 1193, 1194, 1195, 1196, 1197, 1198, 1199, 1200, 1201, 1202, 1203, 1204, 1205, 1206, 1207, 1208, 1209, 1210, 1211, 1212, 1213, 1214, 1215, 1216, 1217, 1218, 1219, 1220, 1221, 1222, 1223, 1224, 1225, 1226, 1227, 1228, 1229, 1230, 1231, 1232, 1233, 1234, 1235, 1236, 1237, 1238, 1239, 1240] (by decide +kernel) (by decide +kernel)
set_option maxRecDepth 20000 in
theorem gL_law_X11_count : GoodIn wsL_law (wsV RL 146 RX11 yX11_count wsX11_count) := goodIn_app (goodIn_of _ (by decide +kernel)) ggL_law_X11_count
