set_option maxRecDepth 20000 in
theorem ggL_law_X7_init : GoodIn wsL_law wsX7_init := goodIn_r _ [9, 10, 11, 12, 13, 14, 15, 16, 17, 18, 19, 20, 21, 22, 23, 24, 25, 26, 27, 28, 29, 30, 31, 32, 33, 34, 35, 36, 37, 38, 39, 40, 41, 42, 43, 44, 45, 46, 47, 48, 49, 50, 51, 52, 53, 54, 55, 56, 57, 58, 59, 60, 61, 62, 63, 64, 65, 66, 67, 68, 69, 70, 71, 72, 73, 74, 75, 76, 77, 78, 79, 80, 81, 82, 83, 84, 85, 86, 87, 88, 89, 6, 90, 91, 92, 93, 94, 95, 96, 97, 98, 99, 100, 101, 102, 103, 104, 105, 106, 107, 108, 109, 1156, 1157, 1158, 1159, 1160, 1161, 1162, 1122, 1123, 1124, 1125, 1126, 1163, 1164, 1165, 1166, 1167, 1168, 1169, 1170, 1171, 1172, 1173, 1174, 1175, 1176, 1177, 1178, 1179, 1180, 1181, 1182, 1183, 1184, 1185, 1186, 1187, 1188, 1189, 1190, 1191] (by decide +kernel) (by decide +kernel)
set_option maxRecDepth 20000 in
theorem gL_law_X7_init : GoodIn wsL_law (wsX7_init) := ggL_law_X7_init
set_option maxRecDepth 20000 in
theorem ggL_law_X8_init : GoodIn wsL_law wsX8_init := goodIn_r _ [112, 113, 11, 12, 36, 114, 115, 116, 117, 118, 119, 120, 121, 122, 123, 124, 125, 126, 5, 127, 128, 129, 130, 131, 132, 133, 1127, 1128, 1129, 1130, 1131, 1132, 1133, 1134, 1135, 1136, 1137, 1138, 1139, 1140, 1141, 1142, 1143, 1144, 1145, 1146, 1147, 1148, 1149, 1150, 1151, 1152, 1153, 1154, 1155] (by decide +kernel) (by decide +kernel)
set_option maxRecDepth 20000 in
theorem gL_law_X8_init : GoodIn wsL_law (wsX8_init) := ggL_law_X8_init
set_option maxRecDepth 20000 in
theorem ggL_law_L_begin : GoodIn wsL_law wsL_begin := goodIn_ca (goodIn_r _ [137, 138, 139, 140, 141, 2, 142, 16, 28, 143, 144, 145, 146, 147, 95, 96, 97, 15, 98, 99, 100, 101, 102, 37, 41, 103, 104, 105, 40, 106, 107, 108, 50, 109, 148, 149, 150, 27, 151, 152, 90, 1122, 1123, 1124, 1125, 1126, 1156, 1157, 1158, 1159, 1160, 1161, 1162, 1188, 1189, 1190, 1176, 1177] (by decide +kernel) (by decide +kernel)) (goodIn_sub (fun _ h => List.mem_append_left _ (List.mem_append_left _ (List.mem_append_right _ h))) (by decide +kernel))
set_option maxRecDepth 20000 in
theorem gL_law_L_begin : GoodIn wsL_law (va_wsS RL 82 yL_begin wsL_begin) := goodIn_app (goodIn_of _ (by decide +kernel)) ggL_law_L_begin
set_option maxRecDepth 20000 in
theorem ggL_law_X8_begin : GoodIn wsL_law wsX8_begin := goodIn_r _ [156, 157, 128, 158, 159, 5, 160, 124, 125, 126, 127, 129, 130, 131, 132, 133, 114, 1127, 1128, 1129, 1130, 1131, 1132, 1133, 1134, 1135, 1136, 1137, 1138, 1139, 1140, 1141, 1142, 1143, 1144, 1145, 1146, 1147, 1148, 1149, 1150, 1151, 1152, 1153, 1154, 1155] (by decide +kernel) (by decide +kernel)
set_option maxRecDepth 20000 in
theorem gL_law_X8_begin : GoodIn wsL_law (wsV RL 87 RX8 yX8_begin wsX8_begin) := goodIn_app (goodIn_of _ (by decide +kernel)) ggL_law_X8_begin
set_option maxRecDepth 20000 in
theorem ggL_law_X8_thrown : GoodIn wsL_law wsX8_thrown := goodIn_r _ [164, 157, 1127, 1128, 1129, 1130, 1131, 1132, 1133, 1134, 1135, 1136, 1137, 1138, 1139, 1140, 1141, 1142, 1143, 1144, 1145, 1146, 1147, 1148, 1149, 1150, 1151, 1152, 1153, 1154, 1155] (by decide +kernel) (by decide +kernel)
set_option maxRecDepth 20000 in
theorem gL_law_X8_thrown : GoodIn wsL_law (wsV RL 88 RX8 yX8_thrown wsX8_thrown) := goodIn_app (goodIn_of _ (by decide +kernel)) ggL_law_X8_thrown
set_option maxRecDepth 20000 in
theorem ggL_law_L_exchange : GoodIn wsL_law wsL_exchange := goodIn_ca (goodIn_ca (goodIn_r _ [167, 138, 168, 169, 170, 171, 2, 172, 16, 173, 174, 175, 143, 144, 145, 146, 147, 176, 177, 178, 179, 180, 181, 182, 183, 184, 185, 186, 15, 187, 37, 188, 189, 190, 191, 1122, 1123, 1124, 1125, 1126, 1156, 1157, 1158, 1159, 1160, 1161, 1162] (by decide +kernel) (by decide +kernel)) (goodIn_sub (fun _ h => List.mem_append_left _ (List.mem_append_left _ (List.mem_append_right _ h))) (by decide +kernel))) (goodIn_sub (fun _ h => List.mem_append_left _ (List.mem_append_right _ h)) (by decide +kernel))
set_option maxRecDepth 20000 in
theorem gL_law_L_exchange : GoodIn wsL_law (va_wsS RL 91 yL_exchange wsL_exchange) := goodIn_app (goodIn_of _ (by decide +kernel)) ggL_law_L_exchange
set_option maxRecDepth 20000 in
theorem ggL_law_X8_exchange : GoodIn wsL_law wsX8_exchange := goodIn_r _ [195, 157, 114, 196, 197, 5, 198, 158, 159, 160, 199, 200, 201, 202, 203, 204, 205, 1127, 1128, 1129, 1130, 1131, 1132, 1133, 1134, 1135, 1136, 1137, 1138, 1139, 1140, 1141, 1142, 1143, 1144, 1145, 1146, 1147, 1148, 1149, 1150, 1151, 1152, 1153, 1154, 1155] (by decide +kernel) (by decide +kernel)
set_option maxRecDepth 20000 in
theorem gL_law_X8_exchange : GoodIn wsL_law (wsV RL 94 RX8 yX8_exchange wsX8_exchange) := goodIn_app (goodIn_of _ (by decide +kernel)) ggL_law_X8_exchange
set_option maxRecDepth 20000 in
theorem ggL_law_L_cut : GoodIn wsL_law wsL_cut := goodIn_ca (goodIn_ca (goodIn_ca (goodIn_r _ [208, 168, 138, 209, 210, 211, 212, 2, 213, 16, 214, 215, 216, 179, 180, 181, 182, 183, 217, 218, 219, 220, 143, 144, 145, 146, 147, 221, 222, 223, 224, 225, 226, 227, 228, 229, 40, 230, 109, 231, 232, 233, 234, 11, 12, 235, 236, 237, 238, 239, 240, 241, 242, 15, 243, 41, 244, 245, 246, 247, 107, 108, 50, 248, 249, 250, 251, 252, 253, 254, 255, 256, 257, 258, 259, 49, 260, 66, 67, 68, 261, 262, 263, 264, 265, 266, 267, 268, 269, 270, 271, 272, 273, 274, 275, 276, 277, 278, 279, 280, 281, 282, 283, 284, 285, 286, 287, 288, 289, 290, 291, 1122, 1123, 1124, 1125, 1126, 1192, 1193, 1194, 1195, 1196, 1156, 1157, 1158, 1159, 1160, 1161, 1162, 1188, 1189, 1190] (by decide +kernel) (by decide +kernel)) (goodIn_sub (fun _ h => List.mem_append_left _ (List.mem_append_right _ h)) (by decide +kernel))) (goodIn_sub (fun _ h => List.mem_append_left _ (List.mem_append_left _ (List.mem_append_right _ h))) (by decide +kernel))) (goodIn_sub (fun _ h => List.mem_append_right _ h) (by decide +kernel))
set_option maxRecDepth 20000 in
theorem gL_law_L_cut : GoodIn wsL_law (va_wsS RL 95 yL_cut wsL_cut) := goodIn_app (goodIn_of _ (by decide +kernel)) ggL_law_L_cut
set_option maxRecDepth 20000 in
theorem ggL_law_X8_cut : GoodIn wsL_law wsX8_cut := goodIn_r _ [295, 132, 157, 199, 200, 5, 201, 158, 159, 160, 296, 297, 298, 299, 128, 300, 301, 302, 303, 115, 1127, 1128, 1129, 1130, 1131, 1132, 1133, 1134, 1135, 1136, 1137, 1138, 1139, 1140, 1141, 1142, 1143, 1144, 1145, 1146, 1147, 1148, 1149, 1150, 1151, 1152, 1153, 1154, 1155] (by decide +kernel) (by decide +kernel)
set_option maxRecDepth 20000 in
theorem gL_law_X8_cut : GoodIn wsL_law (wsV RL 98 RX8 yX8_cut wsX8_cut) := goodIn_app (goodIn_of _ (by decide +kernel)) ggL_law_X8_cut
set_option maxRecDepth 20000 in
theorem ggL_law_L_connect : GoodIn wsL_law wsL_connect := goodIn_ca (goodIn_ca (goodIn_ca (goodIn_r _ [306, 168, 138, 209, 307, 308, 309, 2, 310, 16, 214, 215, 216, 179, 180, 181, 182, 183, 176, 177, 178, 146, 147, 217, 218, 219, 220, 143, 144, 145, 221, 222, 223, 224, 225, 226, 227, 228, 229, 40, 230, 109, 231, 232, 233, 234, 11, 12, 235, 236, 237, 238, 239, 240, 241, 242, 15, 243, 41, 244, 245, 246, 247, 107, 108, 50, 248, 249, 250, 251, 252, 253, 254, 255, 256, 257, 258, 259, 49, 260, 66, 67, 68, 261, 262, 263, 264, 265, 266, 267, 268, 269, 270, 271, 272, 273, 274, 275, 276, 277, 278, 279, 280, 281, 282, 283, 284, 285, 286, 287, 288, 289, 290, 291, 1122, 1123, 1124, 1125, 1126, 1192, 1193, 1194, 1195, 1196, 1156, 1157, 1158, 1159, 1160, 1161, 1162, 1188, 1189, 1190] (by decide +kernel) (by decide +kernel)) (goodIn_sub (fun _ h => List.mem_append_left _ (List.mem_append_right _ h)) (by decide +kernel))) (goodIn_sub (fun _ h => List.mem_append_left _ (List.mem_append_left _ (List.mem_append_right _ h))) (by decide +kernel))) (goodIn_sub (fun _ h => List.mem_append_right _ h) (by decide +kernel))
set_option maxRecDepth 20000 in
theorem gL_law_L_connect : GoodIn wsL_law (va_wsS RL 99 yL_connect wsL_connect) := goodIn_app (goodIn_of _ (by decide +kernel)) ggL_law_L_connect
set_option maxRecDepth 20000 in
theorem ggL_law_X8_connect : GoodIn wsL_law wsX8_connect := goodIn_r _ [314, 132, 157, 199, 200, 5, 201, 158, 159, 160, 296, 297, 298, 299, 128, 300, 301, 302, 303, 115, 1127, 1128, 1129, 1130, 1131, 1132, 1133, 1134, 1135, 1136, 1137, 1138, 1139, 1140, 1141, 1142, 1143, 1144, 1145, 1146, 1147, 1148, 1149, 1150, 1151, 1152, 1153, 1154, 1155] (by decide +kernel) (by decide +kernel)
set_option maxRecDepth 20000 in
theorem gL_law_X8_connect : GoodIn wsL_law (wsV RL 102 RX8 yX8_connect wsX8_connect) := goodIn_app (goodIn_of _ (by decide +kernel)) ggL_law_X8_connect
set_option maxRecDepth 20000 in
theorem ggL_law_L_repair : GoodIn wsL_law wsL_repair := goodIn_ca (goodIn_r _ [317, 168, 318, 319, 320, 2, 321, 16, 227, 228, 229, 40, 230, 109, 179, 180, 181, 182, 183, 322, 323, 324, 325, 50, 326, 327, 328, 329, 330, 331, 332, 333, 334, 335, 336, 337, 107, 108, 338, 288, 289, 290, 1122, 1123, 1124, 1125, 1126, 1156, 1157, 1158, 1159, 1160, 1161, 1162, 1188, 1189, 1190] (by decide +kernel) (by decide +kernel)) (goodIn_sub (fun _ h => List.mem_append_left _ (List.mem_append_right _ h)) (by decide +kernel))
set_option maxRecDepth 20000 in
theorem gL_law_L_repair : GoodIn wsL_law (va_wsS RL 103 yL_repair wsL_repair) := goodIn_app (goodIn_of _ (by decide +kernel)) ggL_law_L_repair
set_option maxRecDepth 20000 in
theorem ggL_law_X8_repair : GoodIn wsL_law wsX8_repair := goodIn_r _ [342, 132, 157, 115, 158, 159, 5, 160, 1127, 1128, 1129, 1130, 1131, 1132, 1133, 1134, 1135, 1136, 1137, 1138, 1139, 1140, 1141, 1142, 1143, 1144, 1145, 1146, 1147, 1148, 1149, 1150, 1151, 1152, 1153, 1154, 1155] (by decide +kernel) (by decide +kernel)
set_option maxRecDepth 20000 in
theorem gL_law_X8_repair : GoodIn wsL_law (wsV RL 106 RX8 yX8_repair wsX8_repair) := goodIn_app (goodIn_of _ (by decide +kernel)) ggL_law_X8_repair
set_option maxRecDepth 20000 in
theorem ggL_law_L_plug : GoodIn wsL_law wsL_plug := goodIn_ca (goodIn_r _ [345, 138, 346, 347, 348, 2, 349, 16, 143, 144, 145, 146, 147, 1122, 1123, 1124, 1125, 1126, 1156, 1157, 1158, 1159, 1160, 1161, 1162] (by decide +kernel) (by decide +kernel)) (goodIn_sub (fun _ h => List.mem_append_left _ (List.mem_append_left _ (List.mem_append_right _ h))) (by decide +kernel))
set_option maxRecDepth 20000 in
theorem gL_law_L_plug : GoodIn wsL_law (va_wsS RL 107 yL_plug wsL_plug) := goodIn_app (goodIn_of _ (by decide +kernel)) ggL_law_L_plug
set_option maxRecDepth 20000 in
theorem ggL_law_X8_plug : GoodIn wsL_law wsX8_plug := goodIn_r _ [353, 157, 130, 158, 159, 5, 160, 1127, 1128, 1129, 1130, 1131, 1132, 1133, 1134, 1135, 1136, 1137, 1138, 1139, 1140, 1141, 1142, 1143, 1144, 1145, 1146, 1147, 1148, 1149, 1150, 1151, 1152, 1153, 1154, 1155] (by decide +kernel) (by decide +kernel)
set_option maxRecDepth 20000 in
theorem gL_law_X8_plug : GoodIn wsL_law (wsV RL 109 RX8 yX8_plug wsX8_plug) := goodIn_app (goodIn_of _ (by decide +kernel)) ggL_law_X8_plug
set_option maxRecDepth 20000 in
theorem ggL_law_L_pass : GoodIn wsL_law wsL_pass := goodIn_ca (goodIn_ca (goodIn_r _ [356, 138, 209, 357, 358, 359, 2, 360, 225, 226, 16, 361, 28, 20, 143, 144, 145, 146, 147, 362, 363, 364, 365, 366, 367, 368, 15, 369, 41, 370, 291, 228, 229, 40, 230, 109, 371, 372, 373, 374, 326, 327, 328, 329, 330, 331, 332, 333, 375, 376, 377, 378, 50, 379, 380, 381, 216, 382, 238, 239, 383, 384, 385, 19, 386, 387, 77, 76, 388, 389, 390, 391, 392, 393, 73, 74, 394, 395, 396, 397, 398, 399, 236, 400, 401, 402, 403, 404, 405, 406, 44, 407, 69, 408, 409, 410, 411, 412, 413, 414, 415, 416, 417, 418, 419, 420, 189, 190, 191, 37, 421, 422, 423, 424, 425, 78, 426, 427, 428, 429, 430, 431, 432, 433, 434, 435, 436, 437, 438, 439, 440, 441, 442, 443, 444, 445, 446, 447, 448, 449, 450, 451, 452, 453, 454, 455, 456, 457, 458, 459, 460, 27, 461, 90, 152, 462, 285, 67, 286, 1122, 1123, 1124, 1125, 1126, 1156, 1157, 1158, 1159, 1160, 1161, 1162, 1163, 1164, 1165, 1166, 1167, 1168, 1169, 1170, 1188, 1189, 1190, 1192, 1193, 1194, 1195, 1196, 1191, 1176, 1177] (by decide +kernel) (by decide +kernel)) (goodIn_sub (fun _ h => List.mem_append_right _ h) (by decide +kernel))) (goodIn_sub (fun _ h => List.mem_append_left _ (List.mem_append_left _ (List.mem_append_right _ h))) (by decide +kernel))
set_option maxRecDepth 20000 in
theorem gL_law_L_pass : GoodIn wsL_law (va_wsS RL 110 yL_pass wsL_pass) := goodIn_app (goodIn_of _ (by decide +kernel)) ggL_law_L_pass
set_option maxRecDepth 20000 in
theorem ggL_law_X8_pass : GoodIn wsL_law wsX8_pass := goodIn_r _ [466, 131, 467, 157, 158, 159, 5, 160, 468, 469, 470, 471, 133, 116, 472, 473, 474, 475, 476, 477, 478, 479, 119, 114, 128, 480, 481, 482, 483, 118, 132, 484, 485, 486, 487, 115, 488, 489, 490, 491, 492, 493, 494, 495, 496, 497, 498, 499, 500, 501, 502, 503, 504, 505, 506, 507, 508, 509, 510, 1127, 1128, 1129, 1130, 1131, 1132, 1133, 1134, 1135, 1136, 1137, 1138, 1139, 1140, 1141, 1142, 1143, 1144, 1145, 1146, 1147, 1148, 1149, 1150, 1151, 1152, 1153, 1154, 1155] (by decide +kernel) (by decide +kernel)
set_option maxRecDepth 20000 in
theorem gL_law_X8_pass : GoodIn wsL_law (wsV RL 112 RX8 yX8_pass wsX8_pass) := goodIn_app (goodIn_of _ (by decide +kernel)) ggL_law_X8_pass
set_option maxRecDepth 20000 in
theorem ggL_law_L_append : GoodIn wsL_law wsL_append := goodIn_ca (goodIn_ca (goodIn_r _ [513, 138, 209, 514, 515, 516, 2, 517, 225, 226, 32, 143, 144, 145, 146, 147, 518, 519, 520, 31, 521, 522, 94, 1122, 1123, 1124, 1125, 1126, 1178, 1179, 1180, 1181, 1182, 1183, 1184, 1185, 1186, 1187] (by decide +kernel) (by decide +kernel)) (goodIn_sub (fun _ h => List.mem_append_right _ h) (by decide +kernel))) (goodIn_sub (fun _ h => List.mem_append_left _ (List.mem_append_left _ (List.mem_append_right _ h))) (by decide +kernel))
set_option maxRecDepth 20000 in
theorem gL_law_L_append : GoodIn wsL_law (va_wsS RL 113 yL_append wsL_append) := goodIn_app (goodIn_of _ (by decide +kernel)) ggL_law_L_append
set_option maxRecDepth 20000 in
theorem ggL_law_X8_append : GoodIn wsL_law wsX8_append := goodIn_r _ [526, 527, 157, 117, 158, 159, 5, 160, 1127, 1128, 1129, 1130, 1131, 1132, 1133, 1134, 1135, 1136, 1137, 1138, 1139, 1140, 1141, 1142, 1143, 1144, 1145, 1146, 1147, 1148, 1149, 1150, 1151, 1152, 1153, 1154, 1155] (by decide +kernel) (by decide +kernel)
