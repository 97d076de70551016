set_option maxRecDepth 20000 in
theorem ggL_law_X11_init : GoodIn wsL_law wsX11_init := goodIn_r _ [8, 9, 10, 11, 12, 13, 14, 15, 16, 17, 18, 19, 20, 21, 22, 23, 24, 25, 26, 27, 28, 29, 30, 31, 32, 33, 34, 35, 36, 37, 38, 39, 40, 41, 42, 43, 44, 45, 46, 47, 48, 49, 50, 51, 52, 53, 54, 55, 56, 57, 58, 59, 60, 61, 62, 63, 2, 64, 65, 66, 67, 68, 69, 70, 71, 72, 73, 74, 75, 76, 77, 78, 79, 80, 81, 82, 83, 84, 85, 86, 87, 88, 89, 90, 91, 92, 93, 94, 1172, 1173, 1174, 1175, 1176, 1177, 1178, 1137, 1138, 1139, 1140, 1141, 1142, 1143, 1144, 1145, 1146, 1147, 1148, 1149, 1179, 1180, 1181, 1182, 1183, 1184, 1185, 1186, 1187, 1188, 1189, 1190, 1191, 1192, 1193, 1194, 1195, 1196, 1197, 1198] (by decide +kernel) (by decide +kernel)
set_option maxRecDepth 20000 in
theorem gL_law_X11_init : GoodIn wsL_law (wsX11_init) := ggL_law_X11_init
set_option maxRecDepth 20000 in
theorem ggL_law_X12_init : GoodIn wsL_law wsX12_init := goodIn_r _ [97, 98, 10, 11, 27, 99, 100, 101, 102, 103, 104, 105, 106, 107, 108, 109, 110, 111, 112, 113, 114, 115, 116, 1150, 1151, 1152, 1153, 1154, 1155, 1156, 1157, 1158, 1159, 1160, 1161, 1162, 1163, 1164, 1165, 1166, 1167, 1168, 1169, 1170, 1171] (by decide +kernel) (by decide +kernel)
set_option maxRecDepth 20000 in
theorem gL_law_X12_init : GoodIn wsL_law (wsX12_init) := ggL_law_X12_init
set_option maxRecDepth 20000 in
theorem ggL_law_X11_office : GoodIn wsL_law wsX11_office := goodIn_r _ [120, 15, 121, 122, 123, 43, 124, 125, 126, 127, 128, 14, 129, 50, 51, 52, 53, 54, 55, 130, 131, 132, 133, 134, 1137, 1138, 1139, 1140, 1141, 1142, 1143, 1144, 1145, 1146, 1147, 1148, 1149, 1172, 1173, 1174, 1175, 1176, 1177, 1178, 1195, 1196, 1197, 1198] (by decide +kernel) (by decide +kernel)
set_option maxRecDepth 20000 in
theorem gL_law_X11_office : GoodIn wsL_law (wsV RL 13 RX11 yX11_office wsX11_office) := goodIn_app (goodIn_of _ (by decide +kernel)) ggL_law_X11_office
set_option maxRecDepth 20000 in
theorem ggL_law_X12_office : GoodIn wsL_law wsX12_office := goodIn_r _ [138, 99, 139, 140, 141, 5, 142, 1150, 1151, 1152, 1153, 1154, 1155, 1156, 1157, 1158, 1159, 1160, 1161, 1162, 1163, 1164, 1165, 1166, 1167, 1168, 1169, 1170, 1171] (by decide +kernel) (by decide +kernel)
set_option maxRecDepth 20000 in
theorem gL_law_X12_office : GoodIn wsL_law (wsV RL 17 RX12 yX12_office wsX12_office) := goodIn_app (goodIn_of _ (by decide +kernel)) ggL_law_X12_office
set_option maxRecDepth 20000 in
theorem ggL_law_X11_clerk : GoodIn wsL_law wsX11_clerk := goodIn_r _ [146, 15, 147, 148, 2, 149, 150, 63, 64, 151, 152, 153, 154, 155, 156, 157, 28, 158, 159, 160, 161, 162, 163, 164, 165, 166, 43, 167, 125, 60, 168, 169, 170, 14, 171, 55, 50, 131, 132, 133, 134, 172, 173, 174, 175, 176, 177, 178, 179, 180, 61, 62, 1137, 1138, 1139, 1140, 1141, 1142, 1143, 1144, 1145, 1146, 1147, 1148, 1149, 1172, 1173, 1174, 1175, 1176, 1177, 1178, 1195, 1196, 1197, 1198] (by decide +kernel) (by decide +kernel)
set_option maxRecDepth 20000 in
theorem gL_law_X11_clerk : GoodIn wsL_law (wsV RL 18 RX11 yX11_clerk wsX11_clerk) := goodIn_app (goodIn_of _ (by decide +kernel)) ggL_law_X11_clerk
set_option maxRecDepth 20000 in
theorem ggL_law_X12_clerk : GoodIn wsL_law wsX12_clerk := goodIn_r _ [184, 185, 186, 187, 99, 188, 189, 5, 190, 191, 192, 193, 194, 105, 195, 196, 197, 198, 199, 200, 201, 202, 1150, 1151, 1152, 1153, 1154, 1155, 1156, 1157, 1158, 1159, 1160, 1161, 1162, 1163, 1164, 1165, 1166, 1167, 1168, 1169, 1170, 1171] (by decide +kernel) (by decide +kernel)
set_option maxRecDepth 20000 in
theorem gL_law_X12_clerk : GoodIn wsL_law (wsV RL 22 RX12 yX12_clerk wsX12_clerk) := goodIn_app (goodIn_of _ (by decide +kernel)) ggL_law_X12_clerk
set_option maxRecDepth 20000 in
theorem ggL_law_X11_magnet : GoodIn wsL_law wsX11_magnet := goodIn_r _ [206, 15, 147, 148, 2, 149, 150, 63, 64, 151, 152, 153, 154, 155, 156, 157, 28, 158, 159, 160, 161, 162, 163, 164, 165, 166, 43, 167, 125, 60, 207, 208, 209, 14, 210, 55, 51, 131, 132, 133, 134, 172, 173, 174, 175, 176, 177, 178, 179, 180, 61, 62, 1137, 1138, 1139, 1140, 1141, 1142, 1143, 1144, 1145, 1146, 1147, 1148, 1149, 1172, 1173, 1174, 1175, 1176, 1177, 1178, 1195, 1196, 1197, 1198] (by decide +kernel) (by decide +kernel)
set_option maxRecDepth 20000 in
theorem gL_law_X11_magnet : GoodIn wsL_law (wsV RL 23 RX11 yX11_magnet wsX11_magnet) := goodIn_app (goodIn_of _ (by decide +kernel)) ggL_law_X11_magnet
set_option maxRecDepth 20000 in
theorem ggL_law_X12_magnet : GoodIn wsL_law wsX12_magnet := goodIn_r _ [214, 185, 186, 187, 99, 188, 189, 5, 190, 191, 192, 193, 194, 105, 195, 196, 197, 198, 215, 216, 217, 218, 1150, 1151, 1152, 1153, 1154, 1155, 1156, 1157, 1158, 1159, 1160, 1161, 1162, 1163, 1164, 1165, 1166, 1167, 1168, 1169, 1170, 1171] (by decide +kernel) (by decide +kernel)
set_option maxRecDepth 20000 in
theorem gL_law_X12_magnet : GoodIn wsL_law (wsV RL 26 RX12 yX12_magnet wsX12_magnet) := goodIn_app (goodIn_of _ (by decide +kernel)) ggL_law_X12_magnet
set_option maxRecDepth 20000 in
theorem ggL_law_X11_type : GoodIn wsL_law wsX11_type := goodIn_r _ [222, 22, 150, 63, 2, 64, 154, 155, 156, 157, 28, 158, 159, 160, 161, 162, 163, 223, 224, 225, 21, 226, 227, 228, 229, 230, 231, 69, 1137, 1138, 1139, 1140, 1141, 1142, 1143, 1144, 1145, 1146, 1147, 1148, 1149, 1179, 1180, 1181, 1182, 1183, 1184, 1185, 1186] (by decide +kernel) (by decide +kernel)
set_option maxRecDepth 20000 in
theorem gL_law_X11_type : GoodIn wsL_law (wsV RL 27 RX11 yX11_type wsX11_type) := goodIn_app (goodIn_of _ (by decide +kernel)) ggL_law_X11_type
set_option maxRecDepth 20000 in
theorem ggL_law_X12_type : GoodIn wsL_law wsX12_type := goodIn_r _ [235, 236, 116, 102, 188, 189, 5, 190, 191, 192, 193, 194, 105, 195, 196, 197, 198, 1150, 1151, 1152, 1153, 1154, 1155, 1156, 1157, 1158, 1159, 1160, 1161, 1162, 1163, 1164, 1165, 1166, 1167, 1168, 1169, 1170, 1171] (by decide +kernel) (by decide +kernel)
set_option maxRecDepth 20000 in
theorem gL_law_X12_type : GoodIn wsL_law (wsV RL 31 RX12 yX12_type wsX12_type) := goodIn_app (goodIn_of _ (by decide +kernel)) ggL_law_X12_type
set_option maxRecDepth 20000 in
theorem ggL_law_X11_clear : GoodIn wsL_law wsX11_clear := goodIn_r _ [240, 22, 241, 242, 243, 21, 244, 227, 245, 246, 247, 248, 1137, 1138, 1139, 1140, 1141, 1142, 1143, 1144, 1145, 1146, 1147, 1148, 1149, 1179, 1180, 1181, 1182, 1183, 1184, 1185, 1186] (by decide +kernel) (by decide +kernel)
set_option maxRecDepth 20000 in
theorem gL_law_X11_clear : GoodIn wsL_law (wsV RL 32 RX11 yX11_clear wsX11_clear) := goodIn_app (goodIn_of _ (by decide +kernel)) ggL_law_X11_clear
set_option maxRecDepth 20000 in
theorem ggL_law_X12_clear : GoodIn wsL_law wsX12_clear := goodIn_r _ [252, 116, 1150, 1151, 1152, 1153, 1154, 1155, 1156, 1157, 1158, 1159, 1160, 1161, 1162, 1163, 1164, 1165, 1166, 1167, 1168, 1169, 1170, 1171] (by decide +kernel) (by decide +kernel)
set_option maxRecDepth 20000 in
theorem gL_law_X12_clear : GoodIn wsL_law (wsV RL 35 RX12 yX12_clear wsX12_clear) := goodIn_app (goodIn_of _ (by decide +kernel)) ggL_law_X12_clear
set_option maxRecDepth 20000 in
theorem ggL_law_X11_read : GoodIn wsL_law wsX11_read := goodIn_r _ [256, 22, 16, 15, 257, 258, 259, 21, 260, 261, 262, 263, 264, 265, 266, 267, 127, 128, 14, 129, 50, 51, 52, 53, 54, 55, 130, 131, 132, 133, 43, 134, 125, 268, 269, 270, 271, 69, 227, 272, 273, 274, 275, 159, 2, 160, 63, 64, 276, 277, 278, 279, 280, 281, 282, 283, 284, 285, 286, 287, 288, 289, 290, 291, 292, 293, 294, 295, 296, 297, 298, 299, 300, 301, 302, 303, 304, 305, 306, 307, 308, 309, 310, 311, 312, 313, 314, 315, 316, 317, 318, 319, 320, 321, 322, 323, 324, 325, 326, 327, 328, 329, 330, 331, 332, 333, 334, 335, 336, 337, 165, 166, 167, 60, 338, 339, 340, 341, 342, 343, 344, 345, 346, 169, 170, 171, 172, 173, 174, 175, 176, 177, 178, 179, 180, 61, 62, 347, 208, 209, 210, 348, 349, 350, 351, 352, 122, 123, 124, 353, 354, 355, 356, 357, 358, 359, 360, 361, 362, 363, 364, 365, 366, 367, 368, 369, 370, 371, 372, 373, 374, 375, 376, 377, 378, 379, 380, 381, 382, 383, 384, 385, 386, 387, 388, 389, 390, 391, 392, 393, 394, 395, 396, 397, 398, 399, 400, 401, 402, 403, 404, 405, 406, 407, 408, 409, 410, 411, 412, 413, 414, 415, 416, 417, 152, 153, 150, 418, 419, 420, 421, 422, 423, 424, 425, 426, 427, 428, 429, 430, 431, 162, 163, 1137, 1138, 1139, 1140, 1141, 1142, 1143, 1144, 1145, 1146, 1147, 1148, 1149, 1179, 1180, 1181, 1182, 1183, 1184, 1185, 1186, 1172, 1173, 1174, 1175, 1176, 1177, 1178, 1195, 1196, 1197, 1198] (by decide +kernel) (by decide +kernel)
set_option maxRecDepth 20000 in
theorem gL_law_X11_read : GoodIn wsL_law (wsV RL 36 RX11 yX11_read wsX11_read) := goodIn_app (goodIn_of _ (by decide +kernel)) ggL_law_X11_read
set_option maxRecDepth 20000 in
theorem ggL_law_X12_read : GoodIn wsL_law wsX12_read := goodIn_r _ [435, 436, 437, 116, 139, 140, 141, 5, 142, 99, 438, 439, 440, 441, 442, 443, 444, 445, 102, 446, 447, 448, 449, 450, 451, 452, 453, 454, 455, 188, 189, 190, 456, 457, 458, 459, 460, 461, 462, 463, 464, 465, 466, 467, 468, 469, 470, 471, 472, 473, 474, 475, 476, 477, 478, 479, 199, 200, 201, 202, 480, 481, 482, 483, 215, 216, 217, 218, 484, 485, 486, 487, 488, 489, 490, 491, 492, 493, 494, 495, 496, 497, 498, 499, 500, 501, 502, 503, 504, 106, 505, 506, 507, 508, 509, 510, 511, 512, 513, 514, 515, 516, 186, 517, 518, 519, 520, 521, 522, 523, 524, 525, 526, 527, 528, 529, 530, 531, 532, 533, 534, 535, 536, 537, 538, 539, 540, 541, 542, 543, 544, 1150, 1151, 1152, 1153, 1154, 1155, 1156, 1157, 1158, 1159, 1160, 1161, 1162, 1163, 1164, 1165, 1166, 1167, 1168, 1169, 1170, 1171] (by decide +kernel) (by decide +kernel)
set_option maxRecDepth 20000 in
theorem gL_law_X12_read : GoodIn wsL_law (wsV RL 39 RX12 yX12_read wsX12_read) := goodIn_app (goodIn_of _ (by decide +kernel)) ggL_law_X12_read
set_option maxRecDepth 20000 in
theorem ggL_law_X11_hook : GoodIn wsL_law wsX11_hook := goodIn_r _ [548, 15, 549, 550, 551, 2, 552, 553, 554, 555, 43, 556, 125, 154, 155, 156, 157, 28, 158, 159, 160, 161, 162, 163, 557, 354, 355, 356, 61, 62, 558, 362, 359, 363, 364, 559, 366, 367, 368, 369, 370, 371, 122, 123, 124, 560, 561, 562, 14, 563, 55, 130, 50, 564, 165, 166, 167, 60, 565, 566, 567, 568, 569, 570, 571, 572, 172, 173, 174, 175, 176, 177, 178, 179, 180, 573, 574, 575, 576, 577, 388, 389, 390, 391, 392, 393, 394, 578, 579, 413, 580, 581, 582, 583, 1137, 1138, 1139, 1140, 1141, 1142, 1143, 1144, 1145, 1146, 1147, 1148, 1149, 1172, 1173, 1174, 1175, 1176, 1177, 1178, 1195, 1196, 1197, 1198] (by decide +kernel) (by decide +kernel)
set_option maxRecDepth 20000 in
theorem gL_law_X11_hook : GoodIn wsL_law (wsV RL 40 RX11 yX11_hook wsX11_hook) := goodIn_app (goodIn_of _ (by decide +kernel)) ggL_law_X11_hook
set_option maxRecDepth 20000 in
theorem ggL_law_X12_hook : GoodIn wsL_law wsX12_hook := goodIn_r _ [587, 99, 588, 589, 590, 5, 591, 188, 189, 190, 191, 192, 193, 194, 105, 488, 489, 490, 491, 592, 593, 594, 595, 492, 493, 494, 495, 195, 196, 197, 198, 596, 597, 598, 599, 505, 506, 507, 508, 509, 510, 511, 512, 600, 601, 602, 1150, 1151, 1152, 1153, 1154, 1155, 1156, 1157, 1158, 1159, 1160, 1161, 1162, 1163, 1164, 1165, 1166, 1167, 1168, 1169, 1170, 1171] (by decide +kernel) (by decide +kernel)
set_option maxRecDepth 20000 in
theorem gL_law_X12_hook : GoodIn wsL_law (wsV RL 44 RX12 yX12_hook wsX12_hook) := goodIn_app (goodIn_of _ (by decide +kernel)) ggL_law_X12_hook
set_option maxRecDepth 20000 in
theorem ggL_law_X11_unbend : GoodIn wsL_law wsX11_unbend := goodIn_r _ [606, 15, 549, 550, 551, 2, 552, 553, 554, 555, 43, 556, 125, 154, 155, 156, 157, 28, 158, 159, 160, 161, 162, 163, 557, 354, 355, 356, 61, 62, 560, 561, 562, 14, 563, 55, 130, 50, 564, 165, 166, 167, 60, 565, 566, 567, 568, 569, 570, 571, 572, 172, 173, 174, 175, 176, 177, 178, 179, 180, 573, 122, 123, 124, 574, 575, 576, 1137, 1138, 1139, 1140, 1141, 1142, 1143, 1144, 1145, 1146, 1147, 1148, 1149, 1172, 1173, 1174, 1175, 1176, 1177, 1178, 1195, 1196, 1197, 1198] (by decide +kernel) (by decide +kernel)
set_option maxRecDepth 20000 in
theorem gL_law_X11_unbend : GoodIn wsL_law (wsV RL 45 RX11 yX11_unbend wsX11_unbend) := goodIn_app (goodIn_of _ (by decide +kernel)) ggL_law_X11_unbend
set_option maxRecDepth 20000 in
theorem ggL_law_X12_unbend : GoodIn wsL_law wsX12_unbend := goodIn_r _ [610, 99, 588, 589, 590, 5, 591, 188, 189, 190, 191, 192, 193, 194, 105, 592, 593, 594, 595, 596, 597, 598, 599, 1150, 1151, 1152, 1153, 1154, 1155, 1156, 1157, 1158, 1159, 1160, 1161, 1162, 1163, 1164, 1165, 1166, 1167, 1168, 1169, 1170, 1171] (by decide +kernel) (by decide +kernel)
set_option maxRecDepth 20000 in
theorem gL_law_X12_unbend : GoodIn wsL_law (wsV RL 48 RX12 yX12_unbend wsX12_unbend) := goodIn_app (goodIn_of _ (by decide +kernel)) ggL_law_X12_unbend
set_option maxRecDepth 20000 in
theorem ggL_law_X11_day : GoodIn wsL_law wsX11_day := goodIn_r _ [614, 15, 150, 63, 2, 64, 154, 155, 156, 157, 28, 158, 159, 160, 161, 162, 163, 560, 561, 562, 14, 563, 55, 130, 50, 564, 165, 166, 43, 167, 125, 60, 565, 566, 567, 568, 61, 62, 569, 570, 571, 572, 172, 173, 174, 175, 176, 177, 178, 179, 180, 573, 122, 123, 124, 574, 354, 355, 356, 575, 615, 374, 375, 376, 377, 378, 379, 380, 51, 381, 382, 383, 384, 385, 386, 387, 388, 359, 389, 390, 391, 392, 393, 394, 364, 371, 395, 396, 397, 398, 399, 400, 401, 402, 403, 404, 405, 406, 407, 408, 409, 410, 411, 412, 413, 414, 415, 416, 417, 152, 153, 418, 419, 420, 421, 422, 1137, 1138, 1139, 1140, 1141, 1142, 1143, 1144, 1145, 1146, 1147, 1148, 1149, 1172, 1173, 1174, 1175, 1176, 1177, 1178, 1195, 1196, 1197, 1198] (by decide +kernel) (by decide +kernel)
set_option maxRecDepth 20000 in
theorem gL_law_X11_day : GoodIn wsL_law (wsV RL 49 RX11 yX11_day wsX11_day) := goodIn_app (goodIn_of _ (by decide +kernel)) ggL_law_X11_day
set_option maxRecDepth 20000 in
theorem ggL_law_X12_day : GoodIn wsL_law wsX12_day := goodIn_r _ [619, 620, 504, 99, 188, 189, 5, 190, 191, 192, 193, 194, 105, 596, 597, 598, 599, 500, 501, 502, 503, 106, 505, 506, 507, 508, 509, 510, 511, 512, 513, 514, 515, 516, 186, 517, 518, 519, 520, 521, 522, 523, 524, 525, 526, 527, 528, 529, 530, 531, 532, 533, 534, 535, 536, 1150, 1151, 1152, 1153, 1154, 1155, 1156, 1157, 1158, 1159, 1160, 1161, 1162, 1163, 1164, 1165, 1166, 1167, 1168, 1169, 1170, 1171] (by decide +kernel) (by decide +kernel)
set_option maxRecDepth 20000 in
theorem gL_law_X12_day : GoodIn wsL_law (wsV RL 52 RX12 yX12_day wsX12_day) := goodIn_app (goodIn_of _ (by decide +kernel)) ggL_law_X12_day
