set_option maxRecDepth 20000 in
theorem ggL_law_X11_lifts : GoodIn wsL_law wsX11_lifts := goodIn_r _ [983, 15, 549, 550, 551, 2, 552, 553, 554, 555, 43, 556, 125, 154, 155, 156, 157, 28, 158, 159, 160, 161, 162, 163, 577, 388, 359, 389, 390, 391, 392, 393, 394, 364, 354, 355, 356, 61, 62, 371, 122, 123, 124, 719, 416, 417, 984, 985, 986, 987, 988, 989, 990, 991, 992, 993, 994, 995, 996, 997, 998, 999, 1000, 1001, 1002, 1137, 1138, 1139, 1140, 1141, 1142, 1143, 1144, 1145, 1146, 1147, 1148, 1149, 1172, 1173, 1174, 1175, 1176, 1177, 1178, 1195, 1196, 1197, 1198] (by decide +kernel) (by decide +kernel)
set_option maxRecDepth 20000 in
theorem gL_law_X11_lifts : GoodIn wsL_law (wsV RL 135 RX11 yX11_lifts wsX11_lifts) := goodIn_app (goodIn_of _ (by decide +kernel)) ggL_law_X11_lifts
set_option maxRecDepth 20000 in
theorem ggL_law_X12_lifts : GoodIn wsL_law wsX12_lifts := goodIn_r _ [1006, 588, 589, 590, 5, 591, 99, 188, 189, 190, 191, 192, 193, 194, 105, 505, 506, 507, 508, 509, 510, 511, 512, 533, 534, 535, 536, 521, 522, 523, 1007, 1008, 1009, 1010, 1011, 1012, 1150, 1151, 1152, 1153, 1154, 1155, 1156, 1157, 1158, 1159, 1160, 1161, 1162, 1163, 1164, 1165, 1166, 1167, 1168, 1169, 1170, 1171] (by decide +kernel) (by decide +kernel)
set_option maxRecDepth 20000 in
theorem gL_law_X12_lifts : GoodIn wsL_law (wsV RL 138 RX12 yX12_lifts wsX12_lifts) := goodIn_app (goodIn_of _ (by decide +kernel)) ggL_law_X12_lifts
set_option maxRecDepth 20000 in
theorem ggL_law_X11_slips : GoodIn wsL_law wsX11_slips := goodIn_r _ [1016, 32, 15, 26, 549, 550, 551, 2, 552, 553, 554, 555, 43, 556, 125, 651, 652, 653, 150, 63, 64, 154, 155, 156, 157, 28, 158, 159, 160, 161, 162, 163, 654, 655, 656, 31, 657, 80, 658, 122, 123, 124, 659, 354, 355, 356, 61, 62, 660, 661, 662, 663, 664, 665, 406, 666, 667, 378, 379, 380, 408, 409, 410, 672, 673, 674, 675, 1017, 725, 359, 726, 364, 1018, 1019, 1020, 25, 1021, 74, 75, 1022, 1023, 1024, 1137, 1138, 1139, 1140, 1141, 1142, 1143, 1144, 1145, 1146, 1147, 1148, 1149, 1172, 1173, 1174, 1175, 1176, 1177, 1178, 1195, 1196, 1197, 1198, 1189, 1187, 1188] (by decide +kernel) (by decide +kernel)
set_option maxRecDepth 20000 in
theorem gL_law_X11_slips : GoodIn wsL_law (wsV RL 139 RX11 yX11_slips wsX11_slips) := goodIn_app (goodIn_of _ (by decide +kernel)) ggL_law_X11_slips
set_option maxRecDepth 20000 in
theorem ggL_law_X12_slips : GoodIn wsL_law wsX12_slips := goodIn_r _ [1028, 680, 1029, 99, 107, 103, 104, 588, 589, 590, 5, 591, 188, 189, 190, 191, 192, 193, 194, 105, 769, 770, 771, 772, 521, 522, 523, 681, 682, 683, 684, 108, 109, 685, 686, 687, 688, 689, 690, 691, 692, 693, 694, 1150, 1151, 1152, 1153, 1154, 1155, 1156, 1157, 1158, 1159, 1160, 1161, 1162, 1163, 1164, 1165, 1166, 1167, 1168, 1169, 1170, 1171] (by decide +kernel) (by decide +kernel)
set_option maxRecDepth 20000 in
theorem gL_law_X12_slips : GoodIn wsL_law (wsV RL 142 RX12 yX12_slips wsX12_slips) := goodIn_app (goodIn_of _ (by decide +kernel)) ggL_law_X12_slips
set_option maxRecDepth 20000 in
theorem ggL_law_X11_decades : GoodIn wsL_law wsX11_decades := goodIn_r _ [1033, 1034, 44, 15, 1035, 1036, 1037, 1038, 1039, 32, 1040, 1041, 150, 63, 2, 64, 154, 155, 156, 157, 28, 158, 159, 160, 161, 162, 163, 763, 428, 429, 43, 430, 125, 60, 431, 378, 379, 380, 61, 62, 553, 554, 555, 556, 654, 655, 656, 31, 657, 80, 658, 122, 123, 124, 659, 354, 355, 356, 660, 661, 662, 663, 664, 665, 406, 666, 667, 408, 409, 410, 668, 669, 670, 671, 578, 579, 413, 580, 581, 582, 583, 764, 382, 383, 384, 385, 386, 387, 388, 359, 389, 390, 391, 392, 393, 394, 364, 371, 395, 396, 397, 398, 399, 400, 401, 402, 403, 404, 405, 407, 411, 412, 414, 415, 416, 417, 152, 153, 418, 419, 420, 421, 422, 178, 179, 180, 1137, 1138, 1139, 1140, 1141, 1142, 1143, 1144, 1145, 1146, 1147, 1148, 1149, 1172, 1173, 1174, 1175, 1176, 1177, 1178, 1195, 1196, 1197, 1198, 1189] (by decide +kernel) (by decide +kernel)
set_option maxRecDepth 20000 in
theorem gL_law_X11_decades : GoodIn wsL_law (wsV RL 143 RX11 yX11_decades wsX11_decades) := goodIn_app (goodIn_of _ (by decide +kernel)) ggL_law_X11_decades
set_option maxRecDepth 20000 in
theorem ggL_law_X12_decades : GoodIn wsL_law wsX12_decades := goodIn_r _ [1045, 1046, 620, 1047, 1048, 1049, 1050, 680, 1051, 802, 99, 188, 189, 5, 190, 191, 192, 193, 194, 105, 769, 770, 771, 772, 681, 682, 683, 684, 107, 108, 109, 685, 686, 687, 688, 689, 690, 691, 692, 693, 694, 695, 696, 697, 698, 600, 601, 602, 500, 501, 502, 503, 504, 106, 505, 506, 507, 508, 509, 510, 511, 512, 513, 514, 515, 516, 186, 517, 518, 519, 520, 521, 522, 523, 524, 525, 526, 527, 528, 529, 530, 531, 532, 533, 534, 535, 536, 1150, 1151, 1152, 1153, 1154, 1155, 1156, 1157, 1158, 1159, 1160, 1161, 1162, 1163, 1164, 1165, 1166, 1167, 1168, 1169, 1170, 1171] (by decide +kernel) (by decide +kernel)
set_option maxRecDepth 20000 in
theorem gL_law_X12_decades : GoodIn wsL_law (wsV RL 146 RX12 yX12_decades wsX12_decades) := goodIn_app (goodIn_of _ (by decide +kernel)) ggL_law_X12_decades
set_option maxRecDepth 20000 in
theorem ggL_law_X11_part : GoodIn wsL_law wsX11_part := goodIn_r _ [1055, 26, 150, 63, 2, 64, 154, 155, 156, 157, 28, 158, 159, 160, 161, 162, 163, 1137, 1138, 1139, 1140, 1141, 1142, 1143, 1144, 1145, 1146, 1147, 1148, 1149, 1187, 1188] (by decide +kernel) (by decide +kernel)
set_option maxRecDepth 20000 in
theorem gL_law_X11_part : GoodIn wsL_law (wsV RL 147 RX11 yX11_part wsX11_part) := goodIn_app (goodIn_of _ (by decide +kernel)) ggL_law_X11_part
set_option maxRecDepth 20000 in
theorem ggL_law_X12_part : GoodIn wsL_law wsX12_part := goodIn_r _ [1059, 103, 104, 191, 192, 193, 5, 194, 105, 1150, 1151, 1152, 1153, 1154, 1155, 1156, 1157, 1158, 1159, 1160, 1161, 1162, 1163, 1164, 1165, 1166, 1167, 1168, 1169, 1170, 1171] (by decide +kernel) (by decide +kernel)
set_option maxRecDepth 20000 in
theorem gL_law_X12_part : GoodIn wsL_law (wsV RL 151 RX12 yX12_part wsX12_part) := goodIn_app (goodIn_of _ (by decide +kernel)) ggL_law_X12_part
set_option maxRecDepth 20000 in
theorem ggL_law_X11_image : GoodIn wsL_law wsX11_image := goodIn_r _ [1063, 17, 15, 1064, 18, 1065, 150, 63, 2, 64, 154, 155, 156, 157, 28, 158, 159, 160, 161, 162, 163, 423, 424, 425, 14, 426, 50, 51, 52, 53, 54, 55, 130, 427, 428, 429, 43, 430, 125, 60, 431, 378, 379, 380, 61, 62, 1137, 1138, 1139, 1140, 1141, 1142, 1143, 1144, 1145, 1146, 1147, 1148, 1149, 1172, 1173, 1174, 1175, 1176, 1177, 1178, 1195, 1196, 1197, 1198] (by decide +kernel) (by decide +kernel)
set_option maxRecDepth 20000 in
theorem gL_law_X11_image : GoodIn wsL_law (wsV RL 152 RX11 yX11_image wsX11_image) := goodIn_app (goodIn_of _ (by decide +kernel)) ggL_law_X11_image
set_option maxRecDepth 20000 in
theorem ggL_law_X12_image : GoodIn wsL_law wsX12_image := goodIn_r _ [1069, 101, 188, 189, 5, 190, 191, 192, 193, 194, 105, 541, 542, 543, 544, 99, 1150, 1151, 1152, 1153, 1154, 1155, 1156, 1157, 1158, 1159, 1160, 1161, 1162, 1163, 1164, 1165, 1166, 1167, 1168, 1169, 1170, 1171] (by decide +kernel) (by decide +kernel)
set_option maxRecDepth 20000 in
theorem gL_law_X12_image : GoodIn wsL_law (wsV RL 155 RX12 yX12_image wsX12_image) := goodIn_app (goodIn_of _ (by decide +kernel)) ggL_law_X12_image
set_option maxRecDepth 20000 in
theorem ggL_law_X11_from : GoodIn wsL_law wsX11_from := goodIn_r _ [1073, 1064, 1065, 15, 17, 18, 150, 63, 2, 64, 154, 155, 156, 157, 28, 158, 159, 160, 161, 162, 163, 423, 424, 425, 14, 426, 50, 51, 52, 53, 54, 55, 130, 427, 428, 429, 43, 430, 125, 60, 431, 378, 379, 380, 61, 62, 1137, 1138, 1139, 1140, 1141, 1142, 1143, 1144, 1145, 1146, 1147, 1148, 1149, 1172, 1173, 1174, 1175, 1176, 1177, 1178, 1195, 1196, 1197, 1198] (by decide +kernel) (by decide +kernel)
set_option maxRecDepth 20000 in
theorem gL_law_X11_from : GoodIn wsL_law (wsV RL 156 RX11 yX11_from wsX11_from) := goodIn_app (goodIn_of _ (by decide +kernel)) ggL_law_X11_from
set_option maxRecDepth 20000 in
theorem ggL_law_X12_from : GoodIn wsL_law wsX12_from := goodIn_r _ [1077, 101, 188, 189, 5, 190, 191, 192, 193, 194, 105, 592, 593, 594, 595, 541, 542, 543, 544, 99, 1150, 1151, 1152, 1153, 1154, 1155, 1156, 1157, 1158, 1159, 1160, 1161, 1162, 1163, 1164, 1165, 1166, 1167, 1168, 1169, 1170, 1171] (by decide +kernel) (by decide +kernel)
set_option maxRecDepth 20000 in
theorem gL_law_X12_from : GoodIn wsL_law (wsV RL 159 RX12 yX12_from wsX12_from) := goodIn_app (goodIn_of _ (by decide +kernel)) ggL_law_X12_from
set_option maxRecDepth 20000 in
theorem ggL_law_X11_status : GoodIn wsL_law wsX11_status := goodIn_r _ [1081, 28, 150, 63, 2, 64, 154, 155, 156, 157, 158, 159, 160, 161, 162, 163, 1137, 1138, 1139, 1140, 1141, 1142, 1143, 1144, 1145, 1146, 1147, 1148, 1149] (by decide +kernel) (by decide +kernel)
set_option maxRecDepth 20000 in
theorem gL_law_X11_status : GoodIn wsL_law (wsV RL 160 RX11 yX11_status wsX11_status) := goodIn_app (goodIn_of _ (by decide +kernel)) ggL_law_X11_status
set_option maxRecDepth 20000 in
theorem ggL_law_X12_status : GoodIn wsL_law wsX12_status := goodIn_r _ [1085, 479, 105, 188, 189, 5, 190, 191, 192, 193, 194, 1150, 1151, 1152, 1153, 1154, 1155, 1156, 1157, 1158, 1159, 1160, 1161, 1162, 1163, 1164, 1165, 1166, 1167, 1168, 1169, 1170, 1171] (by decide +kernel) (by decide +kernel)
set_option maxRecDepth 20000 in
theorem gL_law_X12_status : GoodIn wsL_law (wsV RL 163 RX12 yX12_status wsX12_status) := goodIn_app (goodIn_of _ (by decide +kernel)) ggL_law_X12_status
set_option maxRecDepth 20000 in
theorem ggL_law_X11_count : GoodIn wsL_law wsX11_count := goodIn_r _ [1089, 150, 63, 2, 64, 1090, 1091, 1092, 1093, 15, 22, 121, 122, 123, 43, 124, 125, 745, 746, 359, 747, 368, 369, 370, 371, 364, 354, 355, 356, 61, 62, 1094, 1095, 1096, 1097, 1098, 241, 242, 243, 21, 244, 227, 154, 155, 156, 157, 28, 158, 159, 160, 161, 162, 163, 1137, 1138, 1139, 1140, 1141, 1142, 1143, 1144, 1145, 1146, 1147, 1148, 1149, 1172, 1173, 1174, 1175, 1176, 1177, 1178, 1195, 1196, 1197, 1198, 1179, 1180, 1181, 1182, 1183, 1184, 1185, 1186] (by decide +kernel) (by decide +kernel)
set_option maxRecDepth 20000 in
theorem gL_law_X11_count : GoodIn wsL_law (wsV RL 164 RX11 yX11_count wsX11_count) := goodIn_app (goodIn_of _ (by decide +kernel)) ggL_law_X11_count
set_option maxRecDepth 20000 in
theorem ggL_law_X12_count : GoodIn wsL_law wsX12_count := goodIn_r _ [1102, 187, 188, 189, 5, 190, 1103, 1104, 1105, 1106, 99, 116, 1107, 1108, 1109, 1110, 1111, 1112, 1113, 1114, 191, 192, 193, 194, 105, 1150, 1151, 1152, 1153, 1154, 1155, 1156, 1157, 1158, 1159, 1160, 1161, 1162, 1163, 1164, 1165, 1166, 1167, 1168, 1169, 1170, 1171] (by decide +kernel) (by decide +kernel)
set_option maxRecDepth 20000 in
theorem gL_law_X12_count : GoodIn wsL_law (wsV RL 167 RX12 yX12_count wsX12_count) := goodIn_app (goodIn_of _ (by decide +kernel)) ggL_law_X12_count
set_option maxRecDepth 20000 in
theorem ggL_law_X11_digest : GoodIn wsL_law wsX11_digest := goodIn_r _ [1118, 1119, 1120, 15, 26, 1090, 1091, 1092, 2, 1093, 22, 121, 122, 123, 43, 124, 125, 745, 746, 359, 747, 368, 369, 370, 371, 364, 354, 355, 356, 61, 62, 1094, 1095, 1096, 1097, 1098, 241, 242, 243, 21, 244, 227, 1121, 1122, 1123, 1124, 1125, 159, 160, 1137, 1138, 1139, 1140, 1141, 1142, 1143, 1144, 1145, 1146, 1147, 1148, 1149, 1172, 1173, 1174, 1175, 1176, 1177, 1178, 1187, 1188, 1195, 1196, 1197, 1198, 1179, 1180, 1181, 1182, 1183, 1184, 1185, 1186] (by decide +kernel) (by decide +kernel)
set_option maxRecDepth 20000 in
theorem gL_law_X11_digest : GoodIn wsL_law (wsV RL 168 RX11 yX11_digest wsX11_digest) := goodIn_app (goodIn_of _ (by decide +kernel)) ggL_law_X11_digest
set_option maxRecDepth 20000 in
theorem ggL_law_X12_digest : GoodIn wsL_law wsX12_digest := goodIn_r _ [1129, 1130, 1131, 99, 103, 104, 1103, 1104, 1105, 5, 1106, 116, 1107, 1108, 1109, 1110, 1111, 1112, 1113, 1114, 1132, 1133, 1134, 1135, 1136, 643, 644, 645, 646, 1150, 1151, 1152, 1153, 1154, 1155, 1156, 1157, 1158, 1159, 1160, 1161, 1162, 1163, 1164, 1165, 1166, 1167, 1168, 1169, 1170, 1171] (by decide +kernel) (by decide +kernel)
set_option maxRecDepth 20000 in
theorem gL_law_X12_digest : GoodIn wsL_law (wsV RL 172 RX12 yX12_digest wsX12_digest) := goodIn_app (goodIn_of _ (by decide +kernel)) ggL_law_X12_digest
