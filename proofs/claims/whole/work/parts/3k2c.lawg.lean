set_option maxRecDepth 20000 in
theorem ggL_law_X11_caught : GoodIn wsL_law wsX11_caught := goodIn_r _ [828, 15, 549, 550, 551, 2, 552, 553, 554, 555, 43, 556, 125, 154, 155, 156, 157, 28, 158, 159, 160, 161, 162, 163, 557, 354, 355, 356, 61, 62, 829, 830, 359, 831, 371, 122, 123, 124, 832, 358, 360, 361, 362, 363, 364, 365, 366, 367, 368, 369, 370, 1137, 1138, 1139, 1140, 1141, 1142, 1143, 1144, 1145, 1146, 1147, 1148, 1149, 1172, 1173, 1174, 1175, 1176, 1177, 1178, 1195, 1196, 1197, 1198] (by decide +kernel) (by decide +kernel)
set_option maxRecDepth 20000 in
theorem gL_law_X11_caught : GoodIn wsL_law (wsV RL 93 RX11 yX11_caught wsX11_caught) := goodIn_app (goodIn_of _ (by decide +kernel)) ggL_law_X11_caught
set_option maxRecDepth 20000 in
theorem ggL_law_X12_caught : GoodIn wsL_law wsX12_caught := goodIn_r _ [836, 99, 588, 589, 590, 5, 591, 188, 189, 190, 191, 192, 193, 194, 105, 592, 593, 594, 595, 837, 838, 839, 840, 488, 489, 490, 491, 492, 493, 494, 495, 1150, 1151, 1152, 1153, 1154, 1155, 1156, 1157, 1158, 1159, 1160, 1161, 1162, 1163, 1164, 1165, 1166, 1167, 1168, 1169, 1170, 1171] (by decide +kernel) (by decide +kernel)
set_option maxRecDepth 20000 in
theorem gL_law_X12_caught : GoodIn wsL_law (wsV RL 96 RX12 yX12_caught wsX12_caught) := goodIn_app (goodIn_of _ (by decide +kernel)) ggL_law_X12_caught
set_option maxRecDepth 20000 in
theorem ggL_law_X11_told : GoodIn wsL_law wsX11_told := goodIn_r _ [844, 15, 549, 550, 551, 2, 552, 553, 554, 555, 43, 556, 125, 651, 652, 653, 150, 63, 64, 154, 155, 156, 157, 28, 158, 159, 160, 161, 162, 163, 845, 846, 847, 848, 164, 165, 166, 167, 60, 849, 173, 174, 175, 176, 177, 178, 179, 180, 61, 62, 121, 122, 123, 124, 1137, 1138, 1139, 1140, 1141, 1142, 1143, 1144, 1145, 1146, 1147, 1148, 1149, 1172, 1173, 1174, 1175, 1176, 1177, 1178, 1195, 1196, 1197, 1198] (by decide +kernel) (by decide +kernel)
set_option maxRecDepth 20000 in
theorem gL_law_X11_told : GoodIn wsL_law (wsV RL 97 RX11 yX11_told wsX11_told) := goodIn_app (goodIn_of _ (by decide +kernel)) ggL_law_X11_told
set_option maxRecDepth 20000 in
theorem ggL_law_X12_told : GoodIn wsL_law wsX12_told := goodIn_r _ [853, 680, 99, 588, 589, 590, 5, 591, 188, 189, 190, 191, 192, 193, 194, 105, 195, 196, 197, 198, 1150, 1151, 1152, 1153, 1154, 1155, 1156, 1157, 1158, 1159, 1160, 1161, 1162, 1163, 1164, 1165, 1166, 1167, 1168, 1169, 1170, 1171] (by decide +kernel) (by decide +kernel)
set_option maxRecDepth 20000 in
theorem gL_law_X12_told : GoodIn wsL_law (wsV RL 101 RX12 yX12_told wsX12_told) := goodIn_app (goodIn_of _ (by decide +kernel)) ggL_law_X12_told
set_option maxRecDepth 20000 in
theorem ggL_law_X11_found : GoodIn wsL_law wsX11_found := goodIn_r _ [857, 15, 44, 32, 549, 550, 551, 2, 552, 553, 554, 555, 43, 556, 125, 154, 155, 156, 157, 28, 158, 159, 160, 161, 162, 163, 557, 354, 355, 356, 61, 62, 763, 428, 429, 430, 60, 431, 378, 379, 380, 858, 859, 860, 31, 861, 658, 122, 123, 124, 659, 862, 655, 656, 657, 80, 660, 661, 662, 663, 664, 665, 406, 666, 667, 408, 409, 410, 863, 673, 674, 675, 829, 830, 359, 831, 371, 832, 358, 360, 361, 362, 363, 364, 365, 366, 367, 368, 369, 370, 121, 864, 393, 394, 576, 178, 179, 180, 1137, 1138, 1139, 1140, 1141, 1142, 1143, 1144, 1145, 1146, 1147, 1148, 1149, 1172, 1173, 1174, 1175, 1176, 1177, 1178, 1195, 1196, 1197, 1198, 1189] (by decide +kernel) (by decide +kernel)
set_option maxRecDepth 20000 in
theorem gL_law_X11_found : GoodIn wsL_law (wsV RL 102 RX11 yX11_found wsX11_found) := goodIn_app (goodIn_of _ (by decide +kernel)) ggL_law_X11_found
set_option maxRecDepth 20000 in
theorem ggL_law_X12_found : GoodIn wsL_law wsX12_found := goodIn_r _ [868, 99, 588, 589, 590, 5, 591, 188, 189, 190, 191, 192, 193, 194, 105, 592, 593, 594, 595, 837, 838, 839, 840, 488, 489, 490, 491, 492, 493, 494, 495, 521, 522, 523, 769, 770, 771, 772, 869, 870, 871, 872, 107, 681, 682, 683, 684, 108, 109, 685, 686, 687, 688, 689, 690, 691, 692, 693, 694, 1150, 1151, 1152, 1153, 1154, 1155, 1156, 1157, 1158, 1159, 1160, 1161, 1162, 1163, 1164, 1165, 1166, 1167, 1168, 1169, 1170, 1171] (by decide +kernel) (by decide +kernel)
set_option maxRecDepth 20000 in
theorem gL_law_X12_found : GoodIn wsL_law (wsV RL 105 RX12 yX12_found wsX12_found) := goodIn_app (goodIn_of _ (by decide +kernel)) ggL_law_X12_found
set_option maxRecDepth 20000 in
theorem ggL_law_X11_note : GoodIn wsL_law wsX11_note := goodIn_r _ [876, 15, 549, 550, 551, 2, 552, 553, 554, 555, 43, 556, 125, 651, 652, 653, 150, 63, 64, 154, 155, 156, 157, 28, 158, 159, 160, 161, 162, 163, 845, 846, 847, 848, 164, 165, 166, 167, 60, 849, 173, 174, 175, 176, 177, 178, 179, 180, 61, 62, 121, 122, 123, 124, 1137, 1138, 1139, 1140, 1141, 1142, 1143, 1144, 1145, 1146, 1147, 1148, 1149, 1172, 1173, 1174, 1175, 1176, 1177, 1178, 1195, 1196, 1197, 1198] (by decide +kernel) (by decide +kernel)
set_option maxRecDepth 20000 in
theorem gL_law_X11_note : GoodIn wsL_law (wsV RL 106 RX11 yX11_note wsX11_note) := goodIn_app (goodIn_of _ (by decide +kernel)) ggL_law_X11_note
set_option maxRecDepth 20000 in
theorem ggL_law_X12_note : GoodIn wsL_law wsX12_note := goodIn_r _ [880, 680, 881, 99, 588, 589, 590, 5, 591, 188, 189, 190, 191, 192, 193, 194, 105, 195, 196, 197, 198, 1150, 1151, 1152, 1153, 1154, 1155, 1156, 1157, 1158, 1159, 1160, 1161, 1162, 1163, 1164, 1165, 1166, 1167, 1168, 1169, 1170, 1171] (by decide +kernel) (by decide +kernel)
set_option maxRecDepth 20000 in
theorem gL_law_X12_note : GoodIn wsL_law (wsV RL 109 RX12 yX12_note wsX12_note) := goodIn_app (goodIn_of _ (by decide +kernel)) ggL_law_X12_note
set_option maxRecDepth 20000 in
theorem ggL_law_X11_mark : GoodIn wsL_law wsX11_mark := goodIn_r _ [885, 15, 886, 887, 888, 2, 889, 553, 554, 555, 43, 556, 125, 150, 63, 64, 151, 152, 153, 154, 155, 156, 157, 28, 158, 159, 160, 161, 162, 163, 845, 846, 847, 848, 164, 165, 166, 167, 60, 849, 173, 174, 175, 176, 177, 178, 179, 180, 61, 62, 121, 122, 123, 124, 1137, 1138, 1139, 1140, 1141, 1142, 1143, 1144, 1145, 1146, 1147, 1148, 1149, 1172, 1173, 1174, 1175, 1176, 1177, 1178, 1195, 1196, 1197, 1198] (by decide +kernel) (by decide +kernel)
set_option maxRecDepth 20000 in
theorem gL_law_X11_mark : GoodIn wsL_law (wsV RL 110 RX11 yX11_mark wsX11_mark) := goodIn_app (goodIn_of _ (by decide +kernel)) ggL_law_X11_mark
set_option maxRecDepth 20000 in
theorem ggL_law_X12_mark : GoodIn wsL_law wsX12_mark := goodIn_r _ [893, 187, 186, 881, 894, 895, 99, 896, 897, 898, 5, 899, 188, 189, 190, 191, 192, 193, 194, 105, 195, 196, 197, 198, 1150, 1151, 1152, 1153, 1154, 1155, 1156, 1157, 1158, 1159, 1160, 1161, 1162, 1163, 1164, 1165, 1166, 1167, 1168, 1169, 1170, 1171] (by decide +kernel) (by decide +kernel)
set_option maxRecDepth 20000 in
theorem gL_law_X12_mark : GoodIn wsL_law (wsV RL 114 RX12 yX12_mark wsX12_mark) := goodIn_app (goodIn_of _ (by decide +kernel)) ggL_law_X12_mark
set_option maxRecDepth 20000 in
theorem ggL_law_X11_forget : GoodIn wsL_law wsX11_forget := goodIn_r _ [903, 15, 904, 905, 2, 906, 121, 122, 123, 43, 124, 125, 907, 132, 133, 134, 154, 155, 156, 157, 28, 158, 159, 160, 161, 162, 163, 1137, 1138, 1139, 1140, 1141, 1142, 1143, 1144, 1145, 1146, 1147, 1148, 1149, 1172, 1173, 1174, 1175, 1176, 1177, 1178, 1195, 1196, 1197, 1198] (by decide +kernel) (by decide +kernel)
set_option maxRecDepth 20000 in
theorem gL_law_X11_forget : GoodIn wsL_law (wsV RL 115 RX11 yX11_forget wsX11_forget) := goodIn_app (goodIn_of _ (by decide +kernel)) ggL_law_X11_forget
set_option maxRecDepth 20000 in
theorem ggL_law_X12_forget : GoodIn wsL_law wsX12_forget := goodIn_r _ [911, 479, 99, 188, 189, 5, 190, 191, 192, 193, 194, 105, 1150, 1151, 1152, 1153, 1154, 1155, 1156, 1157, 1158, 1159, 1160, 1161, 1162, 1163, 1164, 1165, 1166, 1167, 1168, 1169, 1170, 1171] (by decide +kernel) (by decide +kernel)
set_option maxRecDepth 20000 in
theorem gL_law_X12_forget : GoodIn wsL_law (wsV RL 118 RX12 yX12_forget wsX12_forget) := goodIn_app (goodIn_of _ (by decide +kernel)) ggL_law_X12_forget
set_option maxRecDepth 20000 in
theorem ggL_law_X11_is : GoodIn wsL_law wsX11_is := goodIn_r _ [915, 15, 549, 550, 551, 2, 552, 553, 554, 555, 43, 556, 125, 916, 917, 35, 918, 919, 122, 123, 124, 920, 354, 355, 356, 61, 62, 921, 665, 406, 666, 667, 378, 379, 380, 408, 409, 410, 154, 155, 156, 157, 28, 158, 159, 160, 161, 162, 163, 1137, 1138, 1139, 1140, 1141, 1142, 1143, 1144, 1145, 1146, 1147, 1148, 1149, 1172, 1173, 1174, 1175, 1176, 1177, 1178, 1195, 1196, 1197, 1198] (by decide +kernel) (by decide +kernel)
set_option maxRecDepth 20000 in
theorem gL_law_X11_is : GoodIn wsL_law (wsV RL 119 RX11 yX11_is wsX11_is) := goodIn_app (goodIn_of _ (by decide +kernel)) ggL_law_X11_is
set_option maxRecDepth 20000 in
theorem ggL_law_X12_is : GoodIn wsL_law wsX12_is := goodIn_r _ [925, 588, 589, 590, 5, 591, 99, 188, 189, 190, 926, 927, 928, 929, 685, 686, 687, 688, 689, 690, 191, 192, 193, 194, 105, 1150, 1151, 1152, 1153, 1154, 1155, 1156, 1157, 1158, 1159, 1160, 1161, 1162, 1163, 1164, 1165, 1166, 1167, 1168, 1169, 1170, 1171] (by decide +kernel) (by decide +kernel)
set_option maxRecDepth 20000 in
theorem gL_law_X12_is : GoodIn wsL_law (wsV RL 122 RX12 yX12_is wsX12_is) := goodIn_app (goodIn_of _ (by decide +kernel)) ggL_law_X12_is
set_option maxRecDepth 20000 in
theorem ggL_law_X11_look : GoodIn wsL_law wsX11_look := goodIn_r _ [933, 36, 15, 549, 550, 551, 2, 552, 553, 554, 555, 43, 556, 125, 916, 917, 35, 918, 919, 122, 123, 124, 920, 354, 355, 356, 61, 62, 921, 665, 406, 666, 667, 378, 379, 380, 408, 409, 410, 934, 935, 936, 937, 85, 162, 163, 938, 939, 940, 941, 942, 393, 394, 159, 160, 154, 155, 156, 157, 28, 158, 161, 1137, 1138, 1139, 1140, 1141, 1142, 1143, 1144, 1145, 1146, 1147, 1148, 1149, 1172, 1173, 1174, 1175, 1176, 1177, 1178, 1195, 1196, 1197, 1198, 1190] (by decide +kernel) (by decide +kernel)
set_option maxRecDepth 20000 in
theorem gL_law_X11_look : GoodIn wsL_law (wsV RL 123 RX11 yX11_look wsX11_look) := goodIn_app (goodIn_of _ (by decide +kernel)) ggL_law_X11_look
set_option maxRecDepth 20000 in
theorem ggL_law_X12_look : GoodIn wsL_law wsX12_look := goodIn_r _ [946, 947, 115, 588, 589, 590, 5, 591, 99, 188, 189, 190, 191, 192, 193, 194, 105, 926, 927, 928, 929, 685, 686, 687, 688, 689, 690, 948, 949, 950, 951, 521, 522, 523, 1150, 1151, 1152, 1153, 1154, 1155, 1156, 1157, 1158, 1159, 1160, 1161, 1162, 1163, 1164, 1165, 1166, 1167, 1168, 1169, 1170, 1171] (by decide +kernel) (by decide +kernel)
set_option maxRecDepth 20000 in
theorem gL_law_X12_look : GoodIn wsL_law (wsV RL 126 RX12 yX12_look wsX12_look) := goodIn_app (goodIn_of _ (by decide +kernel)) ggL_law_X12_look
set_option maxRecDepth 20000 in
theorem ggL_law_X11_kinds : GoodIn wsL_law wsX11_kinds := goodIn_r _ [955, 15, 886, 887, 888, 2, 889, 553, 554, 555, 43, 556, 125, 956, 957, 35, 958, 919, 122, 123, 124, 920, 354, 355, 356, 61, 62, 959, 405, 406, 407, 408, 409, 379, 410, 154, 155, 156, 157, 28, 158, 159, 160, 161, 162, 163, 1137, 1138, 1139, 1140, 1141, 1142, 1143, 1144, 1145, 1146, 1147, 1148, 1149, 1172, 1173, 1174, 1175, 1176, 1177, 1178, 1195, 1196, 1197, 1198] (by decide +kernel) (by decide +kernel)
set_option maxRecDepth 20000 in
theorem gL_law_X11_kinds : GoodIn wsL_law (wsV RL 127 RX11 yX11_kinds wsX11_kinds) := goodIn_app (goodIn_of _ (by decide +kernel)) ggL_law_X11_kinds
set_option maxRecDepth 20000 in
theorem ggL_law_X12_kinds : GoodIn wsL_law wsX12_kinds := goodIn_r _ [963, 896, 897, 898, 5, 899, 99, 188, 189, 190, 964, 965, 966, 967, 524, 525, 526, 527, 528, 529, 530, 531, 532, 191, 192, 193, 194, 105, 1150, 1151, 1152, 1153, 1154, 1155, 1156, 1157, 1158, 1159, 1160, 1161, 1162, 1163, 1164, 1165, 1166, 1167, 1168, 1169, 1170, 1171] (by decide +kernel) (by decide +kernel)
set_option maxRecDepth 20000 in
theorem gL_law_X12_kinds : GoodIn wsL_law (wsV RL 130 RX12 yX12_kinds wsX12_kinds) := goodIn_app (goodIn_of _ (by decide +kernel)) ggL_law_X12_kinds
set_option maxRecDepth 20000 in
theorem ggL_law_X11_ask : GoodIn wsL_law wsX11_ask := goodIn_r _ [971, 36, 15, 886, 887, 888, 2, 889, 553, 554, 555, 43, 556, 125, 154, 155, 156, 157, 28, 158, 159, 160, 161, 162, 163, 956, 957, 35, 958, 919, 122, 123, 124, 920, 354, 355, 356, 61, 62, 959, 405, 406, 407, 408, 409, 379, 410, 557, 972, 973, 974, 975, 85, 938, 939, 940, 941, 942, 393, 394, 1137, 1138, 1139, 1140, 1141, 1142, 1143, 1144, 1145, 1146, 1147, 1148, 1149, 1172, 1173, 1174, 1175, 1176, 1177, 1178, 1195, 1196, 1197, 1198, 1190] (by decide +kernel) (by decide +kernel)
set_option maxRecDepth 20000 in
theorem gL_law_X11_ask : GoodIn wsL_law (wsV RL 131 RX11 yX11_ask wsX11_ask) := goodIn_app (goodIn_of _ (by decide +kernel)) ggL_law_X11_ask
set_option maxRecDepth 20000 in
theorem ggL_law_X12_ask : GoodIn wsL_law wsX12_ask := goodIn_r _ [979, 947, 115, 99, 896, 897, 898, 5, 899, 188, 189, 190, 191, 192, 193, 194, 105, 964, 965, 966, 967, 524, 525, 526, 527, 528, 529, 530, 531, 532, 948, 949, 950, 951, 521, 522, 523, 1150, 1151, 1152, 1153, 1154, 1155, 1156, 1157, 1158, 1159, 1160, 1161, 1162, 1163, 1164, 1165, 1166, 1167, 1168, 1169, 1170, 1171] (by decide +kernel) (by decide +kernel)
set_option maxRecDepth 20000 in
theorem gL_law_X12_ask : GoodIn wsL_law (wsV RL 134 RX12 yX12_ask wsX12_ask) := goodIn_app (goodIn_of _ (by decide +kernel)) ggL_law_X12_ask
