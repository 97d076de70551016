set_option maxRecDepth 20000 in
theorem ggL_law_X11_undo : GoodIn wsL_law wsX11_undo := goodIn_r _ [624, 15, 121, 122, 123, 43, 124, 125, 154, 155, 156, 2, 157, 28, 158, 159, 160, 161, 162, 163, 625, 626, 627, 14, 628, 55, 130, 50, 573, 574, 354, 355, 356, 61, 62, 575, 178, 179, 180, 629, 570, 571, 572, 1137, 1138, 1139, 1140, 1141, 1142, 1143, 1144, 1145, 1146, 1147, 1148, 1149, 1172, 1173, 1174, 1175, 1176, 1177, 1178, 1195, 1196, 1197, 1198] (by decide +kernel) (by decide +kernel)
set_option maxRecDepth 20000 in
theorem gL_law_X11_undo : GoodIn wsL_law (wsV RL 53 RX11 yX11_undo wsX11_undo) := goodIn_app (goodIn_of _ (by decide +kernel)) ggL_law_X11_undo
set_option maxRecDepth 20000 in
theorem ggL_law_X12_undo : GoodIn wsL_law wsX12_undo := goodIn_r _ [633, 99, 592, 593, 594, 5, 595, 105, 1150, 1151, 1152, 1153, 1154, 1155, 1156, 1157, 1158, 1159, 1160, 1161, 1162, 1163, 1164, 1165, 1166, 1167, 1168, 1169, 1170, 1171] (by decide +kernel) (by decide +kernel)
set_option maxRecDepth 20000 in
theorem gL_law_X12_undo : GoodIn wsL_law (wsV RL 56 RX12 yX12_undo wsX12_undo) := goodIn_app (goodIn_of _ (by decide +kernel)) ggL_law_X12_undo
set_option maxRecDepth 20000 in
theorem ggL_law_X11_of : GoodIn wsL_law wsX11_of := goodIn_r _ [637, 15, 549, 550, 551, 2, 552, 553, 554, 555, 43, 556, 125, 150, 63, 64, 557, 354, 355, 356, 61, 62, 154, 155, 156, 157, 28, 158, 159, 160, 161, 162, 163, 1137, 1138, 1139, 1140, 1141, 1142, 1143, 1144, 1145, 1146, 1147, 1148, 1149, 1172, 1173, 1174, 1175, 1176, 1177, 1178, 1195, 1196, 1197, 1198] (by decide +kernel) (by decide +kernel)
set_option maxRecDepth 20000 in
theorem gL_law_X11_of : GoodIn wsL_law (wsV RL 57 RX11 yX11_of wsX11_of) := goodIn_app (goodIn_of _ (by decide +kernel)) ggL_law_X11_of
set_option maxRecDepth 20000 in
theorem ggL_law_X12_of : GoodIn wsL_law wsX12_of := goodIn_r _ [641, 642, 588, 589, 590, 5, 591, 99, 188, 189, 190, 643, 644, 645, 646, 191, 192, 193, 194, 105, 1150, 1151, 1152, 1153, 1154, 1155, 1156, 1157, 1158, 1159, 1160, 1161, 1162, 1163, 1164, 1165, 1166, 1167, 1168, 1169, 1170, 1171] (by decide +kernel) (by decide +kernel)
set_option maxRecDepth 20000 in
theorem gL_law_X12_of : GoodIn wsL_law (wsV RL 60 RX12 yX12_of wsX12_of) := goodIn_app (goodIn_of _ (by decide +kernel)) ggL_law_X12_of
set_option maxRecDepth 20000 in
theorem ggL_law_X11_felt : GoodIn wsL_law wsX11_felt := goodIn_r _ [650, 32, 15, 549, 550, 551, 2, 552, 553, 554, 555, 43, 556, 125, 651, 652, 653, 150, 63, 64, 154, 155, 156, 157, 28, 158, 159, 160, 161, 162, 163, 654, 655, 656, 31, 657, 80, 658, 122, 123, 124, 659, 354, 355, 356, 61, 62, 660, 661, 662, 663, 664, 665, 406, 666, 667, 378, 379, 380, 408, 409, 410, 668, 669, 670, 671, 672, 673, 674, 675, 1137, 1138, 1139, 1140, 1141, 1142, 1143, 1144, 1145, 1146, 1147, 1148, 1149, 1172, 1173, 1174, 1175, 1176, 1177, 1178, 1195, 1196, 1197, 1198, 1189] (by decide +kernel) (by decide +kernel)
set_option maxRecDepth 20000 in
theorem gL_law_X11_felt : GoodIn wsL_law (wsV RL 61 RX11 yX11_felt wsX11_felt) := goodIn_app (goodIn_of _ (by decide +kernel)) ggL_law_X11_felt
set_option maxRecDepth 20000 in
theorem ggL_law_X12_felt : GoodIn wsL_law wsX12_felt := goodIn_r _ [679, 680, 107, 588, 589, 590, 5, 591, 99, 188, 189, 190, 191, 192, 193, 194, 105, 681, 682, 683, 684, 108, 109, 685, 686, 687, 688, 689, 690, 691, 692, 693, 694, 695, 696, 697, 698, 1150, 1151, 1152, 1153, 1154, 1155, 1156, 1157, 1158, 1159, 1160, 1161, 1162, 1163, 1164, 1165, 1166, 1167, 1168, 1169, 1170, 1171] (by decide +kernel) (by decide +kernel)
set_option maxRecDepth 20000 in
theorem gL_law_X12_felt : GoodIn wsL_law (wsV RL 64 RX12 yX12_felt wsX12_felt) := goodIn_app (goodIn_of _ (by decide +kernel)) ggL_law_X12_felt
set_option maxRecDepth 20000 in
theorem ggL_law_X11_least : GoodIn wsL_law wsX11_least := goodIn_r _ [702, 32, 15, 549, 550, 551, 2, 552, 553, 554, 555, 43, 556, 125, 154, 155, 156, 157, 28, 158, 159, 160, 161, 162, 163, 654, 655, 656, 31, 657, 80, 658, 122, 123, 124, 659, 354, 355, 356, 61, 62, 660, 661, 662, 663, 664, 665, 406, 666, 667, 378, 379, 380, 408, 409, 410, 672, 673, 674, 675, 1137, 1138, 1139, 1140, 1141, 1142, 1143, 1144, 1145, 1146, 1147, 1148, 1149, 1172, 1173, 1174, 1175, 1176, 1177, 1178, 1195, 1196, 1197, 1198, 1189] (by decide +kernel) (by decide +kernel)
set_option maxRecDepth 20000 in
theorem gL_law_X11_least : GoodIn wsL_law (wsV RL 65 RX11 yX11_least wsX11_least) := goodIn_app (goodIn_of _ (by decide +kernel)) ggL_law_X11_least
set_option maxRecDepth 20000 in
theorem ggL_law_X12_least : GoodIn wsL_law wsX12_least := goodIn_r _ [706, 107, 588, 589, 590, 5, 591, 99, 188, 189, 190, 191, 192, 193, 194, 105, 681, 682, 683, 684, 108, 109, 685, 686, 687, 688, 689, 690, 691, 692, 693, 694, 1150, 1151, 1152, 1153, 1154, 1155, 1156, 1157, 1158, 1159, 1160, 1161, 1162, 1163, 1164, 1165, 1166, 1167, 1168, 1169, 1170, 1171] (by decide +kernel) (by decide +kernel)
set_option maxRecDepth 20000 in
theorem gL_law_X12_least : GoodIn wsL_law (wsV RL 68 RX12 yX12_least wsX12_least) := goodIn_app (goodIn_of _ (by decide +kernel)) ggL_law_X12_least
set_option maxRecDepth 20000 in
theorem ggL_law_X11_quiet : GoodIn wsL_law wsX11_quiet := goodIn_r _ [710, 15, 32, 549, 550, 551, 2, 552, 553, 554, 555, 43, 556, 125, 121, 122, 123, 124, 150, 63, 64, 154, 155, 156, 157, 28, 158, 159, 160, 161, 162, 163, 654, 655, 656, 31, 657, 80, 658, 659, 354, 355, 356, 61, 62, 660, 661, 662, 663, 664, 665, 406, 666, 667, 378, 379, 380, 408, 409, 410, 672, 673, 674, 675, 668, 669, 670, 671, 1137, 1138, 1139, 1140, 1141, 1142, 1143, 1144, 1145, 1146, 1147, 1148, 1149, 1172, 1173, 1174, 1175, 1176, 1177, 1178, 1195, 1196, 1197, 1198, 1189] (by decide +kernel) (by decide +kernel)
set_option maxRecDepth 20000 in
theorem gL_law_X11_quiet : GoodIn wsL_law (wsV RL 69 RX11 yX11_quiet wsX11_quiet) := goodIn_app (goodIn_of _ (by decide +kernel)) ggL_law_X11_quiet
set_option maxRecDepth 20000 in
theorem ggL_law_X12_quiet : GoodIn wsL_law wsX12_quiet := goodIn_r _ [714, 99, 107, 588, 589, 590, 5, 591, 188, 189, 190, 191, 192, 193, 194, 105, 681, 682, 683, 684, 108, 109, 685, 686, 687, 688, 689, 690, 691, 692, 693, 694, 695, 696, 697, 698, 1150, 1151, 1152, 1153, 1154, 1155, 1156, 1157, 1158, 1159, 1160, 1161, 1162, 1163, 1164, 1165, 1166, 1167, 1168, 1169, 1170, 1171] (by decide +kernel) (by decide +kernel)
set_option maxRecDepth 20000 in
theorem gL_law_X12_quiet : GoodIn wsL_law (wsV RL 72 RX12 yX12_quiet wsX12_quiet) := goodIn_app (goodIn_of _ (by decide +kernel)) ggL_law_X12_quiet
set_option maxRecDepth 20000 in
theorem ggL_law_X11_string : GoodIn wsL_law wsX11_string := goodIn_r _ [718, 15, 549, 550, 551, 2, 552, 553, 554, 555, 43, 556, 125, 150, 63, 64, 154, 155, 156, 157, 28, 158, 159, 160, 161, 162, 163, 577, 388, 359, 389, 390, 391, 392, 393, 394, 364, 354, 355, 356, 61, 62, 371, 122, 123, 124, 719, 416, 417, 720, 721, 722, 723, 409, 379, 410, 724, 725, 726, 727, 402, 383, 403, 398, 399, 400, 385, 386, 404, 405, 406, 407, 408, 411, 412, 413, 414, 1137, 1138, 1139, 1140, 1141, 1142, 1143, 1144, 1145, 1146, 1147, 1148, 1149, 1172, 1173, 1174, 1175, 1176, 1177, 1178, 1195, 1196, 1197, 1198] (by decide +kernel) (by decide +kernel)
set_option maxRecDepth 20000 in
theorem gL_law_X11_string : GoodIn wsL_law (wsV RL 73 RX11 yX11_string wsX11_string) := goodIn_app (goodIn_of _ (by decide +kernel)) ggL_law_X11_string
set_option maxRecDepth 20000 in
theorem ggL_law_X12_string : GoodIn wsL_law wsX12_string := goodIn_r _ [731, 732, 588, 589, 590, 5, 591, 99, 188, 189, 190, 191, 192, 193, 194, 105, 505, 506, 507, 508, 509, 510, 511, 512, 533, 534, 535, 536, 521, 522, 523, 733, 734, 735, 736, 737, 738, 739, 740, 108, 109, 110, 691, 692, 693, 694, 517, 518, 519, 520, 524, 525, 526, 527, 528, 529, 530, 531, 532, 1150, 1151, 1152, 1153, 1154, 1155, 1156, 1157, 1158, 1159, 1160, 1161, 1162, 1163, 1164, 1165, 1166, 1167, 1168, 1169, 1170, 1171] (by decide +kernel) (by decide +kernel)
set_option maxRecDepth 20000 in
theorem gL_law_X12_string : GoodIn wsL_law (wsV RL 76 RX12 yX12_string wsX12_string) := goodIn_app (goodIn_of _ (by decide +kernel)) ggL_law_X12_string
set_option maxRecDepth 20000 in
theorem ggL_law_X11_strings : GoodIn wsL_law wsX11_strings := goodIn_r _ [744, 15, 150, 63, 2, 64, 154, 155, 156, 157, 28, 158, 159, 160, 161, 162, 163, 745, 746, 359, 747, 368, 369, 370, 371, 122, 123, 43, 124, 125, 364, 354, 355, 356, 61, 62, 748, 749, 750, 1137, 1138, 1139, 1140, 1141, 1142, 1143, 1144, 1145, 1146, 1147, 1148, 1149, 1172, 1173, 1174, 1175, 1176, 1177, 1178, 1195, 1196, 1197, 1198] (by decide +kernel) (by decide +kernel)
set_option maxRecDepth 20000 in
theorem gL_law_X11_strings : GoodIn wsL_law (wsV RL 77 RX11 yX11_strings wsX11_strings) := goodIn_app (goodIn_of _ (by decide +kernel)) ggL_law_X11_strings
set_option maxRecDepth 20000 in
theorem ggL_law_X12_strings : GoodIn wsL_law wsX12_strings := goodIn_r _ [754, 99, 188, 189, 5, 190, 191, 192, 193, 194, 105, 755, 756, 757, 758, 492, 493, 494, 495, 1150, 1151, 1152, 1153, 1154, 1155, 1156, 1157, 1158, 1159, 1160, 1161, 1162, 1163, 1164, 1165, 1166, 1167, 1168, 1169, 1170, 1171] (by decide +kernel) (by decide +kernel)
set_option maxRecDepth 20000 in
theorem gL_law_X12_strings : GoodIn wsL_law (wsV RL 80 RX12 yX12_strings wsX12_strings) := goodIn_app (goodIn_of _ (by decide +kernel)) ggL_law_X12_strings
set_option maxRecDepth 20000 in
theorem ggL_law_X11_then : GoodIn wsL_law wsX11_then := goodIn_r _ [762, 44, 15, 549, 550, 551, 2, 552, 553, 554, 555, 43, 556, 125, 150, 63, 64, 154, 155, 156, 157, 28, 158, 159, 160, 161, 162, 163, 763, 428, 429, 430, 60, 431, 378, 379, 380, 61, 62, 764, 382, 383, 384, 385, 122, 123, 124, 386, 354, 355, 356, 387, 388, 359, 389, 390, 391, 392, 393, 394, 364, 371, 395, 396, 397, 398, 399, 400, 401, 402, 403, 404, 405, 406, 407, 408, 409, 410, 411, 412, 413, 414, 415, 416, 417, 152, 153, 418, 419, 420, 421, 422, 178, 179, 180, 557, 1137, 1138, 1139, 1140, 1141, 1142, 1143, 1144, 1145, 1146, 1147, 1148, 1149, 1172, 1173, 1174, 1175, 1176, 1177, 1178, 1195, 1196, 1197, 1198] (by decide +kernel) (by decide +kernel)
set_option maxRecDepth 20000 in
theorem gL_law_X11_then : GoodIn wsL_law (wsV RL 81 RX11 yX11_then wsX11_then) := goodIn_app (goodIn_of _ (by decide +kernel)) ggL_law_X11_then
set_option maxRecDepth 20000 in
theorem ggL_law_X12_then : GoodIn wsL_law wsX12_then := goodIn_r _ [768, 620, 99, 588, 589, 590, 5, 591, 188, 189, 190, 191, 192, 193, 194, 105, 769, 770, 771, 772, 500, 501, 502, 503, 504, 106, 505, 506, 507, 508, 509, 510, 511, 512, 513, 514, 515, 516, 186, 517, 518, 519, 520, 521, 522, 523, 524, 525, 526, 527, 528, 529, 530, 531, 532, 533, 534, 535, 536, 1150, 1151, 1152, 1153, 1154, 1155, 1156, 1157, 1158, 1159, 1160, 1161, 1162, 1163, 1164, 1165, 1166, 1167, 1168, 1169, 1170, 1171] (by decide +kernel) (by decide +kernel)
set_option maxRecDepth 20000 in
theorem gL_law_X12_then : GoodIn wsL_law (wsV RL 84 RX12 yX12_then wsX12_then) := goodIn_app (goodIn_of _ (by decide +kernel)) ggL_law_X12_then
set_option maxRecDepth 20000 in
theorem ggL_law_X11_lunch : GoodIn wsL_law wsX11_lunch := goodIn_r _ [776, 40, 15, 150, 63, 2, 64, 777, 778, 779, 39, 780, 90, 92, 93, 781, 782, 783, 784, 785, 122, 123, 43, 124, 125, 786, 354, 355, 356, 61, 62, 787, 388, 359, 389, 390, 391, 392, 393, 394, 364, 371, 788, 579, 413, 580, 581, 582, 583, 162, 163, 159, 160, 789, 790, 791, 792, 793, 794, 795, 796, 797, 378, 379, 380, 154, 155, 156, 157, 28, 158, 161, 1137, 1138, 1139, 1140, 1141, 1142, 1143, 1144, 1145, 1146, 1147, 1148, 1149, 1172, 1173, 1174, 1175, 1176, 1177, 1178, 1191, 1192, 1193, 1194, 1195, 1196, 1197, 1198] (by decide +kernel) (by decide +kernel)
set_option maxRecDepth 20000 in
theorem gL_law_X11_lunch : GoodIn wsL_law (wsV RL 85 RX11 yX11_lunch wsX11_lunch) := goodIn_app (goodIn_of _ (by decide +kernel)) ggL_law_X11_lunch
set_option maxRecDepth 20000 in
theorem ggL_law_X12_lunch : GoodIn wsL_law wsX12_lunch := goodIn_r _ [801, 802, 99, 111, 188, 189, 5, 190, 191, 192, 193, 194, 105, 505, 506, 507, 508, 509, 510, 511, 512, 600, 601, 602, 803, 804, 805, 806, 112, 113, 114, 1150, 1151, 1152, 1153, 1154, 1155, 1156, 1157, 1158, 1159, 1160, 1161, 1162, 1163, 1164, 1165, 1166, 1167, 1168, 1169, 1170, 1171] (by decide +kernel) (by decide +kernel)
set_option maxRecDepth 20000 in
theorem gL_law_X12_lunch : GoodIn wsL_law (wsV RL 88 RX12 yX12_lunch wsX12_lunch) := goodIn_app (goodIn_of _ (by decide +kernel)) ggL_law_X12_lunch
set_option maxRecDepth 20000 in
theorem ggL_law_X11_free : GoodIn wsL_law wsX11_free := goodIn_r _ [810, 40, 15, 150, 63, 2, 64, 811, 812, 813, 39, 814, 785, 122, 123, 43, 124, 125, 786, 354, 355, 356, 61, 62, 788, 579, 413, 580, 581, 582, 583, 815, 816, 817, 818, 91, 162, 163, 819, 391, 359, 392, 393, 394, 364, 159, 160, 154, 155, 156, 157, 28, 158, 161, 1137, 1138, 1139, 1140, 1141, 1142, 1143, 1144, 1145, 1146, 1147, 1148, 1149, 1172, 1173, 1174, 1175, 1176, 1177, 1178, 1195, 1196, 1197, 1198, 1191, 1192, 1193, 1194] (by decide +kernel) (by decide +kernel)
set_option maxRecDepth 20000 in
theorem gL_law_X11_free : GoodIn wsL_law (wsV RL 89 RX11 yX11_free wsX11_free) := goodIn_app (goodIn_of _ (by decide +kernel)) ggL_law_X11_free
set_option maxRecDepth 20000 in
theorem ggL_law_X12_free : GoodIn wsL_law wsX12_free := goodIn_r _ [823, 824, 99, 188, 189, 5, 190, 191, 192, 193, 194, 105, 600, 601, 602, 521, 522, 523, 769, 770, 771, 772, 505, 506, 507, 508, 509, 510, 511, 512, 533, 534, 535, 536, 1150, 1151, 1152, 1153, 1154, 1155, 1156, 1157, 1158, 1159, 1160, 1161, 1162, 1163, 1164, 1165, 1166, 1167, 1168, 1169, 1170, 1171] (by decide +kernel) (by decide +kernel)
set_option maxRecDepth 20000 in
theorem gL_law_X12_free : GoodIn wsL_law (wsV RL 92 RX12 yX12_free wsX12_free) := goodIn_app (goodIn_of _ (by decide +kernel)) ggL_law_X12_free
