set_option maxRecDepth 20000 in
theorem ggL_law_X8_used : GoodIn wsL_law wsX8_used := goodIn_r _ [1125, 37, 22, 26, 32, 642, 49, 1126, 1016, 1017, 1018, 36, 1019, 117, 118, 1020, 1021, 194, 93, 195, 1022, 619, 620, 21, 621, 85, 268, 77, 622, 623, 624, 81, 625, 90, 91, 92, 94, 441, 442, 443, 444, 96, 160, 161, 162, 163, 95, 1023, 910, 911, 31, 912, 913, 914, 787, 788, 789, 790, 109, 110, 113, 813, 157, 158, 159, 915, 791, 792, 793, 794, 795, 741, 742, 743, 916, 917, 918, 919, 920, 796, 797, 798, 799, 800, 801, 802, 803, 804, 805, 761, 762, 25, 763, 103, 104, 102, 806, 807, 808, 809, 810, 811, 112, 111, 812, 814, 815, 816, 817, 1024, 846, 847, 848, 1025, 1026, 1027, 1028, 1394, 1395, 1396, 1397, 1398, 1399, 1400, 1401, 1402, 1403, 1404, 1405, 1406, 1407, 1441, 1442, 1443, 1444, 1445, 1435, 1436, 1437, 1438, 1439, 1440, 1451, 1452, 1462, 1463, 1464, 1446, 1447, 1448, 1449, 1450] (by decide +kernel) (by decide +kernel)
set_option maxRecDepth 20000 in
theorem gL_law_X8_used : GoodIn wsL_law (wsV RL 231 RX8 yX8_used wsX8_used) := goodIn_app (goodIn_of _ (by decide +kernel)) ggL_law_X8_used
set_option maxRecDepth 20000 in
theorem ggL_law_X9_used : GoodIn wsL_law wsX9_used := goodIn_r _ [1130, 243, 203, 647, 648, 649, 650, 5, 651, 211, 568, 569, 570, 571, 210, 540, 541, 542, 543, 572, 573, 574, 575, 576, 92, 93, 94, 577, 578, 579, 580, 581, 582, 583, 584, 585, 586, 587, 652, 653, 654, 655, 656, 657, 658, 1033, 1034, 1035, 1036, 1037, 1038, 1039, 1040, 1041, 1042, 1043, 1044, 634, 635, 636, 637, 930, 931, 932, 933, 934, 935, 936, 937, 768, 769, 770, 771, 830, 831, 832, 833, 853, 854, 855, 856, 938, 939, 940, 941, 749, 750, 751, 752, 486, 487, 488, 1045, 1046, 1047, 1408, 1409, 1410, 1411, 1412, 1413, 1414, 1415, 1416, 1417, 1418, 1419, 1420, 1421, 1422, 1423, 1424, 1425, 1426, 1427, 1428, 1429] (by decide +kernel) (by decide +kernel)
set_option maxRecDepth 20000 in
theorem gL_law_X9_used : GoodIn wsL_law (wsV RL 235 RX9 yX9_used wsX9_used) := goodIn_app (goodIn_of _ (by decide +kernel)) ggL_law_X9_used
set_option maxRecDepth 20000 in
theorem ggL_law_L_tryHinge : GoodIn wsL_law wsL_tryHinge := goodIn_ca (goodIn_ca (goodIn_r _ [1133, 662, 604, 1134, 1135, 1136, 2, 1137, 22, 611, 671, 672, 673, 674, 675, 676, 677, 161, 162, 81, 163, 90, 95, 96, 1138, 1139, 1140, 1141, 48, 678, 679, 680, 681, 609, 610, 1142, 1143, 1144, 1145, 27, 28, 431, 432, 433, 21, 434, 77, 78, 82, 83, 84, 85, 435, 436, 437, 438, 439, 149, 93, 150, 440, 157, 158, 159, 160, 441, 442, 443, 444, 1146, 1147, 1148, 1149, 1150, 404, 405, 406, 407, 408, 409, 410, 126, 127, 128, 129, 130, 131, 132, 133, 134, 135, 136, 137, 138, 139, 140, 141, 142, 143, 144, 25, 145, 146, 147, 148, 103, 151, 104, 152, 153, 154, 155, 101, 156, 164, 165, 166, 167, 168, 92, 94, 169, 170, 171, 172, 173, 174, 175, 176, 177, 178, 179, 180, 181, 182, 183, 184, 185, 186, 187, 188, 102, 189, 190, 191, 192, 193, 194, 195, 105, 196, 197, 198, 1394, 1395, 1396, 1397, 1398, 1399, 1400, 1401, 1402, 1403, 1404, 1405, 1406, 1407, 1435, 1436, 1437, 1438, 1439, 1440, 1462, 1463, 1464, 1441, 1442, 1443, 1444, 1445] (by decide +kernel) (by decide +kernel)) (goodIn_sub (fun _ h => List.mem_append_right _ h) (by decide +kernel))) (goodIn_sub (fun _ h => List.mem_append_left _ (List.mem_append_right _ h)) (by decide +kernel))
set_option maxRecDepth 20000 in
theorem gL_law_L_tryHinge : GoodIn wsL_law (va_wsS RL 236 yL_tryHinge wsL_tryHinge) := goodIn_app (goodIn_of _ (by decide +kernel)) ggL_law_L_tryHinge
set_option maxRecDepth 20000 in
theorem ggL_law_X9_tryHinge : GoodIn wsL_law wsX9_tryHinge := goodIn_r _ [1154, 243, 1155, 1156, 1157, 5, 1158, 203, 703, 704, 705, 706, 486, 487, 488, 1159, 1160, 1161, 1162, 204, 544, 545, 546, 547, 536, 537, 538, 539, 540, 541, 542, 543, 467, 468, 469, 1163, 1164, 1165, 1166, 556, 557, 558, 559, 564, 565, 566, 567, 568, 569, 570, 571, 210, 572, 573, 574, 575, 576, 92, 93, 94, 577, 578, 579, 580, 581, 582, 583, 584, 585, 586, 587, 1408, 1409, 1410, 1411, 1412, 1413, 1414, 1415, 1416, 1417, 1418, 1419, 1420, 1421, 1422, 1423, 1424, 1425, 1426, 1427, 1428, 1429] (by decide +kernel) (by decide +kernel)
set_option maxRecDepth 20000 in
theorem gL_law_X9_tryHinge : GoodIn wsL_law (wsV RL 238 RX9 yX9_tryHinge wsX9_tryHinge) := goodIn_app (goodIn_of _ (by decide +kernel)) ggL_law_X9_tryHinge
set_option maxRecDepth 20000 in
theorem ggL_law_L_bestHinge : GoodIn wsL_law wsL_bestHinge := goodIn_ca (goodIn_r _ [1169, 662, 1170, 1171, 1172, 2, 1173, 22, 611, 48, 37, 27, 28, 32, 1126, 642, 671, 672, 673, 674, 675, 676, 677, 161, 162, 81, 163, 90, 95, 96, 1142, 1143, 1144, 1145, 431, 432, 433, 21, 434, 77, 78, 82, 83, 84, 85, 435, 436, 437, 438, 439, 149, 93, 150, 440, 157, 158, 159, 160, 441, 442, 443, 444, 1146, 1147, 1148, 1149, 1150, 404, 405, 406, 407, 408, 409, 410, 126, 127, 128, 129, 130, 131, 132, 133, 134, 135, 136, 137, 138, 139, 140, 141, 142, 143, 144, 25, 145, 146, 147, 148, 103, 151, 104, 152, 153, 154, 155, 101, 156, 164, 165, 166, 167, 168, 92, 94, 169, 170, 171, 172, 173, 174, 175, 176, 177, 178, 179, 180, 181, 182, 183, 184, 185, 186, 187, 188, 102, 189, 190, 191, 192, 193, 194, 195, 105, 196, 197, 198, 1016, 1017, 1018, 36, 1019, 117, 118, 1020, 1021, 1022, 619, 620, 621, 268, 622, 623, 624, 625, 91, 1023, 910, 911, 31, 912, 913, 914, 787, 788, 789, 790, 109, 110, 113, 813, 915, 791, 792, 793, 794, 795, 741, 742, 743, 916, 917, 918, 919, 920, 796, 797, 798, 799, 800, 801, 802, 803, 804, 805, 761, 762, 763, 806, 807, 808, 809, 810, 811, 112, 111, 812, 814, 815, 816, 817, 1024, 846, 847, 848, 1025, 1026, 1027, 1028, 1174, 1175, 1176, 1394, 1395, 1396, 1397, 1398, 1399, 1400, 1401, 1402, 1403, 1404, 1405, 1406, 1407, 1435, 1436, 1437, 1438, 1439, 1440, 1451, 1452, 1441, 1442, 1443, 1444, 1445, 1462, 1463, 1464, 1446, 1447, 1448, 1449, 1450] (by decide +kernel) (by decide +kernel)) (goodIn_sub (fun _ h => List.mem_append_right _ h) (by decide +kernel))
set_option maxRecDepth 20000 in
theorem gL_law_L_bestHinge : GoodIn wsL_law (va_wsS RL 239 yL_bestHinge wsL_bestHinge) := goodIn_app (goodIn_of _ (by decide +kernel)) ggL_law_L_bestHinge
set_option maxRecDepth 20000 in
theorem ggL_law_X9_bestHinge : GoodIn wsL_law wsX9_bestHinge := goodIn_r _ [1180, 243, 203, 212, 647, 703, 704, 705, 5, 706, 486, 487, 488, 1159, 1160, 1161, 1162, 204, 544, 545, 546, 547, 536, 537, 538, 539, 540, 541, 542, 543, 467, 468, 469, 1163, 1164, 1165, 1166, 556, 557, 558, 559, 564, 565, 566, 567, 568, 569, 570, 571, 210, 572, 573, 574, 575, 576, 92, 93, 94, 577, 578, 579, 580, 581, 582, 583, 584, 585, 586, 587, 648, 649, 650, 651, 211, 652, 653, 654, 655, 656, 657, 658, 1033, 1034, 1035, 1036, 1037, 1038, 1039, 1040, 1041, 1042, 1043, 1044, 634, 635, 636, 637, 930, 931, 932, 933, 934, 935, 936, 937, 768, 769, 770, 771, 830, 831, 832, 833, 853, 854, 855, 856, 938, 939, 940, 941, 749, 750, 751, 752, 1045, 1046, 1047, 1408, 1409, 1410, 1411, 1412, 1413, 1414, 1415, 1416, 1417, 1418, 1419, 1420, 1421, 1422, 1423, 1424, 1425, 1426, 1427, 1428, 1429] (by decide +kernel) (by decide +kernel)
set_option maxRecDepth 20000 in
theorem gL_law_X9_bestHinge : GoodIn wsL_law (wsV RL 241 RX9 yX9_bestHinge wsX9_bestHinge) := goodIn_app (goodIn_of _ (by decide +kernel)) ggL_law_X9_bestHinge
set_option maxRecDepth 20000 in
theorem ggL_law_X8_strongest : GoodIn wsL_law wsX8_strongest := goodIn_r _ [1184, 33, 22, 26, 1185, 48, 32, 1186, 1187, 93, 1188, 909, 910, 911, 31, 912, 913, 914, 787, 788, 789, 790, 109, 110, 113, 813, 157, 158, 81, 159, 95, 160, 161, 162, 163, 90, 96, 915, 442, 443, 444, 791, 792, 793, 794, 795, 741, 742, 21, 743, 77, 916, 917, 918, 919, 920, 796, 797, 798, 799, 800, 801, 802, 803, 804, 805, 761, 762, 25, 763, 103, 104, 102, 806, 807, 808, 809, 810, 811, 112, 111, 812, 814, 815, 816, 817, 1059, 1060, 1061, 1062, 1063, 1064, 1065, 1066, 1067, 1068, 1069, 1070, 1071, 1072, 1073, 1074, 1075, 1076, 194, 195, 980, 846, 847, 848, 783, 784, 785, 786, 1189, 1190, 1191, 2, 1192, 50, 258, 642, 921, 1193, 1194, 1195, 683, 1196, 1197, 1198, 1199, 49, 845, 1394, 1395, 1396, 1397, 1398, 1399, 1400, 1401, 1402, 1403, 1404, 1405, 1406, 1407, 1435, 1436, 1437, 1438, 1439, 1440, 1462, 1463, 1464, 1446, 1447, 1448, 1449, 1450, 1441, 1442, 1443, 1444, 1445] (by decide +kernel) (by decide +kernel)
set_option maxRecDepth 20000 in
theorem gL_law_X8_strongest : GoodIn wsL_law (wsV RL 242 RX8 yX8_strongest wsX8_strongest) := goodIn_app (goodIn_of _ (by decide +kernel)) ggL_law_X8_strongest
set_option maxRecDepth 20000 in
theorem ggL_law_X9_strongest : GoodIn wsL_law wsX9_strongest := goodIn_r _ [1203, 243, 212, 203, 648, 649, 650, 5, 651, 211, 647, 568, 569, 570, 571, 210, 540, 541, 542, 543, 572, 573, 574, 575, 576, 92, 93, 94, 577, 578, 579, 580, 581, 582, 583, 584, 585, 586, 587, 652, 653, 654, 655, 656, 657, 658, 1081, 1082, 1083, 1084, 930, 931, 932, 933, 934, 935, 936, 937, 768, 769, 770, 771, 830, 831, 832, 833, 853, 854, 855, 856, 938, 939, 940, 941, 749, 750, 751, 752, 486, 487, 488, 1085, 1086, 1087, 1088, 1045, 1046, 1047, 467, 468, 469, 1097, 1098, 1099, 1100, 634, 635, 636, 637, 1408, 1409, 1410, 1411, 1412, 1413, 1414, 1415, 1416, 1417, 1418, 1419, 1420, 1421, 1422, 1423, 1424, 1425, 1426, 1427, 1428, 1429] (by decide +kernel) (by decide +kernel)
set_option maxRecDepth 20000 in
theorem gL_law_X9_strongest : GoodIn wsL_law (wsV RL 245 RX9 yX9_strongest wsX9_strongest) := goodIn_app (goodIn_of _ (by decide +kernel)) ggL_law_X9_strongest
set_option maxRecDepth 20000 in
theorem ggL_law_L_moveSupport : GoodIn wsL_law wsL_moveSupport := goodIn_ca (goodIn_r _ [1206, 662, 1207, 1208, 1209, 2, 1210, 22, 50, 27, 28, 671, 672, 673, 674, 675, 676, 677, 161, 162, 81, 163, 90, 95, 96, 736, 737, 738, 739, 740, 741, 742, 21, 743, 77, 431, 432, 433, 434, 78, 82, 83, 84, 85, 435, 436, 437, 438, 439, 149, 93, 150, 440, 157, 158, 159, 160, 441, 442, 443, 444, 683, 1146, 1147, 1148, 1149, 1150, 404, 405, 406, 407, 408, 409, 410, 126, 127, 128, 129, 130, 131, 132, 133, 134, 135, 136, 137, 138, 139, 140, 141, 142, 143, 144, 25, 145, 146, 147, 148, 103, 151, 104, 152, 153, 154, 155, 101, 156, 164, 165, 166, 167, 168, 92, 94, 169, 170, 171, 172, 173, 174, 175, 176, 177, 178, 179, 180, 181, 182, 183, 184, 185, 186, 187, 188, 102, 189, 190, 191, 192, 193, 194, 195, 105, 196, 197, 198, 445, 446, 447, 448, 41, 26, 449, 450, 451, 40, 452, 125, 124, 453, 454, 455, 456, 457, 1394, 1395, 1396, 1397, 1398, 1399, 1400, 1401, 1402, 1403, 1404, 1405, 1406, 1407, 1435, 1436, 1437, 1438, 1439, 1440, 1462, 1463, 1464, 1441, 1442, 1443, 1444, 1445, 1453, 1454] (by decide +kernel) (by decide +kernel)) (goodIn_sub (fun _ h => List.mem_append_right _ h) (by decide +kernel))
set_option maxRecDepth 20000 in
theorem gL_law_L_moveSupport : GoodIn wsL_law (va_wsS RL 246 yL_moveSupport wsL_moveSupport) := goodIn_app (goodIn_of _ (by decide +kernel)) ggL_law_L_moveSupport
set_option maxRecDepth 20000 in
theorem ggL_law_X9_moveSupport : GoodIn wsL_law wsX9_moveSupport := goodIn_r _ [1214, 243, 204, 203, 688, 689, 690, 5, 691, 486, 487, 488, 749, 750, 751, 752, 536, 537, 538, 539, 540, 541, 542, 543, 544, 545, 546, 547, 467, 468, 469, 1085, 1086, 1087, 1088, 1215, 1216, 1217, 1218, 548, 549, 550, 551, 564, 565, 566, 567, 568, 569, 570, 571, 210, 572, 573, 574, 575, 576, 92, 93, 94, 577, 578, 579, 580, 581, 582, 583, 584, 585, 586, 587, 588, 589, 590, 591, 592, 205, 1408, 1409, 1410, 1411, 1412, 1413, 1414, 1415, 1416, 1417, 1418, 1419, 1420, 1421, 1422, 1423, 1424, 1425, 1426, 1427, 1428, 1429] (by decide +kernel) (by decide +kernel)
set_option maxRecDepth 20000 in
theorem gL_law_X9_moveSupport : GoodIn wsL_law (wsV RL 248 RX9 yX9_moveSupport wsX9_moveSupport) := goodIn_app (goodIn_of _ (by decide +kernel)) ggL_law_X9_moveSupport
set_option maxRecDepth 20000 in
theorem ggL_law_L_moveHinge : GoodIn wsL_law wsL_moveHinge := goodIn_ca (goodIn_ca (goodIn_r _ [1221, 662, 604, 1222, 1223, 1224, 2, 1225, 22, 611, 671, 672, 673, 674, 675, 676, 677, 161, 162, 81, 163, 90, 95, 96, 1138, 1139, 1140, 1141, 48, 678, 679, 680, 681, 609, 610, 1142, 1143, 1144, 1145, 27, 28, 431, 432, 433, 21, 434, 77, 78, 82, 83, 84, 85, 435, 436, 437, 438, 439, 149, 93, 150, 440, 157, 158, 159, 160, 441, 442, 443, 444, 1146, 1147, 1148, 1149, 1150, 404, 405, 406, 407, 408, 409, 410, 126, 127, 128, 129, 130, 131, 132, 133, 134, 135, 136, 137, 138, 139, 140, 141, 142, 143, 144, 25, 145, 146, 147, 148, 103, 151, 104, 152, 153, 154, 155, 101, 156, 164, 165, 166, 167, 168, 92, 94, 169, 170, 171, 172, 173, 174, 175, 176, 177, 178, 179, 180, 181, 182, 183, 184, 185, 186, 187, 188, 102, 189, 190, 191, 192, 193, 194, 195, 105, 196, 197, 198, 445, 446, 447, 448, 41, 26, 449, 450, 451, 40, 452, 125, 124, 453, 454, 455, 456, 457, 1394, 1395, 1396, 1397, 1398, 1399, 1400, 1401, 1402, 1403, 1404, 1405, 1406, 1407, 1435, 1436, 1437, 1438, 1439, 1440, 1462, 1463, 1464, 1441, 1442, 1443, 1444, 1445, 1453, 1454] (by decide +kernel) (by decide +kernel)) (goodIn_sub (fun _ h => List.mem_append_right _ h) (by decide +kernel))) (goodIn_sub (fun _ h => List.mem_append_left _ (List.mem_append_right _ h)) (by decide +kernel))
set_option maxRecDepth 20000 in
theorem gL_law_L_moveHinge : GoodIn wsL_law (va_wsS RL 249 yL_moveHinge wsL_moveHinge) := goodIn_app (goodIn_of _ (by decide +kernel)) ggL_law_L_moveHinge
set_option maxRecDepth 20000 in
theorem ggL_law_X9_moveHinge : GoodIn wsL_law wsX9_moveHinge := goodIn_r _ [1229, 243, 203, 1155, 1156, 1157, 5, 1158, 703, 704, 705, 706, 486, 487, 488, 1159, 1160, 1161, 1162, 204, 544, 545, 546, 547, 536, 537, 538, 539, 540, 541, 542, 543, 467, 468, 469, 1163, 1164, 1165, 1166, 556, 557, 558, 559, 564, 565, 566, 567, 568, 569, 570, 571, 210, 572, 573, 574, 575, 576, 92, 93, 94, 577, 578, 579, 580, 581, 582, 583, 584, 585, 586, 587, 588, 589, 590, 591, 592, 205, 1408, 1409, 1410, 1411, 1412, 1413, 1414, 1415, 1416, 1417, 1418, 1419, 1420, 1421, 1422, 1423, 1424, 1425, 1426, 1427, 1428, 1429] (by decide +kernel) (by decide +kernel)
set_option maxRecDepth 20000 in
theorem gL_law_X9_moveHinge : GoodIn wsL_law (wsV RL 251 RX9 yX9_moveHinge wsX9_moveHinge) := goodIn_app (goodIn_of _ (by decide +kernel)) ggL_law_X9_moveHinge
set_option maxRecDepth 20000 in
theorem ggL_law_L_addLoad : GoodIn wsL_law wsL_addLoad := goodIn_ca (goodIn_ca (goodIn_r _ [1232, 662, 604, 1233, 1234, 1235, 2, 1236, 22, 612, 736, 737, 738, 739, 675, 676, 740, 741, 742, 21, 743, 77, 678, 679, 680, 681, 609, 610, 1237, 1238, 1239, 1240, 41, 1241, 139, 140, 81, 141, 90, 95, 96, 449, 450, 451, 40, 452, 125, 124, 453, 454, 455, 456, 457, 432, 433, 434, 78, 82, 83, 84, 85, 435, 436, 437, 438, 439, 149, 93, 150, 440, 157, 158, 159, 160, 161, 162, 163, 441, 442, 443, 444, 1242, 422, 423, 424, 134, 135, 136, 137, 138, 1394, 1395, 1396, 1397, 1398, 1399, 1400, 1401, 1402, 1403, 1404, 1405, 1406, 1407, 1435, 1436, 1437, 1438, 1439, 1440, 1462, 1463, 1464, 1453, 1454] (by decide +kernel) (by decide +kernel)) (goodIn_sub (fun _ h => List.mem_append_right _ h) (by decide +kernel))) (goodIn_sub (fun _ h => List.mem_append_left _ (List.mem_append_right _ h)) (by decide +kernel))
set_option maxRecDepth 20000 in
theorem gL_law_L_addLoad : GoodIn wsL_law (va_wsS RL 252 yL_addLoad wsL_addLoad) := goodIn_app (goodIn_of _ (by decide +kernel)) ggL_law_L_addLoad
set_option maxRecDepth 20000 in
theorem ggL_law_X9_addLoad : GoodIn wsL_law wsX9_addLoad := goodIn_r _ [1246, 243, 203, 749, 750, 751, 5, 752, 486, 487, 488, 588, 589, 590, 591, 592, 205, 467, 468, 469, 1247, 1248, 1249, 1250, 1408, 1409, 1410, 1411, 1412, 1413, 1414, 1415, 1416, 1417, 1418, 1419, 1420, 1421, 1422, 1423, 1424, 1425, 1426, 1427, 1428, 1429] (by decide +kernel) (by decide +kernel)
set_option maxRecDepth 20000 in
theorem gL_law_X9_addLoad : GoodIn wsL_law (wsV RL 254 RX9 yX9_addLoad wsX9_addLoad) := goodIn_app (goodIn_of _ (by decide +kernel)) ggL_law_X9_addLoad
set_option maxRecDepth 20000 in
theorem ggL_law_L_dropLoad : GoodIn wsL_law wsL_dropLoad := goodIn_ca (goodIn_r _ [1253, 662, 1254, 1255, 1256, 2, 1257, 22, 612, 1258, 1259, 1260, 1261, 41, 671, 672, 673, 674, 675, 676, 677, 161, 162, 81, 163, 90, 95, 96, 449, 450, 451, 40, 452, 125, 124, 453, 454, 455, 456, 457, 432, 433, 21, 434, 77, 78, 82, 83, 84, 85, 435, 436, 437, 438, 439, 149, 93, 150, 440, 157, 158, 159, 160, 441, 442, 443, 444, 682, 1146, 1147, 1148, 1149, 1394, 1395, 1396, 1397, 1398, 1399, 1400, 1401, 1402, 1403, 1404, 1405, 1406, 1407, 1435, 1436, 1437, 1438, 1439, 1440, 1462, 1463, 1464, 1453, 1454] (by decide +kernel) (by decide +kernel)) (goodIn_sub (fun _ h => List.mem_append_right _ h) (by decide +kernel))
set_option maxRecDepth 20000 in
theorem gL_law_L_dropLoad : GoodIn wsL_law (va_wsS RL 255 yL_dropLoad wsL_dropLoad) := goodIn_app (goodIn_of _ (by decide +kernel)) ggL_law_L_dropLoad
set_option maxRecDepth 20000 in
theorem ggL_law_X9_dropLoad : GoodIn wsL_law wsX9_dropLoad := goodIn_r _ [1265, 203, 243, 486, 487, 5, 488, 588, 589, 590, 591, 592, 205, 467, 468, 469, 1266, 1267, 1268, 1269, 1408, 1409, 1410, 1411, 1412, 1413, 1414, 1415, 1416, 1417, 1418, 1419, 1420, 1421, 1422, 1423, 1424, 1425, 1426, 1427, 1428, 1429] (by decide +kernel) (by decide +kernel)
set_option maxRecDepth 20000 in
theorem gL_law_X9_dropLoad : GoodIn wsL_law (wsV RL 257 RX9 yX9_dropLoad wsX9_dropLoad) := goodIn_app (goodIn_of _ (by decide +kernel)) ggL_law_X9_dropLoad
set_option maxRecDepth 20000 in
theorem ggL_law_L_addAxle : GoodIn wsL_law wsL_addAxle := goodIn_ca (goodIn_r _ [1272, 604, 1273, 1274, 1275, 2, 1276, 22, 613, 678, 679, 680, 681, 609, 610, 1237, 1238, 1239, 1240, 41, 1241, 139, 140, 81, 141, 90, 95, 96, 449, 450, 451, 40, 452, 125, 124, 453, 454, 455, 456, 457, 432, 433, 21, 434, 77, 78, 82, 83, 84, 85, 435, 436, 437, 438, 439, 149, 93, 150, 440, 157, 158, 159, 160, 161, 162, 163, 441, 442, 443, 444, 1242, 422, 423, 424, 134, 135, 136, 137, 138, 1394, 1395, 1396, 1397, 1398, 1399, 1400, 1401, 1402, 1403, 1404, 1405, 1406, 1407, 1435, 1436, 1437, 1438, 1439, 1440, 1462, 1463, 1464, 1453, 1454] (by decide +kernel) (by decide +kernel)) (goodIn_sub (fun _ h => List.mem_append_left _ (List.mem_append_right _ h)) (by decide +kernel))
set_option maxRecDepth 20000 in
theorem gL_law_L_addAxle : GoodIn wsL_law (va_wsS RL 258 yL_addAxle wsL_addAxle) := goodIn_app (goodIn_of _ (by decide +kernel)) ggL_law_L_addAxle
set_option maxRecDepth 20000 in
theorem ggL_law_X9_addAxle : GoodIn wsL_law wsX9_addAxle := goodIn_r _ [1280, 243, 203, 486, 487, 5, 488, 588, 589, 590, 591, 592, 205, 467, 468, 469, 1247, 1248, 1249, 1250, 1408, 1409, 1410, 1411, 1412, 1413, 1414, 1415, 1416, 1417, 1418, 1419, 1420, 1421, 1422, 1423, 1424, 1425, 1426, 1427, 1428, 1429] (by decide +kernel) (by decide +kernel)
set_option maxRecDepth 20000 in
theorem gL_law_X9_addAxle : GoodIn wsL_law (wsV RL 260 RX9 yX9_addAxle wsX9_addAxle) := goodIn_app (goodIn_of _ (by decide +kernel)) ggL_law_X9_addAxle
set_option maxRecDepth 20000 in
theorem ggL_law_L_dropAxle : GoodIn wsL_law wsL_dropAxle := goodIn_ca (goodIn_r _ [1283, 662, 1284, 1285, 1286, 2, 1287, 22, 613, 1258, 1259, 1260, 1261, 41, 671, 672, 673, 674, 675, 676, 677, 161, 162, 81, 163, 90, 95, 96, 449, 450, 451, 40, 452, 125, 124, 453, 454, 455, 456, 457, 432, 433, 21, 434, 77, 78, 82, 83, 84, 85, 435, 436, 437, 438, 439, 149, 93, 150, 440, 157, 158, 159, 160, 441, 442, 443, 444, 682, 1146, 1147, 1148, 1149, 1394, 1395, 1396, 1397, 1398, 1399, 1400, 1401, 1402, 1403, 1404, 1405, 1406, 1407, 1435, 1436, 1437, 1438, 1439, 1440, 1462, 1463, 1464, 1453, 1454] (by decide +kernel) (by decide +kernel)) (goodIn_sub (fun _ h => List.mem_append_right _ h) (by decide +kernel))
set_option maxRecDepth 20000 in
theorem gL_law_L_dropAxle : GoodIn wsL_law (va_wsS RL 261 yL_dropAxle wsL_dropAxle) := goodIn_app (goodIn_of _ (by decide +kernel)) ggL_law_L_dropAxle
set_option maxRecDepth 20000 in
theorem ggL_law_X9_dropAxle : GoodIn wsL_law wsX9_dropAxle := goodIn_r _ [1291, 203, 243, 486, 487, 5, 488, 588, 589, 590, 591, 592, 205, 467, 468, 469, 1266, 1267, 1268, 1269, 1408, 1409, 1410, 1411, 1412, 1413, 1414, 1415, 1416, 1417, 1418, 1419, 1420, 1421, 1422, 1423, 1424, 1425, 1426, 1427, 1428, 1429] (by decide +kernel) (by decide +kernel)
set_option maxRecDepth 20000 in
theorem gL_law_X9_dropAxle : GoodIn wsL_law (wsV RL 263 RX9 yX9_dropAxle wsX9_dropAxle) := goodIn_app (goodIn_of _ (by decide +kernel)) ggL_law_X9_dropAxle
set_option maxRecDepth 20000 in
theorem ggL_law_L_setBearing : GoodIn wsL_law wsL_setBearing := goodIn_ca (goodIn_ca (goodIn_r _ [1294, 662, 604, 1295, 1296, 1297, 2, 1298, 22, 50, 1299, 41, 671, 672, 673, 674, 675, 676, 677, 161, 162, 81, 163, 90, 95, 96, 678, 679, 680, 681, 609, 610, 449, 450, 451, 40, 452, 125, 124, 453, 454, 455, 456, 457, 432, 433, 21, 434, 77, 78, 82, 83, 84, 85, 435, 436, 437, 438, 439, 149, 93, 150, 440, 157, 158, 159, 160, 441, 442, 443, 444, 683, 1300, 1301, 1302, 1303, 1394, 1395, 1396, 1397, 1398, 1399, 1400, 1401, 1402, 1403, 1404, 1405, 1406, 1407, 1435, 1436, 1437, 1438, 1439, 1440, 1462, 1463, 1464, 1453, 1454] (by decide +kernel) (by decide +kernel)) (goodIn_sub (fun _ h => List.mem_append_right _ h) (by decide +kernel))) (goodIn_sub (fun _ h => List.mem_append_left _ (List.mem_append_right _ h)) (by decide +kernel))
set_option maxRecDepth 20000 in
theorem gL_law_L_setBearing : GoodIn wsL_law (va_wsS RL 264 yL_setBearing wsL_setBearing) := goodIn_app (goodIn_of _ (by decide +kernel)) ggL_law_L_setBearing
set_option maxRecDepth 20000 in
theorem ggL_law_X9_setBearing : GoodIn wsL_law wsX9_setBearing := goodIn_r _ [1307, 527, 243, 203, 688, 689, 690, 5, 691, 486, 487, 488, 588, 589, 590, 591, 592, 205, 467, 468, 469, 1085, 1086, 1087, 1088, 1408, 1409, 1410, 1411, 1412, 1413, 1414, 1415, 1416, 1417, 1418, 1419, 1420, 1421, 1422, 1423, 1424, 1425, 1426, 1427, 1428, 1429] (by decide +kernel) (by decide +kernel)
set_option maxRecDepth 20000 in
theorem gL_law_X9_setBearing : GoodIn wsL_law (wsV RL 266 RX9 yX9_setBearing wsX9_setBearing) := goodIn_app (goodIn_of _ (by decide +kernel)) ggL_law_X9_setBearing
set_option maxRecDepth 20000 in
theorem ggL_law_L_setMost : GoodIn wsL_law wsL_setMost := goodIn_ca (goodIn_r _ [1310, 604, 1311, 1312, 1313, 2, 1314, 1315, 41, 22, 49, 678, 679, 680, 681, 609, 610, 449, 450, 451, 40, 452, 125, 124, 453, 454, 455, 456, 457, 432, 433, 21, 434, 77, 78, 82, 83, 84, 85, 435, 436, 437, 81, 438, 90, 95, 96, 439, 149, 93, 150, 440, 157, 158, 159, 160, 161, 162, 163, 441, 442, 443, 444, 1394, 1395, 1396, 1397, 1398, 1399, 1400, 1401, 1402, 1403, 1404, 1405, 1406, 1407, 1435, 1436, 1437, 1438, 1439, 1440, 1453, 1454, 1462, 1463, 1464] (by decide +kernel) (by decide +kernel)) (goodIn_sub (fun _ h => List.mem_append_left _ (List.mem_append_right _ h)) (by decide +kernel))
set_option maxRecDepth 20000 in
theorem gL_law_L_setMost : GoodIn wsL_law (va_wsS RL 267 yL_setMost wsL_setMost) := goodIn_app (goodIn_of _ (by decide +kernel)) ggL_law_L_setMost
set_option maxRecDepth 20000 in
theorem ggL_law_X9_setMost : GoodIn wsL_law wsX9_setMost := goodIn_r _ [1319, 464, 243, 203, 486, 487, 5, 488, 588, 589, 590, 591, 592, 205, 467, 468, 469, 1408, 1409, 1410, 1411, 1412, 1413, 1414, 1415, 1416, 1417, 1418, 1419, 1420, 1421, 1422, 1423, 1424, 1425, 1426, 1427, 1428, 1429] (by decide +kernel) (by decide +kernel)
set_option maxRecDepth 20000 in
theorem gL_law_X9_setMost : GoodIn wsL_law (wsV RL 269 RX9 yX9_setMost wsX9_setMost) := goodIn_app (goodIn_of _ (by decide +kernel)) ggL_law_X9_setMost
set_option maxRecDepth 20000 in
theorem ggL_law_L_undo : GoodIn wsL_law wsL_undo := goodIn_ca (goodIn_r _ [1322, 218, 1323, 1324, 1325, 2, 1326, 223, 224, 41, 22, 26, 1327, 1328, 1329, 1330, 40, 1331, 125, 124, 457, 432, 433, 21, 434, 77, 78, 82, 83, 84, 85, 435, 436, 437, 81, 438, 90, 95, 96, 439, 149, 93, 150, 440, 157, 158, 159, 160, 161, 162, 163, 441, 442, 443, 444, 142, 143, 144, 25, 145, 146, 147, 148, 103, 151, 104, 152, 153, 154, 155, 101, 156, 164, 165, 166, 167, 168, 92, 94, 169, 170, 171, 172, 173, 174, 175, 176, 177, 178, 179, 180, 181, 182, 183, 184, 185, 186, 187, 188, 102, 189, 190, 191, 192, 193, 194, 195, 105, 196, 197, 198, 1394, 1395, 1396, 1397, 1398, 1399, 1400, 1401, 1402, 1403, 1404, 1405, 1406, 1407, 1453, 1454, 1435, 1436, 1437, 1438, 1439, 1440, 1462, 1463, 1464, 1441, 1442, 1443, 1444, 1445] (by decide +kernel) (by decide +kernel)) (goodIn_sub (fun _ h => List.mem_append_left _ (List.mem_append_left _ (List.mem_append_right _ h))) (by decide +kernel))
set_option maxRecDepth 20000 in
theorem gL_law_L_undo : GoodIn wsL_law (va_wsS RL 270 yL_undo wsL_undo) := goodIn_app (goodIn_of _ (by decide +kernel)) ggL_law_L_undo
set_option maxRecDepth 20000 in
theorem ggL_law_X9_undo : GoodIn wsL_law wsX9_undo := goodIn_r _ [1335, 592, 243, 203, 205, 467, 468, 5, 469, 1408, 1409, 1410, 1411, 1412, 1413, 1414, 1415, 1416, 1417, 1418, 1419, 1420, 1421, 1422, 1423, 1424, 1425, 1426, 1427, 1428, 1429] (by decide +kernel) (by decide +kernel)
set_option maxRecDepth 20000 in
theorem gL_law_X9_undo : GoodIn wsL_law (wsV RL 273 RX9 yX9_undo wsX9_undo) := goodIn_app (goodIn_of _ (by decide +kernel)) ggL_law_X9_undo
set_option maxRecDepth 20000 in
theorem ggL_law_L_save : GoodIn wsL_law wsL_save := goodIn_ca (goodIn_r _ [1338, 662, 1339, 1340, 1341, 2, 1342, 42, 22, 44, 1343, 1344, 1345, 1346, 675, 676, 431, 432, 433, 21, 434, 77, 78, 82, 83, 84, 85, 435, 436, 437, 81, 438, 90, 95, 96, 439, 149, 93, 150, 440, 157, 158, 159, 160, 161, 162, 163, 441, 442, 443, 444, 1394, 1395, 1396, 1397, 1398, 1399, 1400, 1401, 1402, 1403, 1404, 1405, 1406, 1407, 1435, 1436, 1437, 1438, 1439, 1440, 1462, 1463, 1464] (by decide +kernel) (by decide +kernel)) (goodIn_sub (fun _ h => List.mem_append_right _ h) (by decide +kernel))
set_option maxRecDepth 20000 in
theorem gL_law_L_save : GoodIn wsL_law (va_wsS RL 274 yL_save wsL_save) := goodIn_app (goodIn_of _ (by decide +kernel)) ggL_law_L_save
set_option maxRecDepth 20000 in
theorem ggL_law_X9_save : GoodIn wsL_law wsX9_save := goodIn_r _ [1350, 243, 206, 203, 207, 486, 487, 5, 488, 467, 468, 469, 1408, 1409, 1410, 1411, 1412, 1413, 1414, 1415, 1416, 1417, 1418, 1419, 1420, 1421, 1422, 1423, 1424, 1425, 1426, 1427, 1428, 1429] (by decide +kernel) (by decide +kernel)
set_option maxRecDepth 20000 in
theorem gL_law_X9_save : GoodIn wsL_law (wsV RL 277 RX9 yX9_save wsX9_save) := goodIn_app (goodIn_of _ (by decide +kernel)) ggL_law_X9_save
set_option maxRecDepth 20000 in
theorem ggL_law_L_restore : GoodIn wsL_law wsL_restore := goodIn_ca (goodIn_ca (goodIn_r _ [1353, 662, 218, 1354, 1355, 1356, 2, 1357, 223, 224, 44, 41, 22, 42, 26, 50, 258, 1343, 1344, 1345, 1346, 675, 676, 449, 450, 451, 40, 452, 125, 124, 453, 454, 455, 456, 457, 432, 433, 21, 434, 77, 78, 82, 83, 84, 85, 435, 436, 437, 81, 438, 90, 95, 96, 439, 149, 93, 150, 440, 157, 158, 159, 160, 161, 162, 163, 441, 442, 443, 444, 431, 142, 143, 144, 25, 145, 146, 147, 148, 103, 151, 104, 152, 153, 154, 155, 101, 156, 164, 165, 166, 167, 168, 92, 94, 169, 170, 171, 172, 173, 174, 175, 176, 177, 178, 179, 180, 181, 182, 183, 184, 185, 186, 187, 188, 102, 189, 190, 191, 192, 193, 194, 195, 105, 196, 197, 198, 1394, 1395, 1396, 1397, 1398, 1399, 1400, 1401, 1402, 1403, 1404, 1405, 1406, 1407, 1435, 1436, 1437, 1438, 1439, 1440, 1462, 1463, 1464, 1453, 1454, 1441, 1442, 1443, 1444, 1445] (by decide +kernel) (by decide +kernel)) (goodIn_sub (fun _ h => List.mem_append_left _ (List.mem_append_left _ (List.mem_append_right _ h))) (by decide +kernel))) (goodIn_sub (fun _ h => List.mem_append_right _ h) (by decide +kernel))
set_option maxRecDepth 20000 in
theorem gL_law_L_restore : GoodIn wsL_law (va_wsS RL 278 yL_restore wsL_restore) := goodIn_app (goodIn_of _ (by decide +kernel)) ggL_law_L_restore
set_option maxRecDepth 20000 in
theorem ggL_law_X9_restore : GoodIn wsL_law wsX9_restore := goodIn_r _ [1361, 207, 243, 203, 206, 486, 487, 5, 488, 588, 589, 590, 591, 592, 205, 467, 468, 469, 1408, 1409, 1410, 1411, 1412, 1413, 1414, 1415, 1416, 1417, 1418, 1419, 1420, 1421, 1422, 1423, 1424, 1425, 1426, 1427, 1428, 1429] (by decide +kernel) (by decide +kernel)
set_option maxRecDepth 20000 in
theorem gL_law_X9_restore : GoodIn wsL_law (wsV RL 280 RX9 yX9_restore wsX9_restore) := goodIn_app (goodIn_of _ (by decide +kernel)) ggL_law_X9_restore
set_option maxRecDepth 20000 in
theorem ggL_law_X8_writeBeam : GoodIn wsL_law wsX8_writeBeam := goodIn_r _ [1365, 22, 48, 47, 46, 1366, 1367, 1368, 21, 1369, 82, 83, 84, 407, 408, 409, 81, 410, 90, 95, 1370, 1371, 1372, 1373, 96, 1394, 1395, 1396, 1397, 1398, 1399, 1400, 1401, 1402, 1403, 1404, 1405, 1406, 1407, 1435, 1436, 1437, 1438, 1439, 1440, 1462, 1463, 1464] (by decide +kernel) (by decide +kernel)
set_option maxRecDepth 20000 in
theorem gL_law_X8_writeBeam : GoodIn wsL_law (wsV RL 281 RX8 yX8_writeBeam wsX8_writeBeam) := goodIn_app (goodIn_of _ (by decide +kernel)) ggL_law_X8_writeBeam
set_option maxRecDepth 20000 in
theorem ggL_law_X9_writeBeam : GoodIn wsL_law wsX9_writeBeam := goodIn_r _ [1377, 243, 213, 1378, 652, 653, 654, 5, 655, 203, 536, 537, 538, 539, 540, 541, 542, 543, 544, 545, 546, 547, 1379, 1380, 1381, 1382, 1408, 1409, 1410, 1411, 1412, 1413, 1414, 1415, 1416, 1417, 1418, 1419, 1420, 1421, 1422, 1423, 1424, 1425, 1426, 1427, 1428, 1429] (by decide +kernel) (by decide +kernel)
set_option maxRecDepth 20000 in
theorem gL_law_X9_writeBeam : GoodIn wsL_law (wsV RL 284 RX9 yX9_writeBeam wsX9_writeBeam) := goodIn_app (goodIn_of _ (by decide +kernel)) ggL_law_X9_writeBeam
set_option maxRecDepth 20000 in
theorem ggL_law_L_writtenByte : GoodIn wsL_law wsL_writtenByte := goodIn_ca (goodIn_r _ [1385, 662, 1386, 1387, 1388, 2, 1389, 675, 676, 47, 46, 1394, 1395, 1396, 1397, 1398, 1399, 1400, 1401, 1402, 1403, 1404, 1405, 1406, 1407] (by decide +kernel) (by decide +kernel)) (goodIn_sub (fun _ h => List.mem_append_right _ h) (by decide +kernel))
set_option maxRecDepth 20000 in
theorem gL_law_L_writtenByte : GoodIn wsL_law (va_wsS RL 285 yL_writtenByte wsL_writtenByte) := goodIn_app (goodIn_of _ (by decide +kernel)) ggL_law_L_writtenByte
set_option maxRecDepth 20000 in
theorem ggL_law_X9_writtenByte : GoodIn wsL_law wsX9_writtenByte := goodIn_r _ [1393, 1378, 243, 213, 486, 487, 5, 488, 1408, 1409, 1410, 1411, 1412, 1413, 1414, 1415, 1416, 1417, 1418, 1419, 1420, 1421, 1422, 1423, 1424, 1425, 1426, 1427, 1428, 1429] (by decide +kernel) (by decide +kernel)
set_option maxRecDepth 20000 in
theorem gL_law_X9_writtenByte : GoodIn wsL_law (wsV RL 287 RX9 yX9_writtenByte wsX9_writtenByte) := goodIn_app (goodIn_of _ (by decide +kernel)) ggL_law_X9_writtenByte
theorem dL_law_0 : decode cL_law 0 = .ok (.new 8, 3) := by decide +kernel
theorem dL_law_3 : decode cL_law 3 = .ok (.dup, 1) := by decide +kernel
theorem dL_law_4 : decode cL_law 4 = .ok (.invokespecial 129, 3) := by decide +kernel
theorem dL_law_7 : decode cL_law 7 = .ok (.astore_n 1, 1) := by decide +kernel
theorem dL_law_8 : decode cL_law 8 = .ok (.new 130, 3) := by decide +kernel
theorem dL_law_11 : decode cL_law 11 = .ok (.dup, 1) := by decide +kernel
theorem dL_law_12 : decode cL_law 12 = .ok (.invokespecial 132, 3) := by decide +kernel
theorem dL_law_15 : decode cL_law 15 = .ok (.astore_n 2, 1) := by decide +kernel
theorem dL_law_16 : decode cL_law 16 = .ok (.iconst 1, 1) := by decide +kernel
theorem dL_law_17 : decode cL_law 17 = .ok (.newarray .long, 2) := by decide +kernel
theorem dL_law_19 : decode cL_law 19 = .ok (.astore_n 3, 1) := by decide +kernel
theorem dL_law_20 : decode cL_law 20 = .ok (.iconst 1, 1) := by decide +kernel
theorem dL_law_21 : decode cL_law 21 = .ok (.newarray .double, 2) := by decide +kernel
theorem dL_law_23 : decode cL_law 23 = .ok (.astore 4, 2) := by decide +kernel
theorem dL_law_25 : decode cL_law 25 = .ok (.iconst 0, 1) := by decide +kernel
theorem dL_law_26 : decode cL_law 26 = .ok (.istore 5, 2) := by decide +kernel
theorem dL_law_28 : decode cL_law 28 = .ok (.iload 5, 2) := by decide +kernel
theorem dL_law_30 : decode cL_law 30 = .ok (.aload_n 0, 1) := by decide +kernel
theorem dL_law_31 : decode cL_law 31 = .ok (.arraylength, 1) := by decide +kernel
theorem dL_law_32 : decode cL_law 32 = .ok (.bipush 6, 2) := by decide +kernel
theorem dL_law_34 : decode cL_law 34 = .ok (.isub, 1) := by decide +kernel
theorem dL_law_35 : decode cL_law 35 = .ok (.if_icmp .gt 2632, 3) := by decide +kernel
theorem dL_law_38 : decode cL_law 38 = .ok (.aload_n 0, 1) := by decide +kernel
theorem dL_law_39 : decode cL_law 39 = .ok (.iload 5, 2) := by decide +kernel
theorem dL_law_41 : decode cL_law 41 = .ok (.iaload, 1) := by decide +kernel
theorem dL_law_42 : decode cL_law 42 = .ok (.bipush 63, 2) := by decide +kernel
theorem dL_law_44 : decode cL_law 44 = .ok (.iand, 1) := by decide +kernel
theorem dL_law_45 : decode cL_law 45 = .ok (.tableswitch 2616 0 43 #[191, 295, 308, 321, 377, 391, 459, 515, 583, 651, 707, 774, 841, 908, 963, 1019, 1086, 1153, 1220, 1287, 1371, 1455, 1539, 1552, 1608, 1621, 1634, 1723, 1766, 1834, 1890, 1903, 1971, 2039, 2107, 2163, 2231, 2287, 2355, 2411, 2455, 2491, 2547, 2560], 191) := by decide +kernel
theorem dL_law_236 : decode cL_law 236 = .ok (.aload_n 1, 1) := by decide +kernel
theorem dL_law_237 : decode cL_law 237 = .ok (.aload_n 0, 1) := by decide +kernel
theorem dL_law_238 : decode cL_law 238 = .ok (.iload 5, 2) := by decide +kernel
theorem dL_law_240 : decode cL_law 240 = .ok (.iconst 1, 1) := by decide +kernel
theorem dL_law_241 : decode cL_law 241 = .ok (.iadd, 1) := by decide +kernel
theorem dL_law_242 : decode cL_law 242 = .ok (.iaload, 1) := by decide +kernel
theorem dL_law_243 : decode cL_law 243 = .ok (.aload_n 0, 1) := by decide +kernel
theorem dL_law_244 : decode cL_law 244 = .ok (.iload 5, 2) := by decide +kernel
theorem dL_law_246 : decode cL_law 246 = .ok (.iconst 2, 1) := by decide +kernel
theorem dL_law_247 : decode cL_law 247 = .ok (.iadd, 1) := by decide +kernel
theorem dL_law_248 : decode cL_law 248 = .ok (.iaload, 1) := by decide +kernel
theorem dL_law_249 : decode cL_law 249 = .ok (.aload_n 0, 1) := by decide +kernel
theorem dL_law_250 : decode cL_law 250 = .ok (.iload 5, 2) := by decide +kernel
theorem dL_law_252 : decode cL_law 252 = .ok (.iconst 3, 1) := by decide +kernel
theorem dL_law_253 : decode cL_law 253 = .ok (.iadd, 1) := by decide +kernel
theorem dL_law_254 : decode cL_law 254 = .ok (.iaload, 1) := by decide +kernel
theorem dL_law_255 : decode cL_law 255 = .ok (.aload_n 0, 1) := by decide +kernel
theorem dL_law_256 : decode cL_law 256 = .ok (.iload 5, 2) := by decide +kernel
theorem dL_law_258 : decode cL_law 258 = .ok (.iconst 4, 1) := by decide +kernel
theorem dL_law_259 : decode cL_law 259 = .ok (.iadd, 1) := by decide +kernel
theorem dL_law_260 : decode cL_law 260 = .ok (.iaload, 1) := by decide +kernel
theorem dL_law_261 : decode cL_law 261 = .ok (.aload_n 0, 1) := by decide +kernel
theorem dL_law_262 : decode cL_law 262 = .ok (.iload 5, 2) := by decide +kernel
theorem dL_law_264 : decode cL_law 264 = .ok (.iconst 5, 1) := by decide +kernel
theorem dL_law_265 : decode cL_law 265 = .ok (.iadd, 1) := by decide +kernel
theorem dL_law_266 : decode cL_law 266 = .ok (.iaload, 1) := by decide +kernel
theorem dL_law_267 : decode cL_law 267 = .ok (.aload_n 3, 1) := by decide +kernel
theorem dL_law_268 : decode cL_law 268 = .ok (.invokestatic 133, 3) := by decide +kernel
