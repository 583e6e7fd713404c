set_option maxRecDepth 20000 in
theorem ggL_law_X8_init : GoodIn wsL_law wsX8_init := goodIn_r _ [10, 11, 12, 13, 14, 15, 16, 17, 18, 19, 20, 21, 22, 23, 24, 25, 26, 27, 28, 29, 30, 31, 32, 33, 34, 35, 36, 37, 38, 39, 40, 41, 42, 43, 44, 45, 46, 47, 48, 49, 50, 51, 52, 53, 54, 55, 56, 57, 58, 59, 60, 61, 62, 63, 64, 65, 66, 67, 68, 69, 70, 71, 72, 73, 74, 75, 76, 77, 78, 79, 80, 81, 82, 83, 84, 85, 86, 87, 88, 89, 90, 91, 92, 93, 94, 95, 96, 97, 98, 99, 100, 6, 101, 102, 103, 104, 105, 106, 107, 108, 109, 110, 111, 112, 113, 114, 115, 116, 117, 118, 119, 120, 121, 122, 123, 124, 125, 126, 127, 128, 129, 130, 131, 132, 133, 134, 135, 136, 137, 138, 139, 140, 141, 142, 143, 144, 145, 146, 147, 148, 149, 150, 151, 152, 153, 154, 155, 156, 157, 158, 159, 160, 161, 162, 163, 164, 165, 166, 167, 168, 169, 170, 171, 172, 173, 174, 175, 176, 177, 178, 179, 180, 181, 182, 183, 184, 185, 186, 187, 188, 189, 190, 191, 192, 193, 194, 195, 196, 197, 198, 1430, 1431, 1432, 1433, 1434, 1394, 1395, 1396, 1397, 1398, 1399, 1400, 1401, 1402, 1403, 1404, 1405, 1406, 1407, 1435, 1436, 1437, 1438, 1439, 1440, 1441, 1442, 1443, 1444, 1445, 1446, 1447, 1448, 1449, 1450, 1451, 1452, 1453, 1454, 1455, 1456, 1457, 1458, 1459, 1460, 1461, 1462, 1463, 1464] (by decide +kernel) (by decide +kernel)
set_option maxRecDepth 20000 in
theorem gL_law_X8_init : GoodIn wsL_law (wsX8_init) := ggL_law_X8_init
set_option maxRecDepth 20000 in
theorem ggL_law_X9_init : GoodIn wsL_law wsX9_init := goodIn_r _ [201, 202, 12, 13, 68, 203, 204, 205, 206, 43, 207, 208, 209, 6, 210, 211, 212, 213, 1408, 1409, 1410, 1411, 1412, 1413, 1414, 1415, 1416, 1417, 1418, 1419, 1420, 1421, 1422, 1423, 1424, 1425, 1426, 1427, 1428, 1429] (by decide +kernel) (by decide +kernel)
set_option maxRecDepth 20000 in
theorem gL_law_X9_init : GoodIn wsL_law (wsX9_init) := ggL_law_X9_init
set_option maxRecDepth 20000 in
theorem ggL_law_L_append : GoodIn wsL_law wsL_append := goodIn_ca (goodIn_r _ [217, 218, 219, 220, 221, 2, 222, 223, 224, 17, 225, 226, 227, 228, 229, 230, 231, 232, 233, 234, 235, 236, 56, 237, 67, 66, 1394, 1395, 1396, 1397, 1398, 1399, 1400, 1401, 1402, 1403, 1404, 1405, 1406, 1407, 1430, 1431, 1432, 1433, 1434, 1455, 1456, 1457, 1458, 1459, 1460, 1461] (by decide +kernel) (by decide +kernel)) (goodIn_sub (fun _ h => List.mem_append_left _ (List.mem_append_left _ (List.mem_append_right _ h))) (by decide +kernel))
set_option maxRecDepth 20000 in
theorem gL_law_L_append : GoodIn wsL_law (va_wsS RL 133 yL_append wsL_append) := goodIn_app (goodIn_of _ (by decide +kernel)) ggL_law_L_append
set_option maxRecDepth 20000 in
theorem ggL_law_X9_append : GoodIn wsL_law wsX9_append := goodIn_r _ [241, 242, 243, 208, 244, 245, 5, 246, 1408, 1409, 1410, 1411, 1412, 1413, 1414, 1415, 1416, 1417, 1418, 1419, 1420, 1421, 1422, 1423, 1424, 1425, 1426, 1427, 1428, 1429] (by decide +kernel) (by decide +kernel)
set_option maxRecDepth 20000 in
theorem gL_law_X9_append : GoodIn wsL_law (wsV RL 138 RX9 yX9_append wsX9_append) := goodIn_app (goodIn_of _ (by decide +kernel)) ggL_law_X9_append
set_option maxRecDepth 20000 in
theorem ggL_law_X9_thrown : GoodIn wsL_law wsX9_thrown := goodIn_r _ [250, 243, 1408, 1409, 1410, 1411, 1412, 1413, 1414, 1415, 1416, 1417, 1418, 1419, 1420, 1421, 1422, 1423, 1424, 1425, 1426, 1427, 1428, 1429] (by decide +kernel) (by decide +kernel)
set_option maxRecDepth 20000 in
theorem gL_law_X9_thrown : GoodIn wsL_law (wsV RL 139 RX9 yX9_thrown wsX9_thrown) := goodIn_app (goodIn_of _ (by decide +kernel)) ggL_law_X9_thrown
set_option maxRecDepth 20000 in
theorem ggL_law_X8_load : GoodIn wsL_law wsX8_load := goodIn_r _ [254, 17, 225, 226, 255, 18, 256, 27, 257, 28, 22, 50, 258, 259, 260, 261, 16, 262, 60, 61, 62, 59, 57, 263, 264, 265, 266, 21, 267, 82, 268, 83, 84, 85, 269, 270, 271, 56, 272, 73, 67, 273, 274, 275, 276, 66, 277, 278, 279, 280, 281, 282, 283, 69, 70, 72, 284, 285, 286, 287, 71, 288, 289, 149, 93, 150, 290, 291, 292, 293, 294, 295, 296, 297, 298, 299, 300, 301, 302, 303, 304, 305, 306, 307, 308, 309, 310, 311, 312, 313, 314, 315, 316, 317, 318, 319, 320, 321, 322, 323, 324, 325, 326, 327, 328, 329, 330, 331, 332, 333, 334, 335, 336, 337, 338, 339, 340, 341, 342, 343, 344, 345, 346, 347, 348, 349, 350, 351, 352, 353, 354, 355, 356, 357, 358, 359, 360, 361, 362, 363, 364, 365, 366, 367, 368, 369, 370, 371, 372, 373, 374, 375, 376, 377, 378, 379, 380, 381, 382, 383, 384, 385, 386, 387, 388, 389, 390, 391, 392, 393, 394, 395, 396, 397, 398, 139, 140, 81, 141, 90, 95, 96, 399, 400, 401, 402, 403, 404, 405, 406, 407, 408, 409, 410, 411, 127, 128, 129, 130, 131, 132, 133, 134, 135, 136, 137, 138, 412, 413, 414, 415, 416, 417, 418, 419, 420, 421, 422, 423, 424, 425, 426, 427, 428, 429, 430, 431, 432, 433, 434, 77, 78, 435, 436, 437, 438, 439, 440, 157, 158, 159, 160, 161, 162, 163, 441, 442, 443, 444, 142, 143, 144, 25, 145, 146, 147, 148, 103, 151, 104, 152, 153, 154, 155, 101, 156, 164, 165, 166, 167, 168, 92, 94, 169, 170, 171, 172, 173, 174, 175, 176, 177, 178, 179, 180, 181, 182, 183, 184, 185, 186, 187, 188, 102, 189, 190, 191, 192, 193, 194, 195, 105, 196, 197, 198, 445, 446, 447, 2, 448, 41, 26, 449, 450, 451, 40, 452, 125, 124, 453, 454, 455, 456, 457, 1394, 1395, 1396, 1397, 1398, 1399, 1400, 1401, 1402, 1403, 1404, 1405, 1406, 1407, 1430, 1431, 1432, 1433, 1434, 1455, 1456, 1457, 1458, 1459, 1460, 1461, 1435, 1436, 1437, 1438, 1439, 1440, 1462, 1463, 1464, 1441, 1442, 1443, 1444, 1445, 1453, 1454] (by decide +kernel) (by decide +kernel)
set_option maxRecDepth 20000 in
theorem gL_law_X8_load : GoodIn wsL_law (wsV RL 142 RX8 yX8_load wsX8_load) := goodIn_app (goodIn_of _ (by decide +kernel)) ggL_law_X8_load
set_option maxRecDepth 20000 in
theorem ggL_law_X9_load : GoodIn wsL_law wsX9_load := goodIn_r _ [461, 243, 462, 463, 204, 203, 464, 465, 466, 209, 242, 467, 468, 5, 469, 470, 471, 472, 473, 474, 475, 476, 477, 149, 93, 150, 478, 479, 480, 481, 208, 482, 483, 484, 485, 486, 487, 488, 489, 490, 491, 492, 493, 494, 495, 496, 497, 310, 311, 312, 313, 314, 315, 316, 317, 318, 319, 320, 498, 322, 323, 324, 325, 326, 327, 328, 329, 330, 331, 332, 333, 334, 335, 336, 337, 338, 339, 340, 341, 342, 343, 344, 345, 346, 347, 348, 349, 350, 351, 352, 353, 354, 355, 356, 357, 499, 500, 501, 502, 503, 504, 505, 506, 507, 508, 509, 510, 511, 512, 513, 514, 515, 516, 517, 518, 519, 520, 521, 522, 523, 524, 525, 526, 527, 528, 529, 530, 531, 532, 533, 534, 535, 536, 537, 538, 539, 540, 541, 542, 543, 544, 545, 546, 547, 548, 549, 550, 551, 552, 553, 554, 555, 556, 557, 558, 559, 560, 561, 562, 563, 564, 565, 566, 567, 568, 569, 570, 571, 210, 572, 573, 574, 575, 576, 92, 94, 577, 578, 579, 580, 581, 582, 583, 584, 585, 586, 587, 588, 589, 590, 591, 592, 205, 1408, 1409, 1410, 1411, 1412, 1413, 1414, 1415, 1416, 1417, 1418, 1419, 1420, 1421, 1422, 1423, 1424, 1425, 1426, 1427, 1428, 1429] (by decide +kernel) (by decide +kernel)
set_option maxRecDepth 20000 in
theorem gL_law_X9_load : GoodIn wsL_law (wsV RL 145 RX9 yX9_load wsX9_load) := goodIn_app (goodIn_of _ (by decide +kernel)) ggL_law_X9_load
set_option maxRecDepth 20000 in
theorem ggL_law_X8_errorPosition : GoodIn wsL_law wsX8_errorPosition := goodIn_r _ [596, 18, 1394, 1395, 1396, 1397, 1398, 1399, 1400, 1401, 1402, 1403, 1404, 1405, 1406, 1407] (by decide +kernel) (by decide +kernel)
set_option maxRecDepth 20000 in
theorem gL_law_X8_errorPosition : GoodIn wsL_law (wsV RL 146 RX8 yX8_errorPosition wsX8_errorPosition) := goodIn_app (goodIn_of _ (by decide +kernel)) ggL_law_X8_errorPosition
set_option maxRecDepth 20000 in
theorem ggL_law_X9_errorPosition : GoodIn wsL_law wsX9_errorPosition := goodIn_r _ [600, 243, 209, 1408, 1409, 1410, 1411, 1412, 1413, 1414, 1415, 1416, 1417, 1418, 1419, 1420, 1421, 1422, 1423, 1424, 1425, 1426, 1427, 1428, 1429] (by decide +kernel) (by decide +kernel)
set_option maxRecDepth 20000 in
theorem gL_law_X9_errorPosition : GoodIn wsL_law (wsV RL 149 RX9 yX9_errorPosition wsX9_errorPosition) := goodIn_app (goodIn_of _ (by decide +kernel)) ggL_law_X9_errorPosition
set_option maxRecDepth 20000 in
theorem ggL_law_L_count : GoodIn wsL_law wsL_count := goodIn_ca (goodIn_r _ [603, 604, 605, 606, 607, 2, 608, 609, 610, 22, 48, 50, 258, 611, 612, 613, 49, 614, 615, 616, 81, 617, 90, 440, 157, 158, 159, 95, 160, 161, 162, 163, 96, 618, 619, 620, 21, 621, 85, 268, 77, 622, 623, 624, 625, 91, 92, 93, 94, 441, 442, 443, 444, 1394, 1395, 1396, 1397, 1398, 1399, 1400, 1401, 1402, 1403, 1404, 1405, 1406, 1407, 1435, 1436, 1437, 1438, 1439, 1440, 1462, 1463, 1464] (by decide +kernel) (by decide +kernel)) (goodIn_sub (fun _ h => List.mem_append_left _ (List.mem_append_right _ h)) (by decide +kernel))
set_option maxRecDepth 20000 in
theorem gL_law_L_count : GoodIn wsL_law (va_wsS RL 150 yL_count wsL_count) := goodIn_app (goodIn_of _ (by decide +kernel)) ggL_law_L_count
set_option maxRecDepth 20000 in
theorem ggL_law_X9_count : GoodIn wsL_law wsX9_count := goodIn_r _ [629, 243, 203, 486, 487, 5, 488, 630, 631, 632, 633, 634, 635, 636, 637, 576, 92, 93, 94, 1408, 1409, 1410, 1411, 1412, 1413, 1414, 1415, 1416, 1417, 1418, 1419, 1420, 1421, 1422, 1423, 1424, 1425, 1426, 1427, 1428, 1429] (by decide +kernel) (by decide +kernel)
set_option maxRecDepth 20000 in
theorem gL_law_X9_count : GoodIn wsL_law (wsV RL 153 RX9 yX9_count wsX9_count) := goodIn_app (goodIn_of _ (by decide +kernel)) ggL_law_X9_count
set_option maxRecDepth 20000 in
theorem ggL_law_X8_unit : GoodIn wsL_law wsX8_unit := goodIn_r _ [641, 26, 642, 1394, 1395, 1396, 1397, 1398, 1399, 1400, 1401, 1402, 1403, 1404, 1405, 1406, 1407, 1441, 1442, 1443, 1444, 1445] (by decide +kernel) (by decide +kernel)
set_option maxRecDepth 20000 in
theorem gL_law_X8_unit : GoodIn wsL_law (wsV RL 154 RX8 yX8_unit wsX8_unit) := goodIn_app (goodIn_of _ (by decide +kernel)) ggL_law_X8_unit
set_option maxRecDepth 20000 in
theorem ggL_law_X9_unit : GoodIn wsL_law wsX9_unit := goodIn_r _ [646, 243, 647, 648, 649, 650, 5, 651, 203, 211, 568, 569, 570, 571, 210, 540, 541, 542, 543, 572, 573, 574, 575, 576, 92, 93, 94, 577, 578, 579, 580, 581, 582, 583, 584, 585, 586, 587, 652, 653, 654, 655, 656, 657, 658, 1408, 1409, 1410, 1411, 1412, 1413, 1414, 1415, 1416, 1417, 1418, 1419, 1420, 1421, 1422, 1423, 1424, 1425, 1426, 1427, 1428, 1429] (by decide +kernel) (by decide +kernel)
set_option maxRecDepth 20000 in
theorem gL_law_X9_unit : GoodIn wsL_law (wsV RL 158 RX9 yX9_unit wsX9_unit) := goodIn_app (goodIn_of _ (by decide +kernel)) ggL_law_X9_unit
set_option maxRecDepth 20000 in
theorem ggL_law_L_support : GoodIn wsL_law wsL_support := goodIn_ca (goodIn_ca (goodIn_r _ [661, 662, 604, 663, 664, 665, 2, 666, 22, 50, 667, 668, 669, 670, 671, 672, 673, 674, 675, 676, 677, 161, 162, 81, 163, 90, 95, 96, 678, 679, 680, 681, 609, 610, 682, 157, 158, 159, 160, 683, 442, 443, 444, 1394, 1395, 1396, 1397, 1398, 1399, 1400, 1401, 1402, 1403, 1404, 1405, 1406, 1407, 1435, 1436, 1437, 1438, 1439, 1440, 1462, 1463, 1464] (by decide +kernel) (by decide +kernel)) (goodIn_sub (fun _ h => List.mem_append_right _ h) (by decide +kernel))) (goodIn_sub (fun _ h => List.mem_append_left _ (List.mem_append_right _ h)) (by decide +kernel))
set_option maxRecDepth 20000 in
theorem gL_law_L_support : GoodIn wsL_law (va_wsS RL 159 yL_support wsL_support) := goodIn_app (goodIn_of _ (by decide +kernel)) ggL_law_L_support
set_option maxRecDepth 20000 in
theorem ggL_law_X9_support : GoodIn wsL_law wsX9_support := goodIn_r _ [687, 243, 203, 688, 689, 690, 5, 691, 486, 487, 488, 1408, 1409, 1410, 1411, 1412, 1413, 1414, 1415, 1416, 1417, 1418, 1419, 1420, 1421, 1422, 1423, 1424, 1425, 1426, 1427, 1428, 1429] (by decide +kernel) (by decide +kernel)
set_option maxRecDepth 20000 in
theorem gL_law_X9_support : GoodIn wsL_law (wsV RL 162 RX9 yX9_support wsX9_support) := goodIn_app (goodIn_of _ (by decide +kernel)) ggL_law_X9_support
set_option maxRecDepth 20000 in
theorem ggL_law_L_hinge : GoodIn wsL_law wsL_hinge := goodIn_ca (goodIn_ca (goodIn_r _ [694, 662, 695, 696, 697, 2, 698, 22, 611, 667, 668, 669, 670, 671, 672, 673, 674, 675, 676, 677, 161, 162, 81, 163, 90, 95, 96, 678, 679, 680, 681, 609, 610, 682, 157, 158, 159, 160, 683, 442, 443, 444, 1394, 1395, 1396, 1397, 1398, 1399, 1400, 1401, 1402, 1403, 1404, 1405, 1406, 1407, 1435, 1436, 1437, 1438, 1439, 1440, 1462, 1463, 1464] (by decide +kernel) (by decide +kernel)) (goodIn_sub (fun _ h => List.mem_append_right _ h) (by decide +kernel))) (goodIn_sub (fun _ h => List.mem_append_left _ (List.mem_append_right _ h)) (by decide +kernel))
set_option maxRecDepth 20000 in
theorem gL_law_L_hinge : GoodIn wsL_law (va_wsS RL 163 yL_hinge wsL_hinge) := goodIn_app (goodIn_of _ (by decide +kernel)) ggL_law_L_hinge
set_option maxRecDepth 20000 in
theorem ggL_law_X9_hinge : GoodIn wsL_law wsX9_hinge := goodIn_r _ [702, 243, 203, 703, 704, 705, 5, 706, 486, 487, 488, 1408, 1409, 1410, 1411, 1412, 1413, 1414, 1415, 1416, 1417, 1418, 1419, 1420, 1421, 1422, 1423, 1424, 1425, 1426, 1427, 1428, 1429] (by decide +kernel) (by decide +kernel)
set_option maxRecDepth 20000 in
theorem gL_law_X9_hinge : GoodIn wsL_law (wsV RL 165 RX9 yX9_hinge wsX9_hinge) := goodIn_app (goodIn_of _ (by decide +kernel)) ggL_law_X9_hinge
set_option maxRecDepth 20000 in
theorem ggL_law_L_weight : GoodIn wsL_law wsL_weight := goodIn_ca (goodIn_ca (goodIn_r _ [709, 662, 604, 710, 711, 712, 2, 713, 22, 612, 667, 668, 669, 670, 671, 672, 673, 674, 675, 676, 677, 161, 162, 81, 163, 90, 95, 96, 678, 679, 680, 681, 609, 610, 682, 157, 158, 159, 160, 683, 442, 443, 444, 1394, 1395, 1396, 1397, 1398, 1399, 1400, 1401, 1402, 1403, 1404, 1405, 1406, 1407, 1435, 1436, 1437, 1438, 1439, 1440, 1462, 1463, 1464] (by decide +kernel) (by decide +kernel)) (goodIn_sub (fun _ h => List.mem_append_right _ h) (by decide +kernel))) (goodIn_sub (fun _ h => List.mem_append_left _ (List.mem_append_right _ h)) (by decide +kernel))
set_option maxRecDepth 20000 in
theorem gL_law_L_weight : GoodIn wsL_law (va_wsS RL 166 yL_weight wsL_weight) := goodIn_app (goodIn_of _ (by decide +kernel)) ggL_law_L_weight
set_option maxRecDepth 20000 in
theorem ggL_law_X9_weight : GoodIn wsL_law wsX9_weight := goodIn_r _ [717, 203, 243, 486, 487, 5, 488, 1408, 1409, 1410, 1411, 1412, 1413, 1414, 1415, 1416, 1417, 1418, 1419, 1420, 1421, 1422, 1423, 1424, 1425, 1426, 1427, 1428, 1429] (by decide +kernel) (by decide +kernel)
set_option maxRecDepth 20000 in
theorem gL_law_X9_weight : GoodIn wsL_law (wsV RL 168 RX9 yX9_weight wsX9_weight) := goodIn_app (goodIn_of _ (by decide +kernel)) ggL_law_X9_weight
set_option maxRecDepth 20000 in
theorem ggL_law_L_axle : GoodIn wsL_law wsL_axle := goodIn_ca (goodIn_ca (goodIn_r _ [720, 662, 604, 721, 722, 723, 2, 724, 22, 613, 667, 668, 669, 670, 671, 672, 673, 674, 675, 676, 677, 161, 162, 81, 163, 90, 95, 96, 678, 679, 680, 681, 609, 610, 682, 157, 158, 159, 160, 683, 442, 443, 444, 1394, 1395, 1396, 1397, 1398, 1399, 1400, 1401, 1402, 1403, 1404, 1405, 1406, 1407, 1435, 1436, 1437, 1438, 1439, 1440, 1462, 1463, 1464] (by decide +kernel) (by decide +kernel)) (goodIn_sub (fun _ h => List.mem_append_right _ h) (by decide +kernel))) (goodIn_sub (fun _ h => List.mem_append_left _ (List.mem_append_right _ h)) (by decide +kernel))
set_option maxRecDepth 20000 in
theorem gL_law_L_axle : GoodIn wsL_law (va_wsS RL 169 yL_axle wsL_axle) := goodIn_app (goodIn_of _ (by decide +kernel)) ggL_law_L_axle
set_option maxRecDepth 20000 in
theorem ggL_law_X9_axle : GoodIn wsL_law wsX9_axle := goodIn_r _ [728, 203, 243, 486, 487, 5, 488, 1408, 1409, 1410, 1411, 1412, 1413, 1414, 1415, 1416, 1417, 1418, 1419, 1420, 1421, 1422, 1423, 1424, 1425, 1426, 1427, 1428, 1429] (by decide +kernel) (by decide +kernel)
set_option maxRecDepth 20000 in
theorem gL_law_X9_axle : GoodIn wsL_law (wsV RL 171 RX9 yX9_axle wsX9_axle) := goodIn_app (goodIn_of _ (by decide +kernel)) ggL_law_X9_axle
set_option maxRecDepth 20000 in
theorem ggL_law_L_part : GoodIn wsL_law wsL_part := goodIn_ca (goodIn_r _ [731, 662, 732, 733, 734, 2, 735, 22, 611, 736, 737, 738, 739, 675, 676, 740, 741, 742, 21, 743, 77, 744, 131, 132, 81, 133, 90, 95, 1394, 1395, 1396, 1397, 1398, 1399, 1400, 1401, 1402, 1403, 1404, 1405, 1406, 1407, 1435, 1436, 1437, 1438, 1439, 1440, 1462, 1463, 1464] (by decide +kernel) (by decide +kernel)) (goodIn_sub (fun _ h => List.mem_append_right _ h) (by decide +kernel))
set_option maxRecDepth 20000 in
theorem gL_law_L_part : GoodIn wsL_law (va_wsS RL 172 yL_part wsL_part) := goodIn_app (goodIn_of _ (by decide +kernel)) ggL_law_L_part
set_option maxRecDepth 20000 in
theorem ggL_law_X9_part : GoodIn wsL_law wsX9_part := goodIn_r _ [748, 243, 203, 749, 750, 751, 5, 752, 486, 487, 488, 1408, 1409, 1410, 1411, 1412, 1413, 1414, 1415, 1416, 1417, 1418, 1419, 1420, 1421, 1422, 1423, 1424, 1425, 1426, 1427, 1428, 1429] (by decide +kernel) (by decide +kernel)
set_option maxRecDepth 20000 in
theorem gL_law_X9_part : GoodIn wsL_law (wsV RL 174 RX9 yX9_part wsX9_part) := goodIn_app (goodIn_of _ (by decide +kernel)) ggL_law_X9_part
set_option maxRecDepth 20000 in
theorem ggL_law_L_reactionLine : GoodIn wsL_law wsL_reactionLine := goodIn_ca (goodIn_r _ [755, 662, 756, 757, 758, 2, 759, 22, 50, 26, 671, 672, 673, 674, 675, 676, 677, 161, 162, 81, 163, 90, 95, 96, 736, 737, 738, 739, 740, 741, 742, 21, 743, 77, 760, 761, 762, 25, 763, 103, 104, 102, 1394, 1395, 1396, 1397, 1398, 1399, 1400, 1401, 1402, 1403, 1404, 1405, 1406, 1407, 1435, 1436, 1437, 1438, 1439, 1440, 1462, 1463, 1464, 1441, 1442, 1443, 1444, 1445] (by decide +kernel) (by decide +kernel)) (goodIn_sub (fun _ h => List.mem_append_right _ h) (by decide +kernel))
set_option maxRecDepth 20000 in
theorem gL_law_L_reactionLine : GoodIn wsL_law (va_wsS RL 175 yL_reactionLine wsL_reactionLine) := goodIn_app (goodIn_of _ (by decide +kernel)) ggL_law_L_reactionLine
set_option maxRecDepth 20000 in
theorem ggL_law_X9_reactionLine : GoodIn wsL_law wsX9_reactionLine := goodIn_r _ [767, 243, 688, 689, 690, 5, 691, 203, 486, 487, 488, 749, 750, 751, 752, 648, 649, 650, 651, 211, 647, 568, 569, 570, 571, 210, 540, 541, 542, 543, 572, 573, 574, 575, 576, 92, 93, 94, 577, 578, 579, 580, 581, 582, 583, 584, 585, 586, 587, 652, 653, 654, 655, 656, 657, 658, 768, 769, 770, 771, 1408, 1409, 1410, 1411, 1412, 1413, 1414, 1415, 1416, 1417, 1418, 1419, 1420, 1421, 1422, 1423, 1424, 1425, 1426, 1427, 1428, 1429] (by decide +kernel) (by decide +kernel)
set_option maxRecDepth 20000 in
theorem gL_law_X9_reactionLine : GoodIn wsL_law (wsV RL 177 RX9 yX9_reactionLine wsX9_reactionLine) := goodIn_app (goodIn_of _ (by decide +kernel)) ggL_law_X9_reactionLine
set_option maxRecDepth 20000 in
theorem ggL_law_L_shearLine : GoodIn wsL_law wsL_shearLine := goodIn_ca (goodIn_r _ [774, 662, 775, 776, 777, 2, 778, 32, 22, 26, 779, 780, 781, 782, 675, 676, 48, 736, 737, 738, 739, 740, 741, 742, 21, 743, 77, 783, 784, 785, 31, 786, 787, 788, 789, 790, 109, 110, 113, 791, 792, 793, 794, 795, 796, 797, 798, 799, 800, 801, 802, 803, 804, 805, 761, 762, 25, 763, 103, 104, 102, 806, 807, 808, 809, 810, 811, 112, 111, 812, 161, 162, 81, 163, 90, 95, 96, 813, 157, 158, 159, 160, 814, 815, 816, 817, 818, 819, 820, 821, 1394, 1395, 1396, 1397, 1398, 1399, 1400, 1401, 1402, 1403, 1404, 1405, 1406, 1407, 1435, 1436, 1437, 1438, 1439, 1440, 1446, 1447, 1448, 1449, 1450, 1441, 1442, 1443, 1444, 1445, 1462, 1463, 1464] (by decide +kernel) (by decide +kernel)) (goodIn_sub (fun _ h => List.mem_append_right _ h) (by decide +kernel))
set_option maxRecDepth 20000 in
theorem gL_law_L_shearLine : GoodIn wsL_law (va_wsS RL 178 yL_shearLine wsL_shearLine) := goodIn_app (goodIn_of _ (by decide +kernel)) ggL_law_L_shearLine
set_option maxRecDepth 20000 in
theorem ggL_law_X9_shearLine : GoodIn wsL_law wsX9_shearLine := goodIn_r _ [825, 243, 826, 827, 828, 5, 829, 203, 486, 487, 488, 749, 750, 751, 752, 648, 649, 650, 651, 211, 647, 568, 569, 570, 571, 210, 540, 541, 542, 543, 572, 573, 574, 575, 576, 92, 93, 94, 577, 578, 579, 580, 581, 582, 583, 584, 585, 586, 587, 652, 653, 654, 655, 656, 657, 658, 830, 831, 832, 833, 768, 769, 770, 771, 1408, 1409, 1410, 1411, 1412, 1413, 1414, 1415, 1416, 1417, 1418, 1419, 1420, 1421, 1422, 1423, 1424, 1425, 1426, 1427, 1428, 1429] (by decide +kernel) (by decide +kernel)
set_option maxRecDepth 20000 in
theorem gL_law_X9_shearLine : GoodIn wsL_law (wsV RL 180 RX9 yX9_shearLine wsX9_shearLine) := goodIn_app (goodIn_of _ (by decide +kernel)) ggL_law_X9_shearLine
set_option maxRecDepth 20000 in
theorem ggL_law_L_momentLine : GoodIn wsL_law wsL_momentLine := goodIn_ca (goodIn_r _ [836, 662, 837, 838, 839, 2, 840, 736, 737, 738, 739, 675, 676, 22, 740, 741, 742, 21, 743, 77, 841, 842, 843, 844, 32, 26, 783, 784, 785, 31, 786, 787, 788, 789, 790, 109, 110, 113, 791, 792, 793, 794, 795, 796, 797, 798, 799, 800, 801, 802, 803, 804, 805, 761, 762, 25, 763, 103, 104, 102, 806, 807, 808, 809, 810, 811, 112, 111, 812, 161, 162, 81, 163, 90, 95, 96, 813, 157, 158, 159, 160, 814, 815, 816, 817, 845, 846, 847, 848, 1394, 1395, 1396, 1397, 1398, 1399, 1400, 1401, 1402, 1403, 1404, 1405, 1406, 1407, 1435, 1436, 1437, 1438, 1439, 1440, 1446, 1447, 1448, 1449, 1450, 1441, 1442, 1443, 1444, 1445, 1462, 1463, 1464] (by decide +kernel) (by decide +kernel)) (goodIn_sub (fun _ h => List.mem_append_right _ h) (by decide +kernel))
set_option maxRecDepth 20000 in
theorem gL_law_L_momentLine : GoodIn wsL_law (va_wsS RL 181 yL_momentLine wsL_momentLine) := goodIn_app (goodIn_of _ (by decide +kernel)) ggL_law_L_momentLine
set_option maxRecDepth 20000 in
theorem ggL_law_X9_momentLine : GoodIn wsL_law wsX9_momentLine := goodIn_r _ [852, 243, 749, 750, 751, 5, 752, 203, 486, 487, 488, 648, 649, 650, 651, 211, 647, 568, 569, 570, 571, 210, 540, 541, 542, 543, 572, 573, 574, 575, 576, 92, 93, 94, 577, 578, 579, 580, 581, 582, 583, 584, 585, 586, 587, 652, 653, 654, 655, 656, 657, 658, 853, 854, 855, 856, 768, 769, 770, 771, 1408, 1409, 1410, 1411, 1412, 1413, 1414, 1415, 1416, 1417, 1418, 1419, 1420, 1421, 1422, 1423, 1424, 1425, 1426, 1427, 1428, 1429] (by decide +kernel) (by decide +kernel)
set_option maxRecDepth 20000 in
theorem gL_law_X9_momentLine : GoodIn wsL_law (wsV RL 183 RX9 yX9_momentLine wsX9_momentLine) := goodIn_app (goodIn_of _ (by decide +kernel)) ggL_law_X9_momentLine
set_option maxRecDepth 20000 in
theorem ggL_law_L_area : GoodIn wsL_law wsL_area := goodIn_ca (goodIn_r _ [859, 662, 860, 861, 862, 2, 863, 22, 48, 736, 737, 738, 739, 675, 676, 740, 741, 742, 21, 743, 77, 841, 842, 843, 844, 32, 26, 783, 784, 785, 31, 786, 787, 788, 789, 790, 109, 110, 113, 791, 792, 793, 794, 795, 796, 797, 798, 799, 800, 801, 802, 803, 804, 805, 761, 762, 25, 763, 103, 104, 102, 806, 807, 808, 809, 810, 811, 112, 111, 812, 161, 162, 81, 163, 90, 95, 96, 813, 157, 158, 159, 160, 814, 815, 816, 817, 845, 846, 847, 848, 1394, 1395, 1396, 1397, 1398, 1399, 1400, 1401, 1402, 1403, 1404, 1405, 1406, 1407, 1435, 1436, 1437, 1438, 1439, 1440, 1446, 1447, 1448, 1449, 1450, 1441, 1442, 1443, 1444, 1445, 1462, 1463, 1464] (by decide +kernel) (by decide +kernel)) (goodIn_sub (fun _ h => List.mem_append_right _ h) (by decide +kernel))
set_option maxRecDepth 20000 in
theorem gL_law_L_area : GoodIn wsL_law (va_wsS RL 184 yL_area wsL_area) := goodIn_app (goodIn_of _ (by decide +kernel)) ggL_law_L_area
set_option maxRecDepth 20000 in
theorem ggL_law_X9_area : GoodIn wsL_law wsX9_area := goodIn_r _ [867, 243, 749, 750, 751, 5, 752, 203, 486, 487, 488, 648, 649, 650, 651, 211, 647, 568, 569, 570, 571, 210, 540, 541, 542, 543, 572, 573, 574, 575, 576, 92, 93, 94, 577, 578, 579, 580, 581, 582, 583, 584, 585, 586, 587, 652, 653, 654, 655, 656, 657, 658, 853, 854, 855, 856, 768, 769, 770, 771, 1408, 1409, 1410, 1411, 1412, 1413, 1414, 1415, 1416, 1417, 1418, 1419, 1420, 1421, 1422, 1423, 1424, 1425, 1426, 1427, 1428, 1429] (by decide +kernel) (by decide +kernel)
set_option maxRecDepth 20000 in
theorem gL_law_X9_area : GoodIn wsL_law (wsV RL 186 RX9 yX9_area wsX9_area) := goodIn_app (goodIn_of _ (by decide +kernel)) ggL_law_X9_area
