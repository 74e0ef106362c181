set_option maxRecDepth 20000 in
theorem ggL_law_X8_flood : GoodIn wsL_law wsX8_flood := goodIn_r _ [660, 37, 602, 505, 661, 126, 26, 506, 130, 131, 2, 132, 520, 521, 522, 25, 523, 68, 69, 524, 197, 198, 199, 70, 525, 357, 358, 359, 662, 663, 664, 36, 665, 98, 666, 667, 668, 624, 625, 626, 627, 519, 512, 513, 514, 94, 385, 386, 387, 388, 1038, 1039, 1040, 1041, 1042, 1043, 1044, 1045, 1046, 1047, 1048, 1092, 1093, 1094, 1095, 1096, 1097, 1098, 1099, 1079, 1080, 1081] (by decide +kernel) (by decide +kernel)
set_option maxRecDepth 20000 in
theorem gL_law_X8_flood : GoodIn wsL_law (wsV RL 65 RX8 yX8_flood wsX8_flood) := goodIn_app (goodIn_of _ (by decide +kernel)) ggL_law_X8_flood
set_option maxRecDepth 20000 in
theorem ggL_law_X9_flood : GoodIn wsL_law wsX9_flood := goodIn_r _ [672, 154, 414, 531, 673, 156, 112, 674, 675, 676, 162, 163, 5, 164, 548, 549, 550, 551, 415, 114, 540, 541, 542, 543, 552, 553, 554, 555, 1049, 1050, 1051, 1052, 1053, 1054, 1055, 1056, 1057, 1058, 1059, 1060, 1061, 1062, 1063, 1064, 1065, 1066, 1067, 1068, 1069, 1070, 1071, 1072, 1073, 1074] (by decide +kernel) (by decide +kernel)
set_option maxRecDepth 20000 in
theorem gL_law_X9_flood : GoodIn wsL_law (wsV RL 68 RX9 yX9_flood wsX9_flood) := goodIn_app (goodIn_of _ (by decide +kernel)) ggL_law_X9_flood
set_option maxRecDepth 20000 in
theorem ggL_law_X8_undo : GoodIn wsL_law wsX8_undo := goodIn_r _ [680, 26, 681, 505, 37, 506, 682, 683, 684, 25, 685, 69, 68, 524, 197, 198, 199, 70, 1038, 1039, 1040, 1041, 1042, 1043, 1044, 1045, 1046, 1047, 1048, 1079, 1080, 1081, 1092, 1093, 1094, 1095, 1096, 1097, 1098, 1099] (by decide +kernel) (by decide +kernel)
set_option maxRecDepth 20000 in
theorem gL_law_X8_undo : GoodIn wsL_law (wsV RL 69 RX8 yX8_undo wsX8_undo) := goodIn_app (goodIn_of _ (by decide +kernel)) ggL_law_X8_undo
set_option maxRecDepth 20000 in
theorem ggL_law_X9_undo : GoodIn wsL_law wsX9_undo := goodIn_r _ [689, 154, 415, 531, 112, 114, 1049, 1050, 1051, 1052, 1053, 1054, 1055, 1056, 1057, 1058, 1059, 1060, 1061, 1062, 1063, 1064, 1065, 1066, 1067, 1068, 1069, 1070, 1071, 1072, 1073, 1074] (by decide +kernel) (by decide +kernel)
set_option maxRecDepth 20000 in
theorem gL_law_X9_undo : GoodIn wsL_law (wsV RL 72 RX9 yX9_undo wsX9_undo) := goodIn_app (goodIn_of _ (by decide +kernel)) ggL_law_X9_undo
set_option maxRecDepth 20000 in
theorem ggL_law_X8_coin : GoodIn wsL_law wsX8_coin := goodIn_r _ [693, 126, 37, 507, 508, 509, 2, 510, 242, 130, 131, 132, 694, 637, 638, 36, 639, 93, 96, 695, 696, 697, 698, 699, 700, 701, 702, 564, 91, 356, 357, 358, 359, 253, 620, 621, 622, 623, 519, 512, 513, 514, 94, 632, 633, 634, 635, 566, 567, 568, 569, 92, 565, 516, 517, 518, 636, 703, 704, 705, 706, 707, 511, 1038, 1039, 1040, 1041, 1042, 1043, 1044, 1045, 1046, 1047, 1048, 1092, 1093, 1094, 1095, 1096, 1097, 1098, 1099] (by decide +kernel) (by decide +kernel)
set_option maxRecDepth 20000 in
theorem gL_law_X8_coin : GoodIn wsL_law (wsV RL 73 RX8 yX8_coin wsX8_coin) := goodIn_app (goodIn_of _ (by decide +kernel)) ggL_law_X8_coin
set_option maxRecDepth 20000 in
theorem ggL_law_X9_coin : GoodIn wsL_law wsX9_coin := goodIn_r _ [711, 154, 161, 156, 532, 533, 534, 5, 535, 112, 162, 163, 164, 653, 654, 655, 656, 540, 541, 542, 543, 712, 713, 714, 715, 544, 545, 546, 547, 590, 591, 592, 593, 716, 717, 718, 719, 427, 720, 721, 722, 723, 1049, 1050, 1051, 1052, 1053, 1054, 1055, 1056, 1057, 1058, 1059, 1060, 1061, 1062, 1063, 1064, 1065, 1066, 1067, 1068, 1069, 1070, 1071, 1072, 1073, 1074] (by decide +kernel) (by decide +kernel)
set_option maxRecDepth 20000 in
theorem gL_law_X9_coin : GoodIn wsL_law (wsV RL 76 RX9 yX9_coin wsX9_coin) := goodIn_app (goodIn_of _ (by decide +kernel)) ggL_law_X9_coin
set_option maxRecDepth 20000 in
theorem ggL_law_X8_far : GoodIn wsL_law wsX8_far := goodIn_r _ [727, 37, 602, 505, 126, 130, 131, 2, 132, 728, 571, 572, 36, 573, 91, 253, 564, 1038, 1039, 1040, 1041, 1042, 1043, 1044, 1045, 1046, 1047, 1048, 1092, 1093, 1094, 1095, 1096, 1097, 1098, 1099] (by decide +kernel) (by decide +kernel)
set_option maxRecDepth 20000 in
theorem gL_law_X8_far : GoodIn wsL_law (wsV RL 77 RX8 yX8_far wsX8_far) := goodIn_app (goodIn_of _ (by decide +kernel)) ggL_law_X8_far
set_option maxRecDepth 20000 in
theorem ggL_law_X9_far : GoodIn wsL_law wsX9_far := goodIn_r _ [732, 154, 414, 531, 161, 156, 427, 162, 163, 5, 164, 590, 591, 592, 593, 112, 1049, 1050, 1051, 1052, 1053, 1054, 1055, 1056, 1057, 1058, 1059, 1060, 1061, 1062, 1063, 1064, 1065, 1066, 1067, 1068, 1069, 1070, 1071, 1072, 1073, 1074] (by decide +kernel) (by decide +kernel)
set_option maxRecDepth 20000 in
theorem gL_law_X9_far : GoodIn wsL_law (wsV RL 80 RX9 yX9_far wsX9_far) := goodIn_app (goodIn_of _ (by decide +kernel)) ggL_law_X9_far
set_option maxRecDepth 20000 in
theorem ggL_law_X8_late : GoodIn wsL_law wsX8_late := goodIn_r _ [736, 37, 602, 505, 737, 738, 739, 36, 740, 98, 707, 696, 697, 698, 699, 700, 701, 702, 564, 91, 356, 357, 358, 359, 253, 620, 621, 622, 623, 519, 512, 513, 514, 94, 632, 633, 634, 635, 93, 566, 567, 568, 569, 92, 565, 516, 517, 518, 636, 637, 638, 639, 96, 741, 742, 743, 1038, 1039, 1040, 1041, 1042, 1043, 1044, 1045, 1046, 1047, 1048, 1092, 1093, 1094, 1095, 1096, 1097, 1098, 1099] (by decide +kernel) (by decide +kernel)
set_option maxRecDepth 20000 in
theorem gL_law_X8_late : GoodIn wsL_law (wsV RL 81 RX8 yX8_late wsX8_late) := goodIn_app (goodIn_of _ (by decide +kernel)) ggL_law_X8_late
set_option maxRecDepth 20000 in
theorem ggL_law_X9_late : GoodIn wsL_law wsX9_late := goodIn_r _ [747, 154, 414, 531, 112, 427, 712, 713, 714, 5, 715, 544, 545, 546, 547, 540, 541, 542, 543, 590, 591, 592, 593, 716, 717, 718, 719, 653, 654, 655, 656, 1049, 1050, 1051, 1052, 1053, 1054, 1055, 1056, 1057, 1058, 1059, 1060, 1061, 1062, 1063, 1064, 1065, 1066, 1067, 1068, 1069, 1070, 1071, 1072, 1073, 1074] (by decide +kernel) (by decide +kernel)
set_option maxRecDepth 20000 in
theorem gL_law_X9_late : GoodIn wsL_law (wsV RL 84 RX9 yX9_late wsX9_late) := goodIn_app (goodIn_of _ (by decide +kernel)) ggL_law_X9_late
set_option maxRecDepth 20000 in
theorem ggL_law_X8_mustGo : GoodIn wsL_law wsX8_mustGo := goodIn_r _ [751, 37, 602, 505, 126, 130, 131, 2, 132, 752, 753, 754, 36, 755, 98, 756, 757, 758, 759, 564, 565, 516, 517, 518, 519, 512, 513, 514, 94, 699, 700, 701, 702, 91, 356, 357, 358, 359, 253, 620, 621, 622, 623, 632, 633, 634, 635, 93, 566, 567, 568, 569, 92, 636, 637, 638, 639, 96, 1038, 1039, 1040, 1041, 1042, 1043, 1044, 1045, 1046, 1047, 1048, 1092, 1093, 1094, 1095, 1096, 1097, 1098, 1099] (by decide +kernel) (by decide +kernel)
set_option maxRecDepth 20000 in
theorem gL_law_X8_mustGo : GoodIn wsL_law (wsV RL 85 RX8 yX8_mustGo wsX8_mustGo) := goodIn_app (goodIn_of _ (by decide +kernel)) ggL_law_X8_mustGo
set_option maxRecDepth 20000 in
theorem ggL_law_X9_mustGo : GoodIn wsL_law wsX9_mustGo := goodIn_r _ [763, 154, 414, 531, 764, 156, 112, 162, 163, 5, 164, 765, 766, 767, 768, 712, 713, 714, 715, 544, 545, 546, 547, 540, 541, 542, 543, 590, 591, 592, 593, 716, 717, 718, 719, 427, 653, 654, 655, 656, 1049, 1050, 1051, 1052, 1053, 1054, 1055, 1056, 1057, 1058, 1059, 1060, 1061, 1062, 1063, 1064, 1065, 1066, 1067, 1068, 1069, 1070, 1071, 1072, 1073, 1074] (by decide +kernel) (by decide +kernel)
set_option maxRecDepth 20000 in
theorem gL_law_X9_mustGo : GoodIn wsL_law (wsV RL 88 RX9 yX9_mustGo wsX9_mustGo) := goodIn_app (goodIn_of _ (by decide +kernel)) ggL_law_X9_mustGo
set_option maxRecDepth 20000 in
theorem ggL_law_X8_save : GoodIn wsL_law wsX8_save := goodIn_r _ [772, 37, 602, 505, 126, 130, 131, 2, 132, 773, 774, 775, 36, 776, 777, 778, 779, 780, 253, 98, 756, 757, 758, 759, 564, 565, 516, 517, 518, 519, 512, 513, 514, 94, 699, 700, 701, 702, 91, 356, 357, 358, 359, 620, 621, 622, 623, 632, 633, 634, 635, 93, 566, 567, 568, 569, 92, 636, 637, 638, 639, 96, 1038, 1039, 1040, 1041, 1042, 1043, 1044, 1045, 1046, 1047, 1048, 1092, 1093, 1094, 1095, 1096, 1097, 1098, 1099] (by decide +kernel) (by decide +kernel)
set_option maxRecDepth 20000 in
theorem gL_law_X8_save : GoodIn wsL_law (wsV RL 89 RX8 yX8_save wsX8_save) := goodIn_app (goodIn_of _ (by decide +kernel)) ggL_law_X8_save
