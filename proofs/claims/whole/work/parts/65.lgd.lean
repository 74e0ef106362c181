set_option maxRecDepth 20000 in
theorem ggL_law_X9_save : GoodIn wsL_law wsX9_save := goodIn_r _ [784, 154, 414, 531, 607, 156, 427, 112, 162, 163, 5, 164, 765, 766, 767, 768, 712, 713, 714, 715, 544, 545, 546, 547, 540, 541, 542, 543, 590, 591, 592, 593, 716, 717, 718, 719, 653, 654, 655, 656, 1049, 1050, 1051, 1052, 1053, 1054, 1055, 1056, 1057, 1058, 1059, 1060, 1061, 1062, 1063, 1064, 1065, 1066, 1067, 1068, 1069, 1070, 1071, 1072, 1073, 1074] (by decide +kernel) (by decide +kernel)
set_option maxRecDepth 20000 in
theorem gL_law_X9_save : GoodIn wsL_law (wsV RL 92 RX9 yX9_save wsX9_save) := goodIn_app (goodIn_of _ (by decide +kernel)) ggL_law_X9_save
set_option maxRecDepth 20000 in
theorem ggL_law_X8_tour : GoodIn wsL_law wsX8_tour := goodIn_r _ [788, 37, 602, 505, 503, 126, 30, 789, 130, 131, 2, 132, 790, 791, 792, 29, 793, 76, 77, 78, 794, 795, 796, 797, 798, 799, 800, 801, 802, 803, 804, 805, 806, 75, 807, 571, 572, 36, 573, 91, 253, 564, 808, 809, 810, 811, 74, 812, 197, 198, 199, 813, 814, 815, 816, 98, 565, 516, 517, 518, 519, 512, 513, 514, 94, 632, 633, 634, 635, 93, 620, 621, 622, 623, 636, 637, 638, 639, 96, 817, 818, 819, 820, 1038, 1039, 1040, 1041, 1042, 1043, 1044, 1045, 1046, 1047, 1048, 1092, 1093, 1094, 1095, 1096, 1097, 1098, 1099, 1082, 1083, 1084, 1085] (by decide +kernel) (by decide +kernel)
set_option maxRecDepth 20000 in
theorem gL_law_X8_tour : GoodIn wsL_law (wsV RL 93 RX8 yX8_tour wsX8_tour) := goodIn_app (goodIn_of _ (by decide +kernel)) ggL_law_X8_tour
set_option maxRecDepth 20000 in
theorem ggL_law_X9_tour : GoodIn wsL_law wsX9_tour := goodIn_r _ [824, 154, 414, 531, 112, 156, 427, 117, 162, 163, 5, 164, 825, 826, 827, 828, 116, 829, 830, 831, 832, 590, 591, 592, 593, 833, 834, 835, 836, 837, 838, 839, 840, 540, 541, 542, 543, 653, 654, 655, 656, 1049, 1050, 1051, 1052, 1053, 1054, 1055, 1056, 1057, 1058, 1059, 1060, 1061, 1062, 1063, 1064, 1065, 1066, 1067, 1068, 1069, 1070, 1071, 1072, 1073, 1074] (by decide +kernel) (by decide +kernel)
set_option maxRecDepth 20000 in
theorem gL_law_X9_tour : GoodIn wsL_law (wsV RL 96 RX9 yX9_tour wsX9_tour) := goodIn_app (goodIn_of _ (by decide +kernel)) ggL_law_X9_tour
set_option maxRecDepth 20000 in
theorem ggL_law_X8_mint : GoodIn wsL_law wsX8_mint := goodIn_r _ [844, 37, 602, 505, 126, 130, 131, 2, 132, 845, 846, 847, 36, 848, 849, 850, 851, 852, 98, 699, 700, 701, 702, 564, 91, 356, 357, 358, 359, 253, 620, 621, 622, 623, 519, 512, 513, 514, 94, 632, 633, 634, 635, 93, 566, 567, 568, 569, 92, 565, 516, 517, 518, 636, 637, 638, 639, 96, 741, 742, 743, 853, 1038, 1039, 1040, 1041, 1042, 1043, 1044, 1045, 1046, 1047, 1048, 1092, 1093, 1094, 1095, 1096, 1097, 1098, 1099] (by decide +kernel) (by decide +kernel)
set_option maxRecDepth 20000 in
theorem gL_law_X8_mint : GoodIn wsL_law (wsV RL 97 RX8 yX8_mint wsX8_mint) := goodIn_app (goodIn_of _ (by decide +kernel)) ggL_law_X8_mint
set_option maxRecDepth 20000 in
theorem ggL_law_X9_mint : GoodIn wsL_law wsX9_mint := goodIn_r _ [857, 154, 414, 531, 156, 162, 163, 5, 164, 858, 859, 860, 861, 112, 427, 544, 545, 546, 547, 540, 541, 542, 543, 590, 591, 592, 593, 716, 717, 718, 719, 653, 654, 655, 656, 1049, 1050, 1051, 1052, 1053, 1054, 1055, 1056, 1057, 1058, 1059, 1060, 1061, 1062, 1063, 1064, 1065, 1066, 1067, 1068, 1069, 1070, 1071, 1072, 1073, 1074] (by decide +kernel) (by decide +kernel)
set_option maxRecDepth 20000 in
theorem gL_law_X9_mint : GoodIn wsL_law (wsV RL 100 RX9 yX9_mint wsX9_mint) := goodIn_app (goodIn_of _ (by decide +kernel)) ggL_law_X9_mint
set_option maxRecDepth 20000 in
theorem ggL_law_X8_sounds : GoodIn wsL_law wsX8_sounds := goodIn_r _ [865, 37, 602, 505, 126, 130, 131, 2, 132, 866, 867, 868, 36, 869, 98, 565, 516, 517, 518, 519, 512, 513, 514, 94, 566, 567, 568, 569, 92, 870, 871, 872, 873, 620, 621, 622, 623, 632, 633, 634, 635, 93, 636, 637, 638, 639, 96, 1038, 1039, 1040, 1041, 1042, 1043, 1044, 1045, 1046, 1047, 1048, 1092, 1093, 1094, 1095, 1096, 1097, 1098, 1099] (by decide +kernel) (by decide +kernel)
set_option maxRecDepth 20000 in
theorem gL_law_X8_sounds : GoodIn wsL_law (wsV RL 101 RX8 yX8_sounds wsX8_sounds) := goodIn_app (goodIn_of _ (by decide +kernel)) ggL_law_X8_sounds
set_option maxRecDepth 20000 in
theorem ggL_law_X9_sounds : GoodIn wsL_law wsX9_sounds := goodIn_r _ [877, 154, 414, 531, 161, 764, 156, 112, 162, 163, 5, 164, 540, 541, 542, 543, 544, 545, 546, 547, 653, 654, 655, 656, 1049, 1050, 1051, 1052, 1053, 1054, 1055, 1056, 1057, 1058, 1059, 1060, 1061, 1062, 1063, 1064, 1065, 1066, 1067, 1068, 1069, 1070, 1071, 1072, 1073, 1074] (by decide +kernel) (by decide +kernel)
set_option maxRecDepth 20000 in
theorem gL_law_X9_sounds : GoodIn wsL_law (wsV RL 104 RX9 yX9_sounds wsX9_sounds) := goodIn_app (goodIn_of _ (by decide +kernel)) ggL_law_X9_sounds
set_option maxRecDepth 20000 in
theorem ggL_law_X8_ear : GoodIn wsL_law wsX8_ear := goodIn_r _ [881, 126, 130, 131, 2, 132, 882, 883, 884, 885, 886, 887, 888, 889, 358, 890] (by decide +kernel) (by decide +kernel)
set_option maxRecDepth 20000 in
theorem gL_law_X8_ear : GoodIn wsL_law (wsV RL 105 RX8 yX8_ear wsX8_ear) := goodIn_app (goodIn_of _ (by decide +kernel)) ggL_law_X8_ear
set_option maxRecDepth 20000 in
theorem ggL_law_X9_ear : GoodIn wsL_law wsX9_ear := goodIn_r _ [894, 154, 676, 895, 156, 162, 163, 5, 164, 896, 897, 898, 1049, 1050, 1051, 1052, 1053, 1054, 1055, 1056, 1057, 1058, 1059, 1060, 1061, 1062, 1063, 1064, 1065, 1066, 1067, 1068, 1069, 1070, 1071, 1072, 1073, 1074] (by decide +kernel) (by decide +kernel)
set_option maxRecDepth 20000 in
theorem gL_law_X9_ear : GoodIn wsL_law (wsV RL 108 RX9 yX9_ear wsX9_ear) := goodIn_app (goodIn_of _ (by decide +kernel)) ggL_law_X9_ear
set_option maxRecDepth 20000 in
theorem ggL_law_X8_image : GoodIn wsL_law wsX8_image := goodIn_r _ [902, 126, 37, 602, 505, 16, 130, 131, 2, 132, 903, 904, 905, 36, 906, 91, 907, 197, 198, 199, 92, 93, 94, 95, 96, 97, 98, 1038, 1039, 1040, 1041, 1042, 1043, 1044, 1045, 1046, 1047, 1048, 1092, 1093, 1094, 1095, 1096, 1097, 1098, 1099] (by decide +kernel) (by decide +kernel)
set_option maxRecDepth 20000 in
theorem gL_law_X8_image : GoodIn wsL_law (wsV RL 109 RX8 yX8_image wsX8_image) := goodIn_app (goodIn_of _ (by decide +kernel)) ggL_law_X8_image
set_option maxRecDepth 20000 in
theorem ggL_law_X9_image : GoodIn wsL_law wsX9_image := goodIn_r _ [911, 154, 156, 414, 531, 120, 112, 119, 162, 163, 5, 164, 1049, 1050, 1051, 1052, 1053, 1054, 1055, 1056, 1057, 1058, 1059, 1060, 1061, 1062, 1063, 1064, 1065, 1066, 1067, 1068, 1069, 1070, 1071, 1072, 1073, 1074] (by decide +kernel) (by decide +kernel)
set_option maxRecDepth 20000 in
theorem gL_law_X9_image : GoodIn wsL_law (wsV RL 112 RX9 yX9_image wsX9_image) := goodIn_app (goodIn_of _ (by decide +kernel)) ggL_law_X9_image
set_option maxRecDepth 20000 in
theorem ggL_law_X8_restore : GoodIn wsL_law wsX8_restore := goodIn_r _ [915, 126, 16, 602, 505, 37, 26, 130, 131, 2, 132, 903, 904, 905, 36, 906, 91, 907, 197, 198, 199, 92, 93, 94, 95, 96, 97, 98, 397, 398, 399, 25, 400, 69, 70, 1038, 1039, 1040, 1041, 1042, 1043, 1044, 1045, 1046, 1047, 1048, 1092, 1093, 1094, 1095, 1096, 1097, 1098, 1099, 1079, 1080, 1081] (by decide +kernel) (by decide +kernel)
set_option maxRecDepth 20000 in
theorem gL_law_X8_restore : GoodIn wsL_law (wsV RL 113 RX8 yX8_restore wsX8_restore) := goodIn_app (goodIn_of _ (by decide +kernel)) ggL_law_X8_restore
