set_option maxRecDepth 20000 in
theorem ggL_law_X8_realm : GoodIn wsL_law wsX8_realm := goodIn_r _ [238, 20, 38, 22, 239, 40, 240, 241, 37, 26, 242, 243, 244, 245, 19, 246, 49, 247, 248, 249, 250, 251, 36, 252, 91, 253, 94, 95, 96, 97, 98, 254, 143, 144, 145, 255, 256, 257, 48, 258, 62, 259, 260, 261, 262, 60, 58, 59, 263, 264, 265, 266, 57, 267, 268, 269, 270, 61, 271, 272, 273, 274, 50, 275, 276, 277, 278, 279, 280, 281, 282, 283, 284, 285, 286, 287, 288, 289, 290, 291, 292, 293, 294, 295, 296, 297, 298, 299, 300, 301, 302, 303, 304, 305, 306, 307, 308, 309, 310, 311, 312, 313, 314, 315, 316, 317, 318, 319, 320, 321, 322, 323, 324, 325, 326, 327, 328, 329, 330, 331, 332, 51, 333, 52, 334, 335, 336, 337, 338, 339, 131, 2, 132, 340, 341, 342, 343, 344, 345, 346, 347, 348, 349, 350, 351, 352, 353, 354, 355, 356, 357, 358, 359, 360, 361, 362, 363, 364, 365, 366, 367, 92, 368, 369, 370, 371, 372, 373, 374, 375, 376, 377, 378, 379, 380, 381, 382, 383, 384, 93, 385, 386, 387, 388, 389, 390, 391, 392, 393, 394, 395, 396, 397, 398, 399, 25, 400, 69, 70, 1038, 1039, 1040, 1041, 1042, 1043, 1044, 1045, 1046, 1047, 1048, 1075, 1076, 1077, 1078, 1092, 1093, 1094, 1095, 1096, 1097, 1098, 1099, 1103, 1104, 1105, 1106, 1107, 1108, 1079, 1080, 1081] (by decide +kernel) (by decide +kernel)
set_option maxRecDepth 20000 in
theorem gL_law_X8_realm : GoodIn wsL_law (wsV RL 39 RX8 yX8_realm wsX8_realm) := goodIn_app (goodIn_of _ (by decide +kernel)) ggL_law_X8_realm
set_option maxRecDepth 20000 in
theorem ggL_law_X9_realm : GoodIn wsL_law wsX9_realm := goodIn_r _ [404, 154, 113, 405, 406, 407, 408, 409, 410, 411, 412, 413, 414, 415, 112, 416, 417, 418, 5, 419, 232, 420, 421, 422, 423, 424, 425, 426, 427, 428, 429, 430, 431, 432, 115, 433, 434, 435, 436, 437, 438, 439, 440, 441, 442, 443, 444, 445, 446, 447, 448, 449, 450, 451, 452, 453, 454, 455, 456, 457, 458, 162, 163, 164, 459, 460, 461, 462, 463, 464, 465, 466, 467, 468, 469, 470, 471, 472, 473, 474, 475, 476, 477, 478, 479, 480, 481, 482, 483, 484, 485, 486, 487, 488, 489, 490, 1049, 1050, 1051, 1052, 1053, 1054, 1055, 1056, 1057, 1058, 1059, 1060, 1061, 1062, 1063, 1064, 1065, 1066, 1067, 1068, 1069, 1070, 1071, 1072, 1073, 1074] (by decide +kernel) (by decide +kernel)
set_option maxRecDepth 20000 in
theorem gL_law_X9_realm : GoodIn wsL_law (wsV RL 43 RX9 yX9_realm wsX9_realm) := goodIn_app (goodIn_of _ (by decide +kernel)) ggL_law_X9_realm
set_option maxRecDepth 20000 in
theorem ggL_law_X8_fault : GoodIn wsL_law wsX8_fault := goodIn_r _ [494, 40, 1038, 1039, 1040, 1041, 1042, 1043, 1044, 1045, 1046, 1047, 1048] (by decide +kernel) (by decide +kernel)
set_option maxRecDepth 20000 in
theorem gL_law_X8_fault : GoodIn wsL_law (wsV RL 44 RX8 yX8_fault wsX8_fault) := goodIn_app (goodIn_of _ (by decide +kernel)) ggL_law_X8_fault
set_option maxRecDepth 20000 in
theorem ggL_law_X9_fault : GoodIn wsL_law wsX9_fault := goodIn_r _ [498, 154, 411, 1049, 1050, 1051, 1052, 1053, 1054, 1055, 1056, 1057, 1058, 1059, 1060, 1061, 1062, 1063, 1064, 1065, 1066, 1067, 1068, 1069, 1070, 1071, 1072, 1073, 1074] (by decide +kernel) (by decide +kernel)
set_option maxRecDepth 20000 in
theorem gL_law_X9_fault : GoodIn wsL_law (wsV RL 47 RX9 yX9_fault wsX9_fault) := goodIn_app (goodIn_of _ (by decide +kernel)) ggL_law_X9_fault
set_option maxRecDepth 20000 in
theorem ggL_law_X8_pass : GoodIn wsL_law wsX8_pass := goodIn_r _ [502, 37, 503, 126, 504, 505, 26, 506, 507, 508, 509, 2, 510, 242, 130, 131, 132, 511, 512, 513, 36, 514, 94, 515, 516, 517, 518, 519, 520, 521, 522, 25, 523, 68, 69, 524, 197, 198, 199, 70, 525, 357, 358, 359, 526, 386, 387, 388, 1038, 1039, 1040, 1041, 1042, 1043, 1044, 1045, 1046, 1047, 1048, 1092, 1093, 1094, 1095, 1096, 1097, 1098, 1099, 1079, 1080, 1081] (by decide +kernel) (by decide +kernel)
set_option maxRecDepth 20000 in
theorem gL_law_X8_pass : GoodIn wsL_law (wsV RL 48 RX8 yX8_pass wsX8_pass) := goodIn_app (goodIn_of _ (by decide +kernel)) ggL_law_X8_pass
set_option maxRecDepth 20000 in
theorem ggL_law_X9_pass : GoodIn wsL_law wsX9_pass := goodIn_r _ [530, 154, 156, 112, 531, 532, 533, 534, 5, 535, 162, 163, 164, 536, 537, 538, 539, 540, 541, 542, 543, 544, 545, 546, 547, 548, 549, 550, 551, 415, 114, 552, 553, 554, 555, 1049, 1050, 1051, 1052, 1053, 1054, 1055, 1056, 1057, 1058, 1059, 1060, 1061, 1062, 1063, 1064, 1065, 1066, 1067, 1068, 1069, 1070, 1071, 1072, 1073, 1074] (by decide +kernel) (by decide +kernel)
set_option maxRecDepth 20000 in
theorem gL_law_X9_pass : GoodIn wsL_law (wsV RL 52 RX9 yX9_pass wsX9_pass) := goodIn_app (goodIn_of _ (by decide +kernel)) ggL_law_X9_pass
set_option maxRecDepth 20000 in
theorem ggL_law_X8_send : GoodIn wsL_law wsX8_send := goodIn_r _ [559, 126, 37, 505, 507, 508, 509, 2, 510, 242, 130, 131, 132, 560, 561, 562, 36, 563, 564, 565, 516, 517, 518, 519, 512, 513, 514, 94, 566, 567, 568, 569, 92, 570, 571, 572, 573, 91, 253, 574, 575, 576, 577, 26, 506, 520, 521, 522, 25, 523, 68, 69, 524, 197, 198, 199, 70, 525, 357, 358, 359, 578, 579, 580, 581, 385, 386, 387, 388, 1038, 1039, 1040, 1041, 1042, 1043, 1044, 1045, 1046, 1047, 1048, 1092, 1093, 1094, 1095, 1096, 1097, 1098, 1099, 1079, 1080, 1081] (by decide +kernel) (by decide +kernel)
set_option maxRecDepth 20000 in
theorem gL_law_X8_send : GoodIn wsL_law (wsV RL 53 RX8 yX8_send wsX8_send) := goodIn_app (goodIn_of _ (by decide +kernel)) ggL_law_X8_send
set_option maxRecDepth 20000 in
theorem ggL_law_X9_send : GoodIn wsL_law wsX9_send := goodIn_r _ [585, 154, 156, 531, 532, 533, 534, 5, 535, 112, 162, 163, 164, 586, 587, 588, 589, 540, 541, 542, 543, 544, 545, 546, 547, 590, 591, 592, 593, 594, 595, 596, 597, 548, 549, 550, 551, 415, 114, 552, 553, 554, 555, 1049, 1050, 1051, 1052, 1053, 1054, 1055, 1056, 1057, 1058, 1059, 1060, 1061, 1062, 1063, 1064, 1065, 1066, 1067, 1068, 1069, 1070, 1071, 1072, 1073, 1074] (by decide +kernel) (by decide +kernel)
set_option maxRecDepth 20000 in
theorem gL_law_X9_send : GoodIn wsL_law (wsV RL 56 RX9 yX9_send wsX9_send) := goodIn_app (goodIn_of _ (by decide +kernel)) ggL_law_X9_send
set_option maxRecDepth 20000 in
theorem ggL_law_X8_sendAll : GoodIn wsL_law wsX8_sendAll := goodIn_r _ [601, 37, 602, 505, 126, 14, 195, 127, 128, 2, 129, 130, 131, 132, 174, 175, 176, 42, 177, 103, 133, 134, 135, 136, 39, 137, 178, 179, 180, 181, 104, 507, 508, 509, 510, 242, 560, 561, 562, 36, 563, 564, 565, 516, 517, 518, 519, 512, 513, 514, 94, 566, 567, 568, 569, 92, 570, 571, 572, 573, 91, 253, 574, 575, 576, 577, 26, 506, 520, 521, 522, 25, 523, 68, 69, 524, 197, 198, 199, 70, 525, 357, 358, 359, 578, 579, 580, 581, 385, 386, 387, 388, 146, 147, 148, 149, 1038, 1039, 1040, 1041, 1042, 1043, 1044, 1045, 1046, 1047, 1048, 1092, 1093, 1094, 1095, 1096, 1097, 1098, 1099, 1100, 1101, 1102, 1079, 1080, 1081] (by decide +kernel) (by decide +kernel)
set_option maxRecDepth 20000 in
theorem gL_law_X8_sendAll : GoodIn wsL_law (wsV RL 57 RX8 yX8_sendAll wsX8_sendAll) := goodIn_app (goodIn_of _ (by decide +kernel)) ggL_law_X8_sendAll
set_option maxRecDepth 20000 in
theorem ggL_law_X9_sendAll : GoodIn wsL_law wsX9_sendAll := goodIn_r _ [606, 154, 414, 531, 607, 156, 109, 110, 111, 157, 158, 159, 5, 160, 161, 162, 163, 164, 165, 166, 167, 168, 169, 532, 533, 534, 535, 112, 586, 587, 588, 589, 540, 541, 542, 543, 544, 545, 546, 547, 590, 591, 592, 593, 594, 595, 596, 597, 548, 549, 550, 551, 415, 114, 552, 553, 554, 555, 1049, 1050, 1051, 1052, 1053, 1054, 1055, 1056, 1057, 1058, 1059, 1060, 1061, 1062, 1063, 1064, 1065, 1066, 1067, 1068, 1069, 1070, 1071, 1072, 1073, 1074] (by decide +kernel) (by decide +kernel)
set_option maxRecDepth 20000 in
theorem gL_law_X9_sendAll : GoodIn wsL_law (wsV RL 60 RX9 yX9_sendAll wsX9_sendAll) := goodIn_app (goodIn_of _ (by decide +kernel)) ggL_law_X9_sendAll
set_option maxRecDepth 20000 in
theorem ggL_law_X8_days : GoodIn wsL_law wsX8_days := goodIn_r _ [611, 37, 602, 505, 126, 222, 26, 506, 130, 131, 2, 132, 612, 613, 614, 36, 615, 94, 520, 521, 522, 25, 523, 68, 69, 524, 197, 198, 199, 70, 525, 357, 358, 359, 616, 617, 618, 619, 98, 620, 621, 622, 623, 519, 512, 513, 514, 385, 386, 387, 388, 624, 625, 626, 627, 628, 629, 630, 631, 632, 633, 634, 635, 93, 566, 567, 568, 569, 92, 570, 571, 572, 573, 91, 253, 564, 636, 637, 638, 639, 96, 1038, 1039, 1040, 1041, 1042, 1043, 1044, 1045, 1046, 1047, 1048, 1092, 1093, 1094, 1095, 1096, 1097, 1098, 1099, 1079, 1080, 1081] (by decide +kernel) (by decide +kernel)
set_option maxRecDepth 20000 in
theorem gL_law_X8_days : GoodIn wsL_law (wsV RL 61 RX8 yX8_days wsX8_days) := goodIn_app (goodIn_of _ (by decide +kernel)) ggL_law_X8_days
set_option maxRecDepth 20000 in
theorem ggL_law_X9_days : GoodIn wsL_law wsX9_days := goodIn_r _ [643, 154, 414, 531, 644, 156, 112, 233, 162, 163, 5, 164, 548, 549, 550, 551, 415, 114, 645, 646, 647, 648, 540, 541, 542, 543, 552, 553, 554, 555, 649, 650, 651, 652, 544, 545, 546, 547, 590, 591, 592, 593, 653, 654, 655, 656, 1049, 1050, 1051, 1052, 1053, 1054, 1055, 1056, 1057, 1058, 1059, 1060, 1061, 1062, 1063, 1064, 1065, 1066, 1067, 1068, 1069, 1070, 1071, 1072, 1073, 1074] (by decide +kernel) (by decide +kernel)
set_option maxRecDepth 20000 in
theorem gL_law_X9_days : GoodIn wsL_law (wsV RL 64 RX9 yX9_days wsX9_days) := goodIn_app (goodIn_of _ (by decide +kernel)) ggL_law_X9_days
