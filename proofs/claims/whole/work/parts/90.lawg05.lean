set_option maxRecDepth 20000 in
theorem ggL_law_X6_hide : GoodIn wsL_law wsX6_hide := goodIn_r _ [491, 15, 129, 21, 193, 194, 191, 195, 130, 189, 190, 192, 492, 163, 164, 165, 14, 166, 44, 136, 137, 2, 138, 406, 407, 408, 20, 409, 410, 61, 411, 168, 169, 170, 42, 41, 171, 172, 173, 174, 49, 46, 57, 175, 176, 177, 178, 179, 180, 181, 182, 183, 184, 185, 186, 187, 188, 196, 197, 493, 494, 495, 1068, 1069, 1070, 1071, 1072, 1073, 1074, 1075, 1076, 1077, 1117, 1118, 1119, 1120, 1121, 1122, 1123, 1124, 1125, 1126, 1127, 1128, 1129, 1130, 1131, 1132, 1133, 1134, 1155, 1156, 1157] (by decide +kernel) (by decide +kernel)
set_option maxRecDepth 20000 in
theorem gL_law_X6_hide : GoodIn wsL_law (wsV RL 76 RX6 yX6_hide wsX6_hide) := goodIn_app (goodIn_of _ (by decide +kernel)) ggL_law_X6_hide
set_option maxRecDepth 20000 in
theorem ggL_law_X7_hide : GoodIn wsL_law wsX7_hide := goodIn_r _ [499, 147, 99, 205, 206, 207, 5, 208, 149, 150, 151, 213, 214, 215, 216, 115, 217, 218, 219, 220, 209, 210, 211, 212, 221, 222, 223, 224, 114, 225, 226, 227, 228, 229, 230, 1078, 1079, 1080, 1081, 1082, 1083, 1084, 1085, 1086, 1087, 1088, 1089, 1090, 1091, 1092, 1093, 1094, 1095, 1096, 1097, 1098, 1099, 1100, 1101, 1102, 1103, 1104, 1105, 1106, 1107, 1108, 1109, 1110, 1111, 1112, 1113, 1114, 1115, 1116] (by decide +kernel) (by decide +kernel)
set_option maxRecDepth 20000 in
theorem gL_law_X7_hide : GoodIn wsL_law (wsV RL 79 RX7 yX7_hide wsX7_hide) := goodIn_app (goodIn_of _ (by decide +kernel)) ggL_law_X7_hide
set_option maxRecDepth 20000 in
theorem ggL_law_X6_safest : GoodIn wsL_law wsX6_safest := goodIn_r _ [503, 129, 15, 130, 356, 21, 462, 136, 137, 2, 138, 406, 407, 408, 20, 409, 410, 61, 411, 168, 169, 14, 170, 42, 41, 171, 172, 173, 174, 49, 46, 57, 175, 176, 177, 178, 179, 180, 181, 182, 183, 184, 185, 186, 187, 188, 189, 190, 191, 192, 193, 194, 195, 196, 197, 416, 417, 418, 419, 62, 63, 420, 421, 422, 423, 424, 425, 426, 427, 428, 322, 323, 324, 325, 318, 319, 320, 50, 51, 429, 430, 431, 432, 433, 434, 493, 494, 495, 1068, 1069, 1070, 1071, 1072, 1073, 1074, 1075, 1076, 1077, 1117, 1118, 1119, 1120, 1121, 1122, 1123, 1124, 1125, 1126, 1127, 1128, 1129, 1130, 1131, 1132, 1133, 1134, 1155, 1156, 1157] (by decide +kernel) (by decide +kernel)
set_option maxRecDepth 20000 in
theorem gL_law_X6_safest : GoodIn wsL_law (wsV RL 80 RX6 yX6_safest wsX6_safest) := goodIn_app (goodIn_of _ (by decide +kernel)) ggL_law_X6_safest
set_option maxRecDepth 20000 in
theorem ggL_law_X7_safest : GoodIn wsL_law wsX7_safest := goodIn_r _ [507, 147, 99, 102, 149, 150, 5, 151, 454, 455, 456, 457, 105, 103, 104, 213, 214, 215, 216, 115, 217, 218, 219, 220, 209, 210, 211, 212, 221, 222, 223, 224, 114, 225, 226, 227, 228, 229, 230, 334, 335, 336, 337, 330, 331, 332, 333, 398, 399, 400, 401, 390, 391, 392, 393, 363, 364, 365, 362, 1078, 1079, 1080, 1081, 1082, 1083, 1084, 1085, 1086, 1087, 1088, 1089, 1090, 1091, 1092, 1093, 1094, 1095, 1096, 1097, 1098, 1099, 1100, 1101, 1102, 1103, 1104, 1105, 1106, 1107, 1108, 1109, 1110, 1111, 1112, 1113, 1114, 1115, 1116] (by decide +kernel) (by decide +kernel)
set_option maxRecDepth 20000 in
theorem gL_law_X7_safest : GoodIn wsL_law (wsV RL 83 RX7 yX7_safest wsX7_safest) := goodIn_app (goodIn_of _ (by decide +kernel)) ggL_law_X7_safest
set_option maxRecDepth 20000 in
theorem ggL_law_X6_claps : GoodIn wsL_law wsX6_claps := goodIn_r _ [511, 129, 27, 512, 356, 513, 514, 2, 515, 136, 137, 138, 516, 517, 518, 35, 519, 83, 520, 521, 522, 523, 84, 524, 525, 526, 527, 528, 85, 529, 530, 531, 532, 533, 534, 535, 536, 537, 538, 539, 540, 541, 542, 543, 544, 545, 546, 547, 191, 548, 187, 188, 189, 190, 192, 193, 194, 195, 549, 1068, 1069, 1070, 1071, 1072, 1073, 1074, 1075, 1076, 1077, 1147, 1148, 1149] (by decide +kernel) (by decide +kernel)
set_option maxRecDepth 20000 in
theorem gL_law_X6_claps : GoodIn wsL_law (wsV RL 84 RX6 yX6_claps wsX6_claps) := goodIn_app (goodIn_of _ (by decide +kernel)) ggL_law_X6_claps
set_option maxRecDepth 20000 in
theorem ggL_law_X7_claps : GoodIn wsL_law wsX7_claps := goodIn_r _ [553, 147, 116, 554, 362, 118, 555, 556, 557, 558, 5, 559, 149, 150, 151, 560, 561, 562, 563, 564, 117, 565, 566, 567, 568, 569, 570, 571, 572, 228, 229, 230, 1078, 1079, 1080, 1081, 1082, 1083, 1084, 1085, 1086, 1087, 1088, 1089, 1090, 1091, 1092, 1093, 1094, 1095, 1096, 1097, 1098, 1099, 1100, 1101, 1102, 1103, 1104, 1105, 1106, 1107, 1108, 1109, 1110, 1111, 1112, 1113, 1114, 1115, 1116] (by decide +kernel) (by decide +kernel)
set_option maxRecDepth 20000 in
theorem gL_law_X7_claps : GoodIn wsL_law (wsV RL 87 RX7 yX7_claps wsX7_claps) := goodIn_app (goodIn_of _ (by decide +kernel)) ggL_law_X7_claps
set_option maxRecDepth 20000 in
theorem ggL_law_X6_hear : GoodIn wsL_law wsX6_hear := goodIn_r _ [576, 129, 27, 512, 356, 15, 307, 308, 513, 514, 2, 515, 516, 517, 518, 35, 519, 83, 520, 521, 522, 523, 84, 524, 525, 526, 527, 528, 85, 529, 530, 531, 532, 577, 187, 188, 189, 190, 191, 192, 193, 194, 195, 538, 539, 540, 541, 542, 543, 544, 545, 546, 547, 548, 537, 1068, 1069, 1070, 1071, 1072, 1073, 1074, 1075, 1076, 1077, 1117, 1118, 1119, 1120, 1121, 1122, 1123, 1124, 1125, 1126, 1127, 1128, 1129, 1130, 1131, 1147, 1148, 1149] (by decide +kernel) (by decide +kernel)
set_option maxRecDepth 20000 in
theorem gL_law_X6_hear : GoodIn wsL_law (wsV RL 88 RX6 yX6_hear wsX6_hear) := goodIn_app (goodIn_of _ (by decide +kernel)) ggL_law_X6_hear
set_option maxRecDepth 20000 in
theorem ggL_law_X7_hear : GoodIn wsL_law wsX7_hear := goodIn_r _ [581, 147, 116, 554, 362, 99, 118, 555, 557, 558, 5, 559, 149, 150, 151, 560, 561, 562, 563, 564, 556, 117, 228, 229, 230, 565, 566, 567, 568, 569, 570, 571, 572, 1078, 1079, 1080, 1081, 1082, 1083, 1084, 1085, 1086, 1087, 1088, 1089, 1090, 1091, 1092, 1093, 1094, 1095, 1096, 1097, 1098, 1099, 1100, 1101, 1102, 1103, 1104, 1105, 1106, 1107, 1108, 1109, 1110, 1111, 1112, 1113, 1114, 1115, 1116] (by decide +kernel) (by decide +kernel)
set_option maxRecDepth 20000 in
theorem gL_law_X7_hear : GoodIn wsL_law (wsV RL 91 RX7 yX7_hear wsX7_hear) := goodIn_app (goodIn_of _ (by decide +kernel)) ggL_law_X7_hear
