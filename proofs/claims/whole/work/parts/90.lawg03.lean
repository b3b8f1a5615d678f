set_option maxRecDepth 20000 in
theorem ggL_law_X6_storm : GoodIn wsL_law wsX6_storm := goodIn_r _ [306, 15, 307, 308, 129, 136, 137, 2, 138, 1068, 1069, 1070, 1071, 1072, 1073, 1074, 1075, 1076, 1077, 1117, 1118, 1119, 1120, 1121, 1122, 1123, 1124, 1125, 1126, 1127, 1128, 1129, 1130, 1131] (by decide +kernel) (by decide +kernel)
set_option maxRecDepth 20000 in
theorem gL_law_X6_storm : GoodIn wsL_law (wsV RL 44 RX6 yX6_storm wsX6_storm) := goodIn_app (goodIn_of _ (by decide +kernel)) ggL_law_X6_storm
set_option maxRecDepth 20000 in
theorem ggL_law_X7_storm : GoodIn wsL_law wsX7_storm := goodIn_r _ [312, 147, 149, 150, 5, 151, 259, 260, 261, 262, 99, 1078, 1079, 1080, 1081, 1082, 1083, 1084, 1085, 1086, 1087, 1088, 1089, 1090, 1091, 1092, 1093, 1094, 1095, 1096, 1097, 1098, 1099, 1100, 1101, 1102, 1103, 1104, 1105, 1106, 1107, 1108, 1109, 1110, 1111, 1112, 1113, 1114, 1115, 1116] (by decide +kernel) (by decide +kernel)
set_option maxRecDepth 20000 in
theorem gL_law_X7_storm : GoodIn wsL_law (wsV RL 47 RX7 yX7_storm wsX7_storm) := goodIn_app (goodIn_of _ (by decide +kernel)) ggL_law_X7_storm
set_option maxRecDepth 20000 in
theorem ggL_law_X6_sky : GoodIn wsL_law wsX6_sky := goodIn_r _ [316, 129, 15, 136, 137, 2, 138, 317, 318, 319, 14, 320, 50, 51, 187, 188, 189, 190, 191, 192, 193, 194, 195, 321, 322, 323, 324, 325, 171, 172, 173, 174, 49, 46, 57, 175, 176, 177, 178, 179, 180, 181, 182, 183, 184, 185, 186, 1068, 1069, 1070, 1071, 1072, 1073, 1074, 1075, 1076, 1077, 1117, 1118, 1119, 1120, 1121, 1122, 1123, 1124, 1125, 1126, 1127, 1128, 1129, 1130, 1131, 1155, 1156, 1157] (by decide +kernel) (by decide +kernel)
set_option maxRecDepth 20000 in
theorem gL_law_X6_sky : GoodIn wsL_law (wsV RL 48 RX6 yX6_sky wsX6_sky) := goodIn_app (goodIn_of _ (by decide +kernel)) ggL_law_X6_sky
set_option maxRecDepth 20000 in
theorem ggL_law_X7_sky : GoodIn wsL_law wsX7_sky := goodIn_r _ [329, 147, 149, 150, 5, 151, 330, 331, 332, 333, 99, 228, 229, 230, 334, 335, 336, 337, 115, 217, 218, 219, 220, 221, 222, 223, 224, 114, 225, 226, 227, 1078, 1079, 1080, 1081, 1082, 1083, 1084, 1085, 1086, 1087, 1088, 1089, 1090, 1091, 1092, 1093, 1094, 1095, 1096, 1097, 1098, 1099, 1100, 1101, 1102, 1103, 1104, 1105, 1106, 1107, 1108, 1109, 1110, 1111, 1112, 1113, 1114, 1115, 1116] (by decide +kernel) (by decide +kernel)
set_option maxRecDepth 20000 in
theorem gL_law_X7_sky : GoodIn wsL_law (wsV RL 51 RX7 yX7_sky wsX7_sky) := goodIn_app (goodIn_of _ (by decide +kernel)) ggL_law_X7_sky
set_option maxRecDepth 20000 in
theorem ggL_law_X6_danger : GoodIn wsL_law wsX6_danger := goodIn_r _ [341, 15, 129, 163, 164, 165, 14, 166, 44, 136, 137, 2, 138, 342, 343, 344, 345, 346, 168, 169, 170, 42, 41, 171, 172, 173, 174, 49, 46, 57, 175, 176, 177, 178, 179, 180, 181, 182, 183, 184, 185, 186, 187, 188, 189, 190, 191, 192, 193, 194, 195, 196, 197, 347, 322, 323, 324, 325, 318, 319, 320, 50, 51, 1068, 1069, 1070, 1071, 1072, 1073, 1074, 1075, 1076, 1077, 1117, 1118, 1119, 1120, 1121, 1122, 1123, 1124, 1125, 1126, 1127, 1128, 1129, 1130, 1131, 1155, 1156, 1157] (by decide +kernel) (by decide +kernel)
set_option maxRecDepth 20000 in
theorem gL_law_X6_danger : GoodIn wsL_law (wsV RL 52 RX6 yX6_danger wsX6_danger) := goodIn_app (goodIn_of _ (by decide +kernel)) ggL_law_X6_danger
set_option maxRecDepth 20000 in
theorem ggL_law_X7_danger : GoodIn wsL_law wsX7_danger := goodIn_r _ [351, 147, 205, 206, 207, 5, 208, 99, 149, 150, 151, 213, 214, 215, 216, 115, 217, 218, 219, 220, 209, 210, 211, 212, 221, 222, 223, 224, 114, 225, 226, 227, 228, 229, 230, 334, 335, 336, 337, 330, 331, 332, 333, 1078, 1079, 1080, 1081, 1082, 1083, 1084, 1085, 1086, 1087, 1088, 1089, 1090, 1091, 1092, 1093, 1094, 1095, 1096, 1097, 1098, 1099, 1100, 1101, 1102, 1103, 1104, 1105, 1106, 1107, 1108, 1109, 1110, 1111, 1112, 1113, 1114, 1115, 1116] (by decide +kernel) (by decide +kernel)
set_option maxRecDepth 20000 in
theorem gL_law_X7_danger : GoodIn wsL_law (wsV RL 55 RX7 yX7_danger wsX7_danger) := goodIn_app (goodIn_of _ (by decide +kernel)) ggL_law_X7_danger
set_option maxRecDepth 20000 in
theorem ggL_law_X6_come : GoodIn wsL_law wsX6_come := goodIn_r _ [355, 356, 15, 129, 357, 163, 164, 165, 14, 166, 44, 1068, 1069, 1070, 1071, 1072, 1073, 1074, 1075, 1076, 1077, 1117, 1118, 1119, 1120, 1121, 1122, 1123, 1124, 1125, 1126, 1127, 1128, 1129, 1130, 1131] (by decide +kernel) (by decide +kernel)
set_option maxRecDepth 20000 in
theorem gL_law_X6_come : GoodIn wsL_law (wsV RL 56 RX6 yX6_come wsX6_come) := goodIn_app (goodIn_of _ (by decide +kernel)) ggL_law_X6_come
set_option maxRecDepth 20000 in
theorem ggL_law_X7_come : GoodIn wsL_law wsX7_come := goodIn_r _ [361, 362, 147, 205, 206, 207, 5, 208, 99, 149, 150, 151, 259, 260, 261, 262, 363, 364, 365, 1078, 1079, 1080, 1081, 1082, 1083, 1084, 1085, 1086, 1087, 1088, 1089, 1090, 1091, 1092, 1093, 1094, 1095, 1096, 1097, 1098, 1099, 1100, 1101, 1102, 1103, 1104, 1105, 1106, 1107, 1108, 1109, 1110, 1111, 1112, 1113, 1114, 1115, 1116] (by decide +kernel) (by decide +kernel)
set_option maxRecDepth 20000 in
theorem gL_law_X7_come : GoodIn wsL_law (wsV RL 59 RX7 yX7_come wsX7_come) := goodIn_app (goodIn_of _ (by decide +kernel)) ggL_law_X7_come
