set_option maxRecDepth 20000 in
theorem ggL_law_X6_why : GoodIn wsL_law wsX6_why := goodIn_r _ [878, 129, 15, 879, 136, 137, 2, 138, 1068, 1069, 1070, 1071, 1072, 1073, 1074, 1075, 1076, 1077, 1117, 1118, 1119, 1120, 1121, 1122, 1123, 1124, 1125, 1126, 1127, 1128, 1129, 1130, 1131] (by decide +kernel) (by decide +kernel)
set_option maxRecDepth 20000 in
theorem gL_law_X6_why : GoodIn wsL_law (wsV RL 109 RX6 yX6_why wsX6_why) := goodIn_app (goodIn_of _ (by decide +kernel)) ggL_law_X6_why
set_option maxRecDepth 20000 in
theorem ggL_law_X7_why : GoodIn wsL_law wsX7_why := goodIn_r _ [883, 147, 362, 149, 150, 5, 151, 217, 218, 219, 220, 99, 1078, 1079, 1080, 1081, 1082, 1083, 1084, 1085, 1086, 1087, 1088, 1089, 1090, 1091, 1092, 1093, 1094, 1095, 1096, 1097, 1098, 1099, 1100, 1101, 1102, 1103, 1104, 1105, 1106, 1107, 1108, 1109, 1110, 1111, 1112, 1113, 1114, 1115, 1116] (by decide +kernel) (by decide +kernel)
set_option maxRecDepth 20000 in
theorem gL_law_X7_why : GoodIn wsL_law (wsV RL 112 RX7 yX7_why wsX7_why) := goodIn_app (goodIn_of _ (by decide +kernel)) ggL_law_X7_why
set_option maxRecDepth 20000 in
theorem ggL_law_X6_sheet : GoodIn wsL_law wsX6_sheet := goodIn_r _ [887, 129, 888, 27, 513, 514, 2, 515, 136, 137, 138, 889, 890, 891, 35, 892, 83, 84, 85, 893, 425, 426, 427, 1068, 1069, 1070, 1071, 1072, 1073, 1074, 1075, 1076, 1077, 1147, 1148, 1149] (by decide +kernel) (by decide +kernel)
set_option maxRecDepth 20000 in
theorem gL_law_X6_sheet : GoodIn wsL_law (wsV RL 113 RX6 yX6_sheet wsX6_sheet) := goodIn_app (goodIn_of _ (by decide +kernel)) ggL_law_X6_sheet
set_option maxRecDepth 20000 in
theorem ggL_law_X7_sheet : GoodIn wsL_law wsX7_sheet := goodIn_r _ [897, 147, 898, 116, 117, 118, 557, 558, 5, 559, 149, 150, 151, 1078, 1079, 1080, 1081, 1082, 1083, 1084, 1085, 1086, 1087, 1088, 1089, 1090, 1091, 1092, 1093, 1094, 1095, 1096, 1097, 1098, 1099, 1100, 1101, 1102, 1103, 1104, 1105, 1106, 1107, 1108, 1109, 1110, 1111, 1112, 1113, 1114, 1115, 1116] (by decide +kernel) (by decide +kernel)
set_option maxRecDepth 20000 in
theorem gL_law_X7_sheet : GoodIn wsL_law (wsV RL 116 RX7 yX7_sheet wsX7_sheet) := goodIn_app (goodIn_of _ (by decide +kernel)) ggL_law_X7_sheet
set_option maxRecDepth 20000 in
theorem ggL_law_X6_mark : GoodIn wsL_law wsX6_mark := goodIn_r _ [902, 129, 27, 512, 903, 904, 356, 239, 905, 906, 907, 513, 514, 2, 515, 516, 517, 518, 35, 519, 83, 908, 909, 910, 911, 84, 136, 137, 138, 1068, 1069, 1070, 1071, 1072, 1073, 1074, 1075, 1076, 1077, 1147, 1148, 1149] (by decide +kernel) (by decide +kernel)
set_option maxRecDepth 20000 in
theorem gL_law_X6_mark : GoodIn wsL_law (wsV RL 117 RX6 yX6_mark wsX6_mark) := goodIn_app (goodIn_of _ (by decide +kernel)) ggL_law_X6_mark
set_option maxRecDepth 20000 in
theorem ggL_law_X7_mark : GoodIn wsL_law wsX7_mark := goodIn_r _ [915, 147, 116, 554, 117, 916, 362, 247, 917, 918, 118, 557, 558, 5, 559, 149, 150, 151, 1078, 1079, 1080, 1081, 1082, 1083, 1084, 1085, 1086, 1087, 1088, 1089, 1090, 1091, 1092, 1093, 1094, 1095, 1096, 1097, 1098, 1099, 1100, 1101, 1102, 1103, 1104, 1105, 1106, 1107, 1108, 1109, 1110, 1111, 1112, 1113, 1114, 1115, 1116] (by decide +kernel) (by decide +kernel)
set_option maxRecDepth 20000 in
theorem gL_law_X7_mark : GoodIn wsL_law (wsV RL 120 RX7 yX7_mark wsX7_mark) := goodIn_app (goodIn_of _ (by decide +kernel)) ggL_law_X7_mark
set_option maxRecDepth 20000 in
theorem ggL_law_X6_pour : GoodIn wsL_law wsX6_pour := goodIn_r _ [922, 129, 27, 512, 15, 513, 514, 2, 515, 516, 517, 518, 35, 519, 83, 923, 924, 925, 14, 926, 44, 927, 928, 42, 929, 526, 527, 528, 85, 524, 187, 188, 189, 190, 191, 192, 193, 194, 195, 1068, 1069, 1070, 1071, 1072, 1073, 1074, 1075, 1076, 1077, 1147, 1148, 1149, 1117, 1118, 1119, 1120, 1121, 1122, 1123, 1124, 1125, 1126, 1127, 1128, 1129, 1130, 1131] (by decide +kernel) (by decide +kernel)
set_option maxRecDepth 20000 in
theorem gL_law_X6_pour : GoodIn wsL_law (wsV RL 121 RX6 yX6_pour wsX6_pour) := goodIn_app (goodIn_of _ (by decide +kernel)) ggL_law_X6_pour
set_option maxRecDepth 20000 in
theorem ggL_law_X7_pour : GoodIn wsL_law wsX7_pour := goodIn_r _ [933, 147, 116, 554, 117, 99, 118, 362, 557, 558, 5, 559, 149, 150, 151, 209, 210, 211, 212, 228, 229, 230, 259, 260, 261, 262, 1078, 1079, 1080, 1081, 1082, 1083, 1084, 1085, 1086, 1087, 1088, 1089, 1090, 1091, 1092, 1093, 1094, 1095, 1096, 1097, 1098, 1099, 1100, 1101, 1102, 1103, 1104, 1105, 1106, 1107, 1108, 1109, 1110, 1111, 1112, 1113, 1114, 1115, 1116] (by decide +kernel) (by decide +kernel)
set_option maxRecDepth 20000 in
theorem gL_law_X7_pour : GoodIn wsL_law (wsV RL 124 RX7 yX7_pour wsX7_pour) := goodIn_app (goodIn_of _ (by decide +kernel)) ggL_law_X7_pour
