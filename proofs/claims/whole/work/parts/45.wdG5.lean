set_option maxRecDepth 20000 in
theorem ggL_law_X10_selfTestStep : GoodIn wsL_law wsX10_selfTestStep := goodIn_r _ [551, 287, 288, 212, 293, 213, 552, 553, 5, 554, 1180, 1181, 1182, 1183, 1184, 1185, 1186, 1187, 1188, 1189, 1190, 1191, 1192, 1193, 1194, 1195, 1196, 1197, 1198, 1199, 1200, 1201, 1202, 1203, 1204, 1205, 1206, 1207, 1208, 1209, 1210, 1211, 1212, 1213, 1214, 1215, 1216, 1217, 1218, 1219, 1220, 1221, 1222, 1223, 1224, 1225, 1226, 1227, 1228, 1229, 1230, 1231] rfl (by decide +kernel)
set_option maxRecDepth 20000 in
theorem gL_law_X10_selfTestStep : GoodIn wsL_law (wsV RL 55 RX10 yX10_selfTestStep wsX10_selfTestStep) := goodIn_app (goodIn_of _ (by decide +kernel)) ggL_law_X10_selfTestStep
set_option maxRecDepth 20000 in
theorem ggL_law_X9_login : GoodIn wsL_law wsX9_login := goodIn_r _ [614, 615, 616, 617, 2, 618, 56, 619, 620, 621, 622, 623, 624, 625, 23, 24, 626, 627, 628, 22, 629, 66, 67, 630, 631, 632, 633, 19, 1161, 1162, 1163, 1164, 1165, 1166, 1167, 1168, 1169, 1170, 1171, 1172, 1173, 1174, 1175, 1176, 1177, 1178, 1179, 1232, 1233] rfl (by decide +kernel)
set_option maxRecDepth 20000 in
theorem gL_law_X9_login : GoodIn wsL_law (wsV RL 76 RX9 yX9_login wsX9_login) := goodIn_app (goodIn_of _ (by decide +kernel)) ggL_law_X9_login
set_option maxRecDepth 20000 in
theorem ggL_law_X9_state : GoodIn wsL_law wsX9_state := goodIn_r _ [709, 56, 1161, 1162, 1163, 1164, 1165, 1166, 1167, 1168, 1169, 1170, 1171, 1172, 1173, 1174, 1175, 1176, 1177, 1178, 1179] rfl (by decide +kernel)
set_option maxRecDepth 20000 in
theorem gL_law_X9_state : GoodIn wsL_law (wsV RL 91 RX9 yX9_state wsX9_state) := goodIn_app (goodIn_of _ (by decide +kernel)) ggL_law_X9_state
set_option maxRecDepth 20000 in
theorem ggL_law_X9_load : GoodIn wsL_law wsX9_load := goodIn_r _ [778, 17, 15, 779, 780, 781, 2, 782, 783, 56, 598, 599, 600, 601, 726, 727, 728, 784, 785, 786, 787, 788, 789, 619, 620, 621, 790, 791, 792, 729, 730, 731, 61, 732, 137, 793, 794, 795, 796, 797, 798, 799, 139, 140, 141, 138, 136, 800, 397, 398, 399, 630, 631, 632, 633, 19, 1161, 1162, 1163, 1164, 1165, 1166, 1167, 1168, 1169, 1170, 1171, 1172, 1173, 1174, 1175, 1176, 1177, 1178, 1179, 1272, 1273, 1274, 1275, 1276, 1277] rfl (by decide +kernel)
set_option maxRecDepth 20000 in
theorem gL_law_X9_load : GoodIn wsL_law (wsV RL 107 RX9 yX9_load wsX9_load) := goodIn_app (goodIn_of _ (by decide +kernel)) ggL_law_X9_load
set_option maxRecDepth 20000 in
theorem ggL_law_X9_unwrap : GoodIn wsL_law wsX9_unwrap := goodIn_r _ [988, 989, 990, 991, 2, 992, 17, 598, 599, 600, 601, 56, 726, 727, 728, 745, 746, 747, 748, 724, 729, 730, 731, 61, 732, 137, 749, 750, 751, 752, 993, 994, 995, 996, 721, 725, 913, 914, 915, 916, 139, 997, 998, 999, 1000, 15, 55, 825, 397, 398, 399, 37, 925, 722, 41, 917, 918, 919, 920, 141, 958, 327, 328, 36, 329, 91, 90, 330, 331, 332, 333, 334, 335, 336, 337, 338, 1001, 1002, 1003, 40, 1004, 96, 396, 98, 521, 356, 357, 358, 359, 321, 322, 323, 324, 325, 1005, 361, 362, 363, 364, 365, 366, 367, 368, 369, 370, 371, 351, 347, 348, 349, 350, 1006, 1007, 1008, 784, 785, 786, 793, 794, 795, 790, 791, 792, 787, 788, 789, 619, 620, 621, 796, 797, 798, 799, 140, 138, 136, 800, 839, 840, 841, 842, 282, 280, 273, 281, 630, 631, 632, 633, 19, 1161, 1162, 1163, 1164, 1165, 1166, 1167, 1168, 1169, 1170, 1171, 1172, 1173, 1174, 1175, 1176, 1177, 1178, 1179, 1272, 1273, 1274, 1275, 1276, 1277, 1247, 1248, 1249, 1250, 1251] rfl (by decide +kernel)
set_option maxRecDepth 20000 in
theorem gL_law_X9_unwrap : GoodIn wsL_law (wsV RL 124 RX9 yX9_unwrap wsX9_unwrap) := goodIn_app (goodIn_of _ (by decide +kernel)) ggL_law_X9_unwrap
set_option maxRecDepth 20000 in
theorem ggL_law_L_same : GoodIn wsL_law wsL_same := goodIn_ca (goodIn_r _ [1151, 559, 1152, 1153, 1154, 2, 1155, 564, 565, 17, 722, 925, 15, 726, 727, 728, 729, 730, 731, 61, 732, 137, 1156, 542, 543, 1161, 1162, 1163, 1164, 1165, 1166, 1167, 1168, 1169, 1170, 1171, 1172, 1173, 1174, 1175, 1176, 1177, 1178, 1179, 1272, 1273, 1274, 1275, 1276, 1277] rfl (by decide +kernel)) (goodIn_sub (fun _ h => List.mem_append_left _ (List.mem_append_right _ h)) (by decide +kernel))
set_option maxRecDepth 20000 in
theorem gL_law_L_same : GoodIn wsL_law (va_wsS RL 141 yL_same wsL_same) := goodIn_app (goodIn_of _ (by decide +kernel)) ggL_law_L_same
