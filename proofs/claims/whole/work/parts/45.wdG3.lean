set_option maxRecDepth 20000 in
theorem ggL_law_X10_power : GoodIn wsL_law wsX10_power := goodIn_r _ [286, 287, 288, 289, 290, 291, 292, 293, 212, 214, 294, 295, 296, 5, 297, 298, 227, 226, 1180, 1181, 1182, 1183, 1184, 1185, 1186, 1187, 1188, 1189, 1190, 1191, 1192, 1193, 1194, 1195, 1196, 1197, 1198, 1199, 1200, 1201, 1202, 1203, 1204, 1205, 1206, 1207, 1208, 1209, 1210, 1211, 1212, 1213, 1214, 1215, 1216, 1217, 1218, 1219, 1220, 1221, 1222, 1223, 1224, 1225, 1226, 1227, 1228, 1229, 1230, 1231] rfl (by decide +kernel)
set_option maxRecDepth 20000 in
theorem gL_law_X10_power : GoodIn wsL_law (wsV RL 51 RX10 yX10_power wsX10_power) := goodIn_app (goodIn_of _ (by decide +kernel)) ggL_law_X10_power
set_option maxRecDepth 20000 in
theorem ggL_law_L_peek : GoodIn wsL_law wsL_peek := goodIn_ca (goodIn_r _ [593, 559, 594, 595, 596, 2, 597, 564, 565, 15, 583, 584, 585, 598, 599, 600, 601, 56, 602, 356, 357, 358, 359, 333, 334, 1161, 1162, 1163, 1164, 1165, 1166, 1167, 1168, 1169, 1170, 1171, 1172, 1173, 1174, 1175, 1176, 1177, 1178, 1179] rfl (by decide +kernel)) (goodIn_sub (fun _ h => List.mem_append_left _ (List.mem_append_right _ h)) (by decide +kernel))
set_option maxRecDepth 20000 in
theorem gL_law_L_peek : GoodIn wsL_law (va_wsS RL 72 yL_peek wsL_peek) := goodIn_app (goodIn_of _ (by decide +kernel)) ggL_law_L_peek
set_option maxRecDepth 20000 in
theorem ggL_law_L_entropy : GoodIn wsL_law wsL_entropy := goodIn_ca (goodIn_r _ [682, 645, 683, 684, 685, 2, 686, 581, 582, 56, 28, 687, 688, 689, 27, 690, 73, 75, 78, 72, 71, 691, 692, 693, 694, 74, 695, 696, 697, 698, 77, 76, 1161, 1162, 1163, 1164, 1165, 1166, 1167, 1168, 1169, 1170, 1171, 1172, 1173, 1174, 1175, 1176, 1177, 1178, 1179, 1234, 1235, 1236, 1237, 1238, 1239, 1240, 1241] rfl (by decide +kernel)) (goodIn_sub (fun _ h => List.mem_append_right _ h) (by decide +kernel))
set_option maxRecDepth 20000 in
theorem gL_law_L_entropy : GoodIn wsL_law (va_wsS RL 88 yL_entropy wsL_entropy) := goodIn_app (goodIn_of _ (by decide +kernel)) ggL_law_L_entropy
set_option maxRecDepth 20000 in
theorem ggL_law_X9_zeroiseAll : GoodIn wsL_law wsX9_zeroiseAll := goodIn_r _ [769, 17, 23, 24, 49, 28, 753, 754, 755, 61, 756, 137, 136, 757, 280, 273, 281, 671, 672, 673, 22, 674, 67, 66, 275, 276, 277, 48, 278, 114, 115, 117, 279, 770, 268, 269, 27, 270, 71, 72, 271, 272, 274, 598, 599, 600, 2, 601, 56, 650, 651, 652, 653, 59, 1161, 1162, 1163, 1164, 1165, 1166, 1167, 1168, 1169, 1170, 1171, 1172, 1173, 1174, 1175, 1176, 1177, 1178, 1179, 1272, 1273, 1274, 1275, 1276, 1277, 1232, 1233, 1259, 1260, 1261, 1262, 1263, 1264, 1234, 1235, 1236, 1237, 1238, 1239, 1240, 1241] rfl (by decide +kernel)
set_option maxRecDepth 20000 in
theorem gL_law_X9_zeroiseAll : GoodIn wsL_law (wsV RL 103 RX9 yX9_zeroiseAll wsX9_zeroiseAll) := goodIn_app (goodIn_of _ (by decide +kernel)) ggL_law_X9_zeroiseAll
set_option maxRecDepth 20000 in
theorem ggL_law_X9_wrap : GoodIn wsL_law wsX9_wrap := goodIn_r _ [942, 943, 944, 945, 2, 946, 17, 598, 599, 600, 601, 56, 726, 727, 728, 947, 948, 949, 950, 721, 722, 725, 745, 746, 747, 748, 724, 729, 730, 731, 61, 732, 137, 749, 750, 751, 752, 913, 914, 915, 916, 139, 951, 952, 953, 954, 55, 723, 925, 825, 397, 398, 399, 37, 41, 15, 917, 918, 919, 920, 141, 955, 956, 273, 957, 488, 489, 490, 491, 492, 493, 958, 327, 328, 36, 329, 91, 90, 330, 331, 332, 333, 334, 335, 336, 337, 338, 959, 518, 519, 40, 520, 96, 521, 396, 98, 321, 322, 323, 324, 325, 385, 344, 345, 346, 347, 348, 349, 350, 351, 356, 357, 358, 359, 839, 840, 841, 842, 282, 280, 281, 630, 631, 632, 633, 19, 1161, 1162, 1163, 1164, 1165, 1166, 1167, 1168, 1169, 1170, 1171, 1172, 1173, 1174, 1175, 1176, 1177, 1178, 1179, 1272, 1273, 1274, 1275, 1276, 1277, 1278, 1279, 1280, 1281, 1247, 1248, 1249, 1250, 1251] rfl (by decide +kernel)
set_option maxRecDepth 20000 in
theorem gL_law_X9_wrap : GoodIn wsL_law (wsV RL 120 RX9 yX9_wrap wsX9_wrap) := goodIn_app (goodIn_of _ (by decide +kernel)) ggL_law_X9_wrap
set_option maxRecDepth 20000 in
theorem ggL_law_L_counter : GoodIn wsL_law wsL_counter := goodIn_ca (goodIn_r _ [1140, 559, 1141, 1142, 1143, 2, 1144, 564, 565, 19, 1161, 1162, 1163, 1164, 1165, 1166, 1167, 1168, 1169, 1170, 1171, 1172, 1173, 1174, 1175, 1176, 1177, 1178, 1179] rfl (by decide +kernel)) (goodIn_sub (fun _ h => List.mem_append_left _ (List.mem_append_right _ h)) (by decide +kernel))
set_option maxRecDepth 20000 in
theorem gL_law_L_counter : GoodIn wsL_law (va_wsS RL 138 yL_counter wsL_counter) := goodIn_app (goodIn_of _ (by decide +kernel)) ggL_law_L_counter
