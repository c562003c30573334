set_option maxRecDepth 20000 in
theorem ggL_law_X9_power : GoodIn wsL_law wsX9_power := goodIn_r _ [262, 28, 49, 59, 56, 15, 57, 58, 263, 264, 265, 27, 266, 73, 75, 77, 78, 267, 268, 269, 270, 71, 72, 271, 272, 273, 274, 275, 276, 277, 48, 278, 114, 115, 117, 279, 280, 281, 282, 1161, 1162, 1163, 1164, 1165, 1166, 1167, 1168, 1169, 1170, 1171, 1172, 1173, 1174, 1175, 1176, 1177, 1178, 1179, 1234, 1235, 1236, 1237, 1238, 1239, 1240, 1241, 1259, 1260, 1261, 1262, 1263, 1264] rfl (by decide +kernel)
set_option maxRecDepth 20000 in
theorem gL_law_X9_power : GoodIn wsL_law (wsV RL 47 RX9 yX9_power wsX9_power) := goodIn_app (goodIn_of _ (by decide +kernel)) ggL_law_X9_power
set_option maxRecDepth 20000 in
theorem ggL_law_X10_poke : GoodIn wsL_law wsX10_poke := goodIn_r _ [589, 288, 287, 214, 590, 552, 553, 5, 554, 1180, 1181, 1182, 1183, 1184, 1185, 1186, 1187, 1188, 1189, 1190, 1191, 1192, 1193, 1194, 1195, 1196, 1197, 1198, 1199, 1200, 1201, 1202, 1203, 1204, 1205, 1206, 1207, 1208, 1209, 1210, 1211, 1212, 1213, 1214, 1215, 1216, 1217, 1218, 1219, 1220, 1221, 1222, 1223, 1224, 1225, 1226, 1227, 1228, 1229, 1230, 1231] rfl (by decide +kernel)
set_option maxRecDepth 20000 in
theorem gL_law_X10_poke : GoodIn wsL_law (wsV RL 71 RX10 yX10_poke wsX10_poke) := goodIn_app (goodIn_of _ (by decide +kernel)) ggL_law_X10_poke
set_option maxRecDepth 20000 in
theorem ggL_law_X10_setPin : GoodIn wsL_law wsX10_setPin := goodIn_r _ [678, 287, 679, 215, 216, 607, 608, 609, 5, 610, 288, 638, 639, 640, 641, 213, 552, 553, 554, 658, 659, 660, 661, 1180, 1181, 1182, 1183, 1184, 1185, 1186, 1187, 1188, 1189, 1190, 1191, 1192, 1193, 1194, 1195, 1196, 1197, 1198, 1199, 1200, 1201, 1202, 1203, 1204, 1205, 1206, 1207, 1208, 1209, 1210, 1211, 1212, 1213, 1214, 1215, 1216, 1217, 1218, 1219, 1220, 1221, 1222, 1223, 1224, 1225, 1226, 1227, 1228, 1229, 1230, 1231] rfl (by decide +kernel)
set_option maxRecDepth 20000 in
theorem gL_law_X10_setPin : GoodIn wsL_law (wsV RL 87 RX10 yX10_setPin wsX10_setPin) := goodIn_app (goodIn_of _ (by decide +kernel)) ggL_law_X10_setPin
set_option maxRecDepth 20000 in
theorem ggL_law_X10_zeroise : GoodIn wsL_law wsX10_zeroise := goodIn_r _ [761, 287, 217, 607, 608, 609, 5, 610, 288, 638, 639, 640, 641, 213, 552, 553, 554, 762, 763, 764, 765, 220, 658, 659, 660, 661, 1180, 1181, 1182, 1183, 1184, 1185, 1186, 1187, 1188, 1189, 1190, 1191, 1192, 1193, 1194, 1195, 1196, 1197, 1198, 1199, 1200, 1201, 1202, 1203, 1204, 1205, 1206, 1207, 1208, 1209, 1210, 1211, 1212, 1213, 1214, 1215, 1216, 1217, 1218, 1219, 1220, 1221, 1222, 1223, 1224, 1225, 1226, 1227, 1228, 1229, 1230, 1231] rfl (by decide +kernel)
set_option maxRecDepth 20000 in
theorem gL_law_X10_zeroise : GoodIn wsL_law (wsV RL 102 RX10 yX10_zeroise wsX10_zeroise) := goodIn_app (goodIn_of _ (by decide +kernel)) ggL_law_X10_zeroise
set_option maxRecDepth 20000 in
theorem ggL_law_X10_derive : GoodIn wsL_law wsX10_derive := goodIn_r _ [930, 287, 217, 219, 221, 214, 222, 234, 607, 608, 609, 5, 610, 288, 638, 639, 640, 641, 213, 552, 553, 554, 762, 763, 764, 765, 220, 658, 659, 660, 661, 810, 811, 812, 931, 932, 933, 934, 935, 936, 937, 938, 218, 869, 236, 870, 871, 872, 873, 874, 875, 876, 877, 230, 252, 878, 879, 880, 881, 882, 233, 883, 884, 885, 886, 887, 231, 232, 210, 888, 889, 890, 891, 892, 893, 894, 235, 895, 896, 897, 898, 899, 900, 813, 814, 815, 816, 1180, 1181, 1182, 1183, 1184, 1185, 1186, 1187, 1188, 1189, 1190, 1191, 1192, 1193, 1194, 1195, 1196, 1197, 1198, 1199, 1200, 1201, 1202, 1203, 1204, 1205, 1206, 1207, 1208, 1209, 1210, 1211, 1212, 1213, 1214, 1215, 1216, 1217, 1218, 1219, 1220, 1221, 1222, 1223, 1224, 1225, 1226, 1227, 1228, 1229, 1230, 1231] rfl (by decide +kernel)
set_option maxRecDepth 20000 in
theorem gL_law_X10_derive : GoodIn wsL_law (wsV RL 119 RX10 yX10_derive wsX10_derive) := goodIn_app (goodIn_of _ (by decide +kernel)) ggL_law_X10_derive
set_option maxRecDepth 20000 in
theorem ggL_law_X10_hash : GoodIn wsL_law wsX10_hash := goodIn_r _ [1133, 287, 227, 214, 234, 607, 608, 609, 5, 610, 288, 638, 639, 640, 641, 213, 552, 553, 554, 658, 659, 660, 661, 874, 875, 876, 877, 230, 252, 878, 1134, 1135, 1136, 1137, 228, 229, 233, 879, 880, 881, 882, 883, 884, 885, 886, 887, 231, 232, 210, 888, 889, 890, 895, 896, 897, 898, 899, 900, 1180, 1181, 1182, 1183, 1184, 1185, 1186, 1187, 1188, 1189, 1190, 1191, 1192, 1193, 1194, 1195, 1196, 1197, 1198, 1199, 1200, 1201, 1202, 1203, 1204, 1205, 1206, 1207, 1208, 1209, 1210, 1211, 1212, 1213, 1214, 1215, 1216, 1217, 1218, 1219, 1220, 1221, 1222, 1223, 1224, 1225, 1226, 1227, 1228, 1229, 1230, 1231] rfl (by decide +kernel)
set_option maxRecDepth 20000 in
theorem gL_law_X10_hash : GoodIn wsL_law (wsV RL 137 RX10 yX10_hash wsX10_hash) := goodIn_app (goodIn_of _ (by decide +kernel)) ggL_law_X10_hash
