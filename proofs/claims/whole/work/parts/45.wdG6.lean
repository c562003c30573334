set_option maxRecDepth 20000 in
theorem ggL_law_L_fault : GoodIn wsL_law wsL_fault := goodIn_ca (goodIn_r _ [558, 559, 560, 561, 562, 2, 563, 564, 565, 58, 1161, 1162, 1163, 1164, 1165, 1166, 1167, 1168, 1169, 1170, 1171, 1172, 1173, 1174, 1175, 1176, 1177, 1178, 1179] rfl (by decide +kernel)) (goodIn_sub (fun _ h => List.mem_append_left _ (List.mem_append_right _ h)) (by decide +kernel))
set_option maxRecDepth 20000 in
theorem gL_law_L_fault : GoodIn wsL_law (va_wsS RL 56 yL_fault wsL_fault) := goodIn_app (goodIn_of _ (by decide +kernel)) ggL_law_L_fault
set_option maxRecDepth 20000 in
theorem ggL_law_X10_login : GoodIn wsL_law wsX10_login := goodIn_r _ [637, 287, 288, 216, 215, 638, 639, 640, 5, 641, 213, 552, 553, 554, 1180, 1181, 1182, 1183, 1184, 1185, 1186, 1187, 1188, 1189, 1190, 1191, 1192, 1193, 1194, 1195, 1196, 1197, 1198, 1199, 1200, 1201, 1202, 1203, 1204, 1205, 1206, 1207, 1208, 1209, 1210, 1211, 1212, 1213, 1214, 1215, 1216, 1217, 1218, 1219, 1220, 1221, 1222, 1223, 1224, 1225, 1226, 1227, 1228, 1229, 1230, 1231] rfl (by decide +kernel)
set_option maxRecDepth 20000 in
theorem gL_law_X10_login : GoodIn wsL_law (wsV RL 79 RX10 yX10_login wsX10_login) := goodIn_app (goodIn_of _ (by decide +kernel)) ggL_law_X10_login
set_option maxRecDepth 20000 in
theorem ggL_law_X10_state : GoodIn wsL_law wsX10_state := goodIn_r _ [713, 287, 288, 1180, 1181, 1182, 1183, 1184, 1185, 1186, 1187, 1188, 1189, 1190, 1191, 1192, 1193, 1194, 1195, 1196, 1197, 1198, 1199, 1200, 1201, 1202, 1203, 1204, 1205, 1206, 1207, 1208, 1209, 1210, 1211, 1212, 1213, 1214, 1215, 1216, 1217, 1218, 1219, 1220, 1221, 1222, 1223, 1224, 1225, 1226, 1227, 1228, 1229, 1230, 1231] rfl (by decide +kernel)
set_option maxRecDepth 20000 in
theorem gL_law_X10_state : GoodIn wsL_law (wsV RL 94 RX10 yX10_state wsX10_state) := goodIn_app (goodIn_of _ (by decide +kernel)) ggL_law_X10_state
set_option maxRecDepth 20000 in
theorem ggL_law_X10_load : GoodIn wsL_law wsX10_load := goodIn_r _ [804, 287, 222, 214, 805, 806, 807, 5, 808, 809, 217, 607, 608, 609, 610, 288, 552, 553, 554, 658, 659, 660, 661, 810, 811, 812, 638, 639, 640, 641, 213, 813, 814, 815, 816, 218, 219, 220, 221, 1180, 1181, 1182, 1183, 1184, 1185, 1186, 1187, 1188, 1189, 1190, 1191, 1192, 1193, 1194, 1195, 1196, 1197, 1198, 1199, 1200, 1201, 1202, 1203, 1204, 1205, 1206, 1207, 1208, 1209, 1210, 1211, 1212, 1213, 1214, 1215, 1216, 1217, 1218, 1219, 1220, 1221, 1222, 1223, 1224, 1225, 1226, 1227, 1228, 1229, 1230, 1231] rfl (by decide +kernel)
set_option maxRecDepth 20000 in
theorem gL_law_X10_load : GoodIn wsL_law (wsV RL 111 RX10 yX10_load wsX10_load) := goodIn_app (goodIn_of _ (by decide +kernel)) ggL_law_X10_load
set_option maxRecDepth 20000 in
theorem ggL_law_X10_unwrap : GoodIn wsL_law wsX10_unwrap := goodIn_r _ [1012, 287, 217, 219, 221, 242, 214, 240, 222, 607, 608, 609, 5, 610, 288, 638, 639, 640, 641, 213, 552, 553, 554, 762, 763, 764, 765, 220, 658, 659, 660, 661, 931, 932, 933, 934, 964, 965, 966, 967, 218, 968, 239, 237, 256, 257, 258, 1013, 1014, 1015, 1016, 973, 974, 975, 976, 981, 982, 983, 984, 241, 1017, 1018, 1019, 1020, 238, 810, 811, 812, 813, 814, 815, 816, 1180, 1181, 1182, 1183, 1184, 1185, 1186, 1187, 1188, 1189, 1190, 1191, 1192, 1193, 1194, 1195, 1196, 1197, 1198, 1199, 1200, 1201, 1202, 1203, 1204, 1205, 1206, 1207, 1208, 1209, 1210, 1211, 1212, 1213, 1214, 1215, 1216, 1217, 1218, 1219, 1220, 1221, 1222, 1223, 1224, 1225, 1226, 1227, 1228, 1229, 1230, 1231] rfl (by decide +kernel)
set_option maxRecDepth 20000 in
theorem gL_law_X10_unwrap : GoodIn wsL_law (wsV RL 128 RX10 yX10_unwrap wsX10_unwrap) := goodIn_app (goodIn_of _ (by decide +kernel)) ggL_law_X10_unwrap
set_option maxRecDepth 20000 in
theorem ggL_law_X10_same : GoodIn wsL_law wsX10_same := goodIn_r _ [1160, 287, 217, 218, 222, 214, 552, 553, 5, 554, 1180, 1181, 1182, 1183, 1184, 1185, 1186, 1187, 1188, 1189, 1190, 1191, 1192, 1193, 1194, 1195, 1196, 1197, 1198, 1199, 1200, 1201, 1202, 1203, 1204, 1205, 1206, 1207, 1208, 1209, 1210, 1211, 1212, 1213, 1214, 1215, 1216, 1217, 1218, 1219, 1220, 1221, 1222, 1223, 1224, 1225, 1226, 1227, 1228, 1229, 1230, 1231] rfl (by decide +kernel)
set_option maxRecDepth 20000 in
theorem gL_law_X10_same : GoodIn wsL_law (wsV RL 143 RX10 yX10_same wsX10_same) := goodIn_app (goodIn_of _ (by decide +kernel)) ggL_law_X10_same
