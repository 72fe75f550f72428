set_option maxRecDepth 20000 in
theorem ggL_law_X10_dieLeft : GoodIn wsL_law wsX10_dieLeft := goodIn_r _ [788, 160, 81, 161, 162, 5, 163, 164, 165, 166, 167, 1228, 1229, 1230, 1231, 1232, 1233, 1234, 1235, 1236, 1237, 1238, 1239, 1240, 1241, 1242, 1243, 1244, 1245, 1246, 1247] (by decide +kernel) (by decide +kernel)
set_option maxRecDepth 20000 in
theorem gL_law_X10_dieLeft : GoodIn wsL_law (wsV RL 191 RX10 yX10_dieLeft wsX10_dieLeft) := goodIn_app (goodIn_of _ (by decide +kernel)) ggL_law_X10_dieLeft
set_option maxRecDepth 20000 in
theorem ggL_law_L_piecesOn : GoodIn wsL_law wsL_piecesOn := goodIn_ca (goodIn_r _ [791, 184, 792, 793, 794, 2, 795, 189, 190, 16, 411, 412, 413, 194, 195, 196, 796, 422, 423, 15, 424, 205, 206, 207, 208, 38, 39, 213, 214, 215, 290, 239, 240, 241, 1224, 1225, 1226, 1227, 1248, 1249, 1250, 1251, 1252, 1253, 1254, 1255, 1256, 1257, 1258, 1259, 1260] (by decide +kernel) (by decide +kernel)) (goodIn_sub (fun _ h => List.mem_append_right _ h) (by decide +kernel))
set_option maxRecDepth 20000 in
theorem gL_law_L_piecesOn : GoodIn wsL_law (va_wsS RL 192 yL_piecesOn wsL_piecesOn) := goodIn_app (goodIn_of _ (by decide +kernel)) ggL_law_L_piecesOn
set_option maxRecDepth 20000 in
theorem ggL_law_X10_piecesOn : GoodIn wsL_law wsX10_piecesOn := goodIn_r _ [800, 801, 802, 803, 5, 804, 160, 443, 444, 445, 161, 162, 163, 446, 447, 448, 314, 315, 316, 317, 81, 1228, 1229, 1230, 1231, 1232, 1233, 1234, 1235, 1236, 1237, 1238, 1239, 1240, 1241, 1242, 1243, 1244, 1245, 1246, 1247] (by decide +kernel) (by decide +kernel)
set_option maxRecDepth 20000 in
theorem gL_law_X10_piecesOn : GoodIn wsL_law (wsV RL 194 RX10 yX10_piecesOn wsX10_piecesOn) := goodIn_app (goodIn_of _ (by decide +kernel)) ggL_law_X10_piecesOn
set_option maxRecDepth 20000 in
theorem ggL_law_L_onBar : GoodIn wsL_law wsL_onBar := goodIn_ca (goodIn_r _ [807, 184, 808, 809, 810, 2, 811, 189, 190, 16, 411, 412, 413, 434, 206, 207, 15, 208, 38, 39, 812, 239, 240, 241, 1224, 1225, 1226, 1227, 1248, 1249, 1250, 1251, 1252, 1253, 1254, 1255, 1256, 1257, 1258, 1259, 1260] (by decide +kernel) (by decide +kernel)) (goodIn_sub (fun _ h => List.mem_append_right _ h) (by decide +kernel))
set_option maxRecDepth 20000 in
theorem gL_law_L_onBar : GoodIn wsL_law (va_wsS RL 195 yL_onBar wsL_onBar) := goodIn_app (goodIn_of _ (by decide +kernel)) ggL_law_L_onBar
set_option maxRecDepth 20000 in
theorem ggL_law_X10_onBar : GoodIn wsL_law wsX10_onBar := goodIn_r _ [816, 801, 802, 803, 5, 804, 160, 443, 444, 445, 161, 162, 163, 446, 447, 448, 314, 315, 316, 317, 81, 1228, 1229, 1230, 1231, 1232, 1233, 1234, 1235, 1236, 1237, 1238, 1239, 1240, 1241, 1242, 1243, 1244, 1245, 1246, 1247] (by decide +kernel) (by decide +kernel)
set_option maxRecDepth 20000 in
theorem gL_law_X10_onBar : GoodIn wsL_law (wsV RL 197 RX10 yX10_onBar wsX10_onBar) := goodIn_app (goodIn_of _ (by decide +kernel)) ggL_law_X10_onBar
set_option maxRecDepth 20000 in
theorem ggL_law_L_borneOff : GoodIn wsL_law wsL_borneOff := goodIn_ca (goodIn_r _ [819, 184, 820, 821, 822, 2, 823, 189, 190, 16, 411, 412, 413, 434, 206, 207, 15, 208, 38, 39, 812, 239, 240, 241, 1224, 1225, 1226, 1227, 1248, 1249, 1250, 1251, 1252, 1253, 1254, 1255, 1256, 1257, 1258, 1259, 1260] (by decide +kernel) (by decide +kernel)) (goodIn_sub (fun _ h => List.mem_append_right _ h) (by decide +kernel))
set_option maxRecDepth 20000 in
theorem gL_law_L_borneOff : GoodIn wsL_law (va_wsS RL 198 yL_borneOff wsL_borneOff) := goodIn_app (goodIn_of _ (by decide +kernel)) ggL_law_L_borneOff
set_option maxRecDepth 20000 in
theorem ggL_law_X10_borneOff : GoodIn wsL_law wsX10_borneOff := goodIn_r _ [827, 801, 802, 803, 5, 804, 160, 443, 444, 445, 161, 162, 163, 446, 447, 448, 314, 315, 316, 317, 81, 1228, 1229, 1230, 1231, 1232, 1233, 1234, 1235, 1236, 1237, 1238, 1239, 1240, 1241, 1242, 1243, 1244, 1245, 1246, 1247] (by decide +kernel) (by decide +kernel)
set_option maxRecDepth 20000 in
theorem gL_law_X10_borneOff : GoodIn wsL_law (wsV RL 200 RX10 yX10_borneOff wsX10_borneOff) := goodIn_app (goodIn_of _ (by decide +kernel)) ggL_law_X10_borneOff
set_option maxRecDepth 20000 in
theorem ggL_law_L_pips : GoodIn wsL_law wsL_pips := goodIn_ca (goodIn_r _ [830, 184, 831, 832, 833, 2, 834, 189, 190, 16, 411, 412, 413, 434, 206, 207, 15, 208, 38, 39, 435, 436, 240, 437, 438, 239, 241, 1224, 1225, 1226, 1227, 1248, 1249, 1250, 1251, 1252, 1253, 1254, 1255, 1256, 1257, 1258, 1259, 1260] (by decide +kernel) (by decide +kernel)) (goodIn_sub (fun _ h => List.mem_append_right _ h) (by decide +kernel))
set_option maxRecDepth 20000 in
theorem gL_law_L_pips : GoodIn wsL_law (va_wsS RL 201 yL_pips wsL_pips) := goodIn_app (goodIn_of _ (by decide +kernel)) ggL_law_L_pips
set_option maxRecDepth 20000 in
theorem ggL_law_X10_pips : GoodIn wsL_law wsX10_pips := goodIn_r _ [838, 801, 802, 803, 5, 804, 160, 443, 444, 445, 161, 162, 163, 446, 447, 448, 449, 450, 451, 452, 314, 315, 316, 317, 81, 329, 330, 331, 1228, 1229, 1230, 1231, 1232, 1233, 1234, 1235, 1236, 1237, 1238, 1239, 1240, 1241, 1242, 1243, 1244, 1245, 1246, 1247] (by decide +kernel) (by decide +kernel)
set_option maxRecDepth 20000 in
theorem gL_law_X10_pips : GoodIn wsL_law (wsV RL 203 RX10 yX10_pips wsX10_pips) := goodIn_app (goodIn_of _ (by decide +kernel)) ggL_law_X10_pips
set_option maxRecDepth 20000 in
theorem ggL_law_L_blots : GoodIn wsL_law wsL_blots := goodIn_ca (goodIn_r _ [841, 184, 842, 843, 844, 2, 845, 189, 190, 16, 411, 412, 413, 434, 206, 207, 15, 208, 38, 39, 846, 847, 240, 848, 438, 239, 241, 1224, 1225, 1226, 1227, 1248, 1249, 1250, 1251, 1252, 1253, 1254, 1255, 1256, 1257, 1258, 1259, 1260] (by decide +kernel) (by decide +kernel)) (goodIn_sub (fun _ h => List.mem_append_right _ h) (by decide +kernel))
set_option maxRecDepth 20000 in
theorem gL_law_L_blots : GoodIn wsL_law (va_wsS RL 204 yL_blots wsL_blots) := goodIn_app (goodIn_of _ (by decide +kernel)) ggL_law_L_blots
set_option maxRecDepth 20000 in
theorem ggL_law_X10_blots : GoodIn wsL_law wsX10_blots := goodIn_r _ [852, 801, 802, 803, 5, 804, 160, 443, 444, 445, 161, 162, 163, 446, 447, 448, 853, 854, 855, 856, 314, 315, 316, 317, 81, 1228, 1229, 1230, 1231, 1232, 1233, 1234, 1235, 1236, 1237, 1238, 1239, 1240, 1241, 1242, 1243, 1244, 1245, 1246, 1247] (by decide +kernel) (by decide +kernel)
set_option maxRecDepth 20000 in
theorem gL_law_X10_blots : GoodIn wsL_law (wsV RL 206 RX10 yX10_blots wsX10_blots) := goodIn_app (goodIn_of _ (by decide +kernel)) ggL_law_X10_blots
set_option maxRecDepth 20000 in
theorem ggL_law_L_blockade : GoodIn wsL_law wsL_blockade := goodIn_ca (goodIn_r _ [859, 184, 860, 861, 862, 2, 863, 189, 190, 16, 411, 412, 413, 434, 206, 207, 15, 208, 38, 39, 864, 865, 240, 866, 867, 224, 225, 226, 438, 239, 241, 1224, 1225, 1226, 1227, 1248, 1249, 1250, 1251, 1252, 1253, 1254, 1255, 1256, 1257, 1258, 1259, 1260] (by decide +kernel) (by decide +kernel)) (goodIn_sub (fun _ h => List.mem_append_right _ h) (by decide +kernel))
set_option maxRecDepth 20000 in
theorem gL_law_L_blockade : GoodIn wsL_law (va_wsS RL 207 yL_blockade wsL_blockade) := goodIn_app (goodIn_of _ (by decide +kernel)) ggL_law_L_blockade
set_option maxRecDepth 20000 in
theorem ggL_law_X10_blockade : GoodIn wsL_law wsX10_blockade := goodIn_r _ [871, 801, 802, 803, 5, 804, 160, 443, 444, 445, 161, 162, 163, 446, 447, 448, 872, 873, 874, 875, 321, 322, 323, 324, 314, 315, 316, 317, 81, 1228, 1229, 1230, 1231, 1232, 1233, 1234, 1235, 1236, 1237, 1238, 1239, 1240, 1241, 1242, 1243, 1244, 1245, 1246, 1247] (by decide +kernel) (by decide +kernel)
set_option maxRecDepth 20000 in
theorem gL_law_X10_blockade : GoodIn wsL_law (wsV RL 209 RX10 yX10_blockade wsX10_blockade) := goodIn_app (goodIn_of _ (by decide +kernel)) ggL_law_X10_blockade
set_option maxRecDepth 20000 in
theorem ggL_law_X9_stake : GoodIn wsL_law wsX9_stake := goodIn_r _ [879, 16, 460, 1224, 1225, 1226, 1227, 1248, 1249, 1250, 1251, 1252, 1253, 1254, 1255, 1256, 1257, 1258, 1259, 1260] (by decide +kernel) (by decide +kernel)
set_option maxRecDepth 20000 in
theorem gL_law_X9_stake : GoodIn wsL_law (wsV RL 210 RX9 yX9_stake wsX9_stake) := goodIn_app (goodIn_of _ (by decide +kernel)) ggL_law_X9_stake
set_option maxRecDepth 20000 in
theorem ggL_law_X10_stake : GoodIn wsL_law wsX10_stake := goodIn_r _ [883, 160, 81, 1228, 1229, 1230, 1231, 1232, 1233, 1234, 1235, 1236, 1237, 1238, 1239, 1240, 1241, 1242, 1243, 1244, 1245, 1246, 1247] (by decide +kernel) (by decide +kernel)
set_option maxRecDepth 20000 in
theorem gL_law_X10_stake : GoodIn wsL_law (wsV RL 213 RX10 yX10_stake wsX10_stake) := goodIn_app (goodIn_of _ (by decide +kernel)) ggL_law_X10_stake
set_option maxRecDepth 20000 in
theorem ggL_law_X9_cubeOf : GoodIn wsL_law wsX9_cubeOf := goodIn_r _ [887, 16, 888, 1224, 1225, 1226, 1227, 1248, 1249, 1250, 1251, 1252, 1253, 1254, 1255, 1256, 1257, 1258, 1259, 1260] (by decide +kernel) (by decide +kernel)
set_option maxRecDepth 20000 in
theorem gL_law_X9_cubeOf : GoodIn wsL_law (wsV RL 214 RX9 yX9_cubeOf wsX9_cubeOf) := goodIn_app (goodIn_of _ (by decide +kernel)) ggL_law_X9_cubeOf
set_option maxRecDepth 20000 in
theorem ggL_law_X10_cubeOf : GoodIn wsL_law wsX10_cubeOf := goodIn_r _ [892, 160, 81, 1228, 1229, 1230, 1231, 1232, 1233, 1234, 1235, 1236, 1237, 1238, 1239, 1240, 1241, 1242, 1243, 1244, 1245, 1246, 1247] (by decide +kernel) (by decide +kernel)
set_option maxRecDepth 20000 in
theorem gL_law_X10_cubeOf : GoodIn wsL_law (wsV RL 217 RX10 yX10_cubeOf wsX10_cubeOf) := goodIn_app (goodIn_of _ (by decide +kernel)) ggL_law_X10_cubeOf
set_option maxRecDepth 20000 in
theorem ggL_law_L_score : GoodIn wsL_law wsL_score := goodIn_ca (goodIn_r _ [895, 184, 896, 897, 898, 2, 899, 189, 190, 16, 411, 412, 413, 515, 516, 517, 15, 518, 40, 41, 1224, 1225, 1226, 1227, 1248, 1249, 1250, 1251, 1252, 1253, 1254, 1255, 1256, 1257, 1258, 1259, 1260] (by decide +kernel) (by decide +kernel)) (goodIn_sub (fun _ h => List.mem_append_right _ h) (by decide +kernel))
set_option maxRecDepth 20000 in
theorem gL_law_L_score : GoodIn wsL_law (va_wsS RL 218 yL_score wsL_score) := goodIn_app (goodIn_of _ (by decide +kernel)) ggL_law_L_score
set_option maxRecDepth 20000 in
theorem ggL_law_X10_score : GoodIn wsL_law wsX10_score := goodIn_r _ [903, 81, 801, 802, 803, 5, 804, 160, 443, 444, 445, 161, 162, 163, 446, 447, 448, 1228, 1229, 1230, 1231, 1232, 1233, 1234, 1235, 1236, 1237, 1238, 1239, 1240, 1241, 1242, 1243, 1244, 1245, 1246, 1247] (by decide +kernel) (by decide +kernel)
set_option maxRecDepth 20000 in
theorem gL_law_X10_score : GoodIn wsL_law (wsV RL 220 RX10 yX10_score wsX10_score) := goodIn_app (goodIn_of _ (by decide +kernel)) ggL_law_X10_score
set_option maxRecDepth 20000 in
theorem ggL_law_L_hits : GoodIn wsL_law wsL_hits := goodIn_ca (goodIn_r _ [906, 184, 907, 908, 909, 2, 910, 189, 190, 16, 411, 412, 413, 911, 912, 913, 15, 914, 42, 43, 1224, 1225, 1226, 1227, 1248, 1249, 1250, 1251, 1252, 1253, 1254, 1255, 1256, 1257, 1258, 1259, 1260] (by decide +kernel) (by decide +kernel)) (goodIn_sub (fun _ h => List.mem_append_right _ h) (by decide +kernel))
set_option maxRecDepth 20000 in
theorem gL_law_L_hits : GoodIn wsL_law (va_wsS RL 221 yL_hits wsL_hits) := goodIn_app (goodIn_of _ (by decide +kernel)) ggL_law_L_hits
set_option maxRecDepth 20000 in
theorem ggL_law_X10_hits : GoodIn wsL_law wsX10_hits := goodIn_r _ [918, 81, 801, 802, 803, 5, 804, 160, 443, 444, 445, 161, 162, 163, 446, 447, 448, 1228, 1229, 1230, 1231, 1232, 1233, 1234, 1235, 1236, 1237, 1238, 1239, 1240, 1241, 1242, 1243, 1244, 1245, 1246, 1247] (by decide +kernel) (by decide +kernel)
set_option maxRecDepth 20000 in
theorem gL_law_X10_hits : GoodIn wsL_law (wsV RL 223 RX10 yX10_hits wsX10_hits) := goodIn_app (goodIn_of _ (by decide +kernel)) ggL_law_X10_hits
set_option maxRecDepth 20000 in
theorem ggL_law_L_whyNoStep : GoodIn wsL_law wsL_whyNoStep := goodIn_ca (goodIn_ca (goodIn_r _ [921, 184, 108, 922, 923, 924, 2, 925, 189, 190, 114, 115, 16, 191, 192, 193, 194, 195, 196, 119, 120, 121, 122, 197, 198, 199, 15, 200, 34, 32, 201, 202, 203, 204, 205, 206, 207, 208, 38, 39, 209, 210, 211, 212, 213, 214, 215, 216, 217, 218, 219, 220, 221, 222, 223, 224, 225, 226, 227, 151, 152, 153, 154, 155, 228, 229, 230, 231, 232, 233, 234, 235, 236, 237, 238, 239, 240, 241, 242, 243, 244, 245, 246, 247, 248, 249, 250, 251, 252, 253, 254, 255, 256, 257, 258, 259, 260, 261, 262, 263, 264, 265, 266, 267, 268, 269, 270, 1224, 1225, 1226, 1227, 1248, 1249, 1250, 1251, 1252, 1253, 1254, 1255, 1256, 1257, 1258, 1259, 1260] (by decide +kernel) (by decide +kernel)) (goodIn_sub (fun _ h => List.mem_append_right _ h) (by decide +kernel))) (goodIn_sub (fun _ h => List.mem_append_left _ (List.mem_append_left _ (List.mem_append_right _ h))) (by decide +kernel))
set_option maxRecDepth 20000 in
theorem gL_law_L_whyNoStep : GoodIn wsL_law (va_wsS RL 224 yL_whyNoStep wsL_whyNoStep) := goodIn_app (goodIn_of _ (by decide +kernel)) ggL_law_L_whyNoStep
