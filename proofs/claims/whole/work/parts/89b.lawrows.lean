set_option maxRecDepth 20000 in
theorem ggL_law_X9_init : GoodIn wsL_law wsX9_init := goodIn_r _ [9, 10, 11, 12, 13, 14, 15, 16, 17, 18, 19, 20, 21, 22, 23, 24, 25, 26, 27, 28, 29, 30, 31, 32, 33, 34, 35, 36, 37, 38, 39, 40, 41, 42, 43, 44, 45, 46, 47, 48, 49, 50, 51, 52, 53, 54, 55, 56, 57, 58, 59, 60, 61, 62, 63, 64, 65, 66, 67, 68, 69, 70, 71, 72, 6, 73, 74, 75, 76, 1248, 1249, 1250, 1251, 1252, 1253, 1254, 1255, 1256, 1257, 1258, 1259, 1260, 1224, 1225, 1226, 1227, 1261, 1262, 1263, 1264, 1265, 1266, 1267, 1268, 1269, 1270, 1271, 1272, 1273] (by decide +kernel) (by decide +kernel)
set_option maxRecDepth 20000 in
theorem gL_law_X9_init : GoodIn wsL_law (wsX9_init) := ggL_law_X9_init
set_option maxRecDepth 20000 in
theorem ggL_law_X10_init : GoodIn wsL_law wsX10_init := goodIn_r _ [79, 80, 11, 12, 75, 81, 82, 83, 84, 85, 86, 6, 87, 88, 89, 90, 91, 92, 93, 94, 5, 95, 96, 97, 98, 99, 100, 101, 102, 103, 1228, 1229, 1230, 1231, 1232, 1233, 1234, 1235, 1236, 1237, 1238, 1239, 1240, 1241, 1242, 1243, 1244, 1245, 1246, 1247] (by decide +kernel) (by decide +kernel)
set_option maxRecDepth 20000 in
theorem gL_law_X10_init : GoodIn wsL_law (wsX10_init) := ggL_law_X10_init
set_option maxRecDepth 20000 in
theorem ggL_law_L_roll : GoodIn wsL_law wsL_roll := goodIn_ca (goodIn_ca (goodIn_r _ [107, 108, 109, 110, 111, 112, 2, 113, 114, 115, 116, 117, 16, 20, 118, 119, 120, 121, 122, 123, 124, 125, 15, 126, 33, 127, 128, 129, 19, 130, 54, 131, 132, 133, 134, 51, 135, 136, 137, 138, 139, 140, 141, 142, 32, 34, 35, 36, 38, 39, 40, 41, 42, 43, 44, 45, 143, 144, 145, 146, 147, 148, 149, 150, 151, 152, 153, 154, 155, 1224, 1225, 1226, 1227, 1248, 1249, 1250, 1251, 1252, 1253, 1254, 1255, 1256, 1257, 1258, 1259, 1260, 1261, 1262, 1263, 1264] (by decide +kernel) (by decide +kernel)) (goodIn_sub (fun _ h => List.mem_append_left _ (List.mem_append_left _ (List.mem_append_right _ h))) (by decide +kernel))) (goodIn_sub (fun _ h => List.mem_append_left _ (List.mem_append_right _ h)) (by decide +kernel))
set_option maxRecDepth 20000 in
theorem gL_law_L_roll : GoodIn wsL_law (va_wsS RL 108 yL_roll wsL_roll) := goodIn_app (goodIn_of _ (by decide +kernel)) ggL_law_L_roll
set_option maxRecDepth 20000 in
theorem ggL_law_X10_roll : GoodIn wsL_law wsX10_roll := goodIn_r _ [159, 160, 81, 161, 162, 5, 163, 164, 165, 166, 167, 168, 169, 170, 171, 172, 82, 173, 174, 175, 176, 1228, 1229, 1230, 1231, 1232, 1233, 1234, 1235, 1236, 1237, 1238, 1239, 1240, 1241, 1242, 1243, 1244, 1245, 1246, 1247] (by decide +kernel) (by decide +kernel)
set_option maxRecDepth 20000 in
theorem gL_law_X10_roll : GoodIn wsL_law (wsV RL 113 RX10 yX10_roll wsX10_roll) := goodIn_app (goodIn_of _ (by decide +kernel)) ggL_law_X10_roll
set_option maxRecDepth 20000 in
theorem ggL_law_X10_thrown : GoodIn wsL_law wsX10_thrown := goodIn_r _ [180, 160, 1228, 1229, 1230, 1231, 1232, 1233, 1234, 1235, 1236, 1237, 1238, 1239, 1240, 1241, 1242, 1243, 1244, 1245, 1246, 1247] (by decide +kernel) (by decide +kernel)
set_option maxRecDepth 20000 in
theorem gL_law_X10_thrown : GoodIn wsL_law (wsV RL 114 RX10 yX10_thrown wsX10_thrown) := goodIn_app (goodIn_of _ (by decide +kernel)) ggL_law_X10_thrown
set_option maxRecDepth 20000 in
theorem ggL_law_L_step : GoodIn wsL_law wsL_step := goodIn_ca (goodIn_ca (goodIn_ca (goodIn_r _ [183, 184, 108, 109, 185, 186, 187, 2, 188, 189, 190, 114, 115, 116, 117, 16, 20, 191, 192, 193, 194, 195, 196, 119, 120, 121, 122, 197, 198, 199, 15, 200, 34, 32, 201, 202, 203, 204, 205, 206, 207, 208, 38, 39, 209, 210, 211, 212, 213, 214, 215, 216, 217, 218, 219, 220, 221, 222, 223, 224, 225, 226, 227, 151, 152, 153, 154, 155, 228, 229, 230, 231, 232, 233, 234, 235, 236, 237, 238, 239, 240, 241, 242, 243, 244, 245, 246, 247, 248, 249, 250, 251, 252, 253, 254, 255, 256, 257, 258, 259, 260, 261, 262, 263, 264, 265, 266, 267, 268, 269, 270, 127, 128, 129, 19, 130, 54, 131, 132, 133, 134, 51, 135, 136, 137, 138, 139, 140, 141, 142, 33, 35, 36, 40, 41, 42, 43, 44, 45, 271, 272, 273, 274, 275, 276, 277, 278, 279, 280, 281, 282, 283, 284, 285, 286, 287, 288, 289, 290, 291, 292, 293, 294, 1224, 1225, 1226, 1227, 1248, 1249, 1250, 1251, 1252, 1253, 1254, 1255, 1256, 1257, 1258, 1259, 1260, 1261, 1262, 1263, 1264] (by decide +kernel) (by decide +kernel)) (goodIn_sub (fun _ h => List.mem_append_right _ h) (by decide +kernel))) (goodIn_sub (fun _ h => List.mem_append_left _ (List.mem_append_left _ (List.mem_append_right _ h))) (by decide +kernel))) (goodIn_sub (fun _ h => List.mem_append_left _ (List.mem_append_right _ h)) (by decide +kernel))
set_option maxRecDepth 20000 in
theorem gL_law_L_step : GoodIn wsL_law (va_wsS RL 117 yL_step wsL_step) := goodIn_app (goodIn_of _ (by decide +kernel)) ggL_law_L_step
set_option maxRecDepth 20000 in
theorem ggL_law_X10_step : GoodIn wsL_law wsX10_step := goodIn_r _ [298, 160, 299, 300, 5, 301, 161, 162, 163, 302, 303, 304, 305, 81, 306, 307, 308, 309, 310, 311, 312, 313, 314, 315, 316, 317, 318, 319, 320, 321, 322, 323, 324, 325, 326, 327, 328, 329, 330, 331, 332, 333, 334, 335, 336, 337, 338, 339, 340, 341, 342, 343, 344, 345, 346, 347, 348, 349, 350, 351, 86, 352, 353, 354, 355, 96, 97, 98, 99, 356, 357, 358, 359, 360, 361, 362, 363, 364, 365, 366, 367, 168, 169, 170, 171, 172, 82, 368, 369, 370, 371, 372, 373, 374, 375, 100, 101, 102, 103, 1228, 1229, 1230, 1231, 1232, 1233, 1234, 1235, 1236, 1237, 1238, 1239, 1240, 1241, 1242, 1243, 1244, 1245, 1246, 1247] (by decide +kernel) (by decide +kernel)
set_option maxRecDepth 20000 in
theorem gL_law_X10_step : GoodIn wsL_law (wsV RL 119 RX10 yX10_step wsX10_step) := goodIn_app (goodIn_of _ (by decide +kernel)) ggL_law_X10_step
set_option maxRecDepth 20000 in
theorem ggL_law_L_endTurn : GoodIn wsL_law wsL_endTurn := goodIn_ca (goodIn_r _ [378, 109, 379, 380, 381, 2, 382, 116, 117, 16, 20, 383, 384, 385, 386, 15, 387, 33, 216, 217, 218, 219, 34, 201, 202, 203, 204, 32, 205, 206, 207, 208, 38, 39, 209, 210, 211, 212, 220, 221, 222, 223, 224, 225, 226, 227, 151, 121, 152, 153, 154, 155, 228, 229, 230, 231, 232, 233, 234, 235, 236, 237, 238, 239, 240, 241, 242, 243, 244, 245, 246, 247, 248, 249, 250, 251, 252, 253, 254, 255, 256, 257, 258, 259, 260, 127, 128, 129, 19, 130, 54, 131, 132, 133, 134, 51, 135, 136, 137, 138, 139, 140, 141, 142, 35, 36, 40, 41, 42, 43, 44, 45, 388, 389, 390, 391, 1224, 1225, 1226, 1227, 1248, 1249, 1250, 1251, 1252, 1253, 1254, 1255, 1256, 1257, 1258, 1259, 1260, 1261, 1262, 1263, 1264] (by decide +kernel) (by decide +kernel)) (goodIn_sub (fun _ h => List.mem_append_left _ (List.mem_append_right _ h)) (by decide +kernel))
set_option maxRecDepth 20000 in
theorem gL_law_L_endTurn : GoodIn wsL_law (va_wsS RL 120 yL_endTurn wsL_endTurn) := goodIn_app (goodIn_of _ (by decide +kernel)) ggL_law_L_endTurn
set_option maxRecDepth 20000 in
theorem ggL_law_X10_endTurn : GoodIn wsL_law wsX10_endTurn := goodIn_r _ [395, 160, 396, 397, 398, 5, 399, 81, 332, 333, 334, 335, 336, 337, 338, 339, 340, 341, 342, 343, 310, 311, 312, 313, 314, 315, 316, 317, 318, 319, 320, 321, 322, 323, 324, 325, 326, 327, 328, 329, 330, 331, 344, 345, 346, 347, 348, 349, 350, 351, 86, 352, 353, 354, 355, 96, 97, 98, 99, 356, 357, 358, 359, 360, 361, 362, 363, 164, 165, 166, 167, 168, 169, 170, 171, 172, 82, 400, 401, 402, 403, 100, 101, 102, 103, 1228, 1229, 1230, 1231, 1232, 1233, 1234, 1235, 1236, 1237, 1238, 1239, 1240, 1241, 1242, 1243, 1244, 1245, 1246, 1247] (by decide +kernel) (by decide +kernel)
set_option maxRecDepth 20000 in
theorem gL_law_X10_endTurn : GoodIn wsL_law (wsV RL 123 RX10 yX10_endTurn wsX10_endTurn) := goodIn_app (goodIn_of _ (by decide +kernel)) ggL_law_X10_endTurn
set_option maxRecDepth 20000 in
theorem ggL_law_L_carry : GoodIn wsL_law wsL_carry := goodIn_ca (goodIn_ca (goodIn_r _ [406, 184, 109, 407, 408, 409, 2, 410, 189, 190, 116, 117, 16, 20, 411, 412, 413, 414, 415, 416, 191, 192, 193, 194, 195, 196, 417, 418, 419, 15, 420, 33, 421, 422, 423, 424, 205, 206, 207, 208, 38, 39, 213, 214, 215, 290, 239, 240, 241, 425, 426, 427, 428, 429, 252, 253, 286, 287, 288, 289, 246, 247, 127, 128, 129, 19, 130, 54, 131, 132, 133, 134, 51, 135, 136, 137, 138, 139, 140, 141, 142, 32, 34, 35, 36, 40, 41, 42, 43, 44, 45, 430, 431, 432, 433, 276, 277, 278, 279, 434, 435, 436, 437, 438, 1224, 1225, 1226, 1227, 1248, 1249, 1250, 1251, 1252, 1253, 1254, 1255, 1256, 1257, 1258, 1259, 1260, 1261, 1262, 1263, 1264] (by decide +kernel) (by decide +kernel)) (goodIn_sub (fun _ h => List.mem_append_right _ h) (by decide +kernel))) (goodIn_sub (fun _ h => List.mem_append_left _ (List.mem_append_right _ h)) (by decide +kernel))
set_option maxRecDepth 20000 in
theorem gL_law_L_carry : GoodIn wsL_law (va_wsS RL 124 yL_carry wsL_carry) := goodIn_app (goodIn_of _ (by decide +kernel)) ggL_law_L_carry
set_option maxRecDepth 20000 in
theorem ggL_law_X10_carry : GoodIn wsL_law wsX10_carry := goodIn_r _ [442, 160, 81, 443, 444, 5, 445, 161, 162, 163, 164, 165, 166, 167, 446, 447, 448, 314, 315, 316, 317, 168, 169, 170, 171, 172, 82, 96, 97, 98, 99, 449, 450, 451, 452, 329, 330, 331, 1228, 1229, 1230, 1231, 1232, 1233, 1234, 1235, 1236, 1237, 1238, 1239, 1240, 1241, 1242, 1243, 1244, 1245, 1246, 1247] (by decide +kernel) (by decide +kernel)
set_option maxRecDepth 20000 in
theorem gL_law_X10_carry : GoodIn wsL_law (wsV RL 127 RX10 yX10_carry wsX10_carry) := goodIn_app (goodIn_of _ (by decide +kernel)) ggL_law_X10_carry
set_option maxRecDepth 20000 in
theorem ggL_law_L_offer : GoodIn wsL_law wsL_offer := goodIn_ca (goodIn_r _ [455, 109, 456, 457, 458, 2, 459, 116, 117, 16, 20, 460, 461, 462, 463, 15, 464, 36, 32, 33, 35, 127, 128, 129, 19, 130, 54, 131, 132, 133, 134, 51, 135, 136, 137, 138, 139, 140, 141, 142, 34, 38, 39, 40, 41, 42, 43, 44, 45, 465, 466, 467, 468, 1224, 1225, 1226, 1227, 1248, 1249, 1250, 1251, 1252, 1253, 1254, 1255, 1256, 1257, 1258, 1259, 1260, 1261, 1262, 1263, 1264] (by decide +kernel) (by decide +kernel)) (goodIn_sub (fun _ h => List.mem_append_left _ (List.mem_append_right _ h)) (by decide +kernel))
set_option maxRecDepth 20000 in
theorem gL_law_L_offer : GoodIn wsL_law (va_wsS RL 128 yL_offer wsL_offer) := goodIn_app (goodIn_of _ (by decide +kernel)) ggL_law_L_offer
set_option maxRecDepth 20000 in
theorem ggL_law_X10_offer : GoodIn wsL_law wsX10_offer := goodIn_r _ [472, 160, 473, 474, 475, 5, 476, 81, 164, 165, 166, 167, 168, 169, 170, 171, 172, 82, 477, 478, 479, 480, 1228, 1229, 1230, 1231, 1232, 1233, 1234, 1235, 1236, 1237, 1238, 1239, 1240, 1241, 1242, 1243, 1244, 1245, 1246, 1247] (by decide +kernel) (by decide +kernel)
set_option maxRecDepth 20000 in
theorem gL_law_X10_offer : GoodIn wsL_law (wsV RL 130 RX10 yX10_offer wsX10_offer) := goodIn_app (goodIn_of _ (by decide +kernel)) ggL_law_X10_offer
set_option maxRecDepth 20000 in
theorem ggL_law_L_take : GoodIn wsL_law wsL_take := goodIn_ca (goodIn_r _ [483, 109, 484, 485, 486, 2, 487, 116, 117, 16, 20, 460, 488, 489, 490, 15, 491, 33, 127, 128, 129, 19, 130, 54, 131, 132, 133, 134, 51, 135, 136, 137, 138, 139, 140, 141, 142, 32, 34, 35, 36, 38, 39, 40, 41, 42, 43, 44, 45, 492, 493, 494, 495, 1224, 1225, 1226, 1227, 1248, 1249, 1250, 1251, 1252, 1253, 1254, 1255, 1256, 1257, 1258, 1259, 1260, 1261, 1262, 1263, 1264] (by decide +kernel) (by decide +kernel)) (goodIn_sub (fun _ h => List.mem_append_left _ (List.mem_append_right _ h)) (by decide +kernel))
set_option maxRecDepth 20000 in
theorem gL_law_L_take : GoodIn wsL_law (va_wsS RL 131 yL_take wsL_take) := goodIn_app (goodIn_of _ (by decide +kernel)) ggL_law_L_take
set_option maxRecDepth 20000 in
theorem ggL_law_X10_take : GoodIn wsL_law wsX10_take := goodIn_r _ [499, 160, 81, 164, 165, 166, 5, 167, 168, 169, 170, 171, 172, 82, 500, 501, 502, 503, 1228, 1229, 1230, 1231, 1232, 1233, 1234, 1235, 1236, 1237, 1238, 1239, 1240, 1241, 1242, 1243, 1244, 1245, 1246, 1247] (by decide +kernel) (by decide +kernel)
set_option maxRecDepth 20000 in
theorem gL_law_X10_take : GoodIn wsL_law (wsV RL 133 RX10 yX10_take wsX10_take) := goodIn_app (goodIn_of _ (by decide +kernel)) ggL_law_X10_take
set_option maxRecDepth 20000 in
theorem ggL_law_L_drop : GoodIn wsL_law wsL_drop := goodIn_ca (goodIn_r _ [506, 109, 507, 508, 509, 2, 510, 116, 117, 16, 20, 383, 488, 489, 490, 15, 491, 33, 127, 128, 129, 19, 130, 54, 131, 132, 133, 134, 51, 135, 136, 137, 138, 139, 140, 141, 142, 32, 34, 35, 36, 38, 39, 40, 41, 42, 43, 44, 45, 511, 512, 513, 514, 291, 292, 293, 294, 515, 516, 517, 518, 1224, 1225, 1226, 1227, 1248, 1249, 1250, 1251, 1252, 1253, 1254, 1255, 1256, 1257, 1258, 1259, 1260, 1261, 1262, 1263, 1264] (by decide +kernel) (by decide +kernel)) (goodIn_sub (fun _ h => List.mem_append_left _ (List.mem_append_right _ h)) (by decide +kernel))
set_option maxRecDepth 20000 in
theorem gL_law_L_drop : GoodIn wsL_law (va_wsS RL 134 yL_drop wsL_drop) := goodIn_app (goodIn_of _ (by decide +kernel)) ggL_law_L_drop
set_option maxRecDepth 20000 in
theorem ggL_law_X10_drop : GoodIn wsL_law wsX10_drop := goodIn_r _ [522, 160, 81, 164, 165, 166, 5, 167, 168, 169, 170, 171, 172, 82, 523, 524, 525, 526, 1228, 1229, 1230, 1231, 1232, 1233, 1234, 1235, 1236, 1237, 1238, 1239, 1240, 1241, 1242, 1243, 1244, 1245, 1246, 1247] (by decide +kernel) (by decide +kernel)
set_option maxRecDepth 20000 in
theorem gL_law_X10_drop : GoodIn wsL_law (wsV RL 136 RX10 yX10_drop wsX10_drop) := goodIn_app (goodIn_of _ (by decide +kernel)) ggL_law_X10_drop
set_option maxRecDepth 20000 in
theorem ggL_law_L_newGame : GoodIn wsL_law wsL_newGame := goodIn_ca (goodIn_r _ [529, 109, 530, 531, 532, 2, 533, 116, 117, 16, 20, 383, 534, 535, 536, 15, 537, 33, 127, 128, 129, 19, 130, 54, 131, 132, 133, 134, 51, 135, 136, 137, 138, 139, 140, 141, 142, 32, 34, 35, 36, 38, 39, 40, 41, 42, 43, 44, 45, 538, 539, 540, 541, 37, 1224, 1225, 1226, 1227, 1248, 1249, 1250, 1251, 1252, 1253, 1254, 1255, 1256, 1257, 1258, 1259, 1260, 1261, 1262, 1263, 1264] (by decide +kernel) (by decide +kernel)) (goodIn_sub (fun _ h => List.mem_append_left _ (List.mem_append_right _ h)) (by decide +kernel))
set_option maxRecDepth 20000 in
theorem gL_law_L_newGame : GoodIn wsL_law (va_wsS RL 137 yL_newGame wsL_newGame) := goodIn_app (goodIn_of _ (by decide +kernel)) ggL_law_L_newGame
set_option maxRecDepth 20000 in
theorem ggL_law_X10_newGame : GoodIn wsL_law wsX10_newGame := goodIn_r _ [545, 160, 81, 164, 165, 166, 5, 167, 168, 169, 170, 171, 172, 82, 546, 547, 548, 549, 92, 93, 94, 95, 96, 97, 98, 99, 100, 101, 102, 103, 1228, 1229, 1230, 1231, 1232, 1233, 1234, 1235, 1236, 1237, 1238, 1239, 1240, 1241, 1242, 1243, 1244, 1245, 1246, 1247] (by decide +kernel) (by decide +kernel)
set_option maxRecDepth 20000 in
theorem gL_law_X10_newGame : GoodIn wsL_law (wsV RL 139 RX10 yX10_newGame wsX10_newGame) := goodIn_app (goodIn_of _ (by decide +kernel)) ggL_law_X10_newGame
set_option maxRecDepth 20000 in
theorem ggL_law_L_append : GoodIn wsL_law wsL_append := goodIn_ca (goodIn_ca (goodIn_r _ [552, 108, 109, 553, 554, 555, 2, 556, 114, 115, 116, 117, 24, 557, 558, 559, 560, 23, 561, 60, 562, 563, 564, 565, 59, 1224, 1225, 1226, 1227, 1265, 1266] (by decide +kernel) (by decide +kernel)) (goodIn_sub (fun _ h => List.mem_append_left _ (List.mem_append_left _ (List.mem_append_right _ h))) (by decide +kernel))) (goodIn_sub (fun _ h => List.mem_append_left _ (List.mem_append_right _ h)) (by decide +kernel))
set_option maxRecDepth 20000 in
theorem gL_law_L_append : GoodIn wsL_law (va_wsS RL 140 yL_append wsL_append) := goodIn_app (goodIn_of _ (by decide +kernel)) ggL_law_L_append
set_option maxRecDepth 20000 in
theorem ggL_law_X10_append : GoodIn wsL_law wsX10_append := goodIn_r _ [569, 160, 570, 85, 161, 162, 5, 163, 164, 165, 166, 167, 1228, 1229, 1230, 1231, 1232, 1233, 1234, 1235, 1236, 1237, 1238, 1239, 1240, 1241, 1242, 1243, 1244, 1245, 1246, 1247] (by decide +kernel) (by decide +kernel)
set_option maxRecDepth 20000 in
theorem gL_law_X10_append : GoodIn wsL_law (wsV RL 143 RX10 yX10_append wsX10_append) := goodIn_app (goodIn_of _ (by decide +kernel)) ggL_law_X10_append
set_option maxRecDepth 20000 in
theorem ggL_law_X9_clearBuffer : GoodIn wsL_law wsX9_clearBuffer := goodIn_r _ [574, 24, 557, 575, 576, 577, 23, 578, 60, 1224, 1225, 1226, 1227, 1265, 1266] (by decide +kernel) (by decide +kernel)
set_option maxRecDepth 20000 in
theorem gL_law_X9_clearBuffer : GoodIn wsL_law (wsV RL 144 RX9 yX9_clearBuffer wsX9_clearBuffer) := goodIn_app (goodIn_of _ (by decide +kernel)) ggL_law_X9_clearBuffer
set_option maxRecDepth 20000 in
theorem ggL_law_X10_clearBuffer : GoodIn wsL_law wsX10_clearBuffer := goodIn_r _ [582, 160, 570, 1228, 1229, 1230, 1231, 1232, 1233, 1234, 1235, 1236, 1237, 1238, 1239, 1240, 1241, 1242, 1243, 1244, 1245, 1246, 1247] (by decide +kernel) (by decide +kernel)
set_option maxRecDepth 20000 in
theorem gL_law_X10_clearBuffer : GoodIn wsL_law (wsV RL 147 RX10 yX10_clearBuffer wsX10_clearBuffer) := goodIn_app (goodIn_of _ (by decide +kernel)) ggL_law_X10_clearBuffer
set_option maxRecDepth 20000 in
theorem ggL_law_X9_firstError : GoodIn wsL_law wsX9_firstError := goodIn_r _ [586, 24, 587, 588, 589, 23, 590, 60, 591, 592, 593, 594, 59, 595, 596, 597, 598, 599, 600, 601, 602, 603, 604, 605, 606, 607, 608, 609, 610, 611, 612, 1224, 1225, 1226, 1227, 1265, 1266] (by decide +kernel) (by decide +kernel)
set_option maxRecDepth 20000 in
theorem gL_law_X9_firstError : GoodIn wsL_law (wsV RL 148 RX9 yX9_firstError wsX9_firstError) := goodIn_app (goodIn_of _ (by decide +kernel)) ggL_law_X9_firstError
