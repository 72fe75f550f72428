set_option maxRecDepth 20000 in
theorem ggL_law_X10_firstError : GoodIn wsL_law wsX10_firstError := goodIn_r _ [616, 160, 617, 618, 570, 619, 620, 621, 5, 622, 623, 624, 625, 626, 627, 85, 628, 629, 630, 631, 161, 162, 163, 632, 633, 634, 635, 81, 302, 303, 304, 305, 306, 307, 308, 309, 310, 311, 312, 313, 314, 315, 316, 317, 318, 319, 320, 321, 322, 323, 324, 325, 326, 327, 328, 329, 330, 331, 332, 333, 334, 335, 336, 337, 338, 339, 340, 341, 342, 343, 344, 345, 346, 347, 348, 349, 350, 351, 86, 352, 353, 354, 355, 96, 97, 98, 99, 356, 357, 358, 359, 360, 361, 362, 363, 364, 365, 366, 367, 396, 397, 398, 399, 473, 474, 475, 476, 368, 369, 370, 371, 372, 373, 374, 375, 100, 101, 102, 103, 173, 174, 175, 176, 400, 401, 402, 403, 477, 478, 479, 480, 500, 501, 502, 503, 523, 524, 525, 526, 546, 547, 548, 549, 92, 93, 94, 95, 1228, 1229, 1230, 1231, 1232, 1233, 1234, 1235, 1236, 1237, 1238, 1239, 1240, 1241, 1242, 1243, 1244, 1245, 1246, 1247] (by decide +kernel) (by decide +kernel)
set_option maxRecDepth 20000 in
theorem gL_law_X10_firstError : GoodIn wsL_law (wsV RL 151 RX10 yX10_firstError wsX10_firstError) := goodIn_app (goodIn_of _ (by decide +kernel)) ggL_law_X10_firstError
set_option maxRecDepth 20000 in
theorem ggL_law_L_play : GoodIn wsL_law wsL_play := goodIn_ca (goodIn_r _ [638, 108, 639, 640, 641, 2, 642, 114, 115, 24, 20, 16, 557, 643, 644, 645, 23, 646, 60, 591, 592, 593, 594, 59, 595, 596, 597, 598, 599, 600, 601, 602, 603, 604, 605, 606, 607, 608, 609, 610, 611, 612, 127, 128, 129, 19, 130, 54, 131, 132, 133, 134, 51, 135, 136, 137, 138, 139, 140, 141, 15, 142, 32, 33, 34, 35, 36, 38, 39, 40, 41, 42, 43, 44, 45, 647, 648, 649, 650, 651, 224, 225, 226, 652, 653, 654, 655, 656, 123, 124, 125, 126, 657, 658, 659, 660, 661, 662, 663, 664, 665, 197, 198, 199, 200, 201, 202, 203, 204, 205, 206, 207, 208, 209, 210, 211, 212, 213, 214, 215, 216, 217, 218, 219, 220, 221, 222, 223, 227, 151, 121, 152, 153, 154, 155, 228, 229, 230, 231, 232, 233, 234, 235, 236, 237, 238, 239, 240, 241, 242, 243, 244, 245, 246, 247, 248, 249, 250, 251, 252, 253, 254, 255, 256, 257, 258, 259, 260, 261, 262, 263, 264, 265, 266, 267, 268, 269, 270, 384, 385, 386, 387, 461, 462, 463, 464, 488, 489, 490, 491, 534, 535, 536, 537, 666, 667, 668, 669, 143, 144, 145, 146, 147, 148, 149, 271, 272, 273, 274, 275, 276, 277, 278, 279, 280, 281, 282, 283, 284, 285, 286, 287, 288, 289, 290, 291, 292, 293, 294, 388, 389, 390, 391, 465, 466, 467, 468, 492, 493, 494, 495, 511, 512, 513, 514, 538, 539, 540, 541, 37, 670, 671, 672, 673, 575, 576, 577, 578, 1224, 1225, 1226, 1227, 1265, 1266, 1261, 1262, 1263, 1264, 1248, 1249, 1250, 1251, 1252, 1253, 1254, 1255, 1256, 1257, 1258, 1259, 1260] (by decide +kernel) (by decide +kernel)) (goodIn_sub (fun _ h => List.mem_append_left _ (List.mem_append_left _ (List.mem_append_right _ h))) (by decide +kernel))
set_option maxRecDepth 20000 in
theorem gL_law_L_play : GoodIn wsL_law (va_wsS RL 152 yL_play wsL_play) := goodIn_app (goodIn_of _ (by decide +kernel)) ggL_law_L_play
set_option maxRecDepth 20000 in
theorem ggL_law_X10_play : GoodIn wsL_law wsX10_play := goodIn_r _ [677, 160, 617, 81, 623, 570, 619, 620, 621, 5, 622, 618, 624, 625, 626, 627, 85, 628, 629, 630, 631, 161, 162, 163, 632, 633, 634, 635, 302, 303, 304, 305, 306, 307, 308, 309, 310, 311, 312, 313, 314, 315, 316, 317, 318, 319, 320, 321, 322, 323, 324, 325, 326, 327, 328, 329, 330, 331, 332, 333, 334, 335, 336, 337, 338, 339, 340, 341, 342, 343, 344, 345, 346, 347, 348, 349, 350, 351, 86, 352, 353, 354, 355, 96, 97, 98, 99, 356, 357, 358, 359, 360, 361, 362, 363, 364, 365, 366, 367, 396, 397, 398, 399, 473, 474, 475, 476, 368, 369, 370, 371, 372, 373, 374, 375, 100, 101, 102, 103, 173, 174, 175, 176, 400, 401, 402, 403, 477, 478, 479, 480, 500, 501, 502, 503, 523, 524, 525, 526, 546, 547, 548, 549, 92, 93, 94, 95, 164, 165, 166, 167, 168, 169, 170, 171, 172, 82, 1228, 1229, 1230, 1231, 1232, 1233, 1234, 1235, 1236, 1237, 1238, 1239, 1240, 1241, 1242, 1243, 1244, 1245, 1246, 1247] (by decide +kernel) (by decide +kernel)
set_option maxRecDepth 20000 in
theorem gL_law_X10_play : GoodIn wsL_law (wsV RL 154 RX10 yX10_play wsX10_play) := goodIn_app (goodIn_of _ (by decide +kernel)) ggL_law_X10_play
set_option maxRecDepth 20000 in
theorem ggL_law_X9_hasStopped : GoodIn wsL_law wsX9_hasStopped := goodIn_r _ [681, 16, 682, 1224, 1225, 1226, 1227, 1248, 1249, 1250, 1251, 1252, 1253, 1254, 1255, 1256, 1257, 1258, 1259, 1260] (by decide +kernel) (by decide +kernel)
set_option maxRecDepth 20000 in
theorem gL_law_X9_hasStopped : GoodIn wsL_law (wsV RL 155 RX9 yX9_hasStopped wsX9_hasStopped) := goodIn_app (goodIn_of _ (by decide +kernel)) ggL_law_X9_hasStopped
set_option maxRecDepth 20000 in
theorem ggL_law_X10_hasStopped : GoodIn wsL_law wsX10_hasStopped := goodIn_r _ [686, 160, 81, 1228, 1229, 1230, 1231, 1232, 1233, 1234, 1235, 1236, 1237, 1238, 1239, 1240, 1241, 1242, 1243, 1244, 1245, 1246, 1247] (by decide +kernel) (by decide +kernel)
set_option maxRecDepth 20000 in
theorem gL_law_X10_hasStopped : GoodIn wsL_law (wsV RL 159 RX10 yX10_hasStopped wsX10_hasStopped) := goodIn_app (goodIn_of _ (by decide +kernel)) ggL_law_X10_hasStopped
set_option maxRecDepth 20000 in
theorem ggL_law_L_stoppedPart : GoodIn wsL_law wsL_stoppedPart := goodIn_ca (goodIn_r _ [689, 109, 690, 691, 692, 2, 693, 116, 117, 16, 682, 694, 1224, 1225, 1226, 1227, 1248, 1249, 1250, 1251, 1252, 1253, 1254, 1255, 1256, 1257, 1258, 1259, 1260] (by decide +kernel) (by decide +kernel)) (goodIn_sub (fun _ h => List.mem_append_left _ (List.mem_append_right _ h)) (by decide +kernel))
set_option maxRecDepth 20000 in
theorem gL_law_L_stoppedPart : GoodIn wsL_law (va_wsS RL 160 yL_stoppedPart wsL_stoppedPart) := goodIn_app (goodIn_of _ (by decide +kernel)) ggL_law_L_stoppedPart
set_option maxRecDepth 20000 in
theorem ggL_law_X10_stoppedPart : GoodIn wsL_law wsX10_stoppedPart := goodIn_r _ [698, 160, 81, 164, 165, 166, 5, 167, 1228, 1229, 1230, 1231, 1232, 1233, 1234, 1235, 1236, 1237, 1238, 1239, 1240, 1241, 1242, 1243, 1244, 1245, 1246, 1247] (by decide +kernel) (by decide +kernel)
set_option maxRecDepth 20000 in
theorem gL_law_X10_stoppedPart : GoodIn wsL_law (wsV RL 162 RX10 yX10_stoppedPart wsX10_stoppedPart) := goodIn_app (goodIn_of _ (by decide +kernel)) ggL_law_X10_stoppedPart
set_option maxRecDepth 20000 in
theorem ggL_law_L_undo : GoodIn wsL_law wsL_undo := goodIn_ca (goodIn_r _ [701, 109, 702, 703, 704, 2, 705, 116, 117, 20, 706, 16, 707, 708, 709, 19, 710, 54, 135, 136, 137, 138, 51, 139, 140, 141, 15, 142, 32, 33, 34, 35, 36, 38, 39, 40, 41, 42, 43, 44, 45, 1224, 1225, 1226, 1227, 1261, 1262, 1263, 1264, 1248, 1249, 1250, 1251, 1252, 1253, 1254, 1255, 1256, 1257, 1258, 1259, 1260] (by decide +kernel) (by decide +kernel)) (goodIn_sub (fun _ h => List.mem_append_left _ (List.mem_append_right _ h)) (by decide +kernel))
set_option maxRecDepth 20000 in
theorem gL_law_L_undo : GoodIn wsL_law (va_wsS RL 163 yL_undo wsL_undo) := goodIn_app (goodIn_of _ (by decide +kernel)) ggL_law_L_undo
set_option maxRecDepth 20000 in
theorem ggL_law_X10_undo : GoodIn wsL_law wsX10_undo := goodIn_r _ [714, 160, 172, 81, 82, 164, 165, 166, 5, 167, 1228, 1229, 1230, 1231, 1232, 1233, 1234, 1235, 1236, 1237, 1238, 1239, 1240, 1241, 1242, 1243, 1244, 1245, 1246, 1247] (by decide +kernel) (by decide +kernel)
set_option maxRecDepth 20000 in
theorem gL_law_X10_undo : GoodIn wsL_law (wsV RL 165 RX10 yX10_undo wsX10_undo) := goodIn_app (goodIn_of _ (by decide +kernel)) ggL_law_X10_undo
set_option maxRecDepth 20000 in
theorem ggL_law_X9_keep : GoodIn wsL_law wsX9_keep := goodIn_r _ [718, 20, 16, 383, 719, 720, 721, 19, 722, 52, 53, 139, 140, 141, 15, 142, 32, 33, 34, 35, 36, 38, 39, 40, 41, 42, 43, 44, 45, 1224, 1225, 1226, 1227, 1248, 1249, 1250, 1251, 1252, 1253, 1254, 1255, 1256, 1257, 1258, 1259, 1260, 1261, 1262, 1263, 1264] (by decide +kernel) (by decide +kernel)
set_option maxRecDepth 20000 in
theorem gL_law_X9_keep : GoodIn wsL_law (wsV RL 166 RX9 yX9_keep wsX9_keep) := goodIn_app (goodIn_of _ (by decide +kernel)) ggL_law_X9_keep
set_option maxRecDepth 20000 in
theorem ggL_law_X10_keep : GoodIn wsL_law wsX10_keep := goodIn_r _ [726, 160, 83, 81, 727, 1228, 1229, 1230, 1231, 1232, 1233, 1234, 1235, 1236, 1237, 1238, 1239, 1240, 1241, 1242, 1243, 1244, 1245, 1246, 1247] (by decide +kernel) (by decide +kernel)
set_option maxRecDepth 20000 in
theorem gL_law_X10_keep : GoodIn wsL_law (wsV RL 169 RX10 yX10_keep wsX10_keep) := goodIn_app (goodIn_of _ (by decide +kernel)) ggL_law_X10_keep
set_option maxRecDepth 20000 in
theorem ggL_law_L_restore : GoodIn wsL_law wsL_restore := goodIn_ca (goodIn_r _ [730, 109, 731, 732, 733, 2, 734, 116, 117, 20, 735, 16, 383, 127, 128, 129, 19, 130, 54, 131, 132, 133, 134, 51, 135, 136, 137, 138, 139, 140, 141, 15, 142, 32, 33, 34, 35, 36, 38, 39, 40, 41, 42, 43, 44, 45, 736, 737, 738, 739, 52, 1224, 1225, 1226, 1227, 1261, 1262, 1263, 1264, 1248, 1249, 1250, 1251, 1252, 1253, 1254, 1255, 1256, 1257, 1258, 1259, 1260] (by decide +kernel) (by decide +kernel)) (goodIn_sub (fun _ h => List.mem_append_left _ (List.mem_append_right _ h)) (by decide +kernel))
set_option maxRecDepth 20000 in
theorem gL_law_L_restore : GoodIn wsL_law (va_wsS RL 170 yL_restore wsL_restore) := goodIn_app (goodIn_of _ (by decide +kernel)) ggL_law_L_restore
set_option maxRecDepth 20000 in
theorem ggL_law_X10_restore : GoodIn wsL_law wsX10_restore := goodIn_r _ [743, 160, 727, 81, 83, 164, 165, 166, 5, 167, 168, 169, 170, 171, 172, 82, 1228, 1229, 1230, 1231, 1232, 1233, 1234, 1235, 1236, 1237, 1238, 1239, 1240, 1241, 1242, 1243, 1244, 1245, 1246, 1247] (by decide +kernel) (by decide +kernel)
set_option maxRecDepth 20000 in
theorem gL_law_X10_restore : GoodIn wsL_law (wsV RL 172 RX10 yX10_restore wsX10_restore) := goodIn_app (goodIn_of _ (by decide +kernel)) ggL_law_X10_restore
set_option maxRecDepth 20000 in
theorem ggL_law_X9_savedStates : GoodIn wsL_law wsX9_savedStates := goodIn_r _ [747, 20, 706, 1224, 1225, 1226, 1227, 1261, 1262, 1263, 1264] (by decide +kernel) (by decide +kernel)
set_option maxRecDepth 20000 in
theorem gL_law_X9_savedStates : GoodIn wsL_law (wsV RL 173 RX9 yX9_savedStates wsX9_savedStates) := goodIn_app (goodIn_of _ (by decide +kernel)) ggL_law_X9_savedStates
set_option maxRecDepth 20000 in
theorem ggL_law_X10_savedStates : GoodIn wsL_law wsX10_savedStates := goodIn_r _ [751, 160, 172, 1228, 1229, 1230, 1231, 1232, 1233, 1234, 1235, 1236, 1237, 1238, 1239, 1240, 1241, 1242, 1243, 1244, 1245, 1246, 1247] (by decide +kernel) (by decide +kernel)
set_option maxRecDepth 20000 in
theorem gL_law_X10_savedStates : GoodIn wsL_law (wsV RL 176 RX10 yX10_savedStates wsX10_savedStates) := goodIn_app (goodIn_of _ (by decide +kernel)) ggL_law_X10_savedStates
set_option maxRecDepth 20000 in
theorem ggL_law_X9_mover : GoodIn wsL_law wsX9_mover := goodIn_r _ [755, 16, 383, 1224, 1225, 1226, 1227, 1248, 1249, 1250, 1251, 1252, 1253, 1254, 1255, 1256, 1257, 1258, 1259, 1260] (by decide +kernel) (by decide +kernel)
set_option maxRecDepth 20000 in
theorem gL_law_X9_mover : GoodIn wsL_law (wsV RL 177 RX9 yX9_mover wsX9_mover) := goodIn_app (goodIn_of _ (by decide +kernel)) ggL_law_X9_mover
set_option maxRecDepth 20000 in
theorem ggL_law_X10_mover : GoodIn wsL_law wsX10_mover := goodIn_r _ [759, 160, 81, 1228, 1229, 1230, 1231, 1232, 1233, 1234, 1235, 1236, 1237, 1238, 1239, 1240, 1241, 1242, 1243, 1244, 1245, 1246, 1247] (by decide +kernel) (by decide +kernel)
set_option maxRecDepth 20000 in
theorem gL_law_X10_mover : GoodIn wsL_law (wsV RL 180 RX10 yX10_mover wsX10_mover) := goodIn_app (goodIn_of _ (by decide +kernel)) ggL_law_X10_mover
set_option maxRecDepth 20000 in
theorem ggL_law_X9_phase : GoodIn wsL_law wsX9_phase := goodIn_r _ [763, 16, 764, 1224, 1225, 1226, 1227, 1248, 1249, 1250, 1251, 1252, 1253, 1254, 1255, 1256, 1257, 1258, 1259, 1260] (by decide +kernel) (by decide +kernel)
set_option maxRecDepth 20000 in
theorem gL_law_X9_phase : GoodIn wsL_law (wsV RL 181 RX9 yX9_phase wsX9_phase) := goodIn_app (goodIn_of _ (by decide +kernel)) ggL_law_X9_phase
set_option maxRecDepth 20000 in
theorem ggL_law_X10_phase : GoodIn wsL_law wsX10_phase := goodIn_r _ [768, 160, 81, 1228, 1229, 1230, 1231, 1232, 1233, 1234, 1235, 1236, 1237, 1238, 1239, 1240, 1241, 1242, 1243, 1244, 1245, 1246, 1247] (by decide +kernel) (by decide +kernel)
set_option maxRecDepth 20000 in
theorem gL_law_X10_phase : GoodIn wsL_law (wsV RL 184 RX10 yX10_phase wsX10_phase) := goodIn_app (goodIn_of _ (by decide +kernel)) ggL_law_X10_phase
set_option maxRecDepth 20000 in
theorem ggL_law_X9_diceLeft : GoodIn wsL_law wsX9_diceLeft := goodIn_r _ [772, 16, 118, 150, 151, 121, 152, 153, 154, 155, 1224, 1225, 1226, 1227, 1248, 1249, 1250, 1251, 1252, 1253, 1254, 1255, 1256, 1257, 1258, 1259, 1260] (by decide +kernel) (by decide +kernel)
set_option maxRecDepth 20000 in
theorem gL_law_X9_diceLeft : GoodIn wsL_law (wsV RL 185 RX9 yX9_diceLeft wsX9_diceLeft) := goodIn_app (goodIn_of _ (by decide +kernel)) ggL_law_X9_diceLeft
set_option maxRecDepth 20000 in
theorem ggL_law_X10_diceLeft : GoodIn wsL_law wsX10_diceLeft := goodIn_r _ [776, 160, 81, 1228, 1229, 1230, 1231, 1232, 1233, 1234, 1235, 1236, 1237, 1238, 1239, 1240, 1241, 1242, 1243, 1244, 1245, 1246, 1247] (by decide +kernel) (by decide +kernel)
set_option maxRecDepth 20000 in
theorem gL_law_X10_diceLeft : GoodIn wsL_law (wsV RL 188 RX10 yX10_diceLeft wsX10_diceLeft) := goodIn_app (goodIn_of _ (by decide +kernel)) ggL_law_X10_diceLeft
set_option maxRecDepth 20000 in
theorem ggL_law_L_dieLeft : GoodIn wsL_law wsL_dieLeft := goodIn_ca (goodIn_r _ [779, 184, 780, 781, 782, 2, 783, 189, 190, 16, 118, 150, 151, 121, 152, 153, 154, 155, 784, 1224, 1225, 1226, 1227, 1248, 1249, 1250, 1251, 1252, 1253, 1254, 1255, 1256, 1257, 1258, 1259, 1260] (by decide +kernel) (by decide +kernel)) (goodIn_sub (fun _ h => List.mem_append_right _ h) (by decide +kernel))
set_option maxRecDepth 20000 in
theorem gL_law_L_dieLeft : GoodIn wsL_law (va_wsS RL 189 yL_dieLeft wsL_dieLeft) := goodIn_app (goodIn_of _ (by decide +kernel)) ggL_law_L_dieLeft
