theorem goodIn_td {big ws : List Cond} (n : Nat) (h1 : GoodIn big (ws.take n)) (h2 : GoodIn big (ws.drop n)) : GoodIn big ws := by
  intro w hw
  rw [← List.take_append_drop n ws] at hw
  exact (List.mem_append.mp hw).elim (h1 w) (h2 w)
set_option maxRecDepth 20000 in
theorem ggL_target_L_way : GoodIn wsL_target wsL_way := goodIn_r _ [4] (by decide +kernel) (by decide +kernel)
set_option maxRecDepth 20000 in
theorem gL_target_L_way : GoodIn wsL_target (va_wsS RL 8 yL_way wsL_way) := goodIn_app (goodIn_of _ (by decide +kernel)) ggL_target_L_way
set_option maxRecDepth 20000 in
theorem ggL_pieces_X9_onBar : GoodIn wsL_pieces wsX9_onBar := goodIn_ca (goodIn_r _ [5, 6, 7, 8, 9, 10, 4, 11, 12, 13, 14, 15, 16, 17, 18, 19, 20, 21, 22, 39, 40, 41, 42, 43, 44, 45, 46, 47, 48, 49, 50, 51, 52, 53, 54, 55] (by decide +kernel) (by decide +kernel)) (goodIn_sub (fun _ h => List.mem_cons_of_mem _ (List.mem_append_right _ h)) (by decide +kernel))
set_option maxRecDepth 20000 in
theorem gL_pieces_X9_onBar : GoodIn wsL_pieces (wsV RL 14 RX9 yX9_onBar wsX9_onBar) := goodIn_app (goodIn_of _ (by decide +kernel)) ggL_pieces_X9_onBar
set_option maxRecDepth 20000 in
theorem ggL_pieces_X9_piecesOn : GoodIn wsL_pieces wsX9_piecesOn := goodIn_ca (goodIn_r _ [26, 6, 7, 8, 9, 10, 4, 11, 27, 28, 29, 30, 31, 32, 15, 33, 34, 13, 14, 16, 17, 18, 35, 36, 37, 38, 20, 21, 22, 39, 40, 41, 42, 43, 44, 45, 46, 47, 48, 49, 50, 51, 52, 53, 54, 55] (by decide +kernel) (by decide +kernel)) (goodIn_sub (fun _ h => List.mem_cons_of_mem _ (List.mem_append_right _ h)) (by decide +kernel))
set_option maxRecDepth 20000 in
theorem gL_pieces_X9_piecesOn : GoodIn wsL_pieces (wsV RL 20 RX9 yX9_piecesOn wsX9_piecesOn) := goodIn_app (goodIn_of _ (by decide +kernel)) ggL_pieces_X9_piecesOn
set_option maxRecDepth 20000 in
theorem ggL_find_L_low : GoodIn wsL_find wsL_low := goodIn_r _ [4, 5] (by decide +kernel) (by decide +kernel)
set_option maxRecDepth 20000 in
theorem gL_find_L_low : GoodIn wsL_find (va_wsS RL 23 yL_low wsL_low) := goodIn_app (goodIn_of _ (by decide +kernel)) ggL_find_L_low
set_option maxRecDepth 20000 in
theorem ggL_find_X9_whyNoStep : GoodIn wsL_find wsX9_whyNoStep := goodIn_ca (goodIn_ca (goodIn_r _ [10, 11, 12, 13, 14, 15, 16, 17, 9, 18, 19, 20, 21, 22, 23, 24, 25, 26, 27, 28, 29, 30, 31, 32, 33, 34, 35, 36, 37, 38, 39, 40, 41, 42, 43, 44, 45, 46, 47, 48, 49, 50, 51, 52, 53, 54, 55, 56, 57, 58, 59, 60, 61, 62, 63, 64, 65, 66, 67, 68, 69, 70, 71, 72, 73, 74, 75, 76, 77, 78, 79, 80, 81, 82, 83, 84, 85, 86, 87, 88, 89, 90, 91, 92, 93, 94, 95, 96, 97, 98, 99, 100, 101, 102, 103, 104, 105, 106, 107, 108, 109, 110, 111, 112, 113, 114, 115, 116, 117, 118, 119, 120, 121, 122, 123, 124, 125, 126] (by decide +kernel) (by decide +kernel)) (goodIn_sub (fun _ h => List.mem_cons_of_mem _ (List.mem_append_left _ (List.mem_append_right _ h))) (by decide +kernel))) (goodIn_sub (fun _ h => List.mem_cons_of_mem _ (List.mem_append_right _ h)) (by decide +kernel))
set_option maxRecDepth 20000 in
theorem gL_find_X9_whyNoStep : GoodIn wsL_find (wsV RL 26 RX9 yX9_whyNoStep wsX9_whyNoStep) := goodIn_app (goodIn_of _ (by decide +kernel)) ggL_find_X9_whyNoStep
set_option maxRecDepth 20000 in
theorem ggL_isStepped_L_find : GoodIn wsL_isStepped wsL_find := goodIn_ca (goodIn_ca (goodIn_r _ [4, 5, 6, 3, 7, 8, 9, 10, 11, 12, 13, 14, 15, 16, 17, 18, 19, 20, 21, 22, 23, 24, 25, 26, 27, 28, 29, 30, 31, 32, 33, 34, 35, 36, 37, 38, 39, 40, 41, 42, 43, 44, 45, 46, 47, 48, 49, 50, 51, 52, 53, 54, 55, 56, 57, 58, 59, 60, 61, 62, 63, 64, 65, 66, 67, 68, 69, 70, 71, 72, 73, 74, 75, 76, 77, 78, 79, 80, 81, 82, 83, 84, 85, 86, 87, 88, 89, 90, 91, 92, 93, 94, 95, 96, 97, 98, 99, 100, 101, 102, 103, 104, 105, 106, 107, 108, 109, 110, 111, 112, 322, 323, 324, 325, 326, 327, 328, 329, 330, 331, 332, 333, 334, 335, 336, 337, 338] (by decide +kernel) (by decide +kernel)) (goodIn_sub (fun _ h => List.mem_cons_of_mem _ (List.mem_append_left _ (List.mem_append_left _ (List.mem_append_right _ h)))) (by decide +kernel))) (goodIn_sub (fun _ h => List.mem_cons_of_mem _ (List.mem_append_left _ (List.mem_append_right _ h))) (by decide +kernel))
set_option maxRecDepth 20000 in
theorem gL_isStepped_L_find : GoodIn wsL_isStepped (va_wsS RL 29 yL_find wsL_find) := goodIn_app (goodIn_of _ (by decide +kernel)) ggL_isStepped_L_find
set_option maxRecDepth 20000 in
theorem ggL_isStepped_X9_reach : GoodIn wsL_isStepped wsX9_reach := goodIn_r _ [116, 18, 117, 54, 55, 32, 56, 34, 36, 37, 38, 39, 35, 40, 41, 42, 43, 44, 45, 46, 47, 48, 49, 57, 58, 59, 60, 61, 62, 63, 64, 65, 27, 66, 67, 68, 69, 70, 71, 72, 73, 74, 75, 76, 77, 78, 79, 80, 81, 82, 83, 84, 85, 86, 87, 88, 89, 90, 91, 92, 93, 94, 95, 96, 97, 98, 99, 100, 101, 102, 322, 323, 324, 325, 326, 327, 328, 329, 330, 331, 332, 333, 334, 335, 336, 337, 338] (by decide +kernel) (by decide +kernel)
set_option maxRecDepth 20000 in
theorem gL_isStepped_X9_reach : GoodIn wsL_isStepped (wsV RL 33 RX9 yX9_reach wsX9_reach) := goodIn_app (goodIn_of _ (by decide +kernel)) ggL_isStepped_X9_reach
set_option maxRecDepth 20000 in
theorem ggL_isStepped_X9_possibleSteps : GoodIn wsL_isStepped wsX9_possibleSteps := goodIn_r _ [121, 18, 122, 123, 37, 38, 32, 39, 35, 40, 41, 42, 43, 44, 45, 124, 47, 48, 49, 125, 126, 58, 127, 102, 57, 59, 60, 61, 62, 63, 64, 65, 27, 66, 67, 68, 69, 70, 71, 72, 73, 74, 75, 76, 77, 78, 79, 80, 81, 82, 83, 84, 85, 86, 87, 88, 89, 90, 91, 92, 93, 94, 95, 96, 97, 98, 99, 100, 101, 128, 104, 105, 106, 107, 108, 109, 110, 111, 112, 322, 323, 324, 325, 326, 327, 328, 329, 330, 331, 332, 333, 334, 335, 336, 337, 338] (by decide +kernel) (by decide +kernel)
set_option maxRecDepth 20000 in
theorem gL_isStepped_X9_possibleSteps : GoodIn wsL_isStepped (wsV RL 37 RX9 yX9_possibleSteps wsX9_possibleSteps) := goodIn_app (goodIn_of _ (by decide +kernel)) ggL_isStepped_X9_possibleSteps
set_option maxRecDepth 20000 in
theorem ggL_isStepped_X9_plays : GoodIn wsL_isStepped wsX9_plays := goodIn_r _ [132, 133, 18, 122, 123, 37, 38, 32, 39, 35, 40, 41, 42, 43, 44, 45, 124, 47, 48, 49, 134, 135, 136, 137, 138, 139, 140, 141, 142, 143, 144, 145, 146, 147, 148, 149, 150, 151, 152, 153, 154, 155, 156, 157, 27, 158, 159, 71, 72, 67, 68, 69, 160, 161, 162, 163, 164, 165, 166, 167, 168, 169, 170, 171, 172, 173, 174, 175, 176, 177, 178, 179, 180, 181, 182, 57, 58, 59, 60, 61, 62, 63, 64, 65, 66, 70, 73, 74, 75, 76, 77, 78, 79, 80, 81, 82, 83, 84, 85, 86, 87, 88, 89, 90, 91, 92, 93, 94, 95, 96, 97, 98, 99, 100, 101, 102, 183, 184, 185, 104, 105, 106, 107, 108, 109, 110, 111, 112, 186, 187, 188, 322, 323, 324, 325, 326, 327, 328, 329, 330, 331, 332, 333, 334, 335, 336, 337, 338, 339, 340, 341, 342, 343, 344, 345] (by decide +kernel) (by decide +kernel)
set_option maxRecDepth 20000 in
theorem gL_isStepped_X9_plays : GoodIn wsL_isStepped (wsV RL 40 RX9 yX9_plays wsX9_plays) := goodIn_app (goodIn_of _ (by decide +kernel)) ggL_isStepped_X9_plays
set_option maxRecDepth 20000 in
theorem ggL_isStepped_X9_mover : GoodIn wsL_isStepped wsX9_mover := goodIn_r _ [192, 18, 193, 322, 323, 324, 325, 326, 327, 328, 329, 330, 331, 332, 333, 334, 335, 336, 337, 338] (by decide +kernel) (by decide +kernel)
set_option maxRecDepth 20000 in
theorem gL_isStepped_X9_mover : GoodIn wsL_isStepped (wsV RL 43 RX9 yX9_mover wsX9_mover) := goodIn_app (goodIn_of _ (by decide +kernel)) ggL_isStepped_X9_mover
set_option maxRecDepth 20000 in
theorem ggL_isStepped_L_target : GoodIn wsL_isStepped wsL_target := goodIn_r _ [196, 197, 198, 3, 199] (by decide +kernel) (by decide +kernel)
set_option maxRecDepth 20000 in
theorem gL_isStepped_L_target : GoodIn wsL_isStepped (va_wsS RL 46 yL_target wsL_target) := goodIn_app (goodIn_of _ (by decide +kernel)) ggL_isStepped_L_target
set_option maxRecDepth 20000 in
theorem ggL_isStepped_X9_piecesOn : GoodIn wsL_isStepped wsX9_piecesOn := goodIn_ca (goodIn_r _ [203, 14, 15, 18, 204, 205, 12, 206, 22, 23, 24, 207, 208, 209, 32, 210, 40, 41, 42, 43, 44, 45, 50, 51, 52, 211, 81, 82, 83, 322, 323, 324, 325, 326, 327, 328, 329, 330, 331, 332, 333, 334, 335, 336, 337, 338] (by decide +kernel) (by decide +kernel)) (goodIn_sub (fun _ h => List.mem_cons_of_mem _ (List.mem_append_left _ (List.mem_append_left _ (List.mem_append_right _ h)))) (by decide +kernel))
set_option maxRecDepth 20000 in
theorem gL_isStepped_X9_piecesOn : GoodIn wsL_isStepped (wsV RL 20 RX9 yX9_piecesOn wsX9_piecesOn) := goodIn_app (goodIn_of _ (by decide +kernel)) ggL_isStepped_X9_piecesOn
set_option maxRecDepth 20000 in
theorem ggL_isStepped_X9_diceLeft : GoodIn wsL_isStepped wsX9_diceLeft := goodIn_r _ [215, 18, 122, 216, 65, 27, 66, 67, 68, 69, 322, 323, 324, 325, 326, 327, 328, 329, 330, 331, 332, 333, 334, 335, 336, 337, 338] (by decide +kernel) (by decide +kernel)
set_option maxRecDepth 20000 in
theorem gL_isStepped_X9_diceLeft : GoodIn wsL_isStepped (wsV RL 50 RX9 yX9_diceLeft wsX9_diceLeft) := goodIn_app (goodIn_of _ (by decide +kernel)) ggL_isStepped_X9_diceLeft
set_option maxRecDepth 20000 in
theorem ggL_isStepped_X9_hits : GoodIn wsL_isStepped wsX9_hits := goodIn_ca (goodIn_r _ [220, 14, 15, 18, 204, 205, 12, 206, 221, 222, 223, 32, 224, 225, 226, 322, 323, 324, 325, 326, 327, 328, 329, 330, 331, 332, 333, 334, 335, 336, 337, 338] (by decide +kernel) (by decide +kernel)) (goodIn_sub (fun _ h => List.mem_cons_of_mem _ (List.mem_append_left _ (List.mem_append_left _ (List.mem_append_right _ h)))) (by decide +kernel))
set_option maxRecDepth 20000 in
theorem gL_isStepped_X9_hits : GoodIn wsL_isStepped (wsV RL 53 RX9 yX9_hits wsX9_hits) := goodIn_app (goodIn_of _ (by decide +kernel)) ggL_isStepped_X9_hits
set_option maxRecDepth 20000 in
theorem ggL_isStepped_X9_onBar : GoodIn wsL_isStepped wsX9_onBar := goodIn_ca (goodIn_r _ [230, 14, 15, 18, 204, 205, 12, 206, 231, 41, 42, 32, 43, 44, 45, 232, 81, 82, 83, 322, 323, 324, 325, 326, 327, 328, 329, 330, 331, 332, 333, 334, 335, 336, 337, 338] (by decide +kernel) (by decide +kernel)) (goodIn_sub (fun _ h => List.mem_cons_of_mem _ (List.mem_append_left _ (List.mem_append_left _ (List.mem_append_right _ h)))) (by decide +kernel))
set_option maxRecDepth 20000 in
theorem gL_isStepped_X9_onBar : GoodIn wsL_isStepped (wsV RL 14 RX9 yX9_onBar wsX9_onBar) := goodIn_app (goodIn_of _ (by decide +kernel)) ggL_isStepped_X9_onBar
set_option maxRecDepth 20000 in
theorem ggL_isStepped_X9_borneOff : GoodIn wsL_isStepped wsX9_borneOff := goodIn_ca (goodIn_r _ [236, 14, 15, 18, 204, 205, 12, 206, 231, 41, 42, 32, 43, 44, 45, 232, 81, 82, 83, 322, 323, 324, 325, 326, 327, 328, 329, 330, 331, 332, 333, 334, 335, 336, 337, 338] (by decide +kernel) (by decide +kernel)) (goodIn_sub (fun _ h => List.mem_cons_of_mem _ (List.mem_append_left _ (List.mem_append_left _ (List.mem_append_right _ h)))) (by decide +kernel))
set_option maxRecDepth 20000 in
theorem gL_isStepped_X9_borneOff : GoodIn wsL_isStepped (wsV RL 56 RX9 yX9_borneOff wsX9_borneOff) := goodIn_app (goodIn_of _ (by decide +kernel)) ggL_isStepped_X9_borneOff
set_option maxRecDepth 20000 in
theorem ggL_isStepped_X9_blotsBehind : GoodIn wsL_isStepped wsX9_blotsBehind := goodIn_ca (goodIn_ca (goodIn_ca (goodIn_r _ [240, 14, 15, 16, 17, 241, 242, 18, 193, 19, 20, 12, 21, 22, 23, 24, 25, 26, 27, 28, 29, 30, 31, 32, 33, 34, 35, 36, 37, 38, 39, 40, 41, 42, 43, 44, 45, 46, 47, 48, 49, 50, 51, 52, 53, 54, 55, 56, 57, 58, 59, 60, 61, 62, 63, 64, 65, 66, 67, 68, 69, 70, 71, 72, 73, 74, 75, 76, 77, 78, 79, 80, 81, 82, 83, 84, 85, 86, 87, 88, 89, 90, 91, 92, 93, 94, 95, 96, 97, 98, 99, 100, 101, 102, 103, 104, 105, 106, 107, 108, 109, 110, 111, 112, 243, 123, 244, 245, 246, 247, 248, 322, 323, 324, 325, 326, 327, 328, 329, 330, 331, 332, 333, 334, 335, 336, 337, 338] (by decide +kernel) (by decide +kernel)) (goodIn_sub (fun _ h => List.mem_cons_of_mem _ (List.mem_append_left _ (List.mem_append_left _ (List.mem_append_right _ h)))) (by decide +kernel))) (goodIn_sub (fun _ h => List.mem_cons_of_mem _ (List.mem_append_left _ (List.mem_append_right _ h))) (by decide +kernel))) (goodIn_sub (fun _ h => List.mem_cons_of_mem _ (List.mem_append_right _ h)) (by decide +kernel))
set_option maxRecDepth 20000 in
theorem gL_isStepped_X9_blotsBehind : GoodIn wsL_isStepped (wsV RL 59 RX9 yX9_blotsBehind wsX9_blotsBehind) := goodIn_app (goodIn_of _ (by decide +kernel)) ggL_isStepped_X9_blotsBehind
set_option maxRecDepth 20000 in
theorem ggL_isStepped_X9_pips : GoodIn wsL_isStepped wsX9_pips := goodIn_ca (goodIn_r _ [252, 14, 15, 18, 204, 205, 12, 206, 231, 41, 42, 32, 43, 44, 45, 253, 254, 82, 255, 248, 81, 83, 322, 323, 324, 325, 326, 327, 328, 329, 330, 331, 332, 333, 334, 335, 336, 337, 338] (by decide +kernel) (by decide +kernel)) (goodIn_sub (fun _ h => List.mem_cons_of_mem _ (List.mem_append_left _ (List.mem_append_left _ (List.mem_append_right _ h)))) (by decide +kernel))
set_option maxRecDepth 20000 in
theorem gL_isStepped_X9_pips : GoodIn wsL_isStepped (wsV RL 62 RX9 yX9_pips wsX9_pips) := goodIn_app (goodIn_of _ (by decide +kernel)) ggL_isStepped_X9_pips
set_option maxRecDepth 20000 in
theorem ggL_isStepped_L_pieces : GoodIn wsL_isStepped wsL_pieces := goodIn_ca (goodIn_r _ [258, 227, 228, 229, 12, 230, 14, 15, 18, 204, 205, 206, 231, 41, 42, 32, 43, 44, 45, 232, 81, 82, 83, 200, 201, 202, 203, 22, 23, 24, 207, 208, 209, 210, 40, 50, 51, 52, 211, 322, 323, 324, 325, 326, 327, 328, 329, 330, 331, 332, 333, 334, 335, 336, 337, 338] (by decide +kernel) (by decide +kernel)) (goodIn_sub (fun _ h => List.mem_cons_of_mem _ (List.mem_append_left _ (List.mem_append_left _ (List.mem_append_right _ h)))) (by decide +kernel))
set_option maxRecDepth 20000 in
theorem gL_isStepped_L_pieces : GoodIn wsL_isStepped (va_wsS RL 65 yL_pieces wsL_pieces) := goodIn_app (goodIn_of _ (by decide +kernel)) ggL_isStepped_L_pieces
set_option maxRecDepth 20000 in
theorem ggL_isStepped_X9_step : GoodIn wsL_isStepped wsX9_step := goodIn_ca (goodIn_ca (goodIn_ca (goodIn_r _ [262, 14, 15, 16, 17, 241, 242, 18, 263, 19, 20, 12, 21, 22, 23, 24, 25, 26, 27, 28, 29, 30, 31, 32, 33, 34, 35, 36, 37, 38, 39, 40, 41, 42, 43, 44, 45, 46, 47, 48, 49, 50, 51, 52, 53, 54, 55, 56, 57, 58, 59, 60, 61, 62, 63, 64, 65, 66, 67, 68, 69, 70, 71, 72, 73, 74, 75, 76, 77, 78, 79, 80, 81, 82, 83, 84, 85, 86, 87, 88, 89, 90, 91, 92, 93, 94, 95, 96, 97, 98, 99, 100, 101, 102, 103, 104, 105, 106, 107, 108, 109, 110, 111, 112, 264, 265, 266, 267, 268, 269, 270, 271, 272, 273, 274, 275, 276, 277, 278, 279, 280, 281, 282, 283, 284, 285, 286, 287, 225, 226, 288, 289, 290, 291, 292, 293, 294, 295, 296, 297, 298, 299, 300, 301, 302, 303, 304, 305, 306, 307, 308, 211, 309, 310, 311, 312, 322, 323, 324, 325, 326, 327, 328, 329, 330, 331, 332, 333, 334, 335, 336, 337, 338, 346, 347, 348, 349] (by decide +kernel) (by decide +kernel)) (goodIn_sub (fun _ h => List.mem_cons_of_mem _ (List.mem_append_left _ (List.mem_append_left _ (List.mem_append_right _ h)))) (by decide +kernel))) (goodIn_sub (fun _ h => List.mem_cons_of_mem _ (List.mem_append_left _ (List.mem_append_right _ h))) (by decide +kernel))) (goodIn_sub (fun _ h => List.mem_cons_of_mem _ (List.mem_append_right _ h)) (by decide +kernel))
set_option maxRecDepth 20000 in
theorem gL_isStepped_X9_step : GoodIn wsL_isStepped (wsV RL 69 RX9 yX9_step wsX9_step) := goodIn_app (goodIn_of _ (by decide +kernel)) ggL_isStepped_X9_step
set_option maxRecDepth 20000 in
theorem ggL_isStepped_L_way : GoodIn wsL_isStepped wsL_way := goodIn_r _ [199] (by decide +kernel) (by decide +kernel)
set_option maxRecDepth 20000 in
theorem gL_isStepped_L_way : GoodIn wsL_isStepped (va_wsS RL 8 yL_way wsL_way) := goodIn_app (goodIn_of _ (by decide +kernel)) ggL_isStepped_L_way
set_option maxRecDepth 20000 in
theorem ggL_isStepped_X9_phase : GoodIn wsL_isStepped wsX9_phase := goodIn_r _ [316, 18, 317, 322, 323, 324, 325, 326, 327, 328, 329, 330, 331, 332, 333, 334, 335, 336, 337, 338] (by decide +kernel) (by decide +kernel)
set_option maxRecDepth 20000 in
theorem gL_isStepped_X9_phase : GoodIn wsL_isStepped (wsV RL 73 RX9 yX9_phase wsX9_phase) := goodIn_app (goodIn_of _ (by decide +kernel)) ggL_isStepped_X9_phase
set_option maxRecDepth 20000 in
theorem ggL_isStepped_X9_blots : GoodIn wsL_isStepped wsX9_blots := goodIn_ca (goodIn_r _ [321, 14, 15, 18, 204, 205, 12, 206, 231, 41, 42, 32, 43, 44, 45, 245, 246, 82, 247, 248, 81, 83, 322, 323, 324, 325, 326, 327, 328, 329, 330, 331, 332, 333, 334, 335, 336, 337, 338] (by decide +kernel) (by decide +kernel)) (goodIn_sub (fun _ h => List.mem_cons_of_mem _ (List.mem_append_left _ (List.mem_append_left _ (List.mem_append_right _ h)))) (by decide +kernel))
set_option maxRecDepth 20000 in
theorem gL_isStepped_X9_blots : GoodIn wsL_isStepped (wsV RL 76 RX9 yX9_blots wsX9_blots) := goodIn_app (goodIn_of _ (by decide +kernel)) ggL_isStepped_X9_blots
set_option maxRecDepth 20000 in
theorem ggL_isRolled_L_low : GoodIn wsL_isRolled wsL_low := goodIn_r _ [4, 5] (by decide +kernel) (by decide +kernel)
set_option maxRecDepth 20000 in
theorem gL_isRolled_L_low : GoodIn wsL_isRolled (va_wsS RL 23 yL_low wsL_low) := goodIn_app (goodIn_of _ (by decide +kernel)) ggL_isRolled_L_low
set_option maxRecDepth 20000 in
theorem ggL_isRolled_X9_playsWith : GoodIn wsL_isRolled wsX9_playsWith := goodIn_ca (goodIn_r _ [10, 11, 12, 13, 14, 15, 16, 17, 18, 19, 20, 21, 22, 23, 24, 25, 26, 27, 28, 29, 30, 31, 32, 33, 34, 35, 36, 37, 38, 39, 40, 41, 42, 43, 44, 45, 46, 47, 48, 49, 50, 51, 52, 53, 54, 55, 56, 57, 58, 59, 60, 61, 62, 63, 64, 65, 66, 67, 68, 69, 70, 71, 72, 73, 74, 75, 76, 77, 78, 79, 80, 81, 82, 83, 84, 85, 86, 87, 88, 89, 90, 91, 92, 93, 94, 95, 96, 97, 98, 99, 100, 101, 102, 103, 104, 105, 106, 107, 108, 109, 110, 111, 112, 113, 114, 115, 116, 117, 118, 119, 120, 121, 122, 123, 124, 125, 126, 127, 128, 129, 130, 131, 132, 133, 134, 135, 136, 137, 138, 139, 140, 141, 142, 143, 144, 145, 223, 224, 225, 226, 227, 228, 229, 230, 231, 232, 233, 234, 235, 236, 237, 238, 239, 240, 241, 242, 243, 244, 245, 246] (by decide +kernel) (by decide +kernel)) (goodIn_sub (fun _ h => List.mem_cons_of_mem _ (List.mem_append_left _ (List.mem_append_left _ (List.mem_append_right _ h)))) (by decide +kernel))
set_option maxRecDepth 20000 in
theorem gL_isRolled_X9_playsWith : GoodIn wsL_isRolled (wsV RL 79 RX9 yX9_playsWith wsX9_playsWith) := goodIn_app (goodIn_of _ (by decide +kernel)) ggL_isRolled_X9_playsWith
set_option maxRecDepth 20000 in
theorem ggL_isRolled_X9_roll : GoodIn wsL_isRolled wsX9_roll := goodIn_ca (goodIn_ca (goodIn_r _ [149, 11, 12, 150, 151, 14, 152, 153, 15, 16, 17, 18, 154, 155, 156, 25, 157, 158, 159, 160, 161, 162, 163, 164, 165, 166, 167, 168, 169, 170, 171, 172, 173, 174, 175, 176, 177, 27, 178, 179, 180, 32, 33, 181, 182, 183, 184, 185, 186, 187, 188, 189, 190, 191, 20, 21, 192, 98, 99, 66, 67, 68, 223, 224, 225, 226, 227, 228, 229, 230, 231, 232, 233, 234, 235, 236, 237, 238, 239, 247, 248, 249, 250] (by decide +kernel) (by decide +kernel)) (goodIn_sub (fun _ h => List.mem_cons_of_mem _ (List.mem_append_left _ (List.mem_append_left _ (List.mem_append_right _ h)))) (by decide +kernel))) (goodIn_sub (fun _ h => List.mem_cons_of_mem _ (List.mem_append_left _ (List.mem_append_right _ h))) (by decide +kernel))
set_option maxRecDepth 20000 in
theorem gL_isRolled_X9_roll : GoodIn wsL_isRolled (wsV RL 82 RX9 yX9_roll wsX9_roll) := goodIn_app (goodIn_of _ (by decide +kernel)) ggL_isRolled_X9_roll
set_option maxRecDepth 20000 in
theorem ggL_isRolled_X9_diceLeft : GoodIn wsL_isRolled wsX9_diceLeft := goodIn_r _ [196, 14, 153, 192, 98, 17, 99, 66, 67, 68, 223, 224, 225, 226, 227, 228, 229, 230, 231, 232, 233, 234, 235, 236, 237, 238, 239] (by decide +kernel) (by decide +kernel)
set_option maxRecDepth 20000 in
theorem gL_isRolled_X9_diceLeft : GoodIn wsL_isRolled (wsV RL 50 RX9 yX9_diceLeft wsX9_diceLeft) := goodIn_app (goodIn_of _ (by decide +kernel)) ggL_isRolled_X9_diceLeft
set_option maxRecDepth 20000 in
theorem ggL_isRolled_X9_phase : GoodIn wsL_isRolled wsX9_phase := goodIn_r _ [200, 14, 201, 223, 224, 225, 226, 227, 228, 229, 230, 231, 232, 233, 234, 235, 236, 237, 238, 239] (by decide +kernel) (by decide +kernel)
set_option maxRecDepth 20000 in
theorem gL_isRolled_X9_phase : GoodIn wsL_isRolled (wsV RL 73 RX9 yX9_phase wsX9_phase) := goodIn_app (goodIn_of _ (by decide +kernel)) ggL_isRolled_X9_phase
set_option maxRecDepth 20000 in
theorem ggL_isRolled_X9_dieLeft : GoodIn wsL_isRolled wsX9_dieLeft := goodIn_ca (goodIn_r _ [205, 206, 207, 14, 153, 192, 98, 17, 99, 66, 67, 68, 208, 223, 224, 225, 226, 227, 228, 229, 230, 231, 232, 233, 234, 235, 236, 237, 238, 239] (by decide +kernel) (by decide +kernel)) (goodIn_sub (fun _ h => List.mem_cons_of_mem _ (List.mem_append_right _ h)) (by decide +kernel))
set_option maxRecDepth 20000 in
theorem gL_isRolled_X9_dieLeft : GoodIn wsL_isRolled (wsV RL 85 RX9 yX9_dieLeft wsX9_dieLeft) := goodIn_app (goodIn_of _ (by decide +kernel)) ggL_isRolled_X9_dieLeft
set_option maxRecDepth 20000 in
theorem ggL_isRolled_X9_plays : GoodIn wsL_isRolled wsX9_plays := goodIn_r _ [212, 13, 14, 153, 22, 23, 24, 25, 26, 27, 28, 29, 30, 31, 32, 33, 34, 35, 36, 37, 38, 39, 40, 41, 42, 43, 44, 45, 46, 47, 48, 49, 50, 51, 52, 53, 54, 55, 56, 57, 58, 59, 60, 61, 17, 62, 63, 64, 65, 66, 67, 68, 69, 20, 21, 70, 71, 72, 73, 74, 75, 76, 77, 78, 79, 80, 81, 82, 83, 84, 85, 86, 87, 88, 89, 90, 91, 92, 93, 94, 95, 96, 97, 98, 99, 100, 101, 102, 103, 104, 105, 106, 107, 108, 109, 110, 111, 112, 113, 114, 115, 116, 117, 118, 119, 120, 121, 122, 123, 124, 125, 126, 127, 128, 129, 130, 131, 132, 133, 134, 135, 136, 137, 138, 139, 140, 141, 142, 143, 144, 145, 223, 224, 225, 226, 227, 228, 229, 230, 231, 232, 233, 234, 235, 236, 237, 238, 239, 240, 241, 242, 243, 244, 245, 246] (by decide +kernel) (by decide +kernel)
set_option maxRecDepth 20000 in
theorem gL_isRolled_X9_plays : GoodIn wsL_isRolled (wsV RL 40 RX9 yX9_plays wsX9_plays) := goodIn_app (goodIn_of _ (by decide +kernel)) ggL_isRolled_X9_plays
set_option maxRecDepth 20000 in
theorem ggL_isRolled_X9_reach : GoodIn wsL_isRolled wsX9_reach := goodIn_r _ [216, 14, 217, 218, 219, 25, 220, 178, 221, 23, 24, 26, 27, 28, 29, 30, 31, 32, 33, 222, 35, 36, 37, 90, 91, 92, 93, 94, 95, 96, 97, 98, 17, 99, 66, 67, 68, 100, 64, 65, 101, 102, 103, 104, 105, 106, 107, 108, 109, 110, 111, 112, 113, 114, 115, 116, 117, 118, 119, 120, 121, 122, 123, 124, 125, 126, 127, 128, 129, 130, 223, 224, 225, 226, 227, 228, 229, 230, 231, 232, 233, 234, 235, 236, 237, 238, 239] (by decide +kernel) (by decide +kernel)
set_option maxRecDepth 20000 in
theorem gL_isRolled_X9_reach : GoodIn wsL_isRolled (wsV RL 33 RX9 yX9_reach wsX9_reach) := goodIn_app (goodIn_of _ (by decide +kernel)) ggL_isRolled_X9_reach
set_option maxRecDepth 20000 in
theorem ggL_isOffered_X9_stake : GoodIn wsL_isOffered wsX9_stake := goodIn_r _ [5, 6, 7, 108, 109, 110, 111, 112, 113, 114, 115, 116, 117, 118, 119, 120, 121, 122, 123, 124] (by decide +kernel) (by decide +kernel)
set_option maxRecDepth 20000 in
theorem gL_isOffered_X9_stake : GoodIn wsL_isOffered (wsV RL 88 RX9 yX9_stake wsX9_stake) := goodIn_app (goodIn_of _ (by decide +kernel)) ggL_isOffered_X9_stake
set_option maxRecDepth 20000 in
theorem ggL_isOffered_X9_mover : GoodIn wsL_isOffered wsX9_mover := goodIn_r _ [11, 6, 12, 108, 109, 110, 111, 112, 113, 114, 115, 116, 117, 118, 119, 120, 121, 122, 123, 124] (by decide +kernel) (by decide +kernel)
set_option maxRecDepth 20000 in
theorem gL_isOffered_X9_mover : GoodIn wsL_isOffered (wsV RL 43 RX9 yX9_mover wsX9_mover) := goodIn_app (goodIn_of _ (by decide +kernel)) ggL_isOffered_X9_mover
set_option maxRecDepth 20000 in
theorem ggL_isOffered_X9_score : GoodIn wsL_isOffered wsX9_score := goodIn_ca (goodIn_r _ [16, 17, 18, 6, 19, 20, 4, 21, 22, 23, 24, 25, 26, 27, 28, 108, 109, 110, 111, 112, 113, 114, 115, 116, 117, 118, 119, 120, 121, 122, 123, 124] (by decide +kernel) (by decide +kernel)) (goodIn_sub (fun _ h => List.mem_cons_of_mem _ (List.mem_append_left _ (List.mem_append_right _ h))) (by decide +kernel))
set_option maxRecDepth 20000 in
theorem gL_isOffered_X9_score : GoodIn wsL_isOffered (wsV RL 91 RX9 yX9_score wsX9_score) := goodIn_app (goodIn_of _ (by decide +kernel)) ggL_isOffered_X9_score
set_option maxRecDepth 20000 in
theorem ggL_isOffered_X9_cubeOf : GoodIn wsL_isOffered wsX9_cubeOf := goodIn_r _ [32, 6, 33, 108, 109, 110, 111, 112, 113, 114, 115, 116, 117, 118, 119, 120, 121, 122, 123, 124] (by decide +kernel) (by decide +kernel)
set_option maxRecDepth 20000 in
theorem gL_isOffered_X9_cubeOf : GoodIn wsL_isOffered (wsV RL 94 RX9 yX9_cubeOf wsX9_cubeOf) := goodIn_app (goodIn_of _ (by decide +kernel)) ggL_isOffered_X9_cubeOf
set_option maxRecDepth 20000 in
theorem ggL_isOffered_X9_offer : GoodIn wsL_isOffered wsX9_offer := goodIn_ca (goodIn_r _ [37, 38, 39, 6, 40, 7, 41, 42, 43, 25, 44, 45, 46, 47, 48, 49, 50, 51, 52, 53, 54, 55, 56, 57, 58, 59, 60, 61, 62, 63, 64, 65, 66, 67, 68, 69, 70, 27, 28, 71, 72, 73, 74, 75, 76, 77, 78, 108, 109, 110, 111, 112, 113, 114, 115, 116, 117, 118, 119, 120, 121, 122, 123, 124, 125, 126, 127, 128] (by decide +kernel) (by decide +kernel)) (goodIn_sub (fun _ h => List.mem_cons_of_mem _ (List.mem_append_right _ h)) (by decide +kernel))
set_option maxRecDepth 20000 in
theorem gL_isOffered_X9_offer : GoodIn wsL_isOffered (wsV RL 97 RX9 yX9_offer wsX9_offer) := goodIn_app (goodIn_of _ (by decide +kernel)) ggL_isOffered_X9_offer
set_option maxRecDepth 20000 in
theorem ggL_isOffered_X9_phase : GoodIn wsL_isOffered wsX9_phase := goodIn_r _ [82, 6, 83, 108, 109, 110, 111, 112, 113, 114, 115, 116, 117, 118, 119, 120, 121, 122, 123, 124] (by decide +kernel) (by decide +kernel)
set_option maxRecDepth 20000 in
theorem gL_isOffered_X9_phase : GoodIn wsL_isOffered (wsV RL 73 RX9 yX9_phase wsX9_phase) := goodIn_app (goodIn_of _ (by decide +kernel)) ggL_isOffered_X9_phase
set_option maxRecDepth 20000 in
theorem ggL_isOffered_X9_take : GoodIn wsL_isOffered wsX9_take := goodIn_ca (goodIn_r _ [87, 38, 39, 6, 40, 7, 88, 89, 90, 25, 91, 47, 49, 50, 51, 52, 53, 54, 55, 56, 57, 58, 59, 60, 61, 62, 63, 64, 65, 66, 67, 46, 68, 48, 45, 69, 70, 27, 28, 71, 72, 73, 74, 92, 93, 94, 95, 108, 109, 110, 111, 112, 113, 114, 115, 116, 117, 118, 119, 120, 121, 122, 123, 124, 125, 126, 127, 128] (by decide +kernel) (by decide +kernel)) (goodIn_sub (fun _ h => List.mem_cons_of_mem _ (List.mem_append_right _ h)) (by decide +kernel))
set_option maxRecDepth 20000 in
theorem gL_isOffered_X9_take : GoodIn wsL_isOffered (wsV RL 100 RX9 yX9_take wsX9_take) := goodIn_app (goodIn_of _ (by decide +kernel)) ggL_isOffered_X9_take
set_option maxRecDepth 20000 in
theorem ggL_isOffered_X9_drop : GoodIn wsL_isOffered wsX9_drop := goodIn_ca (goodIn_r _ [99, 38, 39, 6, 40, 12, 88, 89, 90, 25, 91, 47, 49, 50, 51, 52, 53, 54, 55, 56, 57, 58, 59, 60, 61, 62, 63, 64, 65, 66, 67, 46, 68, 48, 45, 69, 70, 27, 28, 71, 72, 73, 74, 100, 101, 102, 103, 104, 105, 106, 107, 22, 23, 24, 26, 108, 109, 110, 111, 112, 113, 114, 115, 116, 117, 118, 119, 120, 121, 122, 123, 124, 125, 126, 127, 128] (by decide +kernel) (by decide +kernel)) (goodIn_sub (fun _ h => List.mem_cons_of_mem _ (List.mem_append_right _ h)) (by decide +kernel))
set_option maxRecDepth 20000 in
theorem gL_isOffered_X9_drop : GoodIn wsL_isOffered (wsV RL 103 RX9 yX9_drop wsX9_drop) := goodIn_app (goodIn_of _ (by decide +kernel)) ggL_isOffered_X9_drop
