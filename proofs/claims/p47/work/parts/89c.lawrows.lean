set_option maxRecDepth 20000 in
theorem ggL_isAnew_X9_mover : GoodIn wsL_isAnew wsX9_mover := goodIn_r _ [5, 6, 7, 99, 100, 101, 102, 103, 104, 105, 106, 107, 108, 109, 110, 111, 112, 113, 114, 115] (by decide +kernel) (by decide +kernel)
set_option maxRecDepth 20000 in
theorem gL_isAnew_X9_mover : GoodIn wsL_isAnew (wsV RL 43 RX9 yX9_mover wsX9_mover) := goodIn_app (goodIn_of _ (by decide +kernel)) ggL_isAnew_X9_mover
set_option maxRecDepth 20000 in
theorem ggL_isAnew_X9_newGame : GoodIn wsL_isAnew wsX9_newGame := goodIn_ca (goodIn_r _ [11, 12, 13, 6, 14, 7, 15, 16, 17, 18, 19, 20, 21, 22, 23, 24, 25, 26, 27, 28, 29, 30, 31, 32, 33, 34, 35, 36, 37, 38, 39, 40, 41, 42, 43, 44, 45, 46, 47, 48, 49, 50, 51, 52, 53, 54, 55, 56, 99, 100, 101, 102, 103, 104, 105, 106, 107, 108, 109, 110, 111, 112, 113, 114, 115, 116, 117, 118, 119] (by decide +kernel) (by decide +kernel)) (goodIn_sub (fun _ h => List.mem_cons_of_mem _ (List.mem_append_left _ (List.mem_append_right _ h))) (by decide +kernel))
set_option maxRecDepth 20000 in
theorem gL_isAnew_X9_newGame : GoodIn wsL_isAnew (wsV RL 106 RX9 yX9_newGame wsX9_newGame) := goodIn_app (goodIn_of _ (by decide +kernel)) ggL_isAnew_X9_newGame
set_option maxRecDepth 20000 in
theorem ggL_isAnew_X9_stake : GoodIn wsL_isAnew wsX9_stake := goodIn_r _ [60, 6, 61, 99, 100, 101, 102, 103, 104, 105, 106, 107, 108, 109, 110, 111, 112, 113, 114, 115] (by decide +kernel) (by decide +kernel)
set_option maxRecDepth 20000 in
theorem gL_isAnew_X9_stake : GoodIn wsL_isAnew (wsV RL 88 RX9 yX9_stake wsX9_stake) := goodIn_app (goodIn_of _ (by decide +kernel)) ggL_isAnew_X9_stake
set_option maxRecDepth 20000 in
theorem ggL_isAnew_X9_cubeOf : GoodIn wsL_isAnew wsX9_cubeOf := goodIn_r _ [65, 6, 66, 99, 100, 101, 102, 103, 104, 105, 106, 107, 108, 109, 110, 111, 112, 113, 114, 115] (by decide +kernel) (by decide +kernel)
set_option maxRecDepth 20000 in
theorem gL_isAnew_X9_cubeOf : GoodIn wsL_isAnew (wsV RL 94 RX9 yX9_cubeOf wsX9_cubeOf) := goodIn_app (goodIn_of _ (by decide +kernel)) ggL_isAnew_X9_cubeOf
set_option maxRecDepth 20000 in
theorem ggL_isAnew_X9_phase : GoodIn wsL_isAnew wsX9_phase := goodIn_r _ [70, 6, 71, 99, 100, 101, 102, 103, 104, 105, 106, 107, 108, 109, 110, 111, 112, 113, 114, 115] (by decide +kernel) (by decide +kernel)
set_option maxRecDepth 20000 in
theorem gL_isAnew_X9_phase : GoodIn wsL_isAnew (wsV RL 73 RX9 yX9_phase wsX9_phase) := goodIn_app (goodIn_of _ (by decide +kernel)) ggL_isAnew_X9_phase
set_option maxRecDepth 20000 in
theorem ggL_isAnew_X9_pips : GoodIn wsL_isAnew wsX9_pips := goodIn_ca (goodIn_r _ [75, 76, 77, 6, 78, 79, 4, 80, 81, 82, 83, 18, 84, 44, 45, 85, 86, 87, 88, 89, 90, 91, 99, 100, 101, 102, 103, 104, 105, 106, 107, 108, 109, 110, 111, 112, 113, 114, 115] (by decide +kernel) (by decide +kernel)) (goodIn_sub (fun _ h => List.mem_cons_of_mem _ (List.mem_append_right _ h)) (by decide +kernel))
set_option maxRecDepth 20000 in
theorem gL_isAnew_X9_pips : GoodIn wsL_isAnew (wsV RL 62 RX9 yX9_pips wsX9_pips) := goodIn_app (goodIn_of _ (by decide +kernel)) ggL_isAnew_X9_pips
set_option maxRecDepth 20000 in
theorem ggL_isAnew_X9_blots : GoodIn wsL_isAnew wsX9_blots := goodIn_ca (goodIn_r _ [95, 76, 77, 6, 78, 79, 4, 80, 81, 82, 83, 18, 84, 44, 45, 96, 97, 87, 98, 89, 90, 91, 99, 100, 101, 102, 103, 104, 105, 106, 107, 108, 109, 110, 111, 112, 113, 114, 115] (by decide +kernel) (by decide +kernel)) (goodIn_sub (fun _ h => List.mem_cons_of_mem _ (List.mem_append_right _ h)) (by decide +kernel))
set_option maxRecDepth 20000 in
theorem gL_isAnew_X9_blots : GoodIn wsL_isAnew (wsV RL 76 RX9 yX9_blots wsX9_blots) := goodIn_app (goodIn_of _ (by decide +kernel)) ggL_isAnew_X9_blots
set_option maxRecDepth 20000 in
theorem ggL_isCarried_L_low : GoodIn wsL_isCarried wsL_low := goodIn_r _ [4, 5] (by decide +kernel) (by decide +kernel)
set_option maxRecDepth 20000 in
theorem gL_isCarried_L_low : GoodIn wsL_isCarried (va_wsS RL 23 yL_low wsL_low) := goodIn_app (goodIn_of _ (by decide +kernel)) ggL_isCarried_L_low
set_option maxRecDepth 20000 in
theorem ggL_isCarried_X9_piecesOn : GoodIn wsL_isCarried wsX9_piecesOn := goodIn_ca (goodIn_r _ [10, 11, 12, 13, 14, 15, 9, 16, 17, 18, 19, 20, 21, 22, 23, 24, 25, 26, 27, 28, 29, 30, 31, 32, 33, 34, 35, 36, 37, 119, 120, 121, 122, 123, 124, 125, 126, 127, 128, 129, 130, 131, 132, 133, 134, 135] (by decide +kernel) (by decide +kernel)) (goodIn_sub (fun _ h => List.mem_cons_of_mem _ (List.mem_append_left _ (List.mem_append_right _ h))) (by decide +kernel))
set_option maxRecDepth 20000 in
theorem gL_isCarried_X9_piecesOn : GoodIn wsL_isCarried (wsV RL 20 RX9 yX9_piecesOn wsX9_piecesOn) := goodIn_app (goodIn_of _ (by decide +kernel)) ggL_isCarried_X9_piecesOn
set_option maxRecDepth 20000 in
theorem ggL_isCarried_X9_pips : GoodIn wsL_isCarried wsX9_pips := goodIn_ca (goodIn_r _ [41, 11, 12, 13, 14, 15, 9, 16, 42, 26, 27, 23, 28, 29, 30, 43, 44, 36, 45, 46, 35, 37, 119, 120, 121, 122, 123, 124, 125, 126, 127, 128, 129, 130, 131, 132, 133, 134, 135] (by decide +kernel) (by decide +kernel)) (goodIn_sub (fun _ h => List.mem_cons_of_mem _ (List.mem_append_left _ (List.mem_append_right _ h))) (by decide +kernel))
set_option maxRecDepth 20000 in
theorem gL_isCarried_X9_pips : GoodIn wsL_isCarried (wsV RL 62 RX9 yX9_pips wsX9_pips) := goodIn_app (goodIn_of _ (by decide +kernel)) ggL_isCarried_X9_pips
set_option maxRecDepth 20000 in
theorem ggL_isCarried_X9_carry : GoodIn wsL_isCarried wsX9_carry := goodIn_ca (goodIn_ca (goodIn_r _ [50, 11, 12, 51, 52, 13, 53, 14, 15, 9, 16, 54, 55, 56, 57, 58, 59, 17, 18, 19, 60, 61, 62, 23, 63, 64, 65, 21, 22, 24, 25, 26, 27, 28, 29, 30, 31, 32, 33, 34, 35, 36, 37, 66, 67, 68, 69, 70, 71, 72, 73, 74, 75, 76, 77, 78, 79, 80, 81, 82, 83, 84, 85, 86, 87, 88, 89, 90, 91, 92, 93, 94, 95, 96, 97, 98, 99, 100, 101, 102, 103, 104, 105, 106, 107, 108, 109, 110, 111, 112, 113, 114, 115, 42, 43, 44, 45, 46, 119, 120, 121, 122, 123, 124, 125, 126, 127, 128, 129, 130, 131, 132, 133, 134, 135, 136, 137, 138, 139] (by decide +kernel) (by decide +kernel)) (goodIn_sub (fun _ h => List.mem_cons_of_mem _ (List.mem_append_left _ (List.mem_append_right _ h))) (by decide +kernel))) (goodIn_sub (fun _ h => List.mem_cons_of_mem _ (List.mem_append_right _ h)) (by decide +kernel))
set_option maxRecDepth 20000 in
theorem gL_isCarried_X9_carry : GoodIn wsL_isCarried (wsV RL 109 RX9 yX9_carry wsX9_carry) := goodIn_app (goodIn_of _ (by decide +kernel)) ggL_isCarried_X9_carry
set_option maxRecDepth 20000 in
theorem ggL_isCarried_L_way : GoodIn wsL_isCarried wsL_way := goodIn_r _ [118] (by decide +kernel) (by decide +kernel)
set_option maxRecDepth 20000 in
theorem gL_isCarried_L_way : GoodIn wsL_isCarried (va_wsS RL 8 yL_way wsL_way) := goodIn_app (goodIn_of _ (by decide +kernel)) ggL_isCarried_L_way
set_option maxRecDepth 20000 in
theorem ggL_does_X9_phase : GoodIn wsL_does wsX9_phase := goodIn_r _ [5, 6, 7, 456, 457, 458, 459, 460, 461, 462, 463, 464, 465, 466, 467, 468, 469, 470, 471, 472] (by decide +kernel) (by decide +kernel)
set_option maxRecDepth 20000 in
theorem gL_does_X9_phase : GoodIn wsL_does (wsV RL 73 RX9 yX9_phase wsX9_phase) := goodIn_app (goodIn_of _ (by decide +kernel)) ggL_does_X9_phase
set_option maxRecDepth 20000 in
theorem ggL_does_L_isCarried : GoodIn wsL_does wsL_isCarried := goodIn_ca (goodIn_ca (goodIn_r _ [11, 12, 13, 10, 14, 15, 16, 17, 18, 4, 19, 20, 21, 6, 22, 23, 24, 25, 26, 27, 28, 29, 30, 31, 32, 33, 34, 35, 36, 37, 38, 39, 40, 41, 42, 43, 44, 45, 46, 47, 48, 49, 50, 51, 52, 53, 54, 55, 56, 57, 58, 59, 60, 61, 62, 63, 64, 65, 66, 67, 68, 69, 70, 71, 72, 73, 74, 75, 76, 77, 78, 79, 80, 81, 82, 83, 84, 85, 86, 87, 88, 89, 90, 91, 92, 93, 94, 95, 96, 97, 98, 99, 100, 101, 102, 103, 104, 105, 106, 107, 108, 109, 110, 111, 112, 113, 114, 115, 116, 117, 118, 119, 120, 121, 122, 123, 124, 125, 126, 456, 457, 458, 459, 460, 461, 462, 463, 464, 465, 466, 467, 468, 469, 470, 471, 472, 473, 474, 475, 476] (by decide +kernel) (by decide +kernel)) (goodIn_sub (fun _ h => List.mem_cons_of_mem _ (List.mem_append_left _ (List.mem_append_left _ (List.mem_append_right _ h)))) (by decide +kernel))) (goodIn_sub (fun _ h => List.mem_cons_of_mem _ (List.mem_append_left _ (List.mem_append_right _ h))) (by decide +kernel))
set_option maxRecDepth 20000 in
theorem gL_does_L_isCarried : GoodIn wsL_does (va_wsS RL 112 yL_isCarried wsL_isCarried) := goodIn_app (goodIn_of _ (by decide +kernel)) ggL_does_L_isCarried
set_option maxRecDepth 20000 in
theorem ggL_does_L_isOffered : GoodIn wsL_does wsL_isOffered := goodIn_ca (goodIn_ca (goodIn_r _ [129, 130, 131, 132, 4, 133, 6, 134, 135, 136, 137, 138, 139, 140, 141, 142, 143, 20, 21, 22, 23, 24, 144, 145, 146, 31, 147, 110, 111, 148, 149, 150, 151, 152, 153, 154, 155, 156, 59, 60, 61, 157, 158, 159, 160, 109, 106, 72, 108, 87, 88, 89, 90, 91, 92, 93, 94, 95, 96, 97, 98, 99, 100, 101, 102, 103, 104, 105, 107, 37, 38, 112, 113, 114, 115, 161, 162, 163, 164, 1, 2, 3, 5, 7, 165, 166, 167, 168, 169, 170, 171, 172, 173, 174, 175, 176, 177, 178, 179, 180, 181, 182, 183, 184, 185, 186, 187, 188, 456, 457, 458, 459, 460, 461, 462, 463, 464, 465, 466, 467, 468, 469, 470, 471, 472, 473, 474, 475, 476] (by decide +kernel) (by decide +kernel)) (goodIn_sub (fun _ h => List.mem_cons_of_mem _ (List.mem_append_left _ (List.mem_append_left _ (List.mem_append_right _ h)))) (by decide +kernel))) (goodIn_sub (fun _ h => List.mem_cons_of_mem _ (List.mem_append_left _ (List.mem_append_right _ h))) (by decide +kernel))
set_option maxRecDepth 20000 in
theorem gL_does_L_isOffered : GoodIn wsL_does (va_wsS RL 116 yL_isOffered wsL_isOffered) := goodIn_app (goodIn_of _ (by decide +kernel)) ggL_does_L_isOffered
def wsi_does_isRolled : List Cond := .code yL_isRolled cL_isRolled 7 (some .boolean) :: ((wsL_isRolled_r1 ++ (wsL_isRolled_r2 ++ (wsL_isRolled_r3 ++ (wsL_isRolled_r4 ++ (wsL_isRolled_r5 ++ (wsL_isRolled_r6 ++ (wsL_isRolled_r7 ++ (wsL_isRolled_r8 ++ (wsL_isRolled_r9 ++ wsL_isRolled_r10))))))))) ++ wsX90 ++ wsX10 ++ wsX40 ++ wsX50 ++ wsX20)
set_option maxRecDepth 20000 in
theorem wsi_does_isRolled_0 : GoodIn wsL_does (wsi_does_isRolled.take 60) := goodIn_r _ [191, 12, 13, 10, 14, 15, 192, 193, 194, 4, 195, 196, 197, 198, 6, 199, 200, 201, 202, 203, 204, 205, 206, 207, 208, 31, 209, 106, 33, 34, 35, 36, 37, 38, 210, 211, 212, 213, 214, 215, 216, 217, 218, 219, 220, 221, 222, 223, 224, 225, 226, 227, 228, 229, 230, 231, 232, 233, 234, 235] (by decide +kernel) (by decide +kernel)
set_option maxRecDepth 20000 in
theorem wsi_does_isRolled_1 : GoodIn wsL_does ((wsi_does_isRolled.drop 60).take 60) := goodIn_r _ [236, 237, 238, 239, 240, 241, 242, 243, 244, 245, 246, 247, 248, 249, 250, 251, 252, 253, 254, 255, 256, 257, 258, 259, 260, 261, 262, 263, 264, 265, 266, 267, 268, 269, 270, 271, 272, 273, 274, 275, 276, 277, 278, 279, 280, 281, 282, 283, 284, 43, 44, 45, 285, 286, 287, 288, 85, 86, 289, 290] (by decide +kernel) (by decide +kernel)
set_option maxRecDepth 20000 in
theorem wsi_does_isRolled_2 : GoodIn wsL_does (((wsi_does_isRolled.drop 60).drop 60).take 60) := goodIn_r _ [291, 292, 79, 80, 293, 294, 295, 296, 297, 298, 299, 300, 301, 302, 303, 304, 305, 306, 307, 308, 309, 310, 311, 312, 313, 314, 315, 316, 317, 318, 59, 60, 61, 319, 320, 321, 322, 323, 72, 87, 88, 89, 90, 91, 92, 93, 94, 95, 96, 97, 98, 99, 100, 101, 102, 103, 104, 105, 107, 108] (by decide +kernel) (by decide +kernel)
set_option maxRecDepth 20000 in
theorem wsi_does_isRolled_3 : GoodIn wsL_does ((((wsi_does_isRolled.drop 60).drop 60).drop 60).take 60) := goodIn_r _ [109, 110, 111, 112, 113, 114, 115, 324, 325, 326, 327, 328, 329, 330, 331, 332, 333, 1, 2, 3, 5, 7, 334, 335, 336, 337, 20, 21, 338, 339, 340, 341, 342, 343, 344, 345, 346, 347, 348, 349, 350, 351, 352, 456, 457, 458, 459, 460, 461, 462, 463, 464, 465, 466, 467, 468, 469, 470, 471, 472] (by decide +kernel) (by decide +kernel)
set_option maxRecDepth 20000 in
theorem wsi_does_isRolled_4 : GoodIn wsL_does ((((wsi_does_isRolled.drop 60).drop 60).drop 60).drop 60) := goodIn_r _ [477, 478, 479, 480, 481, 482, 483, 473, 474, 475, 476] (by decide +kernel) (by decide +kernel)
theorem wsi_does_isRolled_ok : GoodIn wsL_does wsi_does_isRolled := (goodIn_td 60 wsi_does_isRolled_0 (goodIn_td 60 wsi_does_isRolled_1 (goodIn_td 60 wsi_does_isRolled_2 (goodIn_td 60 wsi_does_isRolled_3 wsi_does_isRolled_4))))
set_option maxRecDepth 20000 in
theorem ggL_does_L_isRolled : GoodIn wsL_does wsL_isRolled := goodIn_ca (goodIn_ca (goodIn_ca (show GoodIn wsL_does (_ :: _) from wsi_does_isRolled_ok) (goodIn_sub (fun _ h => List.mem_cons_of_mem _ (List.mem_append_right _ h)) (by decide +kernel))) (goodIn_sub (fun _ h => List.mem_cons_of_mem _ (List.mem_append_left _ (List.mem_append_right _ h))) (by decide +kernel))) (goodIn_sub (fun _ h => List.mem_cons_of_mem _ (List.mem_append_left _ (List.mem_append_left _ (List.mem_append_right _ h)))) (by decide +kernel))
set_option maxRecDepth 20000 in
theorem gL_does_L_isRolled : GoodIn wsL_does (va_wsS RL 120 yL_isRolled wsL_isRolled) := goodIn_app (goodIn_of _ (by decide +kernel)) ggL_does_L_isRolled
set_option maxRecDepth 20000 in
theorem ggL_does_X9_mover : GoodIn wsL_does wsX9_mover := goodIn_r _ [138, 6, 139, 456, 457, 458, 459, 460, 461, 462, 463, 464, 465, 466, 467, 468, 469, 470, 471, 472] (by decide +kernel) (by decide +kernel)
set_option maxRecDepth 20000 in
theorem gL_does_X9_mover : GoodIn wsL_does (wsV RL 43 RX9 yX9_mover wsX9_mover) := goodIn_app (goodIn_of _ (by decide +kernel)) ggL_does_X9_mover
set_option maxRecDepth 20000 in
theorem ggL_does_X9_reach : GoodIn wsL_does wsX9_reach := goodIn_r _ [346, 6, 347, 348, 349, 31, 350, 107, 351, 207, 208, 209, 106, 33, 34, 35, 36, 37, 38, 352, 211, 212, 213, 266, 267, 268, 269, 270, 271, 272, 273, 274, 201, 275, 242, 243, 244, 276, 240, 241, 277, 278, 279, 280, 281, 282, 283, 284, 43, 44, 45, 285, 286, 287, 288, 85, 86, 289, 290, 291, 292, 79, 80, 293, 294, 295, 296, 297, 298, 299, 456, 457, 458, 459, 460, 461, 462, 463, 464, 465, 466, 467, 468, 469, 470, 471, 472] (by decide +kernel) (by decide +kernel)
set_option maxRecDepth 20000 in
theorem gL_does_X9_reach : GoodIn wsL_does (wsV RL 33 RX9 yX9_reach wsX9_reach) := goodIn_app (goodIn_of _ (by decide +kernel)) ggL_does_X9_reach
def wsi_does_isStepped : List Cond := .code yL_isStepped cL_isStepped 16 (some .boolean) :: ((wsL_isStepped_r1 ++ (wsL_isStepped_r2 ++ (wsL_isStepped_r3 ++ (wsL_isStepped_r4 ++ (wsL_isStepped_r5 ++ (wsL_isStepped_r6 ++ (wsL_isStepped_r7 ++ (wsL_isStepped_r8 ++ (wsL_isStepped_r9 ++ (wsL_isStepped_r10 ++ (wsL_isStepped_r11 ++ (wsL_isStepped_r12 ++ (wsL_isStepped_r13 ++ wsL_isStepped_r14))))))))))))) ++ wsX90 ++ wsX10 ++ wsX40 ++ wsX50 ++ wsX20)
set_option maxRecDepth 20000 in
theorem wsi_does_isStepped_0 : GoodIn wsL_does (wsi_does_isStepped.take 60) := goodIn_r _ [355, 356, 357, 10, 358, 12, 13, 14, 15, 359, 360, 361, 4, 362, 20, 21, 196, 197, 6, 65, 66, 67, 25, 26, 27, 199, 200, 201, 202, 363, 364, 365, 31, 366, 107, 106, 351, 207, 208, 209, 33, 34, 35, 36, 37, 38, 352, 211, 212, 213, 39, 40, 41, 367, 348, 349, 350, 266, 267, 268] (by decide +kernel) (by decide +kernel)
set_option maxRecDepth 20000 in
theorem wsi_does_isStepped_1 : GoodIn wsL_does ((wsi_does_isStepped.drop 60).take 60) := goodIn_r _ [269, 270, 271, 272, 273, 274, 275, 242, 243, 244, 276, 240, 241, 277, 278, 279, 280, 281, 282, 283, 284, 43, 44, 45, 285, 286, 287, 288, 85, 86, 289, 290, 291, 292, 79, 80, 293, 294, 295, 296, 297, 298, 299, 368, 303, 304, 305, 306, 307, 308, 309, 310, 311, 343, 344, 345, 346, 347, 369, 370] (by decide +kernel) (by decide +kernel)
set_option maxRecDepth 20000 in
theorem wsi_does_isStepped_2 : GoodIn wsL_does (((wsi_does_isStepped.drop 60).drop 60).take 60) := goodIn_r _ [371, 372, 319, 206, 210, 373, 374, 375, 376, 339, 340, 341, 342, 198, 214, 215, 216, 217, 218, 219, 220, 221, 222, 223, 224, 225, 226, 227, 228, 229, 230, 231, 232, 233, 234, 235, 236, 237, 238, 239, 245, 204, 205, 246, 247, 248, 249, 250, 251, 252, 253, 254, 255, 256, 257, 258, 259, 260, 261, 262] (by decide +kernel) (by decide +kernel)
set_option maxRecDepth 20000 in
theorem wsi_does_isStepped_3 : GoodIn wsL_does ((((wsi_does_isStepped.drop 60).drop 60).drop 60).take 60) := goodIn_r _ [263, 264, 265, 300, 301, 302, 312, 313, 314, 135, 136, 137, 138, 139, 377, 378, 379, 124, 125, 126, 16, 17, 18, 19, 22, 23, 24, 28, 29, 30, 32, 42, 330, 331, 332, 333, 329, 380, 381, 382, 383, 384, 385, 386, 387, 112, 113, 388, 389, 390, 391, 50, 392, 393, 394, 395, 396, 397, 398, 399] (by decide +kernel) (by decide +kernel)
set_option maxRecDepth 20000 in
theorem wsi_does_isStepped_4 : GoodIn wsL_does (((((wsi_does_isStepped.drop 60).drop 60).drop 60).drop 60).take 60) := goodIn_r _ [400, 59, 60, 401, 402, 403, 404, 405, 54, 46, 47, 48, 49, 51, 52, 53, 406, 407, 408, 409, 410, 411, 412, 61, 87, 88, 89, 90, 91, 92, 93, 94, 95, 96, 97, 98, 99, 100, 101, 102, 103, 104, 105, 72, 108, 109, 110, 111, 114, 115, 413, 414, 415, 416, 417, 120, 121, 122, 123, 418] (by decide +kernel) (by decide +kernel)
set_option maxRecDepth 20000 in
theorem wsi_does_isStepped_5 : GoodIn wsL_does (((((wsi_does_isStepped.drop 60).drop 60).drop 60).drop 60).drop 60) := goodIn_r _ [419, 420, 421, 422, 423, 81, 82, 83, 84, 185, 186, 187, 188, 1, 2, 3, 5, 7, 424, 425, 426, 427, 456, 457, 458, 459, 460, 461, 462, 463, 464, 465, 466, 467, 468, 469, 470, 471, 472, 477, 478, 479, 480, 481, 482, 483, 473, 474, 475, 476] (by decide +kernel) (by decide +kernel)
theorem wsi_does_isStepped_ok : GoodIn wsL_does wsi_does_isStepped := (goodIn_td 60 wsi_does_isStepped_0 (goodIn_td 60 wsi_does_isStepped_1 (goodIn_td 60 wsi_does_isStepped_2 (goodIn_td 60 wsi_does_isStepped_3 (goodIn_td 60 wsi_does_isStepped_4 wsi_does_isStepped_5)))))
set_option maxRecDepth 20000 in
theorem ggL_does_L_isStepped : GoodIn wsL_does wsL_isStepped := goodIn_ca (goodIn_ca (goodIn_ca (show GoodIn wsL_does (_ :: _) from wsi_does_isStepped_ok) (goodIn_sub (fun _ h => List.mem_cons_of_mem _ (List.mem_append_left _ (List.mem_append_left _ (List.mem_append_right _ h)))) (by decide +kernel))) (goodIn_sub (fun _ h => List.mem_cons_of_mem _ (List.mem_append_right _ h)) (by decide +kernel))) (goodIn_sub (fun _ h => List.mem_cons_of_mem _ (List.mem_append_left _ (List.mem_append_right _ h))) (by decide +kernel))
set_option maxRecDepth 20000 in
theorem gL_does_L_isStepped : GoodIn wsL_does (va_wsS RL 123 yL_isStepped wsL_isStepped) := goodIn_app (goodIn_of _ (by decide +kernel)) ggL_does_L_isStepped
set_option maxRecDepth 20000 in
theorem ggL_does_X9_endTurn : GoodIn wsL_does wsX9_endTurn := goodIn_ca (goodIn_r _ [431, 59, 60, 6, 61, 139, 432, 433, 434, 31, 435, 72, 367, 348, 349, 350, 107, 351, 207, 208, 209, 106, 33, 34, 35, 36, 37, 38, 352, 211, 212, 213, 266, 267, 268, 269, 270, 271, 272, 273, 274, 201, 275, 242, 243, 244, 276, 240, 241, 277, 278, 279, 280, 281, 282, 283, 284, 43, 44, 45, 285, 286, 287, 288, 85, 86, 289, 290, 291, 292, 79, 80, 293, 294, 295, 296, 297, 298, 299, 87, 88, 89, 90, 91, 92, 93, 94, 95, 96, 97, 98, 99, 100, 101, 102, 103, 104, 105, 108, 109, 110, 111, 112, 113, 114, 115, 436, 437, 438, 439, 456, 457, 458, 459, 460, 461, 462, 463, 464, 465, 466, 467, 468, 469, 470, 471, 472, 473, 474, 475, 476] (by decide +kernel) (by decide +kernel)) (goodIn_sub (fun _ h => List.mem_cons_of_mem _ (List.mem_append_left _ (List.mem_append_right _ h))) (by decide +kernel))
set_option maxRecDepth 20000 in
theorem gL_does_X9_endTurn : GoodIn wsL_does (wsV RL 126 RX9 yX9_endTurn wsX9_endTurn) := goodIn_app (goodIn_of _ (by decide +kernel)) ggL_does_X9_endTurn
set_option maxRecDepth 20000 in
theorem ggL_does_X9_diceLeft : GoodIn wsL_does wsX9_diceLeft := goodIn_r _ [333, 6, 319, 329, 274, 201, 275, 242, 243, 244, 456, 457, 458, 459, 460, 461, 462, 463, 464, 465, 466, 467, 468, 469, 470, 471, 472] (by decide +kernel) (by decide +kernel)
set_option maxRecDepth 20000 in
theorem gL_does_X9_diceLeft : GoodIn wsL_does (wsV RL 50 RX9 yX9_diceLeft wsX9_diceLeft) := goodIn_app (goodIn_of _ (by decide +kernel)) ggL_does_X9_diceLeft
set_option maxRecDepth 20000 in
theorem ggL_does_L_isAnew : GoodIn wsL_does wsL_isAnew := goodIn_ca (goodIn_ca (goodIn_r _ [442, 135, 136, 137, 4, 138, 6, 139, 443, 444, 445, 446, 59, 60, 61, 447, 448, 449, 31, 450, 72, 87, 88, 89, 90, 91, 92, 93, 94, 95, 96, 97, 98, 99, 100, 101, 102, 103, 104, 105, 106, 107, 108, 109, 37, 38, 110, 111, 112, 113, 114, 115, 451, 452, 453, 454, 455, 130, 131, 132, 133, 134, 148, 149, 150, 151, 152, 1, 2, 3, 5, 7, 46, 47, 48, 49, 20, 21, 22, 23, 24, 50, 34, 35, 36, 51, 52, 44, 53, 54, 43, 45, 424, 425, 426, 427, 403, 404, 405, 456, 457, 458, 459, 460, 461, 462, 463, 464, 465, 466, 467, 468, 469, 470, 471, 472, 473, 474, 475, 476] (by decide +kernel) (by decide +kernel)) (goodIn_sub (fun _ h => List.mem_cons_of_mem _ (List.mem_append_left _ (List.mem_append_right _ h))) (by decide +kernel))) (goodIn_sub (fun _ h => List.mem_cons_of_mem _ (List.mem_append_left _ (List.mem_append_left _ (List.mem_append_right _ h)))) (by decide +kernel))
set_option maxRecDepth 20000 in
theorem gL_does_L_isAnew : GoodIn wsL_does (va_wsS RL 129 yL_isAnew wsL_isAnew) := goodIn_app (goodIn_of _ (by decide +kernel)) ggL_does_L_isAnew
set_option maxRecDepth 20000 in
theorem ggL_isPlayerSo_X9_onBar : GoodIn wsL_isPlayerSo wsX9_onBar := goodIn_ca (goodIn_r _ [5, 6, 7, 8, 9, 10, 4, 11, 12, 13, 14, 15, 16, 17, 18, 19, 20, 21, 22, 87, 88, 89, 90, 91, 92, 93, 94, 95, 96, 97, 98, 99, 100, 101, 102, 103] (by decide +kernel) (by decide +kernel)) (goodIn_sub (fun _ h => List.mem_cons_of_mem _ (List.mem_append_right _ h)) (by decide +kernel))
set_option maxRecDepth 20000 in
theorem gL_isPlayerSo_X9_onBar : GoodIn wsL_isPlayerSo (wsV RL 14 RX9 yX9_onBar wsX9_onBar) := goodIn_app (goodIn_of _ (by decide +kernel)) ggL_isPlayerSo_X9_onBar
set_option maxRecDepth 20000 in
theorem ggL_isPlayerSo_X9_borneOff : GoodIn wsL_isPlayerSo wsX9_borneOff := goodIn_ca (goodIn_r _ [26, 6, 7, 8, 9, 10, 4, 11, 12, 13, 14, 15, 16, 17, 18, 19, 20, 21, 22, 87, 88, 89, 90, 91, 92, 93, 94, 95, 96, 97, 98, 99, 100, 101, 102, 103] (by decide +kernel) (by decide +kernel)) (goodIn_sub (fun _ h => List.mem_cons_of_mem _ (List.mem_append_right _ h)) (by decide +kernel))
set_option maxRecDepth 20000 in
theorem gL_isPlayerSo_X9_borneOff : GoodIn wsL_isPlayerSo (wsV RL 56 RX9 yX9_borneOff wsX9_borneOff) := goodIn_app (goodIn_of _ (by decide +kernel)) ggL_isPlayerSo_X9_borneOff
set_option maxRecDepth 20000 in
theorem ggL_isPlayerSo_X9_piecesOn : GoodIn wsL_isPlayerSo wsX9_piecesOn := goodIn_ca (goodIn_r _ [30, 6, 7, 8, 9, 10, 4, 11, 31, 32, 33, 34, 35, 36, 15, 37, 38, 13, 14, 16, 17, 18, 39, 40, 41, 42, 20, 21, 22, 87, 88, 89, 90, 91, 92, 93, 94, 95, 96, 97, 98, 99, 100, 101, 102, 103] (by decide +kernel) (by decide +kernel)) (goodIn_sub (fun _ h => List.mem_cons_of_mem _ (List.mem_append_right _ h)) (by decide +kernel))
set_option maxRecDepth 20000 in
theorem gL_isPlayerSo_X9_piecesOn : GoodIn wsL_isPlayerSo (wsV RL 20 RX9 yX9_piecesOn wsX9_piecesOn) := goodIn_app (goodIn_of _ (by decide +kernel)) ggL_isPlayerSo_X9_piecesOn
set_option maxRecDepth 20000 in
theorem ggL_isPlayerSo_L_way : GoodIn wsL_isPlayerSo wsL_way := goodIn_r _ [46] (by decide +kernel) (by decide +kernel)
set_option maxRecDepth 20000 in
theorem gL_isPlayerSo_L_way : GoodIn wsL_isPlayerSo (va_wsS RL 8 yL_way wsL_way) := goodIn_app (goodIn_of _ (by decide +kernel)) ggL_isPlayerSo_L_way
set_option maxRecDepth 20000 in
theorem ggL_isPlayerSo_L_target : GoodIn wsL_isPlayerSo wsL_target := goodIn_r _ [49, 43, 44, 45, 46] (by decide +kernel) (by decide +kernel)
set_option maxRecDepth 20000 in
theorem gL_isPlayerSo_L_target : GoodIn wsL_isPlayerSo (va_wsS RL 46 yL_target wsL_target) := goodIn_app (goodIn_of _ (by decide +kernel)) ggL_isPlayerSo_L_target
set_option maxRecDepth 20000 in
theorem ggL_isPlayerSo_X9_pips : GoodIn wsL_isPlayerSo wsX9_pips := goodIn_ca (goodIn_r _ [53, 6, 7, 8, 9, 10, 4, 11, 12, 13, 14, 15, 16, 17, 18, 54, 55, 21, 56, 57, 20, 22, 87, 88, 89, 90, 91, 92, 93, 94, 95, 96, 97, 98, 99, 100, 101, 102, 103] (by decide +kernel) (by decide +kernel)) (goodIn_sub (fun _ h => List.mem_cons_of_mem _ (List.mem_append_right _ h)) (by decide +kernel))
set_option maxRecDepth 20000 in
theorem gL_isPlayerSo_X9_pips : GoodIn wsL_isPlayerSo (wsV RL 62 RX9 yX9_pips wsX9_pips) := goodIn_app (goodIn_of _ (by decide +kernel)) ggL_isPlayerSo_X9_pips
set_option maxRecDepth 20000 in
theorem ggL_isPlayerSo_X9_blots : GoodIn wsL_isPlayerSo wsX9_blots := goodIn_ca (goodIn_r _ [61, 6, 7, 8, 9, 10, 4, 11, 12, 13, 14, 15, 16, 17, 18, 62, 63, 21, 64, 57, 20, 22, 87, 88, 89, 90, 91, 92, 93, 94, 95, 96, 97, 98, 99, 100, 101, 102, 103] (by decide +kernel) (by decide +kernel)) (goodIn_sub (fun _ h => List.mem_cons_of_mem _ (List.mem_append_right _ h)) (by decide +kernel))
set_option maxRecDepth 20000 in
theorem gL_isPlayerSo_X9_blots : GoodIn wsL_isPlayerSo (wsV RL 76 RX9 yX9_blots wsX9_blots) := goodIn_app (goodIn_of _ (by decide +kernel)) ggL_isPlayerSo_X9_blots
set_option maxRecDepth 20000 in
theorem ggL_isPlayerSo_X9_blockade : GoodIn wsL_isPlayerSo wsX9_blockade := goodIn_ca (goodIn_r _ [68, 6, 7, 8, 9, 10, 4, 11, 12, 13, 14, 15, 16, 17, 18, 69, 70, 21, 71, 72, 73, 74, 75, 57, 20, 22, 87, 88, 89, 90, 91, 92, 93, 94, 95, 96, 97, 98, 99, 100, 101, 102, 103] (by decide +kernel) (by decide +kernel)) (goodIn_sub (fun _ h => List.mem_cons_of_mem _ (List.mem_append_right _ h)) (by decide +kernel))
set_option maxRecDepth 20000 in
theorem gL_isPlayerSo_X9_blockade : GoodIn wsL_isPlayerSo (wsV RL 133 RX9 yX9_blockade wsX9_blockade) := goodIn_app (goodIn_of _ (by decide +kernel)) ggL_isPlayerSo_X9_blockade
set_option maxRecDepth 20000 in
theorem ggL_isPlayerSo_X9_entering : GoodIn wsL_isPlayerSo wsX9_entering := goodIn_ca (goodIn_r _ [79, 6, 7, 8, 9, 10, 4, 11, 12, 13, 14, 15, 16, 17, 18, 80, 81, 82, 83, 84, 85, 21, 86, 87, 88, 89, 90, 91, 92, 93, 94, 95, 96, 97, 98, 99, 100, 101, 102, 103] (by decide +kernel) (by decide +kernel)) (goodIn_sub (fun _ h => List.mem_cons_of_mem _ (List.mem_append_right _ h)) (by decide +kernel))
set_option maxRecDepth 20000 in
theorem gL_isPlayerSo_X9_entering : GoodIn wsL_isPlayerSo (wsV RL 136 RX9 yX9_entering wsX9_entering) := goodIn_app (goodIn_of _ (by decide +kernel)) ggL_isPlayerSo_X9_entering
set_option maxRecDepth 20000 in
theorem ggL_areLooksSo_X9_shots : GoodIn wsL_areLooksSo wsX9_shots := goodIn_ca (goodIn_r _ [6, 7, 8, 9, 10, 5, 11, 12, 13, 14, 15, 16, 17, 18, 19, 20, 21, 22, 23, 24, 25, 26, 27, 28, 29, 30, 31, 32, 33, 34, 35, 36, 37, 38, 39, 40, 41, 42, 43, 44, 45, 46, 47, 48, 49, 50, 51, 52, 53, 54, 55, 56, 57, 58, 59, 60, 61, 62, 63, 64, 65, 66, 67, 68, 69, 70, 71, 72, 73, 74, 75, 275, 276, 277, 278, 279, 280, 281, 282, 283, 284, 285, 286, 287, 288, 289, 290, 291] (by decide +kernel) (by decide +kernel)) (goodIn_sub (fun _ h => List.mem_cons_of_mem _ (List.mem_append_left _ (List.mem_append_right _ h))) (by decide +kernel))
set_option maxRecDepth 20000 in
theorem gL_areLooksSo_X9_shots : GoodIn wsL_areLooksSo (wsV RL 139 RX9 yX9_shots wsX9_shots) := goodIn_app (goodIn_of _ (by decide +kernel)) ggL_areLooksSo_X9_shots
set_option maxRecDepth 20000 in
theorem ggL_areLooksSo_X9_piecesOn : GoodIn wsL_areLooksSo wsX9_piecesOn := goodIn_ca (goodIn_r _ [79, 7, 8, 16, 80, 81, 5, 82, 9, 10, 11, 83, 23, 24, 20, 25, 26, 27, 28, 29, 30, 31, 32, 33, 34, 35, 36, 37, 38, 275, 276, 277, 278, 279, 280, 281, 282, 283, 284, 285, 286, 287, 288, 289, 290, 291] (by decide +kernel) (by decide +kernel)) (goodIn_sub (fun _ h => List.mem_cons_of_mem _ (List.mem_append_left _ (List.mem_append_right _ h))) (by decide +kernel))
set_option maxRecDepth 20000 in
theorem gL_areLooksSo_X9_piecesOn : GoodIn wsL_areLooksSo (wsV RL 20 RX9 yX9_piecesOn wsX9_piecesOn) := goodIn_app (goodIn_of _ (by decide +kernel)) ggL_areLooksSo_X9_piecesOn
set_option maxRecDepth 20000 in
theorem ggL_areLooksSo_X9_shotsByKinds : GoodIn wsL_areLooksSo wsX9_shotsByKinds := goodIn_ca (goodIn_r _ [87, 7, 8, 9, 10, 5, 11, 88, 89, 90, 91, 16, 17, 18, 19, 20, 21, 22, 23, 24, 25, 26, 27, 28, 29, 30, 31, 32, 33, 34, 35, 36, 37, 38, 39, 40, 92, 93, 43, 94, 45, 46, 47, 48, 49, 50, 51, 52, 53, 54, 55, 56, 57, 58, 59, 60, 61, 62, 63, 64, 65, 66, 67, 68, 69, 70, 71, 72, 73, 74, 75, 275, 276, 277, 278, 279, 280, 281, 282, 283, 284, 285, 286, 287, 288, 289, 290, 291] (by decide +kernel) (by decide +kernel)) (goodIn_sub (fun _ h => List.mem_cons_of_mem _ (List.mem_append_left _ (List.mem_append_right _ h))) (by decide +kernel))
set_option maxRecDepth 20000 in
theorem gL_areLooksSo_X9_shotsByKinds : GoodIn wsL_areLooksSo (wsV RL 142 RX9 yX9_shotsByKinds wsX9_shotsByKinds) := goodIn_app (goodIn_of _ (by decide +kernel)) ggL_areLooksSo_X9_shotsByKinds
set_option maxRecDepth 20000 in
theorem ggL_areLooksSo_X9_playsByOrders : GoodIn wsL_areLooksSo wsX9_playsByOrders := goodIn_r _ [98, 99, 16, 100, 101, 102, 103, 20, 104, 105, 26, 27, 28, 29, 30, 31, 106, 107, 108, 109, 110, 111, 112, 113, 114, 115, 116, 117, 118, 119, 120, 121, 122, 123, 124, 125, 126, 127, 128, 129, 130, 131, 132, 69, 47, 70, 71, 72, 73, 74, 57, 58, 75, 46, 48, 133, 134, 135, 136, 137, 138, 139, 140, 141, 142, 143, 144, 145, 146, 147, 148, 149, 150, 151, 152, 153, 154, 155, 156, 157, 158, 159, 160, 161, 162, 163, 164, 165, 166, 167, 168, 169, 170, 171, 36, 37, 38, 172, 60, 61, 173, 174, 175, 176, 177, 178, 179, 63, 64, 180, 181, 182, 183, 184, 185, 186, 187, 188, 189, 190, 191, 192, 193, 194, 195, 196, 197, 198, 199, 200, 201, 275, 276, 277, 278, 279, 280, 281, 282, 283, 284, 285, 286, 287, 288, 289, 290, 291, 292, 293, 294, 295, 296, 297, 298] (by decide +kernel) (by decide +kernel)
set_option maxRecDepth 20000 in
theorem gL_areLooksSo_X9_playsByOrders : GoodIn wsL_areLooksSo (wsV RL 145 RX9 yX9_playsByOrders wsX9_playsByOrders) := goodIn_app (goodIn_of _ (by decide +kernel)) ggL_areLooksSo_X9_playsByOrders
set_option maxRecDepth 20000 in
theorem ggL_areLooksSo_X9_plays : GoodIn wsL_areLooksSo wsX9_plays := goodIn_r _ [205, 99, 16, 100, 101, 102, 103, 20, 104, 105, 26, 27, 28, 29, 30, 31, 106, 107, 108, 109, 110, 111, 112, 113, 114, 115, 116, 117, 118, 119, 120, 121, 122, 123, 124, 125, 126, 127, 128, 129, 130, 131, 132, 69, 47, 70, 71, 72, 73, 74, 57, 58, 75, 46, 48, 133, 134, 135, 136, 137, 138, 139, 140, 141, 142, 143, 144, 145, 146, 147, 148, 149, 150, 151, 152, 153, 154, 155, 156, 157, 158, 159, 160, 161, 162, 163, 164, 165, 166, 167, 168, 169, 170, 171, 36, 37, 38, 172, 60, 61, 173, 174, 175, 176, 177, 178, 179, 63, 64, 180, 181, 182, 183, 184, 185, 186, 187, 188, 189, 190, 191, 192, 193, 194, 195, 196, 197, 198, 199, 200, 201, 275, 276, 277, 278, 279, 280, 281, 282, 283, 284, 285, 286, 287, 288, 289, 290, 291, 292, 293, 294, 295, 296, 297, 298] (by decide +kernel) (by decide +kernel)
set_option maxRecDepth 20000 in
theorem gL_areLooksSo_X9_plays : GoodIn wsL_areLooksSo (wsV RL 40 RX9 yX9_plays wsX9_plays) := goodIn_app (goodIn_of _ (by decide +kernel)) ggL_areLooksSo_X9_plays
set_option maxRecDepth 20000 in
theorem ggL_areLooksSo_X9_reach : GoodIn wsL_areLooksSo wsX9_reach := goodIn_r _ [209, 16, 210, 211, 212, 20, 213, 214, 215, 102, 103, 104, 105, 26, 27, 28, 29, 30, 31, 216, 107, 108, 109, 153, 154, 155, 156, 157, 158, 159, 160, 161, 47, 162, 74, 57, 58, 163, 72, 73, 164, 165, 166, 167, 168, 169, 170, 171, 36, 37, 38, 172, 60, 61, 173, 174, 175, 176, 177, 178, 179, 63, 64, 180, 181, 182, 183, 184, 185, 186, 275, 276, 277, 278, 279, 280, 281, 282, 283, 284, 285, 286, 287, 288, 289, 290, 291] (by decide +kernel) (by decide +kernel)
set_option maxRecDepth 20000 in
theorem gL_areLooksSo_X9_reach : GoodIn wsL_areLooksSo (wsV RL 33 RX9 yX9_reach wsX9_reach) := goodIn_app (goodIn_of _ (by decide +kernel)) ggL_areLooksSo_X9_reach
set_option maxRecDepth 20000 in
theorem ggL_areLooksSo_X9_whyNoStep : GoodIn wsL_areLooksSo wsX9_whyNoStep := goodIn_ca (goodIn_ca (goodIn_r _ [220, 7, 8, 221, 222, 16, 223, 224, 5, 225, 9, 10, 11, 226, 227, 47, 228, 229, 230, 231, 20, 232, 214, 105, 215, 102, 103, 104, 26, 27, 28, 29, 30, 31, 216, 107, 108, 109, 32, 33, 34, 233, 211, 212, 213, 153, 154, 155, 156, 157, 158, 159, 160, 161, 162, 74, 57, 58, 163, 72, 73, 164, 165, 166, 167, 168, 169, 170, 171, 36, 37, 38, 172, 60, 61, 173, 174, 175, 176, 177, 178, 179, 63, 64, 180, 181, 182, 183, 184, 185, 186, 234, 190, 191, 192, 193, 194, 195, 196, 197, 198, 275, 276, 277, 278, 279, 280, 281, 282, 283, 284, 285, 286, 287, 288, 289, 290, 291] (by decide +kernel) (by decide +kernel)) (goodIn_sub (fun _ h => List.mem_cons_of_mem _ (List.mem_append_left _ (List.mem_append_right _ h))) (by decide +kernel))) (goodIn_sub (fun _ h => List.mem_cons_of_mem _ (List.mem_append_right _ h)) (by decide +kernel))
set_option maxRecDepth 20000 in
theorem gL_areLooksSo_X9_whyNoStep : GoodIn wsL_areLooksSo (wsV RL 26 RX9 yX9_whyNoStep wsX9_whyNoStep) := goodIn_app (goodIn_of _ (by decide +kernel)) ggL_areLooksSo_X9_whyNoStep
set_option maxRecDepth 20000 in
theorem ggL_areLooksSo_X9_pips : GoodIn wsL_areLooksSo wsX9_pips := goodIn_ca (goodIn_r _ [238, 7, 8, 16, 80, 81, 5, 82, 40, 27, 28, 20, 29, 30, 31, 239, 240, 37, 241, 242, 36, 38, 275, 276, 277, 278, 279, 280, 281, 282, 283, 284, 285, 286, 287, 288, 289, 290, 291] (by decide +kernel) (by decide +kernel)) (goodIn_sub (fun _ h => List.mem_cons_of_mem _ (List.mem_append_left _ (List.mem_append_right _ h))) (by decide +kernel))
set_option maxRecDepth 20000 in
theorem gL_areLooksSo_X9_pips : GoodIn wsL_areLooksSo (wsV RL 62 RX9 yX9_pips wsX9_pips) := goodIn_app (goodIn_of _ (by decide +kernel)) ggL_areLooksSo_X9_pips
set_option maxRecDepth 20000 in
theorem ggL_areLooksSo_X9_mover : GoodIn wsL_areLooksSo wsX9_mover := goodIn_r _ [246, 16, 247, 275, 276, 277, 278, 279, 280, 281, 282, 283, 284, 285, 286, 287, 288, 289, 290, 291] (by decide +kernel) (by decide +kernel)
set_option maxRecDepth 20000 in
theorem gL_areLooksSo_X9_mover : GoodIn wsL_areLooksSo (wsV RL 43 RX9 yX9_mover wsX9_mover) := goodIn_app (goodIn_of _ (by decide +kernel)) ggL_areLooksSo_X9_mover
set_option maxRecDepth 20000 in
theorem ggL_areLooksSo_X9_possibleSteps : GoodIn wsL_areLooksSo wsX9_possibleSteps := goodIn_r _ [251, 16, 100, 101, 102, 103, 20, 104, 105, 26, 27, 28, 29, 30, 31, 106, 107, 108, 109, 252, 253, 154, 254, 186, 153, 155, 156, 157, 158, 159, 160, 161, 47, 162, 74, 57, 58, 163, 72, 73, 164, 165, 166, 167, 168, 169, 170, 171, 36, 37, 38, 172, 60, 61, 173, 174, 175, 176, 177, 178, 179, 63, 64, 180, 181, 182, 183, 184, 185, 255, 190, 191, 192, 193, 194, 195, 196, 197, 198, 275, 276, 277, 278, 279, 280, 281, 282, 283, 284, 285, 286, 287, 288, 289, 290, 291] (by decide +kernel) (by decide +kernel)
set_option maxRecDepth 20000 in
theorem gL_areLooksSo_X9_possibleSteps : GoodIn wsL_areLooksSo (wsV RL 37 RX9 yX9_possibleSteps wsX9_possibleSteps) := goodIn_app (goodIn_of _ (by decide +kernel)) ggL_areLooksSo_X9_possibleSteps
set_option maxRecDepth 20000 in
theorem ggL_areLooksSo_X9_phase : GoodIn wsL_areLooksSo wsX9_phase := goodIn_r _ [259, 16, 260, 275, 276, 277, 278, 279, 280, 281, 282, 283, 284, 285, 286, 287, 288, 289, 290, 291] (by decide +kernel) (by decide +kernel)
set_option maxRecDepth 20000 in
theorem gL_areLooksSo_X9_phase : GoodIn wsL_areLooksSo (wsV RL 73 RX9 yX9_phase wsX9_phase) := goodIn_app (goodIn_of _ (by decide +kernel)) ggL_areLooksSo_X9_phase
set_option maxRecDepth 20000 in
theorem ggL_areLooksSo_X9_diceLeft : GoodIn wsL_areLooksSo wsX9_diceLeft := goodIn_r _ [264, 16, 100, 265, 161, 47, 162, 74, 57, 58, 275, 276, 277, 278, 279, 280, 281, 282, 283, 284, 285, 286, 287, 288, 289, 290, 291] (by decide +kernel) (by decide +kernel)
set_option maxRecDepth 20000 in
theorem gL_areLooksSo_X9_diceLeft : GoodIn wsL_areLooksSo (wsV RL 50 RX9 yX9_diceLeft wsX9_diceLeft) := goodIn_app (goodIn_of _ (by decide +kernel)) ggL_areLooksSo_X9_diceLeft
set_option maxRecDepth 20000 in
theorem ggL_areLooksSo_X9_lead : GoodIn wsL_areLooksSo wsX9_lead := goodIn_r _ [269, 270, 271, 272, 5, 273, 16, 274, 101, 102, 103, 20, 104, 105, 26, 27, 28, 29, 30, 31, 239, 240, 37, 241, 242, 36, 38, 106, 107, 108, 109, 275, 276, 277, 278, 279, 280, 281, 282, 283, 284, 285, 286, 287, 288, 289, 290, 291] (by decide +kernel) (by decide +kernel)
set_option maxRecDepth 20000 in
theorem gL_areLooksSo_X9_lead : GoodIn wsL_areLooksSo (wsV RL 148 RX9 yX9_lead wsX9_lead) := goodIn_app (goodIn_of _ (by decide +kernel)) ggL_areLooksSo_X9_lead
set_option maxRecDepth 20000 in
theorem ggL_law_X9_init : GoodIn wsL_law wsX9_init := goodIn_r _ [5, 6, 7, 8, 9, 10, 11, 12, 13, 14, 15, 16, 17, 18, 19, 20, 21, 22, 23, 24, 25, 26, 27, 28, 29, 30, 31, 32, 33, 34, 35, 36, 37, 38, 39, 40, 41, 42, 43, 44, 45, 46, 47, 48, 49, 50, 51, 52, 53, 54, 55, 56, 57, 58, 59, 60, 61, 62, 63, 64, 65, 66, 67, 68, 69, 70, 71, 72, 73, 586, 587, 588, 589, 590, 591, 592, 593, 594, 595, 596, 597, 598, 582, 583, 584, 585, 599, 600, 601, 602, 603, 604, 605, 606, 607, 608, 609, 610, 611] (by decide +kernel) (by decide +kernel)
set_option maxRecDepth 20000 in
theorem gL_law_X9_init : GoodIn wsL_law (wsX9_init) := ggL_law_X9_init
set_option maxRecDepth 20000 in
theorem ggL_law_L_cell : GoodIn wsL_law wsL_cell := goodIn_r _ [77] (by decide +kernel) (by decide +kernel)
set_option maxRecDepth 20000 in
theorem gL_law_L_cell : GoodIn wsL_law (va_wsS RL 155 yL_cell wsL_cell) := goodIn_app (goodIn_of _ (by decide +kernel)) ggL_law_L_cell
def wsi_law_does : List Cond := .code yL_does cL_does 4 (some .boolean) :: ((wsL_does_r1 ++ (wsL_does_r2 ++ (wsL_does_r3 ++ (wsL_does_r4 ++ (wsL_does_r5 ++ (wsL_does_r6 ++ (wsL_does_r7 ++ (wsL_does_r8 ++ (wsL_does_r9 ++ (wsL_does_r10 ++ (wsL_does_r11 ++ (wsL_does_r12 ++ (wsL_does_r13 ++ (wsL_does_r14 ++ (wsL_does_r15 ++ (wsL_does_r16 ++ (wsL_does_r17 ++ (wsL_does_r18 ++ wsL_does_r19)))))))))))))))))) ++ wsX90 ++ wsX10 ++ wsX20 ++ wsX40 ++ wsX50)
set_option maxRecDepth 20000 in
theorem wsi_law_does_0 : GoodIn wsL_law (wsi_law_does.take 60) := goodIn_r _ [80, 81, 82, 83, 2, 84, 12, 85, 86, 87, 76, 88, 89, 90, 91, 92, 93, 94, 95, 96, 97, 98, 99, 100, 101, 102, 103, 104, 105, 106, 107, 11, 108, 109, 110, 111, 112, 34, 35, 113, 114, 115, 116, 117, 118, 119, 120, 121, 122, 123, 124, 125, 126, 127, 128, 129, 130, 131, 132, 133] (by decide +kernel) (by decide +kernel)
set_option maxRecDepth 20000 in
theorem wsi_law_does_1 : GoodIn wsL_law ((wsi_law_does.drop 60).take 60) := goodIn_r _ [134, 16, 135, 136, 137, 138, 139, 140, 141, 142, 143, 144, 29, 145, 146, 147, 148, 149, 150, 151, 152, 153, 154, 155, 156, 157, 158, 159, 160, 161, 15, 162, 50, 163, 164, 165, 166, 47, 167, 168, 169, 170, 171, 172, 173, 174, 28, 30, 31, 32, 36, 37, 38, 39, 40, 41, 175, 176, 177, 178] (by decide +kernel) (by decide +kernel)
set_option maxRecDepth 20000 in
theorem wsi_law_does_2 : GoodIn wsL_law (((wsi_law_does.drop 60).drop 60).take 60) := goodIn_r _ [179, 180, 181, 182, 183, 184, 185, 186, 187, 188, 189, 190, 191, 192, 193, 194, 195, 196, 197, 198, 199, 200, 201, 202, 203, 204, 205, 206, 207, 208, 209, 210, 211, 212, 213, 214, 215, 216, 217, 218, 219, 220, 221, 222, 223, 224, 225, 226, 227, 228, 229, 230, 231, 232, 233, 234, 235, 236, 237, 238] (by decide +kernel) (by decide +kernel)
set_option maxRecDepth 20000 in
theorem wsi_law_does_3 : GoodIn wsL_law ((((wsi_law_does.drop 60).drop 60).drop 60).take 60) := goodIn_r _ [239, 240, 241, 242, 243, 244, 245, 246, 247, 248, 249, 250, 251, 252, 253, 254, 255, 256, 24, 257, 258, 259, 260, 261, 262, 263, 264, 265, 266, 267, 268, 269, 270, 271, 272, 273, 274, 23, 275, 65, 63, 64, 276, 277, 278, 279, 62, 280, 281, 282, 283, 284, 285, 70, 71, 73, 286, 287, 288, 289] (by decide +kernel) (by decide +kernel)
set_option maxRecDepth 20000 in
theorem wsi_law_does_4 : GoodIn wsL_law (((((wsi_law_does.drop 60).drop 60).drop 60).drop 60).take 60) := goodIn_r _ [290, 291, 292, 293, 294, 295, 296, 297, 298, 299, 300, 301, 302, 303, 304, 305, 306, 307, 308, 309, 310, 311, 312, 313, 314, 315, 316, 317, 318, 319, 320, 321, 322, 323, 324, 325, 326, 327, 328, 329, 330, 331, 332, 333, 334, 335, 336, 337, 338, 339, 340, 341, 342, 343, 344, 345, 346, 347, 348, 349] (by decide +kernel) (by decide +kernel)
set_option maxRecDepth 20000 in
theorem wsi_law_does_5 : GoodIn wsL_law ((((((wsi_law_does.drop 60).drop 60).drop 60).drop 60).drop 60).take 60) := goodIn_r _ [350, 351, 352, 353, 354, 355, 356, 357, 358, 359, 360, 361, 362, 363, 364, 365, 366, 367, 368, 369, 370, 371, 372, 373, 374, 375, 376, 377, 378, 379, 380, 381, 382, 383, 384, 385, 386, 387, 388, 389, 390, 391, 392, 393, 394, 395, 396, 397, 398, 399, 400, 401, 402, 403, 404, 405, 406, 407, 408, 409] (by decide +kernel) (by decide +kernel)
set_option maxRecDepth 20000 in
theorem wsi_law_does_6 : GoodIn wsL_law (((((((wsi_law_does.drop 60).drop 60).drop 60).drop 60).drop 60).drop 60).take 60) := goodIn_r _ [410, 411, 412, 413, 414, 415, 416, 417, 418, 419, 420, 421, 422, 423, 424, 425, 426, 427, 428, 429, 430, 431, 432, 433, 434, 435, 436, 437, 438, 439, 440, 441, 442, 443, 444, 445, 446, 447, 448, 449, 450, 451, 452, 453, 454, 455, 456, 457, 458, 459, 460, 461, 462, 463, 464, 465, 466, 467, 468, 469] (by decide +kernel) (by decide +kernel)
set_option maxRecDepth 20000 in
theorem wsi_law_does_7 : GoodIn wsL_law ((((((((wsi_law_does.drop 60).drop 60).drop 60).drop 60).drop 60).drop 60).drop 60).take 60) := goodIn_r _ [470, 471, 472, 473, 474, 475, 476, 477, 478, 479, 480, 481, 482, 483, 484, 485, 486, 487, 488, 489, 490, 491, 492, 493, 494, 495, 496, 497, 498, 499, 500, 501, 502, 503, 504, 33, 582, 583, 584, 585, 586, 587, 588, 589, 590, 591, 592, 593, 594, 595, 596, 597, 598, 599, 600, 601, 602, 605, 606, 607] (by decide +kernel) (by decide +kernel)
set_option maxRecDepth 20000 in
theorem wsi_law_does_8 : GoodIn wsL_law ((((((((wsi_law_does.drop 60).drop 60).drop 60).drop 60).drop 60).drop 60).drop 60).drop 60) := goodIn_r _ [608, 609, 610, 611] (by decide +kernel) (by decide +kernel)
theorem wsi_law_does_ok : GoodIn wsL_law wsi_law_does := (goodIn_td 60 wsi_law_does_0 (goodIn_td 60 wsi_law_does_1 (goodIn_td 60 wsi_law_does_2 (goodIn_td 60 wsi_law_does_3 (goodIn_td 60 wsi_law_does_4 (goodIn_td 60 wsi_law_does_5 (goodIn_td 60 wsi_law_does_6 (goodIn_td 60 wsi_law_does_7 wsi_law_does_8))))))))
set_option maxRecDepth 20000 in
theorem ggL_law_L_does : GoodIn wsL_law wsL_does := goodIn_ca (goodIn_ca (goodIn_ca (show GoodIn wsL_law (_ :: _) from wsi_law_does_ok) (goodIn_sub (fun _ h => List.mem_append_left _ (List.mem_append_left _ (List.mem_append_right _ h))) (by decide +kernel))) (goodIn_sub (fun _ h => List.mem_append_left _ (List.mem_append_right _ h)) (by decide +kernel))) (goodIn_sub (fun _ h => List.mem_append_right _ h) (by decide +kernel))
set_option maxRecDepth 20000 in
theorem gL_law_L_does : GoodIn wsL_law (va_wsS RL 159 yL_does wsL_does) := goodIn_app (goodIn_of _ (by decide +kernel)) ggL_law_L_does
set_option maxRecDepth 20000 in
theorem ggL_law_L_isPlayerSo : GoodIn wsL_law wsL_isPlayerSo := goodIn_ca (goodIn_r _ [507, 438, 439, 440, 2, 441, 97, 98, 12, 99, 100, 101, 124, 110, 111, 11, 112, 34, 35, 442, 117, 118, 119, 443, 444, 445, 446, 93, 94, 95, 96, 102, 103, 104, 105, 106, 107, 108, 109, 113, 114, 115, 116, 183, 184, 76, 185, 427, 428, 429, 120, 121, 122, 123, 125, 126, 127, 128, 474, 475, 476, 477, 453, 454, 455, 508, 509, 510, 511, 512, 513, 514, 515, 320, 321, 322, 516, 517, 518, 519, 520, 521, 522, 523, 524, 336, 337, 582, 583, 584, 585, 586, 587, 588, 589, 590, 591, 592, 593, 594, 595, 596, 597, 598] (by decide +kernel) (by decide +kernel)) (goodIn_sub (fun _ h => List.mem_append_left _ (List.mem_append_left _ (List.mem_append_right _ h))) (by decide +kernel))
set_option maxRecDepth 20000 in
theorem gL_law_L_isPlayerSo : GoodIn wsL_law (va_wsS RL 163 yL_isPlayerSo wsL_isPlayerSo) := goodIn_app (goodIn_of _ (by decide +kernel)) ggL_law_L_isPlayerSo
set_option maxRecDepth 20000 in
theorem ggL_law_L_low : GoodIn wsL_law wsL_low := goodIn_r _ [91, 92] (by decide +kernel) (by decide +kernel)
set_option maxRecDepth 20000 in
theorem gL_law_L_low : GoodIn wsL_law (va_wsS RL 23 yL_low wsL_low) := goodIn_app (goodIn_of _ (by decide +kernel)) ggL_law_L_low
def wsi_law_areLooksSo : List Cond := .code yL_areLooksSo cL_areLooksSo 8 (some .boolean) :: ((wsL_areLooksSo_r1 ++ (wsL_areLooksSo_r2 ++ (wsL_areLooksSo_r3 ++ (wsL_areLooksSo_r4 ++ (wsL_areLooksSo_r5 ++ (wsL_areLooksSo_r6 ++ (wsL_areLooksSo_r7 ++ (wsL_areLooksSo_r8 ++ (wsL_areLooksSo_r9 ++ (wsL_areLooksSo_r10 ++ (wsL_areLooksSo_r11 ++ wsL_areLooksSo_r12))))))))))) ++ wsX90 ++ wsX10 ++ wsX40 ++ wsX50)
set_option maxRecDepth 20000 in
theorem wsi_law_areLooksSo_0 : GoodIn wsL_law (wsi_law_areLooksSo.take 60) := goodIn_r _ [527, 528, 529, 530, 531, 2, 532, 97, 98, 102, 103, 104, 533, 534, 535, 536, 12, 537, 538, 539, 11, 540, 145, 106, 107, 108, 109, 110, 111, 112, 34, 35, 113, 114, 115, 116, 117, 118, 119, 451, 124, 541, 542, 522, 543, 544, 262, 259, 263, 545, 546, 547, 548, 549, 550, 551, 552, 293, 294, 524] (by decide +kernel) (by decide +kernel)
set_option maxRecDepth 20000 in
theorem wsi_law_areLooksSo_1 : GoodIn wsL_law ((wsi_law_areLooksSo.drop 60).take 60) := goodIn_r _ [336, 337, 553, 151, 152, 554, 555, 556, 557, 287, 288, 289, 290, 291, 292, 295, 93, 94, 95, 96, 99, 100, 101, 105, 558, 559, 560, 561, 562, 563, 564, 565, 566, 567, 568, 569, 570, 571, 572, 24, 369, 264, 265, 266, 267, 28, 268, 269, 270, 271, 272, 273, 274, 23, 275, 65, 63, 64, 276, 277] (by decide +kernel) (by decide +kernel)
set_option maxRecDepth 20000 in
theorem wsi_law_areLooksSo_2 : GoodIn wsL_law (((wsi_law_areLooksSo.drop 60).drop 60).take 60) := goodIn_r _ [278, 279, 62, 280, 281, 282, 283, 284, 285, 70, 71, 73, 286, 296, 297, 298, 299, 300, 301, 302, 303, 304, 305, 306, 307, 308, 309, 310, 311, 312, 313, 314, 315, 316, 317, 318, 319, 320, 321, 322, 323, 324, 325, 326, 327, 328, 329, 330, 331, 332, 333, 334, 335, 338, 157, 158, 339, 340, 341, 342] (by decide +kernel) (by decide +kernel)
set_option maxRecDepth 20000 in
theorem wsi_law_areLooksSo_3 : GoodIn wsL_law ((((wsi_law_areLooksSo.drop 60).drop 60).drop 60).take 60) := goodIn_r _ [343, 344, 345, 346, 347, 348, 349, 350, 351, 352, 353, 354, 355, 356, 357, 358, 359, 360, 361, 362, 363, 364, 389, 390, 391, 392, 393, 394, 395, 396, 397, 398, 399, 400, 30, 401, 402, 409, 410, 411, 412, 255, 256, 138, 139, 140, 257, 258, 260, 413, 414, 415, 416, 417, 418, 120, 121, 122, 123, 125] (by decide +kernel) (by decide +kernel)
set_option maxRecDepth 20000 in
theorem wsi_law_areLooksSo_4 : GoodIn wsL_law ((((wsi_law_areLooksSo.drop 60).drop 60).drop 60).drop 60) := goodIn_r _ [126, 127, 128, 194, 195, 196, 197, 198, 419, 420, 421, 422, 423, 424, 425, 426, 81, 82, 83, 84, 85, 380, 381, 382, 383, 379, 573, 574, 575, 576, 577, 578, 579, 580, 581, 582, 583, 584, 585, 586, 587, 588, 589, 590, 591, 592, 593, 594, 595, 596, 597, 598, 605, 606, 607, 608, 609, 610, 611] (by decide +kernel) (by decide +kernel)
theorem wsi_law_areLooksSo_ok : GoodIn wsL_law wsi_law_areLooksSo := (goodIn_td 60 wsi_law_areLooksSo_0 (goodIn_td 60 wsi_law_areLooksSo_1 (goodIn_td 60 wsi_law_areLooksSo_2 (goodIn_td 60 wsi_law_areLooksSo_3 wsi_law_areLooksSo_4))))
set_option maxRecDepth 20000 in
theorem ggL_law_L_areLooksSo : GoodIn wsL_law wsL_areLooksSo := goodIn_ca (goodIn_ca (show GoodIn wsL_law (_ :: _) from wsi_law_areLooksSo_ok) (goodIn_sub (fun _ h => List.mem_append_left _ (List.mem_append_left _ (List.mem_append_right _ h))) (by decide +kernel))) (goodIn_sub (fun _ h => List.mem_append_right _ h) (by decide +kernel))
set_option maxRecDepth 20000 in
theorem gL_law_L_areLooksSo : GoodIn wsL_law (va_wsS RL 166 yL_areLooksSo wsL_areLooksSo) := goodIn_app (goodIn_of _ (by decide +kernel)) ggL_law_L_areLooksSo
