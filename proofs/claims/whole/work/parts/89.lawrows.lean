set_option maxRecDepth 20000 in
theorem ggL_roll_X9_roll : GoodIn wsL_roll wsX9_roll := goodIn_ca (goodIn_ca (goodIn_r _ [7, 8, 9, 10, 11, 12, 13, 14, 15, 16, 17, 18, 19, 20, 21, 22, 23, 24, 25, 26, 27, 28, 29, 30, 31, 32, 33, 34, 35, 36, 37, 38, 39, 40, 41, 42, 43, 44, 45, 46, 47, 48, 49, 50, 51, 52, 53, 54, 55, 56, 57, 58, 59, 60, 61, 62, 63, 64, 65, 66, 67, 68, 69, 70, 71, 72, 73, 74, 75, 76, 77, 78, 79, 80, 81, 82, 83, 84, 85, 86, 87, 88, 89] (by decide +kernel) (by decide +kernel)) (goodIn_sub (fun _ h => List.mem_cons_of_mem _ (List.mem_append_left _ (List.mem_append_right _ h))) (by decide +kernel))) (goodIn_sub (fun _ h => List.mem_cons_of_mem _ (List.mem_append_right _ h)) (by decide +kernel))
set_option maxRecDepth 20000 in
theorem gL_roll_X9_roll : GoodIn wsL_roll (wsV RL 7 RX9 yX9_roll wsX9_roll) := goodIn_app (goodIn_of _ (by decide +kernel)) ggL_roll_X9_roll
theorem dL_roll_0 : decode cL_roll 0 = .ok (.aload_n 3, 1) := by decide +kernel
theorem dL_roll_1 : decode cL_roll 1 = .ok (.iconst 0, 1) := by decide +kernel
theorem dL_roll_2 : decode cL_roll 2 = .ok (.aload_n 0, 1) := by decide +kernel
theorem dL_roll_3 : decode cL_roll 3 = .ok (.iload_n 1, 1) := by decide +kernel
theorem dL_roll_4 : decode cL_roll 4 = .ok (.iload_n 2, 1) := by decide +kernel
theorem dL_roll_5 : decode cL_roll 5 = .ok (.invokevirtual 7, 3) := by decide +kernel
theorem dL_roll_8 : decode cL_roll 8 = .ok (.i2l, 1) := by decide +kernel
theorem dL_roll_9 : decode cL_roll 9 = .ok (.lastore, 1) := by decide +kernel
theorem dL_roll_10 : decode cL_roll 10 = .ok (.goto 11, 3) := by decide +kernel
theorem dL_roll_13 : decode cL_roll 13 = .ok (.astore 4, 2) := by decide +kernel
theorem dL_roll_15 : decode cL_roll 15 = .ok (.iconst 1, 1) := by decide +kernel
theorem dL_roll_16 : decode cL_roll 16 = .ok (.ireturn, 1) := by decide +kernel
theorem dL_roll_17 : decode cL_roll 17 = .ok (.astore 4, 2) := by decide +kernel
theorem dL_roll_19 : decode cL_roll 19 = .ok (.iconst 2, 1) := by decide +kernel
theorem dL_roll_20 : decode cL_roll 20 = .ok (.ireturn, 1) := by decide +kernel
theorem dL_roll_21 : decode cL_roll 21 = .ok (.iconst 0, 1) := by decide +kernel
theorem dL_roll_22 : decode cL_roll 22 = .ok (.ireturn, 1) := by decide +kernel
set_option maxRecDepth 20000 in
theorem ggL_step_X9_step : GoodIn wsL_step wsX9_step := goodIn_ca (goodIn_ca (goodIn_ca (goodIn_r _ [8, 9, 10, 11, 12, 13, 14, 15, 16, 17, 18, 7, 19, 20, 21, 22, 23, 24, 25, 26, 27, 28, 29, 30, 31, 32, 33, 34, 35, 36, 37, 38, 39, 40, 41, 42, 43, 44, 45, 46, 47, 48, 49, 50, 51, 52, 53, 54, 55, 56, 57, 58, 59, 60, 61, 62, 63, 64, 65, 66, 67, 68, 69, 70, 71, 72, 73, 74, 75, 76, 77, 78, 79, 80, 81, 82, 83, 84, 85, 86, 87, 88, 89, 90, 91, 92, 93, 94, 95, 96, 97, 98, 99, 100, 101, 102, 103, 104, 105, 106, 107, 108, 109, 110, 111, 112, 113, 114, 115, 116, 117, 118, 119, 120, 121, 122, 123, 124, 125, 126, 127, 128, 129, 130, 131, 132, 133, 134, 135, 136, 137, 138, 139, 140, 141, 142, 143, 144, 145, 146, 147, 148, 149, 150, 151, 152, 153, 154, 155, 156, 157, 158, 159, 160, 161, 162, 163, 164, 165, 166, 167, 168, 169, 170, 171, 172, 173, 174, 175, 176, 177, 178, 179, 180, 181, 182, 183] (by decide +kernel) (by decide +kernel)) (goodIn_sub (fun _ h => List.mem_cons_of_mem _ (List.mem_append_left _ (List.mem_append_left _ (List.mem_append_right _ h)))) (by decide +kernel))) (goodIn_sub (fun _ h => List.mem_cons_of_mem _ (List.mem_append_left _ (List.mem_append_right _ h))) (by decide +kernel))) (goodIn_sub (fun _ h => List.mem_cons_of_mem _ (List.mem_append_right _ h)) (by decide +kernel))
set_option maxRecDepth 20000 in
theorem gL_step_X9_step : GoodIn wsL_step (wsV RL 17 RX9 yX9_step wsX9_step) := goodIn_app (goodIn_of _ (by decide +kernel)) ggL_step_X9_step
theorem dL_step_0 : decode cL_step 0 = .ok (.aload_n 3, 1) := by decide +kernel
theorem dL_step_1 : decode cL_step 1 = .ok (.iconst 0, 1) := by decide +kernel
theorem dL_step_2 : decode cL_step 2 = .ok (.aload_n 0, 1) := by decide +kernel
theorem dL_step_3 : decode cL_step 3 = .ok (.iload_n 1, 1) := by decide +kernel
theorem dL_step_4 : decode cL_step 4 = .ok (.iload_n 2, 1) := by decide +kernel
theorem dL_step_5 : decode cL_step 5 = .ok (.invokevirtual 17, 3) := by decide +kernel
theorem dL_step_8 : decode cL_step 8 = .ok (.ifCond .eq 7, 3) := by decide +kernel
theorem dL_step_11 : decode cL_step 11 = .ok (.lconst 1, 1) := by decide +kernel
theorem dL_step_12 : decode cL_step 12 = .ok (.goto 4, 3) := by decide +kernel
theorem dL_step_15 : decode cL_step 15 = .ok (.lconst 0, 1) := by decide +kernel
theorem dL_step_16 : decode cL_step 16 = .ok (.lastore, 1) := by decide +kernel
theorem dL_step_17 : decode cL_step 17 = .ok (.goto 15, 3) := by decide +kernel
theorem dL_step_20 : decode cL_step 20 = .ok (.astore 4, 2) := by decide +kernel
theorem dL_step_22 : decode cL_step 22 = .ok (.iconst 1, 1) := by decide +kernel
theorem dL_step_23 : decode cL_step 23 = .ok (.ireturn, 1) := by decide +kernel
theorem dL_step_24 : decode cL_step 24 = .ok (.astore 4, 2) := by decide +kernel
theorem dL_step_26 : decode cL_step 26 = .ok (.iconst 2, 1) := by decide +kernel
theorem dL_step_27 : decode cL_step 27 = .ok (.ireturn, 1) := by decide +kernel
theorem dL_step_28 : decode cL_step 28 = .ok (.astore 4, 2) := by decide +kernel
theorem dL_step_30 : decode cL_step 30 = .ok (.iconst 3, 1) := by decide +kernel
theorem dL_step_31 : decode cL_step 31 = .ok (.ireturn, 1) := by decide +kernel
theorem dL_step_32 : decode cL_step 32 = .ok (.iconst 0, 1) := by decide +kernel
theorem dL_step_33 : decode cL_step 33 = .ok (.ireturn, 1) := by decide +kernel
set_option maxRecDepth 20000 in
theorem ggL_endTurn_X9_endTurn : GoodIn wsL_endTurn wsX9_endTurn := goodIn_ca (goodIn_r _ [6, 7, 8, 9, 10, 11, 12, 13, 14, 15, 16, 17, 18, 19, 20, 21, 22, 23, 24, 25, 26, 27, 28, 29, 30, 31, 32, 33, 34, 35, 36, 37, 38, 39, 40, 41, 42, 43, 44, 45, 46, 47, 48, 49, 50, 51, 52, 53, 54, 55, 56, 57, 58, 59, 60, 61, 62, 63, 64, 65, 66, 67, 68, 69, 70, 71, 72, 73, 74, 75, 76, 77, 78, 79, 80, 81, 82, 83, 84, 85, 86, 87, 88, 89, 90, 91, 92, 93, 94, 95, 96, 97, 98, 99, 100, 101, 102, 103, 104, 105, 106, 107, 108, 109, 110, 111, 112, 113, 114, 115, 116, 117, 118, 119, 120, 121, 122, 123, 124, 125, 126, 127, 128, 129, 130, 131, 132, 133, 134, 135, 136] (by decide +kernel) (by decide +kernel)) (goodIn_sub (fun _ h => List.mem_cons_of_mem _ (List.mem_append_right _ h)) (by decide +kernel))
set_option maxRecDepth 20000 in
theorem gL_endTurn_X9_endTurn : GoodIn wsL_endTurn (wsV RL 23 RX9 yX9_endTurn wsX9_endTurn) := goodIn_app (goodIn_of _ (by decide +kernel)) ggL_endTurn_X9_endTurn
theorem dL_endTurn_0 : decode cL_endTurn 0 = .ok (.aload_n 1, 1) := by decide +kernel
theorem dL_endTurn_1 : decode cL_endTurn 1 = .ok (.iconst 0, 1) := by decide +kernel
theorem dL_endTurn_2 : decode cL_endTurn 2 = .ok (.aload_n 0, 1) := by decide +kernel
theorem dL_endTurn_3 : decode cL_endTurn 3 = .ok (.invokevirtual 23, 3) := by decide +kernel
theorem dL_endTurn_6 : decode cL_endTurn 6 = .ok (.i2l, 1) := by decide +kernel
theorem dL_endTurn_7 : decode cL_endTurn 7 = .ok (.lastore, 1) := by decide +kernel
theorem dL_endTurn_8 : decode cL_endTurn 8 = .ok (.goto 6, 3) := by decide +kernel
theorem dL_endTurn_11 : decode cL_endTurn 11 = .ok (.astore_n 2, 1) := by decide +kernel
theorem dL_endTurn_12 : decode cL_endTurn 12 = .ok (.iconst 1, 1) := by decide +kernel
theorem dL_endTurn_13 : decode cL_endTurn 13 = .ok (.ireturn, 1) := by decide +kernel
theorem dL_endTurn_14 : decode cL_endTurn 14 = .ok (.iconst 0, 1) := by decide +kernel
theorem dL_endTurn_15 : decode cL_endTurn 15 = .ok (.ireturn, 1) := by decide +kernel
set_option maxRecDepth 20000 in
theorem ggL_carry_X9_carry : GoodIn wsL_carry wsX9_carry := goodIn_ca (goodIn_ca (goodIn_r _ [7, 8, 9, 10, 11, 12, 13, 14, 15, 6, 16, 17, 18, 19, 20, 21, 22, 23, 24, 25, 26, 27, 28, 29, 30, 31, 32, 33, 34, 35, 36, 37, 38, 39, 40, 41, 42, 43, 44, 45, 46, 47, 48, 49, 50, 51, 52, 53, 54, 55, 56, 57, 58, 59, 60, 61, 62, 63, 64, 65, 66, 67, 68, 69, 70, 71, 72, 73, 74, 75, 76, 77, 78, 79, 80, 81, 82, 83, 84, 85, 86, 87, 88, 89, 90, 91, 92, 93, 94, 95, 96, 97, 98, 99, 100, 101, 102, 103, 104, 105, 106, 107, 108, 109, 110, 111, 112, 113, 114, 115, 116, 117, 118, 119, 120, 121, 122, 123, 124] (by decide +kernel) (by decide +kernel)) (goodIn_sub (fun _ h => List.mem_cons_of_mem _ (List.mem_append_left _ (List.mem_append_right _ h))) (by decide +kernel))) (goodIn_sub (fun _ h => List.mem_cons_of_mem _ (List.mem_append_right _ h)) (by decide +kernel))
set_option maxRecDepth 20000 in
theorem gL_carry_X9_carry : GoodIn wsL_carry (wsV RL 27 RX9 yX9_carry wsX9_carry) := goodIn_app (goodIn_of _ (by decide +kernel)) ggL_carry_X9_carry
theorem dL_carry_0 : decode cL_carry 0 = .ok (.aload 4, 2) := by decide +kernel
theorem dL_carry_2 : decode cL_carry 2 = .ok (.iconst 0, 1) := by decide +kernel
theorem dL_carry_3 : decode cL_carry 3 = .ok (.aload_n 0, 1) := by decide +kernel
theorem dL_carry_4 : decode cL_carry 4 = .ok (.iload_n 1, 1) := by decide +kernel
theorem dL_carry_5 : decode cL_carry 5 = .ok (.iload_n 2, 1) := by decide +kernel
theorem dL_carry_6 : decode cL_carry 6 = .ok (.iload_n 3, 1) := by decide +kernel
theorem dL_carry_7 : decode cL_carry 7 = .ok (.invokevirtual 27, 3) := by decide +kernel
theorem dL_carry_10 : decode cL_carry 10 = .ok (.i2l, 1) := by decide +kernel
theorem dL_carry_11 : decode cL_carry 11 = .ok (.lastore, 1) := by decide +kernel
theorem dL_carry_12 : decode cL_carry 12 = .ok (.goto 11, 3) := by decide +kernel
theorem dL_carry_15 : decode cL_carry 15 = .ok (.astore 5, 2) := by decide +kernel
theorem dL_carry_17 : decode cL_carry 17 = .ok (.iconst 1, 1) := by decide +kernel
theorem dL_carry_18 : decode cL_carry 18 = .ok (.ireturn, 1) := by decide +kernel
theorem dL_carry_19 : decode cL_carry 19 = .ok (.astore 5, 2) := by decide +kernel
theorem dL_carry_21 : decode cL_carry 21 = .ok (.iconst 2, 1) := by decide +kernel
theorem dL_carry_22 : decode cL_carry 22 = .ok (.ireturn, 1) := by decide +kernel
theorem dL_carry_23 : decode cL_carry 23 = .ok (.iconst 0, 1) := by decide +kernel
theorem dL_carry_24 : decode cL_carry 24 = .ok (.ireturn, 1) := by decide +kernel
set_option maxRecDepth 20000 in
theorem ggL_offer_X9_offer : GoodIn wsL_offer wsX9_offer := goodIn_ca (goodIn_r _ [6, 7, 8, 9, 10, 11, 12, 13, 14, 15, 16, 17, 18, 19, 20, 21, 22, 23, 24, 25, 26, 27, 28, 29, 30, 31, 32, 33, 34, 35, 36, 37, 38, 39, 40, 41, 42, 43, 44, 45, 46, 47, 48, 49, 50, 51, 52, 53, 54, 55, 56, 57, 58, 59, 60, 61, 62, 63, 64, 65, 66, 67, 68, 69, 70, 71, 72, 73] (by decide +kernel) (by decide +kernel)) (goodIn_sub (fun _ h => List.mem_cons_of_mem _ (List.mem_append_right _ h)) (by decide +kernel))
set_option maxRecDepth 20000 in
theorem gL_offer_X9_offer : GoodIn wsL_offer (wsV RL 31 RX9 yX9_offer wsX9_offer) := goodIn_app (goodIn_of _ (by decide +kernel)) ggL_offer_X9_offer
theorem dL_offer_0 : decode cL_offer 0 = .ok (.aload_n 1, 1) := by decide +kernel
theorem dL_offer_1 : decode cL_offer 1 = .ok (.iconst 0, 1) := by decide +kernel
theorem dL_offer_2 : decode cL_offer 2 = .ok (.aload_n 0, 1) := by decide +kernel
theorem dL_offer_3 : decode cL_offer 3 = .ok (.invokevirtual 31, 3) := by decide +kernel
theorem dL_offer_6 : decode cL_offer 6 = .ok (.i2l, 1) := by decide +kernel
theorem dL_offer_7 : decode cL_offer 7 = .ok (.lastore, 1) := by decide +kernel
theorem dL_offer_8 : decode cL_offer 8 = .ok (.goto 6, 3) := by decide +kernel
theorem dL_offer_11 : decode cL_offer 11 = .ok (.astore_n 2, 1) := by decide +kernel
theorem dL_offer_12 : decode cL_offer 12 = .ok (.iconst 1, 1) := by decide +kernel
theorem dL_offer_13 : decode cL_offer 13 = .ok (.ireturn, 1) := by decide +kernel
theorem dL_offer_14 : decode cL_offer 14 = .ok (.iconst 0, 1) := by decide +kernel
theorem dL_offer_15 : decode cL_offer 15 = .ok (.ireturn, 1) := by decide +kernel
set_option maxRecDepth 20000 in
theorem ggL_take_X9_take : GoodIn wsL_take wsX9_take := goodIn_ca (goodIn_r _ [6, 7, 8, 9, 10, 11, 12, 13, 14, 15, 16, 17, 18, 19, 20, 21, 22, 23, 24, 25, 26, 27, 28, 29, 30, 31, 32, 33, 34, 35, 36, 37, 38, 39, 40, 41, 42, 43, 44, 45, 46, 47, 48, 49, 50, 51, 52, 53, 54, 55, 56, 57, 58, 59, 60, 61, 62, 63, 64, 65, 66, 67, 68, 69, 70, 71, 72, 73] (by decide +kernel) (by decide +kernel)) (goodIn_sub (fun _ h => List.mem_cons_of_mem _ (List.mem_append_right _ h)) (by decide +kernel))
set_option maxRecDepth 20000 in
theorem gL_take_X9_take : GoodIn wsL_take (wsV RL 34 RX9 yX9_take wsX9_take) := goodIn_app (goodIn_of _ (by decide +kernel)) ggL_take_X9_take
theorem dL_take_0 : decode cL_take 0 = .ok (.aload_n 1, 1) := by decide +kernel
theorem dL_take_1 : decode cL_take 1 = .ok (.iconst 0, 1) := by decide +kernel
theorem dL_take_2 : decode cL_take 2 = .ok (.aload_n 0, 1) := by decide +kernel
theorem dL_take_3 : decode cL_take 3 = .ok (.invokevirtual 34, 3) := by decide +kernel
theorem dL_take_6 : decode cL_take 6 = .ok (.i2l, 1) := by decide +kernel
theorem dL_take_7 : decode cL_take 7 = .ok (.lastore, 1) := by decide +kernel
theorem dL_take_8 : decode cL_take 8 = .ok (.goto 6, 3) := by decide +kernel
theorem dL_take_11 : decode cL_take 11 = .ok (.astore_n 2, 1) := by decide +kernel
theorem dL_take_12 : decode cL_take 12 = .ok (.iconst 1, 1) := by decide +kernel
theorem dL_take_13 : decode cL_take 13 = .ok (.ireturn, 1) := by decide +kernel
theorem dL_take_14 : decode cL_take 14 = .ok (.iconst 0, 1) := by decide +kernel
theorem dL_take_15 : decode cL_take 15 = .ok (.ireturn, 1) := by decide +kernel
set_option maxRecDepth 20000 in
theorem ggL_drop_X9_drop : GoodIn wsL_drop wsX9_drop := goodIn_ca (goodIn_r _ [6, 7, 8, 9, 10, 11, 12, 13, 14, 15, 16, 17, 18, 19, 20, 21, 22, 23, 24, 25, 26, 27, 28, 29, 30, 31, 32, 33, 34, 35, 36, 37, 38, 39, 40, 41, 42, 43, 44, 45, 46, 47, 48, 49, 50, 51, 52, 53, 54, 55, 56, 57, 58, 59, 60, 61, 62, 63, 64, 65, 66, 67, 68, 69, 70, 71, 72, 73, 74, 75, 76, 77, 78, 79, 80, 81] (by decide +kernel) (by decide +kernel)) (goodIn_sub (fun _ h => List.mem_cons_of_mem _ (List.mem_append_right _ h)) (by decide +kernel))
set_option maxRecDepth 20000 in
theorem gL_drop_X9_drop : GoodIn wsL_drop (wsV RL 37 RX9 yX9_drop wsX9_drop) := goodIn_app (goodIn_of _ (by decide +kernel)) ggL_drop_X9_drop
theorem dL_drop_0 : decode cL_drop 0 = .ok (.aload_n 1, 1) := by decide +kernel
theorem dL_drop_1 : decode cL_drop 1 = .ok (.iconst 0, 1) := by decide +kernel
theorem dL_drop_2 : decode cL_drop 2 = .ok (.aload_n 0, 1) := by decide +kernel
theorem dL_drop_3 : decode cL_drop 3 = .ok (.invokevirtual 37, 3) := by decide +kernel
theorem dL_drop_6 : decode cL_drop 6 = .ok (.i2l, 1) := by decide +kernel
theorem dL_drop_7 : decode cL_drop 7 = .ok (.lastore, 1) := by decide +kernel
theorem dL_drop_8 : decode cL_drop 8 = .ok (.goto 6, 3) := by decide +kernel
theorem dL_drop_11 : decode cL_drop 11 = .ok (.astore_n 2, 1) := by decide +kernel
theorem dL_drop_12 : decode cL_drop 12 = .ok (.iconst 1, 1) := by decide +kernel
theorem dL_drop_13 : decode cL_drop 13 = .ok (.ireturn, 1) := by decide +kernel
theorem dL_drop_14 : decode cL_drop 14 = .ok (.iconst 0, 1) := by decide +kernel
theorem dL_drop_15 : decode cL_drop 15 = .ok (.ireturn, 1) := by decide +kernel
set_option maxRecDepth 20000 in
theorem ggL_newGame_X9_newGame : GoodIn wsL_newGame wsX9_newGame := goodIn_ca (goodIn_r _ [6, 7, 8, 9, 10, 11, 12, 13, 14, 15, 16, 17, 18, 19, 20, 21, 22, 23, 24, 25, 26, 27, 28, 29, 30, 31, 32, 33, 34, 35, 36, 37, 38, 39, 40, 41, 42, 43, 44, 45, 46, 47, 48, 49, 50, 51, 52, 53, 54, 55, 56, 57, 58, 59, 60, 61, 62, 63, 64, 65, 66, 67, 68, 69, 70, 71, 72, 73, 74] (by decide +kernel) (by decide +kernel)) (goodIn_sub (fun _ h => List.mem_cons_of_mem _ (List.mem_append_right _ h)) (by decide +kernel))
set_option maxRecDepth 20000 in
theorem gL_newGame_X9_newGame : GoodIn wsL_newGame (wsV RL 40 RX9 yX9_newGame wsX9_newGame) := goodIn_app (goodIn_of _ (by decide +kernel)) ggL_newGame_X9_newGame
theorem dL_newGame_0 : decode cL_newGame 0 = .ok (.aload_n 1, 1) := by decide +kernel
theorem dL_newGame_1 : decode cL_newGame 1 = .ok (.iconst 0, 1) := by decide +kernel
theorem dL_newGame_2 : decode cL_newGame 2 = .ok (.aload_n 0, 1) := by decide +kernel
theorem dL_newGame_3 : decode cL_newGame 3 = .ok (.invokevirtual 40, 3) := by decide +kernel
theorem dL_newGame_6 : decode cL_newGame 6 = .ok (.i2l, 1) := by decide +kernel
theorem dL_newGame_7 : decode cL_newGame 7 = .ok (.lastore, 1) := by decide +kernel
theorem dL_newGame_8 : decode cL_newGame 8 = .ok (.goto 6, 3) := by decide +kernel
theorem dL_newGame_11 : decode cL_newGame 11 = .ok (.astore_n 2, 1) := by decide +kernel
theorem dL_newGame_12 : decode cL_newGame 12 = .ok (.iconst 1, 1) := by decide +kernel
theorem dL_newGame_13 : decode cL_newGame 13 = .ok (.ireturn, 1) := by decide +kernel
theorem dL_newGame_14 : decode cL_newGame 14 = .ok (.iconst 0, 1) := by decide +kernel
theorem dL_newGame_15 : decode cL_newGame 15 = .ok (.ireturn, 1) := by decide +kernel
set_option maxRecDepth 20000 in
theorem ggL_append_X9_append : GoodIn wsL_append wsX9_append := goodIn_ca (goodIn_ca (goodIn_r _ [7, 8, 9, 10, 11, 12, 13, 14, 15, 16, 17, 18, 19, 20, 21, 22, 23, 24, 25, 26, 27, 28, 29, 30] (by decide +kernel) (by decide +kernel)) (goodIn_sub (fun _ h => List.mem_cons_of_mem _ (List.mem_append_left _ (List.mem_append_right _ h))) (by decide +kernel))) (goodIn_sub (fun _ h => List.mem_cons_of_mem _ (List.mem_append_right _ h)) (by decide +kernel))
set_option maxRecDepth 20000 in
theorem gL_append_X9_append : GoodIn wsL_append (wsV RL 43 RX9 yX9_append wsX9_append) := goodIn_app (goodIn_of _ (by decide +kernel)) ggL_append_X9_append
theorem dL_append_0 : decode cL_append 0 = .ok (.aload_n 2, 1) := by decide +kernel
theorem dL_append_1 : decode cL_append 1 = .ok (.iconst 0, 1) := by decide +kernel
theorem dL_append_2 : decode cL_append 2 = .ok (.aload_n 0, 1) := by decide +kernel
theorem dL_append_3 : decode cL_append 3 = .ok (.iload_n 1, 1) := by decide +kernel
theorem dL_append_4 : decode cL_append 4 = .ok (.invokevirtual 43, 3) := by decide +kernel
theorem dL_append_7 : decode cL_append 7 = .ok (.i2l, 1) := by decide +kernel
theorem dL_append_8 : decode cL_append 8 = .ok (.lastore, 1) := by decide +kernel
theorem dL_append_9 : decode cL_append 9 = .ok (.goto 9, 3) := by decide +kernel
theorem dL_append_12 : decode cL_append 12 = .ok (.astore_n 3, 1) := by decide +kernel
theorem dL_append_13 : decode cL_append 13 = .ok (.iconst 1, 1) := by decide +kernel
theorem dL_append_14 : decode cL_append 14 = .ok (.ireturn, 1) := by decide +kernel
theorem dL_append_15 : decode cL_append 15 = .ok (.astore_n 3, 1) := by decide +kernel
theorem dL_append_16 : decode cL_append 16 = .ok (.iconst 2, 1) := by decide +kernel
theorem dL_append_17 : decode cL_append 17 = .ok (.ireturn, 1) := by decide +kernel
theorem dL_append_18 : decode cL_append 18 = .ok (.iconst 0, 1) := by decide +kernel
theorem dL_append_19 : decode cL_append 19 = .ok (.ireturn, 1) := by decide +kernel
set_option maxRecDepth 20000 in
theorem ggL_play_X9_play : GoodIn wsL_play wsX9_play := goodIn_ca (goodIn_r _ [6, 7, 8, 9, 10, 11, 12, 13, 14, 15, 16, 17, 18, 19, 20, 21, 22, 23, 24, 25, 26, 27, 28, 29, 30, 31, 32, 33, 34, 35, 36, 37, 38, 39, 40, 41, 42, 43, 44, 45, 46, 47, 48, 49, 50, 51, 52, 53, 54, 55, 56, 57, 58, 59, 60, 61, 62, 63, 64, 65, 66, 67, 68, 69, 70, 71, 72, 73, 74, 75, 76, 77, 78, 79, 80, 81, 82, 83, 84, 85, 5, 86, 87, 88, 89, 90, 91, 92, 93, 94, 95, 96, 97, 98, 99, 100, 101, 102, 103, 104, 105, 106, 107, 108, 109, 110, 111, 112, 113, 114, 115, 116, 117, 118, 119, 120, 121, 122, 123, 124, 125, 126, 127, 128, 129, 130, 131, 132, 133, 134, 135, 136, 137, 138, 139, 140, 141, 142, 143, 144, 145, 146, 147, 148, 149, 150, 151, 152, 153, 154, 155, 156, 157, 158, 159, 160, 161, 162, 163, 164, 165, 166, 167, 168, 169, 170, 171, 172, 173, 174, 175, 176, 177, 178, 179, 180, 181, 182, 183, 184, 185, 186, 187, 188, 189, 190, 191, 192, 193, 194, 195, 196, 197, 198, 199, 200, 201, 202, 203, 204, 205, 206, 207, 208, 209, 210, 211, 212, 213, 214, 215, 216, 217, 218, 219, 220, 221, 222, 223, 224, 225, 226, 227, 228, 229, 230, 231, 232, 233, 234, 235, 236, 237, 238, 239, 240, 241, 242, 243, 244, 245, 246, 247, 248, 249, 250, 251, 252, 253, 254, 255, 256, 257, 258, 259, 260, 261, 262, 263, 264, 265, 266, 267, 268, 269, 270, 271, 272, 273, 274, 275, 276, 277, 278, 279, 280] (by decide +kernel) (by decide +kernel)) (goodIn_sub (fun _ h => List.mem_cons_of_mem _ (List.mem_append_right _ h)) (by decide +kernel))
set_option maxRecDepth 20000 in
theorem gL_play_X9_play : GoodIn wsL_play (wsV RL 47 RX9 yX9_play wsX9_play) := goodIn_app (goodIn_of _ (by decide +kernel)) ggL_play_X9_play
theorem dL_play_0 : decode cL_play 0 = .ok (.aload_n 1, 1) := by decide +kernel
theorem dL_play_1 : decode cL_play 1 = .ok (.iconst 0, 1) := by decide +kernel
theorem dL_play_2 : decode cL_play 2 = .ok (.aload_n 0, 1) := by decide +kernel
theorem dL_play_3 : decode cL_play 3 = .ok (.invokevirtual 47, 3) := by decide +kernel
theorem dL_play_6 : decode cL_play 6 = .ok (.i2l, 1) := by decide +kernel
theorem dL_play_7 : decode cL_play 7 = .ok (.lastore, 1) := by decide +kernel
theorem dL_play_8 : decode cL_play 8 = .ok (.goto 6, 3) := by decide +kernel
theorem dL_play_11 : decode cL_play 11 = .ok (.astore_n 2, 1) := by decide +kernel
theorem dL_play_12 : decode cL_play 12 = .ok (.iconst 1, 1) := by decide +kernel
theorem dL_play_13 : decode cL_play 13 = .ok (.ireturn, 1) := by decide +kernel
theorem dL_play_14 : decode cL_play 14 = .ok (.iconst 0, 1) := by decide +kernel
theorem dL_play_15 : decode cL_play 15 = .ok (.ireturn, 1) := by decide +kernel
set_option maxRecDepth 20000 in
theorem ggL_stoppedPart_X9_stoppedPart : GoodIn wsL_stoppedPart wsX9_stoppedPart := goodIn_ca (goodIn_r _ [6, 7, 8, 9, 10, 11, 12, 13, 14, 15, 16, 17, 18, 19, 20, 21, 22, 23, 24, 25, 26, 27, 28] (by decide +kernel) (by decide +kernel)) (goodIn_sub (fun _ h => List.mem_cons_of_mem _ (List.mem_append_right _ h)) (by decide +kernel))
set_option maxRecDepth 20000 in
theorem gL_stoppedPart_X9_stoppedPart : GoodIn wsL_stoppedPart (wsV RL 50 RX9 yX9_stoppedPart wsX9_stoppedPart) := goodIn_app (goodIn_of _ (by decide +kernel)) ggL_stoppedPart_X9_stoppedPart
theorem dL_stoppedPart_0 : decode cL_stoppedPart 0 = .ok (.aload_n 1, 1) := by decide +kernel
theorem dL_stoppedPart_1 : decode cL_stoppedPart 1 = .ok (.iconst 0, 1) := by decide +kernel
theorem dL_stoppedPart_2 : decode cL_stoppedPart 2 = .ok (.aload_n 0, 1) := by decide +kernel
theorem dL_stoppedPart_3 : decode cL_stoppedPart 3 = .ok (.invokevirtual 50, 3) := by decide +kernel
theorem dL_stoppedPart_6 : decode cL_stoppedPart 6 = .ok (.i2l, 1) := by decide +kernel
theorem dL_stoppedPart_7 : decode cL_stoppedPart 7 = .ok (.lastore, 1) := by decide +kernel
theorem dL_stoppedPart_8 : decode cL_stoppedPart 8 = .ok (.goto 6, 3) := by decide +kernel
theorem dL_stoppedPart_11 : decode cL_stoppedPart 11 = .ok (.astore_n 2, 1) := by decide +kernel
theorem dL_stoppedPart_12 : decode cL_stoppedPart 12 = .ok (.iconst 1, 1) := by decide +kernel
theorem dL_stoppedPart_13 : decode cL_stoppedPart 13 = .ok (.ireturn, 1) := by decide +kernel
theorem dL_stoppedPart_14 : decode cL_stoppedPart 14 = .ok (.iconst 0, 1) := by decide +kernel
theorem dL_stoppedPart_15 : decode cL_stoppedPart 15 = .ok (.ireturn, 1) := by decide +kernel
set_option maxRecDepth 20000 in
theorem ggL_undo_X9_undo : GoodIn wsL_undo wsX9_undo := goodIn_ca (goodIn_r _ [6, 7, 8, 9, 10, 11, 12, 13, 14, 15, 16, 17, 18, 19, 20, 21, 22, 23, 24, 25, 26, 27, 28, 29, 30, 31, 32, 33, 34, 35, 36, 37, 38, 39, 40, 41, 42, 43, 44, 45, 46, 47, 48, 49, 50, 51, 52, 53, 54, 55, 56, 57, 58, 59, 60, 61] (by decide +kernel) (by decide +kernel)) (goodIn_sub (fun _ h => List.mem_cons_of_mem _ (List.mem_append_right _ h)) (by decide +kernel))
set_option maxRecDepth 20000 in
theorem gL_undo_X9_undo : GoodIn wsL_undo (wsV RL 53 RX9 yX9_undo wsX9_undo) := goodIn_app (goodIn_of _ (by decide +kernel)) ggL_undo_X9_undo
theorem dL_undo_0 : decode cL_undo 0 = .ok (.aload_n 1, 1) := by decide +kernel
theorem dL_undo_1 : decode cL_undo 1 = .ok (.iconst 0, 1) := by decide +kernel
theorem dL_undo_2 : decode cL_undo 2 = .ok (.aload_n 0, 1) := by decide +kernel
theorem dL_undo_3 : decode cL_undo 3 = .ok (.invokevirtual 53, 3) := by decide +kernel
theorem dL_undo_6 : decode cL_undo 6 = .ok (.i2l, 1) := by decide +kernel
theorem dL_undo_7 : decode cL_undo 7 = .ok (.lastore, 1) := by decide +kernel
theorem dL_undo_8 : decode cL_undo 8 = .ok (.goto 6, 3) := by decide +kernel
theorem dL_undo_11 : decode cL_undo 11 = .ok (.astore_n 2, 1) := by decide +kernel
theorem dL_undo_12 : decode cL_undo 12 = .ok (.iconst 1, 1) := by decide +kernel
theorem dL_undo_13 : decode cL_undo 13 = .ok (.ireturn, 1) := by decide +kernel
theorem dL_undo_14 : decode cL_undo 14 = .ok (.iconst 0, 1) := by decide +kernel
theorem dL_undo_15 : decode cL_undo 15 = .ok (.ireturn, 1) := by decide +kernel
set_option maxRecDepth 20000 in
theorem ggL_restore_X9_restore : GoodIn wsL_restore wsX9_restore := goodIn_ca (goodIn_r _ [6, 7, 8, 9, 10, 11, 12, 13, 14, 15, 16, 17, 18, 19, 20, 21, 22, 23, 24, 25, 26, 27, 28, 29, 30, 31, 32, 33, 34, 35, 36, 37, 38, 39, 40, 41, 42, 43, 44, 45, 46, 47, 48, 49, 50, 51, 52, 53, 54, 55, 56, 57, 58, 59, 60, 61, 62, 63, 64, 65, 66, 67, 68, 69, 70, 71] (by decide +kernel) (by decide +kernel)) (goodIn_sub (fun _ h => List.mem_cons_of_mem _ (List.mem_append_right _ h)) (by decide +kernel))
set_option maxRecDepth 20000 in
theorem gL_restore_X9_restore : GoodIn wsL_restore (wsV RL 56 RX9 yX9_restore wsX9_restore) := goodIn_app (goodIn_of _ (by decide +kernel)) ggL_restore_X9_restore
theorem dL_restore_0 : decode cL_restore 0 = .ok (.aload_n 1, 1) := by decide +kernel
theorem dL_restore_1 : decode cL_restore 1 = .ok (.iconst 0, 1) := by decide +kernel
theorem dL_restore_2 : decode cL_restore 2 = .ok (.aload_n 0, 1) := by decide +kernel
theorem dL_restore_3 : decode cL_restore 3 = .ok (.invokevirtual 56, 3) := by decide +kernel
theorem dL_restore_6 : decode cL_restore 6 = .ok (.i2l, 1) := by decide +kernel
theorem dL_restore_7 : decode cL_restore 7 = .ok (.lastore, 1) := by decide +kernel
theorem dL_restore_8 : decode cL_restore 8 = .ok (.goto 6, 3) := by decide +kernel
theorem dL_restore_11 : decode cL_restore 11 = .ok (.astore_n 2, 1) := by decide +kernel
theorem dL_restore_12 : decode cL_restore 12 = .ok (.iconst 1, 1) := by decide +kernel
theorem dL_restore_13 : decode cL_restore 13 = .ok (.ireturn, 1) := by decide +kernel
theorem dL_restore_14 : decode cL_restore 14 = .ok (.iconst 0, 1) := by decide +kernel
theorem dL_restore_15 : decode cL_restore 15 = .ok (.ireturn, 1) := by decide +kernel
set_option maxRecDepth 20000 in
theorem ggL_dieLeft_X9_dieLeft : GoodIn wsL_dieLeft wsX9_dieLeft := goodIn_ca (goodIn_r _ [6, 7, 8, 9, 10, 11, 12, 13, 14, 15, 16, 17, 18, 19, 20, 21, 22, 23, 24, 25, 26, 27, 28, 29, 30, 31, 32, 33, 34, 35] (by decide +kernel) (by decide +kernel)) (goodIn_sub (fun _ h => List.mem_cons_of_mem _ (List.mem_append_right _ h)) (by decide +kernel))
set_option maxRecDepth 20000 in
theorem gL_dieLeft_X9_dieLeft : GoodIn wsL_dieLeft (wsV RL 59 RX9 yX9_dieLeft wsX9_dieLeft) := goodIn_app (goodIn_of _ (by decide +kernel)) ggL_dieLeft_X9_dieLeft
theorem dL_dieLeft_0 : decode cL_dieLeft 0 = .ok (.aload_n 2, 1) := by decide +kernel
theorem dL_dieLeft_1 : decode cL_dieLeft 1 = .ok (.iconst 0, 1) := by decide +kernel
theorem dL_dieLeft_2 : decode cL_dieLeft 2 = .ok (.aload_n 0, 1) := by decide +kernel
theorem dL_dieLeft_3 : decode cL_dieLeft 3 = .ok (.iload_n 1, 1) := by decide +kernel
theorem dL_dieLeft_4 : decode cL_dieLeft 4 = .ok (.invokevirtual 59, 3) := by decide +kernel
theorem dL_dieLeft_7 : decode cL_dieLeft 7 = .ok (.i2l, 1) := by decide +kernel
theorem dL_dieLeft_8 : decode cL_dieLeft 8 = .ok (.lastore, 1) := by decide +kernel
theorem dL_dieLeft_9 : decode cL_dieLeft 9 = .ok (.goto 6, 3) := by decide +kernel
theorem dL_dieLeft_12 : decode cL_dieLeft 12 = .ok (.astore_n 3, 1) := by decide +kernel
theorem dL_dieLeft_13 : decode cL_dieLeft 13 = .ok (.iconst 1, 1) := by decide +kernel
theorem dL_dieLeft_14 : decode cL_dieLeft 14 = .ok (.ireturn, 1) := by decide +kernel
theorem dL_dieLeft_15 : decode cL_dieLeft 15 = .ok (.iconst 0, 1) := by decide +kernel
theorem dL_dieLeft_16 : decode cL_dieLeft 16 = .ok (.ireturn, 1) := by decide +kernel
set_option maxRecDepth 20000 in
theorem ggL_piecesOn_X9_piecesOn : GoodIn wsL_piecesOn wsX9_piecesOn := goodIn_ca (goodIn_r _ [6, 7, 8, 9, 10, 11, 5, 12, 13, 14, 15, 16, 17, 18, 19, 20, 21, 22, 23, 24, 25, 26, 27, 28, 29, 30, 31, 32, 33, 34, 35, 36, 37, 38, 39, 40, 41, 42, 43, 44, 45, 46, 47, 48, 49, 50] (by decide +kernel) (by decide +kernel)) (goodIn_sub (fun _ h => List.mem_cons_of_mem _ (List.mem_append_right _ h)) (by decide +kernel))
set_option maxRecDepth 20000 in
theorem gL_piecesOn_X9_piecesOn : GoodIn wsL_piecesOn (wsV RL 62 RX9 yX9_piecesOn wsX9_piecesOn) := goodIn_app (goodIn_of _ (by decide +kernel)) ggL_piecesOn_X9_piecesOn
theorem dL_piecesOn_0 : decode cL_piecesOn 0 = .ok (.aload_n 3, 1) := by decide +kernel
theorem dL_piecesOn_1 : decode cL_piecesOn 1 = .ok (.iconst 0, 1) := by decide +kernel
theorem dL_piecesOn_2 : decode cL_piecesOn 2 = .ok (.aload_n 0, 1) := by decide +kernel
theorem dL_piecesOn_3 : decode cL_piecesOn 3 = .ok (.iload_n 1, 1) := by decide +kernel
theorem dL_piecesOn_4 : decode cL_piecesOn 4 = .ok (.iload_n 2, 1) := by decide +kernel
theorem dL_piecesOn_5 : decode cL_piecesOn 5 = .ok (.invokevirtual 62, 3) := by decide +kernel
theorem dL_piecesOn_8 : decode cL_piecesOn 8 = .ok (.i2l, 1) := by decide +kernel
theorem dL_piecesOn_9 : decode cL_piecesOn 9 = .ok (.lastore, 1) := by decide +kernel
theorem dL_piecesOn_10 : decode cL_piecesOn 10 = .ok (.goto 7, 3) := by decide +kernel
theorem dL_piecesOn_13 : decode cL_piecesOn 13 = .ok (.astore 4, 2) := by decide +kernel
theorem dL_piecesOn_15 : decode cL_piecesOn 15 = .ok (.iconst 1, 1) := by decide +kernel
theorem dL_piecesOn_16 : decode cL_piecesOn 16 = .ok (.ireturn, 1) := by decide +kernel
theorem dL_piecesOn_17 : decode cL_piecesOn 17 = .ok (.iconst 0, 1) := by decide +kernel
theorem dL_piecesOn_18 : decode cL_piecesOn 18 = .ok (.ireturn, 1) := by decide +kernel
set_option maxRecDepth 20000 in
theorem ggL_onBar_X9_onBar : GoodIn wsL_onBar wsX9_onBar := goodIn_ca (goodIn_r _ [6, 7, 8, 9, 10, 11, 5, 12, 13, 14, 15, 16, 17, 18, 19, 20, 21, 22, 23, 24, 25, 26, 27, 28, 29, 30, 31, 32, 33, 34, 35, 36, 37, 38, 39, 40] (by decide +kernel) (by decide +kernel)) (goodIn_sub (fun _ h => List.mem_cons_of_mem _ (List.mem_append_right _ h)) (by decide +kernel))
set_option maxRecDepth 20000 in
theorem gL_onBar_X9_onBar : GoodIn wsL_onBar (wsV RL 65 RX9 yX9_onBar wsX9_onBar) := goodIn_app (goodIn_of _ (by decide +kernel)) ggL_onBar_X9_onBar
theorem dL_onBar_0 : decode cL_onBar 0 = .ok (.aload_n 2, 1) := by decide +kernel
theorem dL_onBar_1 : decode cL_onBar 1 = .ok (.iconst 0, 1) := by decide +kernel
theorem dL_onBar_2 : decode cL_onBar 2 = .ok (.aload_n 0, 1) := by decide +kernel
theorem dL_onBar_3 : decode cL_onBar 3 = .ok (.iload_n 1, 1) := by decide +kernel
theorem dL_onBar_4 : decode cL_onBar 4 = .ok (.invokevirtual 65, 3) := by decide +kernel
theorem dL_onBar_7 : decode cL_onBar 7 = .ok (.i2l, 1) := by decide +kernel
theorem dL_onBar_8 : decode cL_onBar 8 = .ok (.lastore, 1) := by decide +kernel
theorem dL_onBar_9 : decode cL_onBar 9 = .ok (.goto 6, 3) := by decide +kernel
theorem dL_onBar_12 : decode cL_onBar 12 = .ok (.astore_n 3, 1) := by decide +kernel
theorem dL_onBar_13 : decode cL_onBar 13 = .ok (.iconst 1, 1) := by decide +kernel
theorem dL_onBar_14 : decode cL_onBar 14 = .ok (.ireturn, 1) := by decide +kernel
theorem dL_onBar_15 : decode cL_onBar 15 = .ok (.iconst 0, 1) := by decide +kernel
theorem dL_onBar_16 : decode cL_onBar 16 = .ok (.ireturn, 1) := by decide +kernel
set_option maxRecDepth 20000 in
theorem ggL_borneOff_X9_borneOff : GoodIn wsL_borneOff wsX9_borneOff := goodIn_ca (goodIn_r _ [6, 7, 8, 9, 10, 11, 5, 12, 13, 14, 15, 16, 17, 18, 19, 20, 21, 22, 23, 24, 25, 26, 27, 28, 29, 30, 31, 32, 33, 34, 35, 36, 37, 38, 39, 40] (by decide +kernel) (by decide +kernel)) (goodIn_sub (fun _ h => List.mem_cons_of_mem _ (List.mem_append_right _ h)) (by decide +kernel))
set_option maxRecDepth 20000 in
theorem gL_borneOff_X9_borneOff : GoodIn wsL_borneOff (wsV RL 68 RX9 yX9_borneOff wsX9_borneOff) := goodIn_app (goodIn_of _ (by decide +kernel)) ggL_borneOff_X9_borneOff
theorem dL_borneOff_0 : decode cL_borneOff 0 = .ok (.aload_n 2, 1) := by decide +kernel
theorem dL_borneOff_1 : decode cL_borneOff 1 = .ok (.iconst 0, 1) := by decide +kernel
theorem dL_borneOff_2 : decode cL_borneOff 2 = .ok (.aload_n 0, 1) := by decide +kernel
theorem dL_borneOff_3 : decode cL_borneOff 3 = .ok (.iload_n 1, 1) := by decide +kernel
theorem dL_borneOff_4 : decode cL_borneOff 4 = .ok (.invokevirtual 68, 3) := by decide +kernel
theorem dL_borneOff_7 : decode cL_borneOff 7 = .ok (.i2l, 1) := by decide +kernel
theorem dL_borneOff_8 : decode cL_borneOff 8 = .ok (.lastore, 1) := by decide +kernel
theorem dL_borneOff_9 : decode cL_borneOff 9 = .ok (.goto 6, 3) := by decide +kernel
theorem dL_borneOff_12 : decode cL_borneOff 12 = .ok (.astore_n 3, 1) := by decide +kernel
theorem dL_borneOff_13 : decode cL_borneOff 13 = .ok (.iconst 1, 1) := by decide +kernel
theorem dL_borneOff_14 : decode cL_borneOff 14 = .ok (.ireturn, 1) := by decide +kernel
theorem dL_borneOff_15 : decode cL_borneOff 15 = .ok (.iconst 0, 1) := by decide +kernel
theorem dL_borneOff_16 : decode cL_borneOff 16 = .ok (.ireturn, 1) := by decide +kernel
set_option maxRecDepth 20000 in
theorem ggL_pips_X9_pips : GoodIn wsL_pips wsX9_pips := goodIn_ca (goodIn_r _ [6, 7, 8, 9, 10, 11, 5, 12, 13, 14, 15, 16, 17, 18, 19, 20, 21, 22, 23, 24, 25, 26, 27, 28, 29, 30, 31, 32, 33, 34, 35, 36, 37, 38, 39, 40, 41, 42, 43] (by decide +kernel) (by decide +kernel)) (goodIn_sub (fun _ h => List.mem_cons_of_mem _ (List.mem_append_right _ h)) (by decide +kernel))
set_option maxRecDepth 20000 in
theorem gL_pips_X9_pips : GoodIn wsL_pips (wsV RL 71 RX9 yX9_pips wsX9_pips) := goodIn_app (goodIn_of _ (by decide +kernel)) ggL_pips_X9_pips
theorem dL_pips_0 : decode cL_pips 0 = .ok (.aload_n 2, 1) := by decide +kernel
theorem dL_pips_1 : decode cL_pips 1 = .ok (.iconst 0, 1) := by decide +kernel
theorem dL_pips_2 : decode cL_pips 2 = .ok (.aload_n 0, 1) := by decide +kernel
theorem dL_pips_3 : decode cL_pips 3 = .ok (.iload_n 1, 1) := by decide +kernel
theorem dL_pips_4 : decode cL_pips 4 = .ok (.invokevirtual 71, 3) := by decide +kernel
theorem dL_pips_7 : decode cL_pips 7 = .ok (.i2l, 1) := by decide +kernel
theorem dL_pips_8 : decode cL_pips 8 = .ok (.lastore, 1) := by decide +kernel
theorem dL_pips_9 : decode cL_pips 9 = .ok (.goto 6, 3) := by decide +kernel
theorem dL_pips_12 : decode cL_pips 12 = .ok (.astore_n 3, 1) := by decide +kernel
theorem dL_pips_13 : decode cL_pips 13 = .ok (.iconst 1, 1) := by decide +kernel
theorem dL_pips_14 : decode cL_pips 14 = .ok (.ireturn, 1) := by decide +kernel
theorem dL_pips_15 : decode cL_pips 15 = .ok (.iconst 0, 1) := by decide +kernel
theorem dL_pips_16 : decode cL_pips 16 = .ok (.ireturn, 1) := by decide +kernel
set_option maxRecDepth 20000 in
theorem ggL_blots_X9_blots : GoodIn wsL_blots wsX9_blots := goodIn_ca (goodIn_r _ [6, 7, 8, 9, 10, 11, 5, 12, 13, 14, 15, 16, 17, 18, 19, 20, 21, 22, 23, 24, 25, 26, 27, 28, 29, 30, 31, 32, 33, 34, 35, 36, 37, 38, 39, 40, 41, 42, 43] (by decide +kernel) (by decide +kernel)) (goodIn_sub (fun _ h => List.mem_cons_of_mem _ (List.mem_append_right _ h)) (by decide +kernel))
set_option maxRecDepth 20000 in
theorem gL_blots_X9_blots : GoodIn wsL_blots (wsV RL 74 RX9 yX9_blots wsX9_blots) := goodIn_app (goodIn_of _ (by decide +kernel)) ggL_blots_X9_blots
theorem dL_blots_0 : decode cL_blots 0 = .ok (.aload_n 2, 1) := by decide +kernel
theorem dL_blots_1 : decode cL_blots 1 = .ok (.iconst 0, 1) := by decide +kernel
theorem dL_blots_2 : decode cL_blots 2 = .ok (.aload_n 0, 1) := by decide +kernel
theorem dL_blots_3 : decode cL_blots 3 = .ok (.iload_n 1, 1) := by decide +kernel
theorem dL_blots_4 : decode cL_blots 4 = .ok (.invokevirtual 74, 3) := by decide +kernel
theorem dL_blots_7 : decode cL_blots 7 = .ok (.i2l, 1) := by decide +kernel
theorem dL_blots_8 : decode cL_blots 8 = .ok (.lastore, 1) := by decide +kernel
theorem dL_blots_9 : decode cL_blots 9 = .ok (.goto 6, 3) := by decide +kernel
theorem dL_blots_12 : decode cL_blots 12 = .ok (.astore_n 3, 1) := by decide +kernel
theorem dL_blots_13 : decode cL_blots 13 = .ok (.iconst 1, 1) := by decide +kernel
theorem dL_blots_14 : decode cL_blots 14 = .ok (.ireturn, 1) := by decide +kernel
theorem dL_blots_15 : decode cL_blots 15 = .ok (.iconst 0, 1) := by decide +kernel
theorem dL_blots_16 : decode cL_blots 16 = .ok (.ireturn, 1) := by decide +kernel
set_option maxRecDepth 20000 in
theorem ggL_blockade_X9_blockade : GoodIn wsL_blockade wsX9_blockade := goodIn_ca (goodIn_r _ [6, 7, 8, 9, 10, 11, 5, 12, 13, 14, 15, 16, 17, 18, 19, 20, 21, 22, 23, 24, 25, 26, 27, 28, 29, 30, 31, 32, 33, 34, 35, 36, 37, 38, 39, 40, 41, 42, 43, 44, 45, 46, 47] (by decide +kernel) (by decide +kernel)) (goodIn_sub (fun _ h => List.mem_cons_of_mem _ (List.mem_append_right _ h)) (by decide +kernel))
set_option maxRecDepth 20000 in
theorem gL_blockade_X9_blockade : GoodIn wsL_blockade (wsV RL 77 RX9 yX9_blockade wsX9_blockade) := goodIn_app (goodIn_of _ (by decide +kernel)) ggL_blockade_X9_blockade
theorem dL_blockade_0 : decode cL_blockade 0 = .ok (.aload_n 2, 1) := by decide +kernel
theorem dL_blockade_1 : decode cL_blockade 1 = .ok (.iconst 0, 1) := by decide +kernel
theorem dL_blockade_2 : decode cL_blockade 2 = .ok (.aload_n 0, 1) := by decide +kernel
theorem dL_blockade_3 : decode cL_blockade 3 = .ok (.iload_n 1, 1) := by decide +kernel
theorem dL_blockade_4 : decode cL_blockade 4 = .ok (.invokevirtual 77, 3) := by decide +kernel
theorem dL_blockade_7 : decode cL_blockade 7 = .ok (.i2l, 1) := by decide +kernel
theorem dL_blockade_8 : decode cL_blockade 8 = .ok (.lastore, 1) := by decide +kernel
theorem dL_blockade_9 : decode cL_blockade 9 = .ok (.goto 6, 3) := by decide +kernel
theorem dL_blockade_12 : decode cL_blockade 12 = .ok (.astore_n 3, 1) := by decide +kernel
theorem dL_blockade_13 : decode cL_blockade 13 = .ok (.iconst 1, 1) := by decide +kernel
theorem dL_blockade_14 : decode cL_blockade 14 = .ok (.ireturn, 1) := by decide +kernel
theorem dL_blockade_15 : decode cL_blockade 15 = .ok (.iconst 0, 1) := by decide +kernel
theorem dL_blockade_16 : decode cL_blockade 16 = .ok (.ireturn, 1) := by decide +kernel
set_option maxRecDepth 20000 in
theorem ggL_score_X9_score : GoodIn wsL_score wsX9_score := goodIn_ca (goodIn_r _ [6, 7, 8, 9, 10, 11, 5, 12, 13, 14, 15, 16, 17, 18, 19, 20, 21, 22, 23, 24, 25, 26, 27, 28, 29, 30, 31, 32, 33, 34, 35, 36] (by decide +kernel) (by decide +kernel)) (goodIn_sub (fun _ h => List.mem_cons_of_mem _ (List.mem_append_right _ h)) (by decide +kernel))
set_option maxRecDepth 20000 in
theorem gL_score_X9_score : GoodIn wsL_score (wsV RL 80 RX9 yX9_score wsX9_score) := goodIn_app (goodIn_of _ (by decide +kernel)) ggL_score_X9_score
theorem dL_score_0 : decode cL_score 0 = .ok (.aload_n 2, 1) := by decide +kernel
theorem dL_score_1 : decode cL_score 1 = .ok (.iconst 0, 1) := by decide +kernel
theorem dL_score_2 : decode cL_score 2 = .ok (.aload_n 0, 1) := by decide +kernel
theorem dL_score_3 : decode cL_score 3 = .ok (.iload_n 1, 1) := by decide +kernel
theorem dL_score_4 : decode cL_score 4 = .ok (.invokevirtual 80, 3) := by decide +kernel
theorem dL_score_7 : decode cL_score 7 = .ok (.i2l, 1) := by decide +kernel
theorem dL_score_8 : decode cL_score 8 = .ok (.lastore, 1) := by decide +kernel
theorem dL_score_9 : decode cL_score 9 = .ok (.goto 6, 3) := by decide +kernel
theorem dL_score_12 : decode cL_score 12 = .ok (.astore_n 3, 1) := by decide +kernel
theorem dL_score_13 : decode cL_score 13 = .ok (.iconst 1, 1) := by decide +kernel
theorem dL_score_14 : decode cL_score 14 = .ok (.ireturn, 1) := by decide +kernel
theorem dL_score_15 : decode cL_score 15 = .ok (.iconst 0, 1) := by decide +kernel
theorem dL_score_16 : decode cL_score 16 = .ok (.ireturn, 1) := by decide +kernel
set_option maxRecDepth 20000 in
theorem ggL_hits_X9_hits : GoodIn wsL_hits wsX9_hits := goodIn_ca (goodIn_r _ [6, 7, 8, 9, 10, 11, 5, 12, 13, 14, 15, 16, 17, 18, 19, 20, 21, 22, 23, 24, 25, 26, 27, 28, 29, 30, 31, 32, 33, 34, 35, 36] (by decide +kernel) (by decide +kernel)) (goodIn_sub (fun _ h => List.mem_cons_of_mem _ (List.mem_append_right _ h)) (by decide +kernel))
set_option maxRecDepth 20000 in
theorem gL_hits_X9_hits : GoodIn wsL_hits (wsV RL 83 RX9 yX9_hits wsX9_hits) := goodIn_app (goodIn_of _ (by decide +kernel)) ggL_hits_X9_hits
theorem dL_hits_0 : decode cL_hits 0 = .ok (.aload_n 2, 1) := by decide +kernel
theorem dL_hits_1 : decode cL_hits 1 = .ok (.iconst 0, 1) := by decide +kernel
theorem dL_hits_2 : decode cL_hits 2 = .ok (.aload_n 0, 1) := by decide +kernel
theorem dL_hits_3 : decode cL_hits 3 = .ok (.iload_n 1, 1) := by decide +kernel
theorem dL_hits_4 : decode cL_hits 4 = .ok (.invokevirtual 83, 3) := by decide +kernel
theorem dL_hits_7 : decode cL_hits 7 = .ok (.i2l, 1) := by decide +kernel
theorem dL_hits_8 : decode cL_hits 8 = .ok (.lastore, 1) := by decide +kernel
theorem dL_hits_9 : decode cL_hits 9 = .ok (.goto 6, 3) := by decide +kernel
theorem dL_hits_12 : decode cL_hits 12 = .ok (.astore_n 3, 1) := by decide +kernel
theorem dL_hits_13 : decode cL_hits 13 = .ok (.iconst 1, 1) := by decide +kernel
theorem dL_hits_14 : decode cL_hits 14 = .ok (.ireturn, 1) := by decide +kernel
theorem dL_hits_15 : decode cL_hits 15 = .ok (.iconst 0, 1) := by decide +kernel
theorem dL_hits_16 : decode cL_hits 16 = .ok (.ireturn, 1) := by decide +kernel
set_option maxRecDepth 20000 in
theorem ggL_whyNoStep_X9_whyNoStep : GoodIn wsL_whyNoStep wsX9_whyNoStep := goodIn_ca (goodIn_ca (goodIn_r _ [7, 8, 9, 10, 11, 12, 13, 14, 6, 15, 16, 17, 18, 19, 20, 21, 22, 23, 24, 25, 26, 27, 28, 29, 30, 31, 32, 33, 34, 35, 36, 37, 38, 39, 40, 41, 42, 43, 44, 45, 46, 47, 48, 49, 50, 51, 52, 53, 54, 55, 56, 57, 58, 59, 60, 61, 62, 63, 64, 65, 66, 67, 68, 69, 70, 71, 72, 73, 74, 75, 76, 77, 78, 79, 80, 81, 82, 83, 84, 85, 86, 87, 88, 89, 90, 91, 92, 93, 94, 95, 96, 97, 98, 99, 100, 101, 102, 103, 104, 105, 106, 107, 108, 109, 110, 111, 112, 113, 114, 115, 116, 117, 118, 119, 120, 121, 122, 123] (by decide +kernel) (by decide +kernel)) (goodIn_sub (fun _ h => List.mem_cons_of_mem _ (List.mem_append_left _ (List.mem_append_right _ h))) (by decide +kernel))) (goodIn_sub (fun _ h => List.mem_cons_of_mem _ (List.mem_append_right _ h)) (by decide +kernel))
set_option maxRecDepth 20000 in
theorem gL_whyNoStep_X9_whyNoStep : GoodIn wsL_whyNoStep (wsV RL 86 RX9 yX9_whyNoStep wsX9_whyNoStep) := goodIn_app (goodIn_of _ (by decide +kernel)) ggL_whyNoStep_X9_whyNoStep
theorem dL_whyNoStep_0 : decode cL_whyNoStep 0 = .ok (.aload_n 3, 1) := by decide +kernel
theorem dL_whyNoStep_1 : decode cL_whyNoStep 1 = .ok (.iconst 0, 1) := by decide +kernel
theorem dL_whyNoStep_2 : decode cL_whyNoStep 2 = .ok (.aload_n 0, 1) := by decide +kernel
theorem dL_whyNoStep_3 : decode cL_whyNoStep 3 = .ok (.iload_n 1, 1) := by decide +kernel
theorem dL_whyNoStep_4 : decode cL_whyNoStep 4 = .ok (.iload_n 2, 1) := by decide +kernel
theorem dL_whyNoStep_5 : decode cL_whyNoStep 5 = .ok (.invokevirtual 86, 3) := by decide +kernel
theorem dL_whyNoStep_8 : decode cL_whyNoStep 8 = .ok (.i2l, 1) := by decide +kernel
theorem dL_whyNoStep_9 : decode cL_whyNoStep 9 = .ok (.lastore, 1) := by decide +kernel
theorem dL_whyNoStep_10 : decode cL_whyNoStep 10 = .ok (.goto 11, 3) := by decide +kernel
theorem dL_whyNoStep_13 : decode cL_whyNoStep 13 = .ok (.astore 4, 2) := by decide +kernel
theorem dL_whyNoStep_15 : decode cL_whyNoStep 15 = .ok (.iconst 1, 1) := by decide +kernel
theorem dL_whyNoStep_16 : decode cL_whyNoStep 16 = .ok (.ireturn, 1) := by decide +kernel
theorem dL_whyNoStep_17 : decode cL_whyNoStep 17 = .ok (.astore 4, 2) := by decide +kernel
theorem dL_whyNoStep_19 : decode cL_whyNoStep 19 = .ok (.iconst 2, 1) := by decide +kernel
theorem dL_whyNoStep_20 : decode cL_whyNoStep 20 = .ok (.ireturn, 1) := by decide +kernel
theorem dL_whyNoStep_21 : decode cL_whyNoStep 21 = .ok (.iconst 0, 1) := by decide +kernel
theorem dL_whyNoStep_22 : decode cL_whyNoStep 22 = .ok (.ireturn, 1) := by decide +kernel
set_option maxRecDepth 20000 in
theorem ggL_playsWith_X9_playsWith : GoodIn wsL_playsWith wsX9_playsWith := goodIn_ca (goodIn_r _ [6, 7, 8, 9, 10, 11, 12, 13, 14, 15, 16, 17, 18, 19, 20, 21, 22, 23, 24, 25, 26, 27, 28, 29, 30, 31, 32, 33, 34, 35, 36, 37, 38, 39, 40, 41, 42, 43, 44, 45, 46, 47, 48, 49, 50, 51, 52, 53, 54, 55, 56, 57, 58, 59, 60, 61, 62, 63, 64, 65, 66, 67, 68, 69, 70, 71, 72, 73, 74, 75, 76, 77, 78, 79, 80, 81, 82, 83, 84, 85, 86, 87, 88, 89, 90, 91, 92, 93, 94, 95, 96, 97, 98, 99, 100, 101, 102, 103, 104, 105, 106, 107, 108, 109, 110, 111, 112, 113, 114, 115, 116, 117, 118, 119, 120, 121, 122, 123, 124, 125, 126, 127, 128, 129, 130, 131, 132, 133, 134, 135, 136, 137, 138, 139, 140, 141, 142, 143, 144, 145, 146, 147, 148, 149, 150, 151, 152, 153, 154, 155, 156, 157, 158, 159, 160, 161, 162, 163, 164, 165] (by decide +kernel) (by decide +kernel)) (goodIn_sub (fun _ h => List.mem_cons_of_mem _ (List.mem_append_right _ h)) (by decide +kernel))
set_option maxRecDepth 20000 in
theorem gL_playsWith_X9_playsWith : GoodIn wsL_playsWith (wsV RL 89 RX9 yX9_playsWith wsX9_playsWith) := goodIn_app (goodIn_of _ (by decide +kernel)) ggL_playsWith_X9_playsWith
theorem dL_playsWith_0 : decode cL_playsWith 0 = .ok (.aload_n 3, 1) := by decide +kernel
theorem dL_playsWith_1 : decode cL_playsWith 1 = .ok (.iconst 0, 1) := by decide +kernel
theorem dL_playsWith_2 : decode cL_playsWith 2 = .ok (.aload_n 0, 1) := by decide +kernel
theorem dL_playsWith_3 : decode cL_playsWith 3 = .ok (.iload_n 1, 1) := by decide +kernel
theorem dL_playsWith_4 : decode cL_playsWith 4 = .ok (.iload_n 2, 1) := by decide +kernel
theorem dL_playsWith_5 : decode cL_playsWith 5 = .ok (.invokevirtual 89, 3) := by decide +kernel
theorem dL_playsWith_8 : decode cL_playsWith 8 = .ok (.i2l, 1) := by decide +kernel
theorem dL_playsWith_9 : decode cL_playsWith 9 = .ok (.lastore, 1) := by decide +kernel
theorem dL_playsWith_10 : decode cL_playsWith 10 = .ok (.goto 7, 3) := by decide +kernel
theorem dL_playsWith_13 : decode cL_playsWith 13 = .ok (.astore 4, 2) := by decide +kernel
theorem dL_playsWith_15 : decode cL_playsWith 15 = .ok (.iconst 1, 1) := by decide +kernel
theorem dL_playsWith_16 : decode cL_playsWith 16 = .ok (.ireturn, 1) := by decide +kernel
theorem dL_playsWith_17 : decode cL_playsWith 17 = .ok (.iconst 0, 1) := by decide +kernel
theorem dL_playsWith_18 : decode cL_playsWith 18 = .ok (.ireturn, 1) := by decide +kernel
set_option maxRecDepth 20000 in
theorem ggL_shots_X9_shots : GoodIn wsL_shots wsX9_shots := goodIn_ca (goodIn_r _ [6, 7, 8, 9, 10, 5, 11, 12, 13, 14, 15, 16, 17, 18, 19, 20, 21, 22, 23, 24, 25, 26, 27, 28, 29, 30, 31, 32, 33, 34, 35, 36, 37, 38, 39, 40, 41, 42, 43, 44, 45, 46, 47, 48, 49, 50, 51, 52, 53, 54, 55, 56, 57, 58, 59, 60, 61, 62, 63, 64, 65, 66, 67, 68, 69, 70, 71, 72, 73, 74, 75, 76, 77, 78, 79, 80, 81, 82, 83, 84, 85, 86, 87, 88, 89, 90, 91, 92] (by decide +kernel) (by decide +kernel)) (goodIn_sub (fun _ h => List.mem_cons_of_mem _ (List.mem_append_right _ h)) (by decide +kernel))
set_option maxRecDepth 20000 in
theorem gL_shots_X9_shots : GoodIn wsL_shots (wsV RL 92 RX9 yX9_shots wsX9_shots) := goodIn_app (goodIn_of _ (by decide +kernel)) ggL_shots_X9_shots
theorem dL_shots_0 : decode cL_shots 0 = .ok (.aload_n 2, 1) := by decide +kernel
theorem dL_shots_1 : decode cL_shots 1 = .ok (.iconst 0, 1) := by decide +kernel
theorem dL_shots_2 : decode cL_shots 2 = .ok (.aload_n 0, 1) := by decide +kernel
theorem dL_shots_3 : decode cL_shots 3 = .ok (.iload_n 1, 1) := by decide +kernel
theorem dL_shots_4 : decode cL_shots 4 = .ok (.invokevirtual 92, 3) := by decide +kernel
theorem dL_shots_7 : decode cL_shots 7 = .ok (.i2l, 1) := by decide +kernel
theorem dL_shots_8 : decode cL_shots 8 = .ok (.lastore, 1) := by decide +kernel
theorem dL_shots_9 : decode cL_shots 9 = .ok (.goto 6, 3) := by decide +kernel
theorem dL_shots_12 : decode cL_shots 12 = .ok (.astore_n 3, 1) := by decide +kernel
theorem dL_shots_13 : decode cL_shots 13 = .ok (.iconst 1, 1) := by decide +kernel
theorem dL_shots_14 : decode cL_shots 14 = .ok (.ireturn, 1) := by decide +kernel
theorem dL_shots_15 : decode cL_shots 15 = .ok (.iconst 0, 1) := by decide +kernel
theorem dL_shots_16 : decode cL_shots 16 = .ok (.ireturn, 1) := by decide +kernel
set_option maxRecDepth 20000 in
theorem ggL_shotsByKinds_X9_shotsByKinds : GoodIn wsL_shotsByKinds wsX9_shotsByKinds := goodIn_ca (goodIn_r _ [6, 7, 8, 9, 10, 5, 11, 12, 13, 14, 15, 16, 17, 18, 19, 20, 21, 22, 23, 24, 25, 26, 27, 28, 29, 30, 31, 32, 33, 34, 35, 36, 37, 38, 39, 40, 41, 42, 43, 44, 45, 46, 47, 48, 49, 50, 51, 52, 53, 54, 55, 56, 57, 58, 59, 60, 61, 62, 63, 64, 65, 66, 67, 68, 69, 70, 71, 72, 73, 74, 75, 76, 77, 78, 79, 80, 81, 82, 83, 84, 85, 86, 87, 88, 89, 90, 91, 92] (by decide +kernel) (by decide +kernel)) (goodIn_sub (fun _ h => List.mem_cons_of_mem _ (List.mem_append_right _ h)) (by decide +kernel))
set_option maxRecDepth 20000 in
theorem gL_shotsByKinds_X9_shotsByKinds : GoodIn wsL_shotsByKinds (wsV RL 95 RX9 yX9_shotsByKinds wsX9_shotsByKinds) := goodIn_app (goodIn_of _ (by decide +kernel)) ggL_shotsByKinds_X9_shotsByKinds
theorem dL_shotsByKinds_0 : decode cL_shotsByKinds 0 = .ok (.aload_n 2, 1) := by decide +kernel
theorem dL_shotsByKinds_1 : decode cL_shotsByKinds 1 = .ok (.iconst 0, 1) := by decide +kernel
theorem dL_shotsByKinds_2 : decode cL_shotsByKinds 2 = .ok (.aload_n 0, 1) := by decide +kernel
theorem dL_shotsByKinds_3 : decode cL_shotsByKinds 3 = .ok (.iload_n 1, 1) := by decide +kernel
theorem dL_shotsByKinds_4 : decode cL_shotsByKinds 4 = .ok (.invokevirtual 95, 3) := by decide +kernel
theorem dL_shotsByKinds_7 : decode cL_shotsByKinds 7 = .ok (.i2l, 1) := by decide +kernel
theorem dL_shotsByKinds_8 : decode cL_shotsByKinds 8 = .ok (.lastore, 1) := by decide +kernel
theorem dL_shotsByKinds_9 : decode cL_shotsByKinds 9 = .ok (.goto 6, 3) := by decide +kernel
theorem dL_shotsByKinds_12 : decode cL_shotsByKinds 12 = .ok (.astore_n 3, 1) := by decide +kernel
theorem dL_shotsByKinds_13 : decode cL_shotsByKinds 13 = .ok (.iconst 1, 1) := by decide +kernel
theorem dL_shotsByKinds_14 : decode cL_shotsByKinds 14 = .ok (.ireturn, 1) := by decide +kernel
theorem dL_shotsByKinds_15 : decode cL_shotsByKinds 15 = .ok (.iconst 0, 1) := by decide +kernel
theorem dL_shotsByKinds_16 : decode cL_shotsByKinds 16 = .ok (.ireturn, 1) := by decide +kernel
set_option maxRecDepth 20000 in
theorem ggL_entering_X9_entering : GoodIn wsL_entering wsX9_entering := goodIn_ca (goodIn_r _ [6, 7, 8, 9, 10, 11, 5, 12, 13, 14, 15, 16, 17, 18, 19, 20, 21, 22, 23, 24, 25, 26, 27, 28, 29, 30, 31, 32, 33, 34, 35, 36, 37, 38, 39, 40, 41, 42, 43, 44] (by decide +kernel) (by decide +kernel)) (goodIn_sub (fun _ h => List.mem_cons_of_mem _ (List.mem_append_right _ h)) (by decide +kernel))
set_option maxRecDepth 20000 in
theorem gL_entering_X9_entering : GoodIn wsL_entering (wsV RL 98 RX9 yX9_entering wsX9_entering) := goodIn_app (goodIn_of _ (by decide +kernel)) ggL_entering_X9_entering
theorem dL_entering_0 : decode cL_entering 0 = .ok (.aload_n 2, 1) := by decide +kernel
theorem dL_entering_1 : decode cL_entering 1 = .ok (.iconst 0, 1) := by decide +kernel
theorem dL_entering_2 : decode cL_entering 2 = .ok (.aload_n 0, 1) := by decide +kernel
theorem dL_entering_3 : decode cL_entering 3 = .ok (.iload_n 1, 1) := by decide +kernel
theorem dL_entering_4 : decode cL_entering 4 = .ok (.invokevirtual 98, 3) := by decide +kernel
theorem dL_entering_7 : decode cL_entering 7 = .ok (.i2l, 1) := by decide +kernel
theorem dL_entering_8 : decode cL_entering 8 = .ok (.lastore, 1) := by decide +kernel
theorem dL_entering_9 : decode cL_entering 9 = .ok (.goto 6, 3) := by decide +kernel
theorem dL_entering_12 : decode cL_entering 12 = .ok (.astore_n 3, 1) := by decide +kernel
theorem dL_entering_13 : decode cL_entering 13 = .ok (.iconst 1, 1) := by decide +kernel
theorem dL_entering_14 : decode cL_entering 14 = .ok (.ireturn, 1) := by decide +kernel
theorem dL_entering_15 : decode cL_entering 15 = .ok (.iconst 0, 1) := by decide +kernel
theorem dL_entering_16 : decode cL_entering 16 = .ok (.ireturn, 1) := by decide +kernel
set_option maxRecDepth 20000 in
theorem ggL_blotsBehind_X9_blotsBehind : GoodIn wsL_blotsBehind wsX9_blotsBehind := goodIn_ca (goodIn_ca (goodIn_ca (goodIn_r _ [8, 9, 10, 11, 12, 13, 14, 15, 16, 17, 18, 7, 19, 20, 21, 22, 23, 24, 25, 26, 27, 28, 29, 30, 31, 32, 33, 34, 35, 36, 37, 38, 39, 40, 41, 42, 43, 44, 45, 46, 47, 48, 49, 50, 51, 52, 53, 54, 55, 56, 57, 58, 59, 60, 61, 62, 63, 64, 65, 66, 67, 68, 69, 70, 71, 72, 73, 74, 75, 76, 77, 78, 79, 80, 81, 82, 83, 84, 85, 86, 87, 88, 89, 90, 91, 92, 93, 94, 95, 96, 97, 98, 99, 100, 101, 102, 103, 104, 105, 106, 107, 108, 109, 110, 111, 112, 113, 114, 115, 116, 117, 118, 119, 120, 121, 122, 123, 124, 125, 126, 127, 128, 129, 130, 131, 132, 133, 134] (by decide +kernel) (by decide +kernel)) (goodIn_sub (fun _ h => List.mem_cons_of_mem _ (List.mem_append_left _ (List.mem_append_left _ (List.mem_append_right _ h)))) (by decide +kernel))) (goodIn_sub (fun _ h => List.mem_cons_of_mem _ (List.mem_append_left _ (List.mem_append_right _ h))) (by decide +kernel))) (goodIn_sub (fun _ h => List.mem_cons_of_mem _ (List.mem_append_right _ h)) (by decide +kernel))
set_option maxRecDepth 20000 in
theorem gL_blotsBehind_X9_blotsBehind : GoodIn wsL_blotsBehind (wsV RL 101 RX9 yX9_blotsBehind wsX9_blotsBehind) := goodIn_app (goodIn_of _ (by decide +kernel)) ggL_blotsBehind_X9_blotsBehind
theorem dL_blotsBehind_0 : decode cL_blotsBehind 0 = .ok (.aload_n 3, 1) := by decide +kernel
theorem dL_blotsBehind_1 : decode cL_blotsBehind 1 = .ok (.iconst 0, 1) := by decide +kernel
theorem dL_blotsBehind_2 : decode cL_blotsBehind 2 = .ok (.aload_n 0, 1) := by decide +kernel
theorem dL_blotsBehind_3 : decode cL_blotsBehind 3 = .ok (.iload_n 1, 1) := by decide +kernel
theorem dL_blotsBehind_4 : decode cL_blotsBehind 4 = .ok (.iload_n 2, 1) := by decide +kernel
theorem dL_blotsBehind_5 : decode cL_blotsBehind 5 = .ok (.invokevirtual 101, 3) := by decide +kernel
theorem dL_blotsBehind_8 : decode cL_blotsBehind 8 = .ok (.i2l, 1) := by decide +kernel
theorem dL_blotsBehind_9 : decode cL_blotsBehind 9 = .ok (.lastore, 1) := by decide +kernel
theorem dL_blotsBehind_10 : decode cL_blotsBehind 10 = .ok (.goto 15, 3) := by decide +kernel
theorem dL_blotsBehind_13 : decode cL_blotsBehind 13 = .ok (.astore 4, 2) := by decide +kernel
theorem dL_blotsBehind_15 : decode cL_blotsBehind 15 = .ok (.iconst 1, 1) := by decide +kernel
theorem dL_blotsBehind_16 : decode cL_blotsBehind 16 = .ok (.ireturn, 1) := by decide +kernel
theorem dL_blotsBehind_17 : decode cL_blotsBehind 17 = .ok (.astore 4, 2) := by decide +kernel
theorem dL_blotsBehind_19 : decode cL_blotsBehind 19 = .ok (.iconst 2, 1) := by decide +kernel
theorem dL_blotsBehind_20 : decode cL_blotsBehind 20 = .ok (.ireturn, 1) := by decide +kernel
theorem dL_blotsBehind_21 : decode cL_blotsBehind 21 = .ok (.astore 4, 2) := by decide +kernel
theorem dL_blotsBehind_23 : decode cL_blotsBehind 23 = .ok (.iconst 3, 1) := by decide +kernel
theorem dL_blotsBehind_24 : decode cL_blotsBehind 24 = .ok (.ireturn, 1) := by decide +kernel
theorem dL_blotsBehind_25 : decode cL_blotsBehind 25 = .ok (.iconst 0, 1) := by decide +kernel
theorem dL_blotsBehind_26 : decode cL_blotsBehind 26 = .ok (.ireturn, 1) := by decide +kernel
