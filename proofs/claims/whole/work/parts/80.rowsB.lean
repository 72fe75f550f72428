theorem dX9_init_0 : decode cX9_init 0 = .ok (.aload_n 0, 1) := by decide +kernel
theorem dX9_init_1 : decode cX9_init 1 = .ok (.invokespecial 1, 3) := by decide +kernel
theorem dX9_init_4 : decode cX9_init 4 = .ok (.aload_n 0, 1) := by decide +kernel
theorem dX9_init_5 : decode cX9_init 5 = .ok (.new 7, 3) := by decide +kernel
theorem dX9_init_8 : decode cX9_init 8 = .ok (.dup, 1) := by decide +kernel
theorem dX9_init_9 : decode cX9_init 9 = .ok (.invokespecial 9, 3) := by decide +kernel
theorem dX9_init_12 : decode cX9_init 12 = .ok (.putfield 10, 3) := by decide +kernel
theorem dX9_init_15 : decode cX9_init 15 = .ok (.aload_n 0, 1) := by decide +kernel
theorem dX9_init_16 : decode cX9_init 16 = .ok (.new 16, 3) := by decide +kernel
theorem dX9_init_19 : decode cX9_init 19 = .ok (.dup, 1) := by decide +kernel
theorem dX9_init_20 : decode cX9_init 20 = .ok (.invokespecial 18, 3) := by decide +kernel
theorem dX9_init_23 : decode cX9_init 23 = .ok (.putfield 19, 3) := by decide +kernel
theorem dX9_init_26 : decode cX9_init 26 = .ok (.aload_n 0, 1) := by decide +kernel
theorem dX9_init_27 : decode cX9_init 27 = .ok (.new 23, 3) := by decide +kernel
theorem dX9_init_30 : decode cX9_init 30 = .ok (.dup, 1) := by decide +kernel
theorem dX9_init_31 : decode cX9_init 31 = .ok (.invokespecial 25, 3) := by decide +kernel
theorem dX9_init_34 : decode cX9_init 34 = .ok (.putfield 26, 3) := by decide +kernel
theorem dX9_init_37 : decode cX9_init 37 = .ok (.aload_n 0, 1) := by decide +kernel
theorem dX9_init_38 : decode cX9_init 38 = .ok (.new 30, 3) := by decide +kernel
theorem dX9_init_41 : decode cX9_init 41 = .ok (.dup, 1) := by decide +kernel
theorem dX9_init_42 : decode cX9_init 42 = .ok (.invokespecial 32, 3) := by decide +kernel
theorem dX9_init_45 : decode cX9_init 45 = .ok (.putfield 33, 3) := by decide +kernel
theorem dX9_init_48 : decode cX9_init 48 = .ok (.return_, 1) := by decide +kernel
set_option maxRecDepth 20000 in
theorem ggX9_roll_X0_isDie : GoodIn wsX9_roll wsX0_isDie := goodIn_r _ [11] (by decide +kernel) (by decide +kernel)
set_option maxRecDepth 20000 in
theorem gX9_roll_X0_isDie : GoodIn wsX9_roll (va_wsS RX9 37 yX0_isDie wsX0_isDie) := goodIn_app (goodIn_of _ (by decide +kernel)) ggX9_roll_X0_isDie
set_option maxRecDepth 20000 in
theorem ggX9_roll_X1_awaitsRoll : GoodIn wsX9_roll wsX1_awaitsRoll := goodIn_r _ [16, 17, 66, 67, 68, 69, 70, 71, 72, 73, 74, 75, 76, 77, 78] (by decide +kernel) (by decide +kernel)
set_option maxRecDepth 20000 in
theorem gX9_roll_X1_awaitsRoll : GoodIn wsX9_roll (wsV RX9 46 RX1 yX1_awaitsRoll wsX1_awaitsRoll) := goodIn_app (goodIn_of _ (by decide +kernel)) ggX9_roll_X1_awaitsRoll
set_option maxRecDepth 20000 in
theorem ggX9_roll_X2_save : GoodIn wsX9_roll wsX2_save := goodIn_r _ [22, 23, 24, 25, 26, 21, 27, 28, 29, 30, 31, 32, 33, 34, 35, 15, 36, 37, 17, 38, 39, 40, 41, 42, 43, 44, 45, 46, 47, 48, 79, 80, 81, 82, 66, 67, 68, 69, 70, 71, 72, 73, 74, 75, 76, 77, 78] (by decide +kernel) (by decide +kernel)
set_option maxRecDepth 20000 in
theorem gX9_roll_X2_save : GoodIn wsX9_roll (wsV RX9 53 RX2 yX2_save wsX2_save) := goodIn_app (goodIn_of _ (by decide +kernel)) ggX9_roll_X2_save
set_option maxRecDepth 20000 in
theorem ggX9_roll_X1_doRoll : GoodIn wsX9_roll wsX1_doRoll := goodIn_r _ [52, 38, 17, 53, 54, 10, 55, 66, 67, 68, 69, 70, 71, 72, 73, 74, 75, 76, 77, 78] (by decide +kernel) (by decide +kernel)
set_option maxRecDepth 20000 in
theorem gX9_roll_X1_doRoll : GoodIn wsX9_roll (wsV RX9 57 RX1 yX1_doRoll wsX1_doRoll) := goodIn_app (goodIn_of _ (by decide +kernel)) ggX9_roll_X1_doRoll
set_option maxRecDepth 20000 in
theorem ggX9_roll_X0_count : GoodIn wsX9_roll wsX0_count := goodIn_r _ [58, 59, 60, 10, 61] (by decide +kernel) (by decide +kernel)
set_option maxRecDepth 20000 in
theorem gX9_roll_X0_count : GoodIn wsX9_roll (va_wsS RX9 65 yX0_count wsX0_count) := goodIn_app (goodIn_of _ (by decide +kernel)) ggX9_roll_X0_count
theorem dX9_roll_0 : decode cX9_roll 0 = .ok (.iload_n 1, 1) := by decide +kernel
theorem dX9_roll_1 : decode cX9_roll 1 = .ok (.invokestatic 37, 3) := by decide +kernel
theorem dX9_roll_4 : decode cX9_roll 4 = .ok (.ifCond .eq 10, 3) := by decide +kernel
theorem dX9_roll_7 : decode cX9_roll 7 = .ok (.iload_n 2, 1) := by decide +kernel
theorem dX9_roll_8 : decode cX9_roll 8 = .ok (.invokestatic 37, 3) := by decide +kernel
theorem dX9_roll_11 : decode cX9_roll 11 = .ok (.ifCond .ne 11, 3) := by decide +kernel
theorem dX9_roll_14 : decode cX9_roll 14 = .ok (.new 43, 3) := by decide +kernel
theorem dX9_roll_17 : decode cX9_roll 17 = .ok (.dup, 1) := by decide +kernel
theorem dX9_roll_18 : decode cX9_roll 18 = .ok (.invokespecial 45, 3) := by decide +kernel
theorem dX9_roll_21 : decode cX9_roll 21 = .ok (.athrow, 1) := by decide +kernel
theorem dX9_roll_22 : decode cX9_roll 22 = .ok (.aload_n 0, 1) := by decide +kernel
theorem dX9_roll_23 : decode cX9_roll 23 = .ok (.getfield 10, 3) := by decide +kernel
theorem dX9_roll_26 : decode cX9_roll 26 = .ok (.invokevirtual 46, 3) := by decide +kernel
theorem dX9_roll_29 : decode cX9_roll 29 = .ok (.ifCond .ne 11, 3) := by decide +kernel
theorem dX9_roll_32 : decode cX9_roll 32 = .ok (.new 50, 3) := by decide +kernel
theorem dX9_roll_35 : decode cX9_roll 35 = .ok (.dup, 1) := by decide +kernel
theorem dX9_roll_36 : decode cX9_roll 36 = .ok (.invokespecial 52, 3) := by decide +kernel
theorem dX9_roll_39 : decode cX9_roll 39 = .ok (.athrow, 1) := by decide +kernel
theorem dX9_roll_40 : decode cX9_roll 40 = .ok (.aload_n 0, 1) := by decide +kernel
theorem dX9_roll_41 : decode cX9_roll 41 = .ok (.getfield 19, 3) := by decide +kernel
theorem dX9_roll_44 : decode cX9_roll 44 = .ok (.aload_n 0, 1) := by decide +kernel
theorem dX9_roll_45 : decode cX9_roll 45 = .ok (.getfield 10, 3) := by decide +kernel
theorem dX9_roll_48 : decode cX9_roll 48 = .ok (.invokevirtual 53, 3) := by decide +kernel
theorem dX9_roll_51 : decode cX9_roll 51 = .ok (.aload_n 0, 1) := by decide +kernel
theorem dX9_roll_52 : decode cX9_roll 52 = .ok (.getfield 10, 3) := by decide +kernel
theorem dX9_roll_55 : decode cX9_roll 55 = .ok (.iload_n 1, 1) := by decide +kernel
theorem dX9_roll_56 : decode cX9_roll 56 = .ok (.iload_n 2, 1) := by decide +kernel
theorem dX9_roll_57 : decode cX9_roll 57 = .ok (.invokevirtual 57, 3) := by decide +kernel
theorem dX9_roll_60 : decode cX9_roll 60 = .ok (.aload_n 0, 1) := by decide +kernel
theorem dX9_roll_61 : decode cX9_roll 61 = .ok (.getfield 10, 3) := by decide +kernel
theorem dX9_roll_64 : decode cX9_roll 64 = .ok (.getfield 61, 3) := by decide +kernel
theorem dX9_roll_67 : decode cX9_roll 67 = .ok (.invokestatic 65, 3) := by decide +kernel
theorem dX9_roll_70 : decode cX9_roll 70 = .ok (.ireturn, 1) := by decide +kernel
set_option maxRecDepth 20000 in
theorem ggX9_step_X9_isPointOrBar : GoodIn wsX9_step wsX9_isPointOrBar := goodIn_r _ [12, 13, 14, 11, 15] (by decide +kernel) (by decide +kernel)
set_option maxRecDepth 20000 in
theorem gX9_step_X9_isPointOrBar : GoodIn wsX9_step (va_wsS RX9 69 yX9_isPointOrBar wsX9_isPointOrBar) := goodIn_app (goodIn_of _ (by decide +kernel)) ggX9_step_X9_isPointOrBar
set_option maxRecDepth 20000 in
theorem ggX9_step_X0_isDie : GoodIn wsX9_step wsX0_isDie := goodIn_r _ [19] (by decide +kernel) (by decide +kernel)
set_option maxRecDepth 20000 in
theorem gX9_step_X0_isDie : GoodIn wsX9_step (va_wsS RX9 37 yX0_isDie wsX0_isDie) := goodIn_app (goodIn_of _ (by decide +kernel)) ggX9_step_X0_isDie
set_option maxRecDepth 20000 in
theorem ggX9_step_X1_reasonAgainst : GoodIn wsX9_step wsX1_reasonAgainst := goodIn_r _ [24, 25, 26, 27, 28, 29, 23, 30, 31, 32, 33, 34, 35, 36, 37, 38, 39, 40, 41, 42, 43, 44, 45, 46, 47, 48, 49, 50, 51, 52, 53, 54, 55, 56, 18, 57, 58, 59, 60, 61, 62, 63, 64, 65, 66, 67, 68, 69, 70, 71, 72, 73, 74, 75, 76, 77, 78, 79, 80, 81, 82, 83, 84, 85, 86, 87, 88, 89, 90, 91, 92, 93, 94, 95, 96, 97, 98, 99, 100, 101, 102, 103, 160, 161, 162, 163, 164, 165, 166, 167, 168, 169, 170, 171, 172] (by decide +kernel) (by decide +kernel)
set_option maxRecDepth 20000 in
theorem gX9_step_X1_reasonAgainst : GoodIn wsX9_step (wsV RX9 75 RX1 yX1_reasonAgainst wsX1_reasonAgainst) := goodIn_app (goodIn_of _ (by decide +kernel)) ggX9_step_X1_reasonAgainst
set_option maxRecDepth 20000 in
theorem ggX9_step_X2_save : GoodIn wsX9_step wsX2_save := goodIn_r _ [108, 109, 110, 111, 112, 107, 113, 114, 115, 116, 117, 118, 119, 120, 121, 23, 122, 26, 123, 25, 124, 125, 35, 36, 126, 127, 128, 129, 130, 131, 173, 174, 175, 176, 160, 161, 162, 163, 164, 165, 166, 167, 168, 169, 170, 171, 172] (by decide +kernel) (by decide +kernel)
set_option maxRecDepth 20000 in
theorem gX9_step_X2_save : GoodIn wsX9_step (wsV RX9 53 RX2 yX2_save wsX2_save) := goodIn_app (goodIn_of _ (by decide +kernel)) ggX9_step_X2_save
set_option maxRecDepth 20000 in
theorem ggX9_step_X1_doStep : GoodIn wsX9_step wsX1_doStep := goodIn_r _ [135, 26, 25, 124, 41, 42, 23, 43, 37, 38, 39, 40, 31, 32, 33, 34, 35, 36, 136, 88, 49, 89, 75, 76, 73, 77, 84, 85, 86, 137, 138, 139, 140, 27, 28, 29, 30, 141, 82, 83, 51, 52, 53, 54, 142, 91, 18, 92, 58, 59, 60, 143, 144, 145, 146, 128, 129, 147, 148, 149, 150, 79, 80, 151, 72, 74, 152, 153, 154, 155, 126, 127, 123, 160, 161, 162, 163, 164, 165, 166, 167, 168, 169, 170, 171, 172] (by decide +kernel) (by decide +kernel)
set_option maxRecDepth 20000 in
theorem gX9_step_X1_doStep : GoodIn wsX9_step (wsV RX9 79 RX1 yX1_doStep wsX1_doStep) := goodIn_app (goodIn_of _ (by decide +kernel)) ggX9_step_X1_doStep
theorem dX9_step_0 : decode cX9_step 0 = .ok (.iload_n 1, 1) := by decide +kernel
theorem dX9_step_1 : decode cX9_step 1 = .ok (.invokestatic 69, 3) := by decide +kernel
theorem dX9_step_4 : decode cX9_step 4 = .ok (.ifCond .ne 11, 3) := by decide +kernel
theorem dX9_step_7 : decode cX9_step 7 = .ok (.new 72, 3) := by decide +kernel
theorem dX9_step_10 : decode cX9_step 10 = .ok (.dup, 1) := by decide +kernel
theorem dX9_step_11 : decode cX9_step 11 = .ok (.invokespecial 74, 3) := by decide +kernel
theorem dX9_step_14 : decode cX9_step 14 = .ok (.athrow, 1) := by decide +kernel
theorem dX9_step_15 : decode cX9_step 15 = .ok (.iload_n 2, 1) := by decide +kernel
theorem dX9_step_16 : decode cX9_step 16 = .ok (.invokestatic 37, 3) := by decide +kernel
theorem dX9_step_19 : decode cX9_step 19 = .ok (.ifCond .ne 11, 3) := by decide +kernel
theorem dX9_step_22 : decode cX9_step 22 = .ok (.new 43, 3) := by decide +kernel
theorem dX9_step_25 : decode cX9_step 25 = .ok (.dup, 1) := by decide +kernel
theorem dX9_step_26 : decode cX9_step 26 = .ok (.invokespecial 45, 3) := by decide +kernel
theorem dX9_step_29 : decode cX9_step 29 = .ok (.athrow, 1) := by decide +kernel
theorem dX9_step_30 : decode cX9_step 30 = .ok (.aload_n 0, 1) := by decide +kernel
theorem dX9_step_31 : decode cX9_step 31 = .ok (.getfield 10, 3) := by decide +kernel
theorem dX9_step_34 : decode cX9_step 34 = .ok (.iload_n 1, 1) := by decide +kernel
theorem dX9_step_35 : decode cX9_step 35 = .ok (.iload_n 2, 1) := by decide +kernel
theorem dX9_step_36 : decode cX9_step 36 = .ok (.invokevirtual 75, 3) := by decide +kernel
theorem dX9_step_39 : decode cX9_step 39 = .ok (.ifCond .eq 11, 3) := by decide +kernel
theorem dX9_step_42 : decode cX9_step 42 = .ok (.new 50, 3) := by decide +kernel
theorem dX9_step_45 : decode cX9_step 45 = .ok (.dup, 1) := by decide +kernel
theorem dX9_step_46 : decode cX9_step 46 = .ok (.invokespecial 52, 3) := by decide +kernel
theorem dX9_step_49 : decode cX9_step 49 = .ok (.athrow, 1) := by decide +kernel
theorem dX9_step_50 : decode cX9_step 50 = .ok (.aload_n 0, 1) := by decide +kernel
theorem dX9_step_51 : decode cX9_step 51 = .ok (.getfield 19, 3) := by decide +kernel
theorem dX9_step_54 : decode cX9_step 54 = .ok (.aload_n 0, 1) := by decide +kernel
theorem dX9_step_55 : decode cX9_step 55 = .ok (.getfield 10, 3) := by decide +kernel
theorem dX9_step_58 : decode cX9_step 58 = .ok (.invokevirtual 53, 3) := by decide +kernel
theorem dX9_step_61 : decode cX9_step 61 = .ok (.aload_n 0, 1) := by decide +kernel
theorem dX9_step_62 : decode cX9_step 62 = .ok (.getfield 10, 3) := by decide +kernel
theorem dX9_step_65 : decode cX9_step 65 = .ok (.iload_n 1, 1) := by decide +kernel
theorem dX9_step_66 : decode cX9_step 66 = .ok (.iload_n 2, 1) := by decide +kernel
theorem dX9_step_67 : decode cX9_step 67 = .ok (.invokevirtual 79, 3) := by decide +kernel
theorem dX9_step_70 : decode cX9_step 70 = .ok (.ireturn, 1) := by decide +kernel
set_option maxRecDepth 20000 in
theorem ggX9_endTurn_X1_canEndTurn : GoodIn wsX9_endTurn wsX1_canEndTurn := goodIn_r _ [10, 11, 12, 13, 14, 9, 15, 16, 17, 18, 19, 20, 21, 22, 23, 24, 25, 26, 27, 28, 29, 30, 31, 32, 33, 34, 35, 36, 37, 38, 39, 40, 41, 42, 43, 44, 45, 46, 47, 48, 49, 50, 51, 52, 53, 54, 55, 56, 57, 58, 59, 60, 61, 62, 63, 64, 65, 66, 67, 68, 69, 70, 71, 72, 73, 74, 75, 76, 77, 78, 114, 115, 116, 117, 118, 119, 120, 121, 122, 123, 124, 125, 126] (by decide +kernel) (by decide +kernel)
set_option maxRecDepth 20000 in
theorem gX9_endTurn_X1_canEndTurn : GoodIn wsX9_endTurn (wsV RX9 83 RX1 yX1_canEndTurn wsX1_canEndTurn) := goodIn_app (goodIn_of _ (by decide +kernel)) ggX9_endTurn_X1_canEndTurn
set_option maxRecDepth 20000 in
theorem ggX9_endTurn_X2_save : GoodIn wsX9_endTurn wsX2_save := goodIn_r _ [83, 84, 85, 86, 87, 82, 88, 89, 90, 91, 92, 93, 94, 95, 96, 9, 97, 21, 11, 16, 98, 99, 26, 27, 100, 101, 102, 103, 104, 105, 127, 128, 129, 130, 114, 115, 116, 117, 118, 119, 120, 121, 122, 123, 124, 125, 126] (by decide +kernel) (by decide +kernel)
set_option maxRecDepth 20000 in
theorem gX9_endTurn_X2_save : GoodIn wsX9_endTurn (wsV RX9 53 RX2 yX2_save wsX2_save) := goodIn_app (goodIn_of _ (by decide +kernel)) ggX9_endTurn_X2_save
set_option maxRecDepth 20000 in
theorem ggX9_endTurn_X1_doEndTurn : GoodIn wsX9_endTurn wsX1_doEndTurn := goodIn_r _ [109, 21, 16, 11, 114, 115, 116, 117, 118, 119, 120, 121, 122, 123, 124, 125, 126] (by decide +kernel) (by decide +kernel)
set_option maxRecDepth 20000 in
theorem gX9_endTurn_X1_doEndTurn : GoodIn wsX9_endTurn (wsV RX9 86 RX1 yX1_doEndTurn wsX1_doEndTurn) := goodIn_app (goodIn_of _ (by decide +kernel)) ggX9_endTurn_X1_doEndTurn
theorem dX9_endTurn_0 : decode cX9_endTurn 0 = .ok (.aload_n 0, 1) := by decide +kernel
theorem dX9_endTurn_1 : decode cX9_endTurn 1 = .ok (.getfield 10, 3) := by decide +kernel
theorem dX9_endTurn_4 : decode cX9_endTurn 4 = .ok (.invokevirtual 83, 3) := by decide +kernel
theorem dX9_endTurn_7 : decode cX9_endTurn 7 = .ok (.ifCond .ne 11, 3) := by decide +kernel
theorem dX9_endTurn_10 : decode cX9_endTurn 10 = .ok (.new 50, 3) := by decide +kernel
theorem dX9_endTurn_13 : decode cX9_endTurn 13 = .ok (.dup, 1) := by decide +kernel
theorem dX9_endTurn_14 : decode cX9_endTurn 14 = .ok (.invokespecial 52, 3) := by decide +kernel
theorem dX9_endTurn_17 : decode cX9_endTurn 17 = .ok (.athrow, 1) := by decide +kernel
theorem dX9_endTurn_18 : decode cX9_endTurn 18 = .ok (.aload_n 0, 1) := by decide +kernel
theorem dX9_endTurn_19 : decode cX9_endTurn 19 = .ok (.getfield 19, 3) := by decide +kernel
theorem dX9_endTurn_22 : decode cX9_endTurn 22 = .ok (.aload_n 0, 1) := by decide +kernel
theorem dX9_endTurn_23 : decode cX9_endTurn 23 = .ok (.getfield 10, 3) := by decide +kernel
theorem dX9_endTurn_26 : decode cX9_endTurn 26 = .ok (.invokevirtual 53, 3) := by decide +kernel
theorem dX9_endTurn_29 : decode cX9_endTurn 29 = .ok (.aload_n 0, 1) := by decide +kernel
theorem dX9_endTurn_30 : decode cX9_endTurn 30 = .ok (.getfield 10, 3) := by decide +kernel
theorem dX9_endTurn_33 : decode cX9_endTurn 33 = .ok (.invokevirtual 86, 3) := by decide +kernel
theorem dX9_endTurn_36 : decode cX9_endTurn 36 = .ok (.aload_n 0, 1) := by decide +kernel
theorem dX9_endTurn_37 : decode cX9_endTurn 37 = .ok (.getfield 10, 3) := by decide +kernel
theorem dX9_endTurn_40 : decode cX9_endTurn 40 = .ok (.getfield 89, 3) := by decide +kernel
theorem dX9_endTurn_43 : decode cX9_endTurn 43 = .ok (.ireturn, 1) := by decide +kernel
set_option maxRecDepth 20000 in
theorem ggX9_carry_X9_isPlayer : GoodIn wsX9_carry wsX9_isPlayer := goodIn_r _ [10] (by decide +kernel) (by decide +kernel)
set_option maxRecDepth 20000 in
theorem gX9_carry_X9_isPlayer : GoodIn wsX9_carry (va_wsS RX9 92 yX9_isPlayer wsX9_isPlayer) := goodIn_app (goodIn_of _ (by decide +kernel)) ggX9_carry_X9_isPlayer
set_option maxRecDepth 20000 in
theorem ggX9_carry_X9_isPlace : GoodIn wsX9_carry wsX9_isPlace := goodIn_r _ [13, 14, 15, 9, 16, 17, 18, 19] (by decide +kernel) (by decide +kernel)
set_option maxRecDepth 20000 in
theorem gX9_carry_X9_isPlace : GoodIn wsX9_carry (va_wsS RX9 95 yX9_isPlace wsX9_isPlace) := goodIn_app (goodIn_of _ (by decide +kernel)) ggX9_carry_X9_isPlace
set_option maxRecDepth 20000 in
theorem ggX9_carry_X1_canCarry : GoodIn wsX9_carry wsX1_canCarry := goodIn_r _ [24, 25, 26, 27, 28, 23, 29, 30, 31, 32, 33, 34, 35, 36, 37, 38, 39, 40, 41, 42, 43, 44, 45, 46, 47, 48, 49, 50, 51, 52, 53, 54, 55, 102, 103, 104, 105, 106, 107, 108, 109, 110, 111, 112, 113, 114] (by decide +kernel) (by decide +kernel)
set_option maxRecDepth 20000 in
theorem gX9_carry_X1_canCarry : GoodIn wsX9_carry (wsV RX9 98 RX1 yX1_canCarry wsX1_canCarry) := goodIn_app (goodIn_of _ (by decide +kernel)) ggX9_carry_X1_canCarry
set_option maxRecDepth 20000 in
theorem ggX9_carry_X2_save : GoodIn wsX9_carry wsX2_save := goodIn_r _ [60, 61, 62, 63, 64, 59, 65, 66, 67, 68, 69, 70, 71, 72, 73, 23, 74, 75, 25, 76, 77, 78, 34, 35, 79, 80, 81, 82, 83, 84, 115, 116, 117, 118, 102, 103, 104, 105, 106, 107, 108, 109, 110, 111, 112, 113, 114] (by decide +kernel) (by decide +kernel)
set_option maxRecDepth 20000 in
theorem gX9_carry_X2_save : GoodIn wsX9_carry (wsV RX9 53 RX2 yX2_save wsX2_save) := goodIn_app (goodIn_of _ (by decide +kernel)) ggX9_carry_X2_save
set_option maxRecDepth 20000 in
theorem ggX9_carry_X1_doCarry : GoodIn wsX9_carry wsX1_doCarry := goodIn_r _ [88, 43, 44, 45, 23, 46, 30, 31, 32, 33, 34, 35, 36, 37, 38, 47, 48, 41, 49, 89, 90, 91, 92, 102, 103, 104, 105, 106, 107, 108, 109, 110, 111, 112, 113, 114] (by decide +kernel) (by decide +kernel)
set_option maxRecDepth 20000 in
theorem gX9_carry_X1_doCarry : GoodIn wsX9_carry (wsV RX9 102 RX1 yX1_doCarry wsX1_doCarry) := goodIn_app (goodIn_of _ (by decide +kernel)) ggX9_carry_X1_doCarry
set_option maxRecDepth 20000 in
theorem ggX9_carry_X1_piecesOf : GoodIn wsX9_carry wsX1_piecesOf := goodIn_r _ [33, 34, 35, 102, 103, 104, 105, 106, 107, 108, 109, 110, 111, 112, 113, 114] (by decide +kernel) (by decide +kernel)
set_option maxRecDepth 20000 in
theorem gX9_carry_X1_piecesOf : GoodIn wsX9_carry (wsV RX9 106 RX1 yX1_piecesOf wsX1_piecesOf) := goodIn_app (goodIn_of _ (by decide +kernel)) ggX9_carry_X1_piecesOf
set_option maxRecDepth 20000 in
theorem ggX9_carry_X3_sumOfWays : GoodIn wsX9_carry wsX3_sumOfWays := goodIn_r _ [96, 97, 40, 41, 42] (by decide +kernel) (by decide +kernel)
set_option maxRecDepth 20000 in
theorem gX9_carry_X3_sumOfWays : GoodIn wsX9_carry (va_wsS RX9 110 yX3_sumOfWays wsX3_sumOfWays) := goodIn_app (goodIn_of _ (by decide +kernel)) ggX9_carry_X3_sumOfWays
theorem dX9_carry_0 : decode cX9_carry 0 = .ok (.iload_n 1, 1) := by decide +kernel
theorem dX9_carry_1 : decode cX9_carry 1 = .ok (.invokestatic 92, 3) := by decide +kernel
theorem dX9_carry_4 : decode cX9_carry 4 = .ok (.ifCond .eq 17, 3) := by decide +kernel
theorem dX9_carry_7 : decode cX9_carry 7 = .ok (.iload_n 2, 1) := by decide +kernel
theorem dX9_carry_8 : decode cX9_carry 8 = .ok (.invokestatic 95, 3) := by decide +kernel
theorem dX9_carry_11 : decode cX9_carry 11 = .ok (.ifCond .eq 10, 3) := by decide +kernel
theorem dX9_carry_14 : decode cX9_carry 14 = .ok (.iload_n 3, 1) := by decide +kernel
theorem dX9_carry_15 : decode cX9_carry 15 = .ok (.invokestatic 95, 3) := by decide +kernel
theorem dX9_carry_18 : decode cX9_carry 18 = .ok (.ifCond .ne 11, 3) := by decide +kernel
theorem dX9_carry_21 : decode cX9_carry 21 = .ok (.new 72, 3) := by decide +kernel
theorem dX9_carry_24 : decode cX9_carry 24 = .ok (.dup, 1) := by decide +kernel
theorem dX9_carry_25 : decode cX9_carry 25 = .ok (.invokespecial 74, 3) := by decide +kernel
theorem dX9_carry_28 : decode cX9_carry 28 = .ok (.athrow, 1) := by decide +kernel
theorem dX9_carry_29 : decode cX9_carry 29 = .ok (.aload_n 0, 1) := by decide +kernel
theorem dX9_carry_30 : decode cX9_carry 30 = .ok (.getfield 10, 3) := by decide +kernel
theorem dX9_carry_33 : decode cX9_carry 33 = .ok (.iload_n 1, 1) := by decide +kernel
theorem dX9_carry_34 : decode cX9_carry 34 = .ok (.iload_n 2, 1) := by decide +kernel
theorem dX9_carry_35 : decode cX9_carry 35 = .ok (.iload_n 3, 1) := by decide +kernel
theorem dX9_carry_36 : decode cX9_carry 36 = .ok (.invokevirtual 98, 3) := by decide +kernel
theorem dX9_carry_39 : decode cX9_carry 39 = .ok (.ifCond .ne 11, 3) := by decide +kernel
theorem dX9_carry_42 : decode cX9_carry 42 = .ok (.new 50, 3) := by decide +kernel
theorem dX9_carry_45 : decode cX9_carry 45 = .ok (.dup, 1) := by decide +kernel
theorem dX9_carry_46 : decode cX9_carry 46 = .ok (.invokespecial 52, 3) := by decide +kernel
theorem dX9_carry_49 : decode cX9_carry 49 = .ok (.athrow, 1) := by decide +kernel
theorem dX9_carry_50 : decode cX9_carry 50 = .ok (.aload_n 0, 1) := by decide +kernel
theorem dX9_carry_51 : decode cX9_carry 51 = .ok (.getfield 19, 3) := by decide +kernel
theorem dX9_carry_54 : decode cX9_carry 54 = .ok (.aload_n 0, 1) := by decide +kernel
theorem dX9_carry_55 : decode cX9_carry 55 = .ok (.getfield 10, 3) := by decide +kernel
theorem dX9_carry_58 : decode cX9_carry 58 = .ok (.invokevirtual 53, 3) := by decide +kernel
theorem dX9_carry_61 : decode cX9_carry 61 = .ok (.aload_n 0, 1) := by decide +kernel
theorem dX9_carry_62 : decode cX9_carry 62 = .ok (.getfield 10, 3) := by decide +kernel
theorem dX9_carry_65 : decode cX9_carry 65 = .ok (.iload_n 1, 1) := by decide +kernel
theorem dX9_carry_66 : decode cX9_carry 66 = .ok (.iload_n 2, 1) := by decide +kernel
theorem dX9_carry_67 : decode cX9_carry 67 = .ok (.iload_n 3, 1) := by decide +kernel
theorem dX9_carry_68 : decode cX9_carry 68 = .ok (.invokevirtual 102, 3) := by decide +kernel
theorem dX9_carry_71 : decode cX9_carry 71 = .ok (.aload_n 0, 1) := by decide +kernel
theorem dX9_carry_72 : decode cX9_carry 72 = .ok (.getfield 10, 3) := by decide +kernel
theorem dX9_carry_75 : decode cX9_carry 75 = .ok (.iload_n 1, 1) := by decide +kernel
theorem dX9_carry_76 : decode cX9_carry 76 = .ok (.invokevirtual 106, 3) := by decide +kernel
theorem dX9_carry_79 : decode cX9_carry 79 = .ok (.invokestatic 110, 3) := by decide +kernel
theorem dX9_carry_82 : decode cX9_carry 82 = .ok (.ireturn, 1) := by decide +kernel
set_option maxRecDepth 20000 in
theorem ggX9_offer_X1_canOffer : GoodIn wsX9_offer wsX1_canOffer := goodIn_r _ [10, 11, 12, 13, 14, 51, 52, 53, 54, 55, 56, 57, 58, 59, 60, 61, 62, 63] (by decide +kernel) (by decide +kernel)
set_option maxRecDepth 20000 in
theorem gX9_offer_X1_canOffer : GoodIn wsX9_offer (wsV RX9 116 RX1 yX1_canOffer wsX1_canOffer) := goodIn_app (goodIn_of _ (by decide +kernel)) ggX9_offer_X1_canOffer
set_option maxRecDepth 20000 in
theorem ggX9_offer_X2_save : GoodIn wsX9_offer wsX2_save := goodIn_r _ [19, 20, 21, 22, 23, 18, 24, 25, 26, 27, 28, 29, 30, 31, 32, 9, 33, 12, 13, 34, 14, 11, 35, 36, 37, 38, 39, 40, 41, 42, 64, 65, 66, 67, 51, 52, 53, 54, 55, 56, 57, 58, 59, 60, 61, 62, 63] (by decide +kernel) (by decide +kernel)
set_option maxRecDepth 20000 in
theorem gX9_offer_X2_save : GoodIn wsX9_offer (wsV RX9 53 RX2 yX2_save wsX2_save) := goodIn_app (goodIn_of _ (by decide +kernel)) ggX9_offer_X2_save
set_option maxRecDepth 20000 in
theorem ggX9_offer_X1_doOffer : GoodIn wsX9_offer wsX1_doOffer := goodIn_r _ [46, 13, 51, 52, 53, 54, 55, 56, 57, 58, 59, 60, 61, 62, 63] (by decide +kernel) (by decide +kernel)
set_option maxRecDepth 20000 in
theorem gX9_offer_X1_doOffer : GoodIn wsX9_offer (wsV RX9 119 RX1 yX1_doOffer wsX1_doOffer) := goodIn_app (goodIn_of _ (by decide +kernel)) ggX9_offer_X1_doOffer
theorem dX9_offer_0 : decode cX9_offer 0 = .ok (.aload_n 0, 1) := by decide +kernel
theorem dX9_offer_1 : decode cX9_offer 1 = .ok (.getfield 10, 3) := by decide +kernel
theorem dX9_offer_4 : decode cX9_offer 4 = .ok (.invokevirtual 116, 3) := by decide +kernel
theorem dX9_offer_7 : decode cX9_offer 7 = .ok (.ifCond .ne 11, 3) := by decide +kernel
theorem dX9_offer_10 : decode cX9_offer 10 = .ok (.new 50, 3) := by decide +kernel
theorem dX9_offer_13 : decode cX9_offer 13 = .ok (.dup, 1) := by decide +kernel
theorem dX9_offer_14 : decode cX9_offer 14 = .ok (.invokespecial 52, 3) := by decide +kernel
theorem dX9_offer_17 : decode cX9_offer 17 = .ok (.athrow, 1) := by decide +kernel
theorem dX9_offer_18 : decode cX9_offer 18 = .ok (.aload_n 0, 1) := by decide +kernel
theorem dX9_offer_19 : decode cX9_offer 19 = .ok (.getfield 19, 3) := by decide +kernel
theorem dX9_offer_22 : decode cX9_offer 22 = .ok (.aload_n 0, 1) := by decide +kernel
theorem dX9_offer_23 : decode cX9_offer 23 = .ok (.getfield 10, 3) := by decide +kernel
theorem dX9_offer_26 : decode cX9_offer 26 = .ok (.invokevirtual 53, 3) := by decide +kernel
theorem dX9_offer_29 : decode cX9_offer 29 = .ok (.aload_n 0, 1) := by decide +kernel
theorem dX9_offer_30 : decode cX9_offer 30 = .ok (.getfield 10, 3) := by decide +kernel
theorem dX9_offer_33 : decode cX9_offer 33 = .ok (.invokevirtual 119, 3) := by decide +kernel
theorem dX9_offer_36 : decode cX9_offer 36 = .ok (.iconst 2, 1) := by decide +kernel
theorem dX9_offer_37 : decode cX9_offer 37 = .ok (.aload_n 0, 1) := by decide +kernel
theorem dX9_offer_38 : decode cX9_offer 38 = .ok (.getfield 10, 3) := by decide +kernel
theorem dX9_offer_41 : decode cX9_offer 41 = .ok (.getfield 122, 3) := by decide +kernel
theorem dX9_offer_44 : decode cX9_offer 44 = .ok (.imul, 1) := by decide +kernel
theorem dX9_offer_45 : decode cX9_offer 45 = .ok (.ireturn, 1) := by decide +kernel
set_option maxRecDepth 20000 in
theorem ggX9_take_X1_isOffered : GoodIn wsX9_take wsX1_isOffered := goodIn_r _ [10, 11, 51, 52, 53, 54, 55, 56, 57, 58, 59, 60, 61, 62, 63] (by decide +kernel) (by decide +kernel)
set_option maxRecDepth 20000 in
theorem gX9_take_X1_isOffered : GoodIn wsX9_take (wsV RX9 125 RX1 yX1_isOffered wsX1_isOffered) := goodIn_app (goodIn_of _ (by decide +kernel)) ggX9_take_X1_isOffered
set_option maxRecDepth 20000 in
theorem ggX9_take_X2_save : GoodIn wsX9_take wsX2_save := goodIn_r _ [16, 17, 18, 19, 20, 15, 21, 22, 23, 24, 25, 26, 27, 28, 29, 9, 30, 31, 11, 32, 33, 34, 35, 36, 37, 38, 39, 40, 41, 42, 64, 65, 66, 67, 51, 52, 53, 54, 55, 56, 57, 58, 59, 60, 61, 62, 63] (by decide +kernel) (by decide +kernel)
set_option maxRecDepth 20000 in
theorem gX9_take_X2_save : GoodIn wsX9_take (wsV RX9 53 RX2 yX2_save wsX2_save) := goodIn_app (goodIn_of _ (by decide +kernel)) ggX9_take_X2_save
set_option maxRecDepth 20000 in
theorem ggX9_take_X1_doTake : GoodIn wsX9_take wsX1_doTake := goodIn_r _ [46, 33, 31, 34, 11, 51, 52, 53, 54, 55, 56, 57, 58, 59, 60, 61, 62, 63] (by decide +kernel) (by decide +kernel)
set_option maxRecDepth 20000 in
theorem gX9_take_X1_doTake : GoodIn wsX9_take (wsV RX9 128 RX1 yX1_doTake wsX1_doTake) := goodIn_app (goodIn_of _ (by decide +kernel)) ggX9_take_X1_doTake
theorem dX9_take_0 : decode cX9_take 0 = .ok (.aload_n 0, 1) := by decide +kernel
theorem dX9_take_1 : decode cX9_take 1 = .ok (.getfield 10, 3) := by decide +kernel
theorem dX9_take_4 : decode cX9_take 4 = .ok (.invokevirtual 125, 3) := by decide +kernel
theorem dX9_take_7 : decode cX9_take 7 = .ok (.ifCond .ne 11, 3) := by decide +kernel
theorem dX9_take_10 : decode cX9_take 10 = .ok (.new 50, 3) := by decide +kernel
theorem dX9_take_13 : decode cX9_take 13 = .ok (.dup, 1) := by decide +kernel
theorem dX9_take_14 : decode cX9_take 14 = .ok (.invokespecial 52, 3) := by decide +kernel
theorem dX9_take_17 : decode cX9_take 17 = .ok (.athrow, 1) := by decide +kernel
theorem dX9_take_18 : decode cX9_take 18 = .ok (.aload_n 0, 1) := by decide +kernel
theorem dX9_take_19 : decode cX9_take 19 = .ok (.getfield 19, 3) := by decide +kernel
theorem dX9_take_22 : decode cX9_take 22 = .ok (.aload_n 0, 1) := by decide +kernel
theorem dX9_take_23 : decode cX9_take 23 = .ok (.getfield 10, 3) := by decide +kernel
theorem dX9_take_26 : decode cX9_take 26 = .ok (.invokevirtual 53, 3) := by decide +kernel
theorem dX9_take_29 : decode cX9_take 29 = .ok (.aload_n 0, 1) := by decide +kernel
theorem dX9_take_30 : decode cX9_take 30 = .ok (.getfield 10, 3) := by decide +kernel
theorem dX9_take_33 : decode cX9_take 33 = .ok (.invokevirtual 128, 3) := by decide +kernel
theorem dX9_take_36 : decode cX9_take 36 = .ok (.aload_n 0, 1) := by decide +kernel
theorem dX9_take_37 : decode cX9_take 37 = .ok (.getfield 10, 3) := by decide +kernel
theorem dX9_take_40 : decode cX9_take 40 = .ok (.getfield 122, 3) := by decide +kernel
theorem dX9_take_43 : decode cX9_take 43 = .ok (.ireturn, 1) := by decide +kernel
set_option maxRecDepth 20000 in
theorem ggX9_drop_X1_isOffered : GoodIn wsX9_drop wsX1_isOffered := goodIn_r _ [10, 11, 59, 60, 61, 62, 63, 64, 65, 66, 67, 68, 69, 70, 71] (by decide +kernel) (by decide +kernel)
set_option maxRecDepth 20000 in
theorem gX9_drop_X1_isOffered : GoodIn wsX9_drop (wsV RX9 125 RX1 yX1_isOffered wsX1_isOffered) := goodIn_app (goodIn_of _ (by decide +kernel)) ggX9_drop_X1_isOffered
set_option maxRecDepth 20000 in
theorem ggX9_drop_X2_save : GoodIn wsX9_drop wsX2_save := goodIn_r _ [16, 17, 18, 19, 20, 15, 21, 22, 23, 24, 25, 26, 27, 28, 29, 9, 30, 31, 11, 32, 33, 34, 35, 36, 37, 38, 39, 40, 41, 42, 72, 73, 74, 75, 59, 60, 61, 62, 63, 64, 65, 66, 67, 68, 69, 70, 71] (by decide +kernel) (by decide +kernel)
set_option maxRecDepth 20000 in
theorem gX9_drop_X2_save : GoodIn wsX9_drop (wsV RX9 53 RX2 yX2_save wsX2_save) := goodIn_app (goodIn_of _ (by decide +kernel)) ggX9_drop_X2_save
set_option maxRecDepth 20000 in
theorem ggX9_drop_X1_doDrop : GoodIn wsX9_drop wsX1_doDrop := goodIn_r _ [46, 33, 47, 48, 49, 9, 50, 31, 37, 38, 32, 11, 59, 60, 61, 62, 63, 64, 65, 66, 67, 68, 69, 70, 71] (by decide +kernel) (by decide +kernel)
set_option maxRecDepth 20000 in
theorem gX9_drop_X1_doDrop : GoodIn wsX9_drop (wsV RX9 131 RX1 yX1_doDrop wsX1_doDrop) := goodIn_app (goodIn_of _ (by decide +kernel)) ggX9_drop_X1_doDrop
set_option maxRecDepth 20000 in
theorem ggX9_drop_X1_scoreOf : GoodIn wsX9_drop wsX1_scoreOf := goodIn_r _ [54, 37, 38, 59, 60, 61, 62, 63, 64, 65, 66, 67, 68, 69, 70, 71] (by decide +kernel) (by decide +kernel)
set_option maxRecDepth 20000 in
theorem gX9_drop_X1_scoreOf : GoodIn wsX9_drop (wsV RX9 134 RX1 yX1_scoreOf wsX1_scoreOf) := goodIn_app (goodIn_of _ (by decide +kernel)) ggX9_drop_X1_scoreOf
theorem dX9_drop_0 : decode cX9_drop 0 = .ok (.aload_n 0, 1) := by decide +kernel
theorem dX9_drop_1 : decode cX9_drop 1 = .ok (.getfield 10, 3) := by decide +kernel
theorem dX9_drop_4 : decode cX9_drop 4 = .ok (.invokevirtual 125, 3) := by decide +kernel
theorem dX9_drop_7 : decode cX9_drop 7 = .ok (.ifCond .ne 11, 3) := by decide +kernel
theorem dX9_drop_10 : decode cX9_drop 10 = .ok (.new 50, 3) := by decide +kernel
theorem dX9_drop_13 : decode cX9_drop 13 = .ok (.dup, 1) := by decide +kernel
theorem dX9_drop_14 : decode cX9_drop 14 = .ok (.invokespecial 52, 3) := by decide +kernel
theorem dX9_drop_17 : decode cX9_drop 17 = .ok (.athrow, 1) := by decide +kernel
theorem dX9_drop_18 : decode cX9_drop 18 = .ok (.aload_n 0, 1) := by decide +kernel
theorem dX9_drop_19 : decode cX9_drop 19 = .ok (.getfield 19, 3) := by decide +kernel
theorem dX9_drop_22 : decode cX9_drop 22 = .ok (.aload_n 0, 1) := by decide +kernel
theorem dX9_drop_23 : decode cX9_drop 23 = .ok (.getfield 10, 3) := by decide +kernel
theorem dX9_drop_26 : decode cX9_drop 26 = .ok (.invokevirtual 53, 3) := by decide +kernel
theorem dX9_drop_29 : decode cX9_drop 29 = .ok (.aload_n 0, 1) := by decide +kernel
theorem dX9_drop_30 : decode cX9_drop 30 = .ok (.getfield 10, 3) := by decide +kernel
theorem dX9_drop_33 : decode cX9_drop 33 = .ok (.invokevirtual 131, 3) := by decide +kernel
theorem dX9_drop_36 : decode cX9_drop 36 = .ok (.aload_n 0, 1) := by decide +kernel
theorem dX9_drop_37 : decode cX9_drop 37 = .ok (.getfield 10, 3) := by decide +kernel
theorem dX9_drop_40 : decode cX9_drop 40 = .ok (.aload_n 0, 1) := by decide +kernel
theorem dX9_drop_41 : decode cX9_drop 41 = .ok (.getfield 10, 3) := by decide +kernel
theorem dX9_drop_44 : decode cX9_drop 44 = .ok (.getfield 89, 3) := by decide +kernel
theorem dX9_drop_47 : decode cX9_drop 47 = .ok (.invokevirtual 134, 3) := by decide +kernel
theorem dX9_drop_50 : decode cX9_drop 50 = .ok (.ireturn, 1) := by decide +kernel
set_option maxRecDepth 20000 in
theorem ggX9_newGame_X1_isOver : GoodIn wsX9_newGame wsX1_isOver := goodIn_r _ [10, 11, 52, 53, 54, 55, 56, 57, 58, 59, 60, 61, 62, 63, 64] (by decide +kernel) (by decide +kernel)
set_option maxRecDepth 20000 in
theorem gX9_newGame_X1_isOver : GoodIn wsX9_newGame (wsV RX9 137 RX1 yX1_isOver wsX1_isOver) := goodIn_app (goodIn_of _ (by decide +kernel)) ggX9_newGame_X1_isOver
set_option maxRecDepth 20000 in
theorem ggX9_newGame_X2_save : GoodIn wsX9_newGame wsX2_save := goodIn_r _ [16, 17, 18, 19, 20, 15, 21, 22, 23, 24, 25, 26, 27, 28, 29, 9, 30, 31, 11, 32, 33, 34, 35, 36, 37, 38, 39, 40, 41, 42, 65, 66, 67, 68, 52, 53, 54, 55, 56, 57, 58, 59, 60, 61, 62, 63, 64] (by decide +kernel) (by decide +kernel)
set_option maxRecDepth 20000 in
theorem gX9_newGame_X2_save : GoodIn wsX9_newGame (wsV RX9 53 RX2 yX2_save wsX2_save) := goodIn_app (goodIn_of _ (by decide +kernel)) ggX9_newGame_X2_save
set_option maxRecDepth 20000 in
theorem ggX9_newGame_X1_doNewGame : GoodIn wsX9_newGame wsX1_doNewGame := goodIn_r _ [46, 31, 11, 33, 34, 47, 35, 36, 52, 53, 54, 55, 56, 57, 58, 59, 60, 61, 62, 63, 64] (by decide +kernel) (by decide +kernel)
set_option maxRecDepth 20000 in
theorem gX9_newGame_X1_doNewGame : GoodIn wsX9_newGame (wsV RX9 140 RX1 yX1_doNewGame wsX1_doNewGame) := goodIn_app (goodIn_of _ (by decide +kernel)) ggX9_newGame_X1_doNewGame
theorem dX9_newGame_0 : decode cX9_newGame 0 = .ok (.aload_n 0, 1) := by decide +kernel
theorem dX9_newGame_1 : decode cX9_newGame 1 = .ok (.getfield 10, 3) := by decide +kernel
theorem dX9_newGame_4 : decode cX9_newGame 4 = .ok (.invokevirtual 137, 3) := by decide +kernel
theorem dX9_newGame_7 : decode cX9_newGame 7 = .ok (.ifCond .ne 11, 3) := by decide +kernel
theorem dX9_newGame_10 : decode cX9_newGame 10 = .ok (.new 50, 3) := by decide +kernel
theorem dX9_newGame_13 : decode cX9_newGame 13 = .ok (.dup, 1) := by decide +kernel
theorem dX9_newGame_14 : decode cX9_newGame 14 = .ok (.invokespecial 52, 3) := by decide +kernel
theorem dX9_newGame_17 : decode cX9_newGame 17 = .ok (.athrow, 1) := by decide +kernel
theorem dX9_newGame_18 : decode cX9_newGame 18 = .ok (.aload_n 0, 1) := by decide +kernel
theorem dX9_newGame_19 : decode cX9_newGame 19 = .ok (.getfield 19, 3) := by decide +kernel
theorem dX9_newGame_22 : decode cX9_newGame 22 = .ok (.aload_n 0, 1) := by decide +kernel
theorem dX9_newGame_23 : decode cX9_newGame 23 = .ok (.getfield 10, 3) := by decide +kernel
theorem dX9_newGame_26 : decode cX9_newGame 26 = .ok (.invokevirtual 53, 3) := by decide +kernel
theorem dX9_newGame_29 : decode cX9_newGame 29 = .ok (.aload_n 0, 1) := by decide +kernel
theorem dX9_newGame_30 : decode cX9_newGame 30 = .ok (.getfield 10, 3) := by decide +kernel
theorem dX9_newGame_33 : decode cX9_newGame 33 = .ok (.invokevirtual 140, 3) := by decide +kernel
theorem dX9_newGame_36 : decode cX9_newGame 36 = .ok (.aload_n 0, 1) := by decide +kernel
theorem dX9_newGame_37 : decode cX9_newGame 37 = .ok (.getfield 10, 3) := by decide +kernel
theorem dX9_newGame_40 : decode cX9_newGame 40 = .ok (.getfield 89, 3) := by decide +kernel
theorem dX9_newGame_43 : decode cX9_newGame 43 = .ok (.ireturn, 1) := by decide +kernel
set_option maxRecDepth 20000 in
theorem ggX9_append_X8_isFull : GoodIn wsX9_append wsX8_isFull := goodIn_r _ [11, 12, 22, 23] (by decide +kernel) (by decide +kernel)
set_option maxRecDepth 20000 in
theorem gX9_append_X8_isFull : GoodIn wsX9_append (wsV RX9 143 RX8 yX8_isFull wsX8_isFull) := goodIn_app (goodIn_of _ (by decide +kernel)) ggX9_append_X8_isFull
set_option maxRecDepth 20000 in
theorem ggX9_append_X8_put : GoodIn wsX9_append wsX8_put := goodIn_r _ [16, 12, 17, 22, 23] (by decide +kernel) (by decide +kernel)
set_option maxRecDepth 20000 in
theorem gX9_append_X8_put : GoodIn wsX9_append (wsV RX9 146 RX8 yX8_put wsX8_put) := goodIn_app (goodIn_of _ (by decide +kernel)) ggX9_append_X8_put
theorem dX9_append_0 : decode cX9_append 0 = .ok (.iload_n 1, 1) := by decide +kernel
theorem dX9_append_1 : decode cX9_append 1 = .ok (.bipush 33, 2) := by decide +kernel
theorem dX9_append_3 : decode cX9_append 3 = .ok (.if_icmp .lt 9, 3) := by decide +kernel
theorem dX9_append_6 : decode cX9_append 6 = .ok (.iload_n 1, 1) := by decide +kernel
theorem dX9_append_7 : decode cX9_append 7 = .ok (.bipush 126, 2) := by decide +kernel
theorem dX9_append_9 : decode cX9_append 9 = .ok (.if_icmp .le 11, 3) := by decide +kernel
theorem dX9_append_12 : decode cX9_append 12 = .ok (.new 43, 3) := by decide +kernel
theorem dX9_append_15 : decode cX9_append 15 = .ok (.dup, 1) := by decide +kernel
theorem dX9_append_16 : decode cX9_append 16 = .ok (.invokespecial 45, 3) := by decide +kernel
theorem dX9_append_19 : decode cX9_append 19 = .ok (.athrow, 1) := by decide +kernel
theorem dX9_append_20 : decode cX9_append 20 = .ok (.aload_n 0, 1) := by decide +kernel
theorem dX9_append_21 : decode cX9_append 21 = .ok (.getfield 26, 3) := by decide +kernel
theorem dX9_append_24 : decode cX9_append 24 = .ok (.invokevirtual 143, 3) := by decide +kernel
theorem dX9_append_27 : decode cX9_append 27 = .ok (.ifCond .eq 11, 3) := by decide +kernel
theorem dX9_append_30 : decode cX9_append 30 = .ok (.new 50, 3) := by decide +kernel
theorem dX9_append_33 : decode cX9_append 33 = .ok (.dup, 1) := by decide +kernel
theorem dX9_append_34 : decode cX9_append 34 = .ok (.invokespecial 52, 3) := by decide +kernel
theorem dX9_append_37 : decode cX9_append 37 = .ok (.athrow, 1) := by decide +kernel
theorem dX9_append_38 : decode cX9_append 38 = .ok (.aload_n 0, 1) := by decide +kernel
theorem dX9_append_39 : decode cX9_append 39 = .ok (.getfield 26, 3) := by decide +kernel
theorem dX9_append_42 : decode cX9_append 42 = .ok (.iload_n 1, 1) := by decide +kernel
theorem dX9_append_43 : decode cX9_append 43 = .ok (.i2c, 1) := by decide +kernel
theorem dX9_append_44 : decode cX9_append 44 = .ok (.invokevirtual 146, 3) := by decide +kernel
theorem dX9_append_47 : decode cX9_append 47 = .ok (.aload_n 0, 1) := by decide +kernel
theorem dX9_append_48 : decode cX9_append 48 = .ok (.getfield 26, 3) := by decide +kernel
theorem dX9_append_51 : decode cX9_append 51 = .ok (.getfield 150, 3) := by decide +kernel
theorem dX9_append_54 : decode cX9_append 54 = .ok (.ireturn, 1) := by decide +kernel
set_option maxRecDepth 20000 in
theorem ggX9_clearBuffer_X8_empty : GoodIn wsX9_clearBuffer wsX8_empty := goodIn_r _ [7, 8, 13, 14] (by decide +kernel) (by decide +kernel)
set_option maxRecDepth 20000 in
theorem gX9_clearBuffer_X8_empty : GoodIn wsX9_clearBuffer (wsV RX9 153 RX8 yX8_empty wsX8_empty) := goodIn_app (goodIn_of _ (by decide +kernel)) ggX9_clearBuffer_X8_empty
theorem dX9_clearBuffer_0 : decode cX9_clearBuffer 0 = .ok (.aload_n 0, 1) := by decide +kernel
theorem dX9_clearBuffer_1 : decode cX9_clearBuffer 1 = .ok (.getfield 26, 3) := by decide +kernel
theorem dX9_clearBuffer_4 : decode cX9_clearBuffer 4 = .ok (.getfield 150, 3) := by decide +kernel
theorem dX9_clearBuffer_7 : decode cX9_clearBuffer 7 = .ok (.istore_n 1, 1) := by decide +kernel
theorem dX9_clearBuffer_8 : decode cX9_clearBuffer 8 = .ok (.aload_n 0, 1) := by decide +kernel
theorem dX9_clearBuffer_9 : decode cX9_clearBuffer 9 = .ok (.getfield 26, 3) := by decide +kernel
theorem dX9_clearBuffer_12 : decode cX9_clearBuffer 12 = .ok (.invokevirtual 153, 3) := by decide +kernel
theorem dX9_clearBuffer_15 : decode cX9_clearBuffer 15 = .ok (.iload_n 1, 1) := by decide +kernel
theorem dX9_clearBuffer_16 : decode cX9_clearBuffer 16 = .ok (.ireturn, 1) := by decide +kernel
set_option maxRecDepth 20000 in
theorem ggX9_firstError_X8_firstWrong : GoodIn wsX9_firstError wsX8_firstWrong := goodIn_r _ [6, 7, 8, 9, 10, 5, 11, 12, 13, 14, 15, 16, 17, 18, 19, 20, 21, 22, 23, 24, 25, 26, 27, 28, 29, 30, 35, 36] (by decide +kernel) (by decide +kernel)
set_option maxRecDepth 20000 in
theorem gX9_firstError_X8_firstWrong : GoodIn wsX9_firstError (wsV RX9 156 RX8 yX8_firstWrong wsX8_firstWrong) := goodIn_app (goodIn_of _ (by decide +kernel)) ggX9_firstError_X8_firstWrong
theorem dX9_firstError_0 : decode cX9_firstError 0 = .ok (.aload_n 0, 1) := by decide +kernel
theorem dX9_firstError_1 : decode cX9_firstError 1 = .ok (.getfield 26, 3) := by decide +kernel
theorem dX9_firstError_4 : decode cX9_firstError 4 = .ok (.invokevirtual 156, 3) := by decide +kernel
theorem dX9_firstError_7 : decode cX9_firstError 7 = .ok (.ireturn, 1) := by decide +kernel
set_option maxRecDepth 20000 in
theorem ggX9_play_X8_isGame : GoodIn wsX9_play wsX8_isGame := goodIn_r _ [11, 12, 13, 14, 15, 10, 16, 17, 18, 19, 20, 21, 22, 23, 24, 25, 26, 27, 28, 29, 30, 31, 32, 33, 34, 35, 257, 258] (by decide +kernel) (by decide +kernel)
set_option maxRecDepth 20000 in
theorem gX9_play_X8_isGame : GoodIn wsX9_play (wsV RX9 160 RX8 yX8_isGame wsX8_isGame) := goodIn_app (goodIn_of _ (by decide +kernel)) ggX9_play_X8_isGame
set_option maxRecDepth 20000 in
theorem ggX9_play_X2_save : GoodIn wsX9_play wsX2_save := goodIn_r _ [40, 41, 42, 43, 44, 39, 45, 46, 47, 48, 49, 50, 51, 52, 53, 54, 55, 56, 57, 58, 59, 60, 61, 62, 63, 64, 65, 66, 67, 68, 259, 260, 261, 262, 263, 264, 265, 266, 267, 268, 269, 270, 271, 272, 273, 274, 275] (by decide +kernel) (by decide +kernel)
set_option maxRecDepth 20000 in
theorem gX9_play_X2_save : GoodIn wsX9_play (wsV RX9 53 RX2 yX2_save wsX2_save) := goodIn_app (goodIn_of _ (by decide +kernel)) ggX9_play_X2_save
set_option maxRecDepth 20000 in
theorem ggX9_play_X8_endOfPart : GoodIn wsX9_play wsX8_endOfPart := goodIn_r _ [72, 73, 74, 75, 76, 12, 13, 14, 15, 10, 16, 17, 257, 258] (by decide +kernel) (by decide +kernel)
set_option maxRecDepth 20000 in
theorem gX9_play_X8_endOfPart : GoodIn wsX9_play (wsV RX9 163 RX8 yX8_endOfPart wsX8_endOfPart) := goodIn_app (goodIn_of _ (by decide +kernel)) ggX9_play_X8_endOfPart
set_option maxRecDepth 20000 in
theorem ggX9_play_X9_isPartPossible : GoodIn wsX9_play wsX9_isPartPossible := goodIn_r _ [81, 3, 5, 82, 14, 15, 10, 16, 12, 17, 83, 84, 85, 54, 86, 57, 87, 88, 89, 90, 91, 92, 93, 94, 13, 30, 31, 32, 95, 96, 97, 98, 99, 58, 56, 100, 101, 102, 103, 104, 105, 106, 107, 61, 62, 108, 109, 110, 111, 112, 113, 114, 115, 116, 117, 118, 119, 120, 121, 122, 74, 75, 76, 123, 124, 125, 126, 127, 128, 129, 130, 131, 132, 133, 134, 135, 136, 137, 138, 139, 140, 141, 142, 143, 144, 145, 146, 147, 148, 149, 150, 151, 152, 153, 154, 155, 156, 157, 158, 159, 160, 161, 162, 163, 164, 165, 166, 167, 168, 169, 170, 171, 172, 173, 174, 175, 176, 177, 178, 179, 180, 60, 59, 181, 182, 183, 184, 185, 186, 187, 188, 253, 254, 255, 256, 257, 258, 263, 264, 265, 266, 267, 268, 269, 270, 271, 272, 273, 274, 275] (by decide +kernel) (by decide +kernel)
set_option maxRecDepth 20000 in
theorem gX9_play_X9_isPartPossible : GoodIn wsX9_play (wsV RX9 166 RX9 yX9_isPartPossible wsX9_isPartPossible) := goodIn_app (goodIn_of _ (by decide +kernel)) ggX9_play_X9_isPartPossible
set_option maxRecDepth 20000 in
theorem ggX9_play_X9_doPart : GoodIn wsX9_play wsX9_doPart := goodIn_r _ [192, 3, 5, 82, 14, 15, 10, 16, 12, 17, 95, 92, 93, 94, 13, 193, 194, 195, 54, 196, 58, 57, 197, 198, 125, 199, 87, 88, 89, 90, 91, 30, 31, 32, 200, 201, 202, 203, 56, 59, 112, 113, 114, 108, 109, 110, 111, 104, 105, 106, 107, 61, 62, 204, 157, 120, 158, 144, 145, 142, 146, 153, 154, 155, 205, 206, 207, 208, 100, 101, 102, 103, 209, 151, 152, 122, 74, 75, 76, 210, 160, 161, 127, 128, 129, 211, 212, 213, 214, 65, 66, 215, 216, 217, 218, 148, 149, 219, 141, 143, 220, 221, 222, 223, 63, 64, 224, 225, 226, 227, 228, 229, 230, 231, 232, 233, 234, 235, 60, 236, 237, 238, 239, 240, 241, 242, 243, 244, 253, 254, 255, 256, 257, 258, 263, 264, 265, 266, 267, 268, 269, 270, 271, 272, 273, 274, 275] (by decide +kernel) (by decide +kernel)
set_option maxRecDepth 20000 in
theorem gX9_play_X9_doPart : GoodIn wsX9_play (wsV RX9 169 RX9 yX9_doPart wsX9_doPart) := goodIn_app (goodIn_of _ (by decide +kernel)) ggX9_play_X9_doPart
set_option maxRecDepth 20000 in
theorem ggX9_play_X1_noteStop : GoodIn wsX9_play wsX1_noteStop := goodIn_r _ [248, 67, 68, 263, 264, 265, 266, 267, 268, 269, 270, 271, 272, 273, 274, 275] (by decide +kernel) (by decide +kernel)
set_option maxRecDepth 20000 in
theorem gX9_play_X1_noteStop : GoodIn wsX9_play (wsV RX9 172 RX1 yX1_noteStop wsX1_noteStop) := goodIn_app (goodIn_of _ (by decide +kernel)) ggX9_play_X1_noteStop
set_option maxRecDepth 20000 in
theorem ggX9_play_X8_empty : GoodIn wsX9_play wsX8_empty := goodIn_r _ [252, 12, 257, 258] (by decide +kernel) (by decide +kernel)
set_option maxRecDepth 20000 in
theorem gX9_play_X8_empty : GoodIn wsX9_play (wsV RX9 153 RX8 yX8_empty wsX8_empty) := goodIn_app (goodIn_of _ (by decide +kernel)) ggX9_play_X8_empty
theorem dX9_play_0 : decode cX9_play 0 = .ok (.aload_n 0, 1) := by decide +kernel
theorem dX9_play_1 : decode cX9_play 1 = .ok (.getfield 26, 3) := by decide +kernel
theorem dX9_play_4 : decode cX9_play 4 = .ok (.invokevirtual 160, 3) := by decide +kernel
theorem dX9_play_7 : decode cX9_play 7 = .ok (.ifCond .ne 11, 3) := by decide +kernel
theorem dX9_play_10 : decode cX9_play 10 = .ok (.new 43, 3) := by decide +kernel
theorem dX9_play_13 : decode cX9_play 13 = .ok (.dup, 1) := by decide +kernel
theorem dX9_play_14 : decode cX9_play 14 = .ok (.invokespecial 45, 3) := by decide +kernel
theorem dX9_play_17 : decode cX9_play 17 = .ok (.athrow, 1) := by decide +kernel
theorem dX9_play_18 : decode cX9_play 18 = .ok (.aload_n 0, 1) := by decide +kernel
theorem dX9_play_19 : decode cX9_play 19 = .ok (.getfield 19, 3) := by decide +kernel
theorem dX9_play_22 : decode cX9_play 22 = .ok (.aload_n 0, 1) := by decide +kernel
theorem dX9_play_23 : decode cX9_play 23 = .ok (.getfield 10, 3) := by decide +kernel
theorem dX9_play_26 : decode cX9_play 26 = .ok (.invokevirtual 53, 3) := by decide +kernel
theorem dX9_play_29 : decode cX9_play 29 = .ok (.iconst 0, 1) := by decide +kernel
theorem dX9_play_30 : decode cX9_play 30 = .ok (.istore_n 1, 1) := by decide +kernel
theorem dX9_play_31 : decode cX9_play 31 = .ok (.iconst 0, 1) := by decide +kernel
theorem dX9_play_32 : decode cX9_play 32 = .ok (.istore_n 2, 1) := by decide +kernel
theorem dX9_play_33 : decode cX9_play 33 = .ok (.iconst 1, 1) := by decide +kernel
theorem dX9_play_34 : decode cX9_play 34 = .ok (.istore_n 3, 1) := by decide +kernel
theorem dX9_play_35 : decode cX9_play 35 = .ok (.iconst 0, 1) := by decide +kernel
theorem dX9_play_36 : decode cX9_play 36 = .ok (.istore 4, 2) := by decide +kernel
theorem dX9_play_38 : decode cX9_play 38 = .ok (.iload 4, 2) := by decide +kernel
theorem dX9_play_40 : decode cX9_play 40 = .ok (.bipush 60, 2) := by decide +kernel
theorem dX9_play_42 : decode cX9_play 42 = .ok (.if_icmp .ge 61, 3) := by decide +kernel
theorem dX9_play_45 : decode cX9_play 45 = .ok (.iload_n 3, 1) := by decide +kernel
theorem dX9_play_46 : decode cX9_play 46 = .ok (.ifCond .eq 57, 3) := by decide +kernel
theorem dX9_play_49 : decode cX9_play 49 = .ok (.iload_n 2, 1) := by decide +kernel
theorem dX9_play_50 : decode cX9_play 50 = .ok (.aload_n 0, 1) := by decide +kernel
theorem dX9_play_51 : decode cX9_play 51 = .ok (.getfield 26, 3) := by decide +kernel
theorem dX9_play_54 : decode cX9_play 54 = .ok (.getfield 150, 3) := by decide +kernel
theorem dX9_play_57 : decode cX9_play 57 = .ok (.if_icmp .ge 46, 3) := by decide +kernel
theorem dX9_play_60 : decode cX9_play 60 = .ok (.aload_n 0, 1) := by decide +kernel
theorem dX9_play_61 : decode cX9_play 61 = .ok (.getfield 26, 3) := by decide +kernel
theorem dX9_play_64 : decode cX9_play 64 = .ok (.iload_n 2, 1) := by decide +kernel
theorem dX9_play_65 : decode cX9_play 65 = .ok (.invokevirtual 163, 3) := by decide +kernel
theorem dX9_play_68 : decode cX9_play 68 = .ok (.istore 5, 2) := by decide +kernel
theorem dX9_play_70 : decode cX9_play 70 = .ok (.aload_n 0, 1) := by decide +kernel
theorem dX9_play_71 : decode cX9_play 71 = .ok (.iload_n 2, 1) := by decide +kernel
theorem dX9_play_72 : decode cX9_play 72 = .ok (.iload 5, 2) := by decide +kernel
theorem dX9_play_74 : decode cX9_play 74 = .ok (.invokevirtual 166, 3) := by decide +kernel
theorem dX9_play_77 : decode cX9_play 77 = .ok (.istore_n 3, 1) := by decide +kernel
theorem dX9_play_78 : decode cX9_play 78 = .ok (.iload_n 3, 1) := by decide +kernel
theorem dX9_play_79 : decode cX9_play 79 = .ok (.ifCond .eq 13, 3) := by decide +kernel
theorem dX9_play_82 : decode cX9_play 82 = .ok (.aload_n 0, 1) := by decide +kernel
theorem dX9_play_83 : decode cX9_play 83 = .ok (.iload_n 2, 1) := by decide +kernel
theorem dX9_play_84 : decode cX9_play 84 = .ok (.iload 5, 2) := by decide +kernel
theorem dX9_play_86 : decode cX9_play 86 = .ok (.invokevirtual 169, 3) := by decide +kernel
theorem dX9_play_89 : decode cX9_play 89 = .ok (.iinc 1 1, 3) := by decide +kernel
theorem dX9_play_92 : decode cX9_play 92 = .ok (.iload 5, 2) := by decide +kernel
theorem dX9_play_94 : decode cX9_play 94 = .ok (.iconst 1, 1) := by decide +kernel
theorem dX9_play_95 : decode cX9_play 95 = .ok (.iadd, 1) := by decide +kernel
theorem dX9_play_96 : decode cX9_play 96 = .ok (.istore_n 2, 1) := by decide +kernel
theorem dX9_play_97 : decode cX9_play 97 = .ok (.iinc 4 1, 3) := by decide +kernel
theorem dX9_play_100 : decode cX9_play 100 = .ok (.goto (-62), 3) := by decide +kernel
theorem dX9_play_103 : decode cX9_play 103 = .ok (.aload_n 0, 1) := by decide +kernel
theorem dX9_play_104 : decode cX9_play 104 = .ok (.getfield 10, 3) := by decide +kernel
theorem dX9_play_107 : decode cX9_play 107 = .ok (.iload_n 3, 1) := by decide +kernel
theorem dX9_play_108 : decode cX9_play 108 = .ok (.ifCond .ne 7, 3) := by decide +kernel
theorem dX9_play_111 : decode cX9_play 111 = .ok (.iconst 1, 1) := by decide +kernel
theorem dX9_play_112 : decode cX9_play 112 = .ok (.goto 4, 3) := by decide +kernel
theorem dX9_play_115 : decode cX9_play 115 = .ok (.iconst 0, 1) := by decide +kernel
theorem dX9_play_116 : decode cX9_play 116 = .ok (.iload_n 1, 1) := by decide +kernel
theorem dX9_play_117 : decode cX9_play 117 = .ok (.invokevirtual 172, 3) := by decide +kernel
theorem dX9_play_120 : decode cX9_play 120 = .ok (.aload_n 0, 1) := by decide +kernel
theorem dX9_play_121 : decode cX9_play 121 = .ok (.getfield 26, 3) := by decide +kernel
theorem dX9_play_124 : decode cX9_play 124 = .ok (.invokevirtual 153, 3) := by decide +kernel
theorem dX9_play_127 : decode cX9_play 127 = .ok (.iload_n 1, 1) := by decide +kernel
theorem dX9_play_128 : decode cX9_play 128 = .ok (.ireturn, 1) := by decide +kernel
theorem dX9_hasStopped_0 : decode cX9_hasStopped 0 = .ok (.aload_n 0, 1) := by decide +kernel
theorem dX9_hasStopped_1 : decode cX9_hasStopped 1 = .ok (.getfield 10, 3) := by decide +kernel
theorem dX9_hasStopped_4 : decode cX9_hasStopped 4 = .ok (.getfield 176, 3) := by decide +kernel
theorem dX9_hasStopped_7 : decode cX9_hasStopped 7 = .ok (.ireturn, 1) := by decide +kernel
theorem dX9_stoppedPart_0 : decode cX9_stoppedPart 0 = .ok (.aload_n 0, 1) := by decide +kernel
theorem dX9_stoppedPart_1 : decode cX9_stoppedPart 1 = .ok (.getfield 10, 3) := by decide +kernel
theorem dX9_stoppedPart_4 : decode cX9_stoppedPart 4 = .ok (.getfield 176, 3) := by decide +kernel
theorem dX9_stoppedPart_7 : decode cX9_stoppedPart 7 = .ok (.ifCond .ne 11, 3) := by decide +kernel
theorem dX9_stoppedPart_10 : decode cX9_stoppedPart 10 = .ok (.new 50, 3) := by decide +kernel
theorem dX9_stoppedPart_13 : decode cX9_stoppedPart 13 = .ok (.dup, 1) := by decide +kernel
theorem dX9_stoppedPart_14 : decode cX9_stoppedPart 14 = .ok (.invokespecial 52, 3) := by decide +kernel
theorem dX9_stoppedPart_17 : decode cX9_stoppedPart 17 = .ok (.athrow, 1) := by decide +kernel
theorem dX9_stoppedPart_18 : decode cX9_stoppedPart 18 = .ok (.aload_n 0, 1) := by decide +kernel
theorem dX9_stoppedPart_19 : decode cX9_stoppedPart 19 = .ok (.getfield 10, 3) := by decide +kernel
theorem dX9_stoppedPart_22 : decode cX9_stoppedPart 22 = .ok (.getfield 180, 3) := by decide +kernel
theorem dX9_stoppedPart_25 : decode cX9_stoppedPart 25 = .ok (.ireturn, 1) := by decide +kernel
set_option maxRecDepth 20000 in
theorem ggX9_undo_X2_takeBack : GoodIn wsX9_undo wsX2_takeBack := goodIn_r _ [10, 11, 12, 13, 14, 9, 15, 16, 17, 18, 19, 20, 21, 22, 23, 24, 25, 26, 27, 28, 29, 30, 31, 32, 33, 34, 39, 40, 41, 42, 43, 44, 45, 46, 47, 48, 49, 50, 51, 52, 53, 54, 55] (by decide +kernel) (by decide +kernel)
set_option maxRecDepth 20000 in
theorem gX9_undo_X2_takeBack : GoodIn wsX9_undo (wsV RX9 185 RX2 yX2_takeBack wsX2_takeBack) := goodIn_app (goodIn_of _ (by decide +kernel)) ggX9_undo_X2_takeBack
theorem dX9_undo_0 : decode cX9_undo 0 = .ok (.aload_n 0, 1) := by decide +kernel
theorem dX9_undo_1 : decode cX9_undo 1 = .ok (.getfield 19, 3) := by decide +kernel
theorem dX9_undo_4 : decode cX9_undo 4 = .ok (.getfield 183, 3) := by decide +kernel
theorem dX9_undo_7 : decode cX9_undo 7 = .ok (.ifCond .ne 11, 3) := by decide +kernel
theorem dX9_undo_10 : decode cX9_undo 10 = .ok (.new 50, 3) := by decide +kernel
theorem dX9_undo_13 : decode cX9_undo 13 = .ok (.dup, 1) := by decide +kernel
theorem dX9_undo_14 : decode cX9_undo 14 = .ok (.invokespecial 52, 3) := by decide +kernel
theorem dX9_undo_17 : decode cX9_undo 17 = .ok (.athrow, 1) := by decide +kernel
theorem dX9_undo_18 : decode cX9_undo 18 = .ok (.aload_n 0, 1) := by decide +kernel
theorem dX9_undo_19 : decode cX9_undo 19 = .ok (.getfield 19, 3) := by decide +kernel
theorem dX9_undo_22 : decode cX9_undo 22 = .ok (.aload_n 0, 1) := by decide +kernel
theorem dX9_undo_23 : decode cX9_undo 23 = .ok (.getfield 10, 3) := by decide +kernel
theorem dX9_undo_26 : decode cX9_undo 26 = .ok (.invokevirtual 185, 3) := by decide +kernel
theorem dX9_undo_29 : decode cX9_undo 29 = .ok (.aload_n 0, 1) := by decide +kernel
theorem dX9_undo_30 : decode cX9_undo 30 = .ok (.getfield 19, 3) := by decide +kernel
theorem dX9_undo_33 : decode cX9_undo 33 = .ok (.getfield 183, 3) := by decide +kernel
theorem dX9_undo_36 : decode cX9_undo 36 = .ok (.ireturn, 1) := by decide +kernel
set_option maxRecDepth 20000 in
theorem ggX9_keep_X2_takeSnapshot : GoodIn wsX9_keep wsX2_takeSnapshot := goodIn_r _ [8, 9, 10, 11, 12, 13, 14, 15, 16, 17, 18, 19, 20, 21, 22, 23, 24, 25, 26, 27, 28, 46, 47, 48, 49, 33, 34, 35, 36, 37, 38, 39, 40, 41, 42, 43, 44, 45] (by decide +kernel) (by decide +kernel)
set_option maxRecDepth 20000 in
theorem gX9_keep_X2_takeSnapshot : GoodIn wsX9_keep (wsV RX9 188 RX2 yX2_takeSnapshot wsX2_takeSnapshot) := goodIn_app (goodIn_of _ (by decide +kernel)) ggX9_keep_X2_takeSnapshot
theorem dX9_keep_0 : decode cX9_keep 0 = .ok (.aload_n 0, 1) := by decide +kernel
theorem dX9_keep_1 : decode cX9_keep 1 = .ok (.getfield 19, 3) := by decide +kernel
theorem dX9_keep_4 : decode cX9_keep 4 = .ok (.aload_n 0, 1) := by decide +kernel
theorem dX9_keep_5 : decode cX9_keep 5 = .ok (.getfield 10, 3) := by decide +kernel
theorem dX9_keep_8 : decode cX9_keep 8 = .ok (.invokevirtual 188, 3) := by decide +kernel
theorem dX9_keep_11 : decode cX9_keep 11 = .ok (.aload_n 0, 1) := by decide +kernel
theorem dX9_keep_12 : decode cX9_keep 12 = .ok (.getfield 10, 3) := by decide +kernel
theorem dX9_keep_15 : decode cX9_keep 15 = .ok (.getfield 89, 3) := by decide +kernel
theorem dX9_keep_18 : decode cX9_keep 18 = .ok (.ireturn, 1) := by decide +kernel
set_option maxRecDepth 20000 in
theorem ggX9_restore_X2_save : GoodIn wsX9_restore wsX2_save := goodIn_r _ [11, 12, 13, 14, 15, 10, 16, 17, 18, 19, 20, 21, 22, 23, 24, 25, 26, 27, 28, 29, 30, 31, 32, 33, 34, 35, 36, 37, 38, 39, 49, 50, 51, 52, 53, 54, 55, 56, 57, 58, 59, 60, 61, 62, 63, 64, 65] (by decide +kernel) (by decide +kernel)
set_option maxRecDepth 20000 in
theorem gX9_restore_X2_save : GoodIn wsX9_restore (wsV RX9 53 RX2 yX2_save wsX2_save) := goodIn_app (goodIn_of _ (by decide +kernel)) ggX9_restore_X2_save
set_option maxRecDepth 20000 in
theorem ggX9_restore_X2_goToSnapshot : GoodIn wsX9_restore wsX2_goToSnapshot := goodIn_r _ [43, 44, 22, 23, 24, 25, 26, 27, 28, 29, 30, 31, 32, 33, 34, 35, 36, 37, 38, 39, 49, 50, 51, 52, 53, 54, 55, 56, 57, 58, 59, 60, 61, 62, 63, 64, 65] (by decide +kernel) (by decide +kernel)
set_option maxRecDepth 20000 in
theorem gX9_restore_X2_goToSnapshot : GoodIn wsX9_restore (wsV RX9 194 RX2 yX2_goToSnapshot wsX2_goToSnapshot) := goodIn_app (goodIn_of _ (by decide +kernel)) ggX9_restore_X2_goToSnapshot
theorem dX9_restore_0 : decode cX9_restore 0 = .ok (.aload_n 0, 1) := by decide +kernel
theorem dX9_restore_1 : decode cX9_restore 1 = .ok (.getfield 19, 3) := by decide +kernel
theorem dX9_restore_4 : decode cX9_restore 4 = .ok (.getfield 191, 3) := by decide +kernel
theorem dX9_restore_7 : decode cX9_restore 7 = .ok (.ifCond .ne 11, 3) := by decide +kernel
theorem dX9_restore_10 : decode cX9_restore 10 = .ok (.new 50, 3) := by decide +kernel
theorem dX9_restore_13 : decode cX9_restore 13 = .ok (.dup, 1) := by decide +kernel
theorem dX9_restore_14 : decode cX9_restore 14 = .ok (.invokespecial 52, 3) := by decide +kernel
theorem dX9_restore_17 : decode cX9_restore 17 = .ok (.athrow, 1) := by decide +kernel
theorem dX9_restore_18 : decode cX9_restore 18 = .ok (.aload_n 0, 1) := by decide +kernel
theorem dX9_restore_19 : decode cX9_restore 19 = .ok (.getfield 19, 3) := by decide +kernel
theorem dX9_restore_22 : decode cX9_restore 22 = .ok (.aload_n 0, 1) := by decide +kernel
theorem dX9_restore_23 : decode cX9_restore 23 = .ok (.getfield 10, 3) := by decide +kernel
theorem dX9_restore_26 : decode cX9_restore 26 = .ok (.invokevirtual 53, 3) := by decide +kernel
theorem dX9_restore_29 : decode cX9_restore 29 = .ok (.aload_n 0, 1) := by decide +kernel
theorem dX9_restore_30 : decode cX9_restore 30 = .ok (.getfield 19, 3) := by decide +kernel
theorem dX9_restore_33 : decode cX9_restore 33 = .ok (.aload_n 0, 1) := by decide +kernel
theorem dX9_restore_34 : decode cX9_restore 34 = .ok (.getfield 10, 3) := by decide +kernel
theorem dX9_restore_37 : decode cX9_restore 37 = .ok (.invokevirtual 194, 3) := by decide +kernel
theorem dX9_restore_40 : decode cX9_restore 40 = .ok (.aload_n 0, 1) := by decide +kernel
theorem dX9_restore_41 : decode cX9_restore 41 = .ok (.getfield 10, 3) := by decide +kernel
theorem dX9_restore_44 : decode cX9_restore 44 = .ok (.getfield 89, 3) := by decide +kernel
theorem dX9_restore_47 : decode cX9_restore 47 = .ok (.ireturn, 1) := by decide +kernel
theorem dX9_savedStates_0 : decode cX9_savedStates 0 = .ok (.aload_n 0, 1) := by decide +kernel
theorem dX9_savedStates_1 : decode cX9_savedStates 1 = .ok (.getfield 19, 3) := by decide +kernel
theorem dX9_savedStates_4 : decode cX9_savedStates 4 = .ok (.getfield 183, 3) := by decide +kernel
theorem dX9_savedStates_7 : decode cX9_savedStates 7 = .ok (.ireturn, 1) := by decide +kernel
theorem dX9_mover_0 : decode cX9_mover 0 = .ok (.aload_n 0, 1) := by decide +kernel
theorem dX9_mover_1 : decode cX9_mover 1 = .ok (.getfield 10, 3) := by decide +kernel
theorem dX9_mover_4 : decode cX9_mover 4 = .ok (.getfield 89, 3) := by decide +kernel
theorem dX9_mover_7 : decode cX9_mover 7 = .ok (.ireturn, 1) := by decide +kernel
theorem dX9_phase_0 : decode cX9_phase 0 = .ok (.aload_n 0, 1) := by decide +kernel
theorem dX9_phase_1 : decode cX9_phase 1 = .ok (.getfield 10, 3) := by decide +kernel
theorem dX9_phase_4 : decode cX9_phase 4 = .ok (.getfield 197, 3) := by decide +kernel
theorem dX9_phase_7 : decode cX9_phase 7 = .ok (.ireturn, 1) := by decide +kernel
set_option maxRecDepth 20000 in
theorem ggX9_diceLeft_X0_count : GoodIn wsX9_diceLeft wsX0_count := goodIn_r _ [6, 7, 8, 5, 9] (by decide +kernel) (by decide +kernel)
set_option maxRecDepth 20000 in
theorem gX9_diceLeft_X0_count : GoodIn wsX9_diceLeft (va_wsS RX9 65 yX0_count wsX0_count) := goodIn_app (goodIn_of _ (by decide +kernel)) ggX9_diceLeft_X0_count
theorem dX9_diceLeft_0 : decode cX9_diceLeft 0 = .ok (.aload_n 0, 1) := by decide +kernel
theorem dX9_diceLeft_1 : decode cX9_diceLeft 1 = .ok (.getfield 10, 3) := by decide +kernel
theorem dX9_diceLeft_4 : decode cX9_diceLeft 4 = .ok (.getfield 61, 3) := by decide +kernel
theorem dX9_diceLeft_7 : decode cX9_diceLeft 7 = .ok (.invokestatic 65, 3) := by decide +kernel
theorem dX9_diceLeft_10 : decode cX9_diceLeft 10 = .ok (.ireturn, 1) := by decide +kernel
set_option maxRecDepth 20000 in
theorem ggX9_dieLeft_X0_count : GoodIn wsX9_dieLeft wsX0_count := goodIn_r _ [8, 9, 10, 7, 11] (by decide +kernel) (by decide +kernel)
set_option maxRecDepth 20000 in
theorem gX9_dieLeft_X0_count : GoodIn wsX9_dieLeft (va_wsS RX9 65 yX0_count wsX0_count) := goodIn_app (goodIn_of _ (by decide +kernel)) ggX9_dieLeft_X0_count
set_option maxRecDepth 20000 in
theorem ggX9_dieLeft_X0_at : GoodIn wsX9_dieLeft wsX0_at := goodIn_r _ [11] (by decide +kernel) (by decide +kernel)
set_option maxRecDepth 20000 in
theorem gX9_dieLeft_X0_at : GoodIn wsX9_dieLeft (va_wsS RX9 200 yX0_at wsX0_at) := goodIn_app (goodIn_of _ (by decide +kernel)) ggX9_dieLeft_X0_at
theorem dX9_dieLeft_0 : decode cX9_dieLeft 0 = .ok (.iload_n 1, 1) := by decide +kernel
theorem dX9_dieLeft_1 : decode cX9_dieLeft 1 = .ok (.ifCond .lt 17, 3) := by decide +kernel
theorem dX9_dieLeft_4 : decode cX9_dieLeft 4 = .ok (.iload_n 1, 1) := by decide +kernel
theorem dX9_dieLeft_5 : decode cX9_dieLeft 5 = .ok (.aload_n 0, 1) := by decide +kernel
theorem dX9_dieLeft_6 : decode cX9_dieLeft 6 = .ok (.getfield 10, 3) := by decide +kernel
theorem dX9_dieLeft_9 : decode cX9_dieLeft 9 = .ok (.getfield 61, 3) := by decide +kernel
theorem dX9_dieLeft_12 : decode cX9_dieLeft 12 = .ok (.invokestatic 65, 3) := by decide +kernel
theorem dX9_dieLeft_15 : decode cX9_dieLeft 15 = .ok (.if_icmp .lt 11, 3) := by decide +kernel
theorem dX9_dieLeft_18 : decode cX9_dieLeft 18 = .ok (.new 72, 3) := by decide +kernel
theorem dX9_dieLeft_21 : decode cX9_dieLeft 21 = .ok (.dup, 1) := by decide +kernel
theorem dX9_dieLeft_22 : decode cX9_dieLeft 22 = .ok (.invokespecial 74, 3) := by decide +kernel
theorem dX9_dieLeft_25 : decode cX9_dieLeft 25 = .ok (.athrow, 1) := by decide +kernel
theorem dX9_dieLeft_26 : decode cX9_dieLeft 26 = .ok (.aload_n 0, 1) := by decide +kernel
theorem dX9_dieLeft_27 : decode cX9_dieLeft 27 = .ok (.getfield 10, 3) := by decide +kernel
theorem dX9_dieLeft_30 : decode cX9_dieLeft 30 = .ok (.getfield 61, 3) := by decide +kernel
theorem dX9_dieLeft_33 : decode cX9_dieLeft 33 = .ok (.iload_n 1, 1) := by decide +kernel
theorem dX9_dieLeft_34 : decode cX9_dieLeft 34 = .ok (.invokestatic 200, 3) := by decide +kernel
theorem dX9_dieLeft_37 : decode cX9_dieLeft 37 = .ok (.ireturn, 1) := by decide +kernel
set_option maxRecDepth 20000 in
theorem ggX9_piecesOn_X9_isPlayer : GoodIn wsX9_piecesOn wsX9_isPlayer := goodIn_r _ [7] (by decide +kernel) (by decide +kernel)
set_option maxRecDepth 20000 in
theorem gX9_piecesOn_X9_isPlayer : GoodIn wsX9_piecesOn (va_wsS RX9 92 yX9_isPlayer wsX9_isPlayer) := goodIn_app (goodIn_of _ (by decide +kernel)) ggX9_piecesOn_X9_isPlayer
set_option maxRecDepth 20000 in
theorem ggX9_piecesOn_X9_isPoint : GoodIn wsX9_piecesOn wsX9_isPoint := goodIn_r _ [10] (by decide +kernel) (by decide +kernel)
set_option maxRecDepth 20000 in
theorem gX9_piecesOn_X9_isPoint : GoodIn wsX9_piecesOn (va_wsS RX9 203 yX9_isPoint wsX9_isPoint) := goodIn_app (goodIn_of _ (by decide +kernel)) ggX9_piecesOn_X9_isPoint
set_option maxRecDepth 20000 in
theorem ggX9_piecesOn_X1_countAt : GoodIn wsX9_piecesOn wsX1_countAt := goodIn_r _ [15, 16, 17, 18, 14, 19, 20, 21, 22, 23, 24, 25, 26, 27, 28, 33, 34, 35, 36, 37, 38, 39, 40, 41, 42, 43, 44, 45] (by decide +kernel) (by decide +kernel)
set_option maxRecDepth 20000 in
theorem gX9_piecesOn_X1_countAt : GoodIn wsX9_piecesOn (wsV RX9 206 RX1 yX1_countAt wsX1_countAt) := goodIn_app (goodIn_of _ (by decide +kernel)) ggX9_piecesOn_X1_countAt
theorem dX9_piecesOn_0 : decode cX9_piecesOn 0 = .ok (.iload_n 1, 1) := by decide +kernel
theorem dX9_piecesOn_1 : decode cX9_piecesOn 1 = .ok (.invokestatic 92, 3) := by decide +kernel
theorem dX9_piecesOn_4 : decode cX9_piecesOn 4 = .ok (.ifCond .eq 10, 3) := by decide +kernel
theorem dX9_piecesOn_7 : decode cX9_piecesOn 7 = .ok (.iload_n 2, 1) := by decide +kernel
theorem dX9_piecesOn_8 : decode cX9_piecesOn 8 = .ok (.invokestatic 203, 3) := by decide +kernel
theorem dX9_piecesOn_11 : decode cX9_piecesOn 11 = .ok (.ifCond .ne 11, 3) := by decide +kernel
theorem dX9_piecesOn_14 : decode cX9_piecesOn 14 = .ok (.new 72, 3) := by decide +kernel
theorem dX9_piecesOn_17 : decode cX9_piecesOn 17 = .ok (.dup, 1) := by decide +kernel
theorem dX9_piecesOn_18 : decode cX9_piecesOn 18 = .ok (.invokespecial 74, 3) := by decide +kernel
theorem dX9_piecesOn_21 : decode cX9_piecesOn 21 = .ok (.athrow, 1) := by decide +kernel
theorem dX9_piecesOn_22 : decode cX9_piecesOn 22 = .ok (.aload_n 0, 1) := by decide +kernel
theorem dX9_piecesOn_23 : decode cX9_piecesOn 23 = .ok (.getfield 10, 3) := by decide +kernel
theorem dX9_piecesOn_26 : decode cX9_piecesOn 26 = .ok (.iload_n 1, 1) := by decide +kernel
theorem dX9_piecesOn_27 : decode cX9_piecesOn 27 = .ok (.iload_n 2, 1) := by decide +kernel
theorem dX9_piecesOn_28 : decode cX9_piecesOn 28 = .ok (.invokevirtual 206, 3) := by decide +kernel
theorem dX9_piecesOn_31 : decode cX9_piecesOn 31 = .ok (.ireturn, 1) := by decide +kernel
set_option maxRecDepth 20000 in
theorem ggX9_onBar_X9_isPlayer : GoodIn wsX9_onBar wsX9_isPlayer := goodIn_r _ [7] (by decide +kernel) (by decide +kernel)
set_option maxRecDepth 20000 in
theorem gX9_onBar_X9_isPlayer : GoodIn wsX9_onBar (va_wsS RX9 92 yX9_isPlayer wsX9_isPlayer) := goodIn_app (goodIn_of _ (by decide +kernel)) ggX9_onBar_X9_isPlayer
set_option maxRecDepth 20000 in
theorem ggX9_onBar_X1_piecesOf : GoodIn wsX9_onBar wsX1_piecesOf := goodIn_r _ [12, 13, 14, 23, 24, 25, 26, 27, 28, 29, 30, 31, 32, 33, 34, 35] (by decide +kernel) (by decide +kernel)
set_option maxRecDepth 20000 in
theorem gX9_onBar_X1_piecesOf : GoodIn wsX9_onBar (wsV RX9 106 RX1 yX1_piecesOf wsX1_piecesOf) := goodIn_app (goodIn_of _ (by decide +kernel)) ggX9_onBar_X1_piecesOf
set_option maxRecDepth 20000 in
theorem ggX9_onBar_X3_on : GoodIn wsX9_onBar wsX3_on := goodIn_r _ [18] (by decide +kernel) (by decide +kernel)
set_option maxRecDepth 20000 in
theorem gX9_onBar_X3_on : GoodIn wsX9_onBar (va_wsS RX9 209 yX3_on wsX3_on) := goodIn_app (goodIn_of _ (by decide +kernel)) ggX9_onBar_X3_on
theorem dX9_onBar_0 : decode cX9_onBar 0 = .ok (.iload_n 1, 1) := by decide +kernel
theorem dX9_onBar_1 : decode cX9_onBar 1 = .ok (.invokestatic 92, 3) := by decide +kernel
theorem dX9_onBar_4 : decode cX9_onBar 4 = .ok (.ifCond .ne 11, 3) := by decide +kernel
theorem dX9_onBar_7 : decode cX9_onBar 7 = .ok (.new 72, 3) := by decide +kernel
theorem dX9_onBar_10 : decode cX9_onBar 10 = .ok (.dup, 1) := by decide +kernel
theorem dX9_onBar_11 : decode cX9_onBar 11 = .ok (.invokespecial 74, 3) := by decide +kernel
theorem dX9_onBar_14 : decode cX9_onBar 14 = .ok (.athrow, 1) := by decide +kernel
theorem dX9_onBar_15 : decode cX9_onBar 15 = .ok (.aload_n 0, 1) := by decide +kernel
theorem dX9_onBar_16 : decode cX9_onBar 16 = .ok (.getfield 10, 3) := by decide +kernel
theorem dX9_onBar_19 : decode cX9_onBar 19 = .ok (.iload_n 1, 1) := by decide +kernel
theorem dX9_onBar_20 : decode cX9_onBar 20 = .ok (.invokevirtual 106, 3) := by decide +kernel
theorem dX9_onBar_23 : decode cX9_onBar 23 = .ok (.bipush 17, 2) := by decide +kernel
theorem dX9_onBar_25 : decode cX9_onBar 25 = .ok (.invokestatic 209, 3) := by decide +kernel
theorem dX9_onBar_28 : decode cX9_onBar 28 = .ok (.ireturn, 1) := by decide +kernel
set_option maxRecDepth 20000 in
theorem ggX9_borneOff_X9_isPlayer : GoodIn wsX9_borneOff wsX9_isPlayer := goodIn_r _ [7] (by decide +kernel) (by decide +kernel)
set_option maxRecDepth 20000 in
theorem gX9_borneOff_X9_isPlayer : GoodIn wsX9_borneOff (va_wsS RX9 92 yX9_isPlayer wsX9_isPlayer) := goodIn_app (goodIn_of _ (by decide +kernel)) ggX9_borneOff_X9_isPlayer
set_option maxRecDepth 20000 in
theorem ggX9_borneOff_X1_piecesOf : GoodIn wsX9_borneOff wsX1_piecesOf := goodIn_r _ [12, 13, 14, 23, 24, 25, 26, 27, 28, 29, 30, 31, 32, 33, 34, 35] (by decide +kernel) (by decide +kernel)
set_option maxRecDepth 20000 in
theorem gX9_borneOff_X1_piecesOf : GoodIn wsX9_borneOff (wsV RX9 106 RX1 yX1_piecesOf wsX1_piecesOf) := goodIn_app (goodIn_of _ (by decide +kernel)) ggX9_borneOff_X1_piecesOf
set_option maxRecDepth 20000 in
theorem ggX9_borneOff_X3_on : GoodIn wsX9_borneOff wsX3_on := goodIn_r _ [18] (by decide +kernel) (by decide +kernel)
set_option maxRecDepth 20000 in
theorem gX9_borneOff_X3_on : GoodIn wsX9_borneOff (va_wsS RX9 209 yX3_on wsX3_on) := goodIn_app (goodIn_of _ (by decide +kernel)) ggX9_borneOff_X3_on
theorem dX9_borneOff_0 : decode cX9_borneOff 0 = .ok (.iload_n 1, 1) := by decide +kernel
theorem dX9_borneOff_1 : decode cX9_borneOff 1 = .ok (.invokestatic 92, 3) := by decide +kernel
theorem dX9_borneOff_4 : decode cX9_borneOff 4 = .ok (.ifCond .ne 11, 3) := by decide +kernel
theorem dX9_borneOff_7 : decode cX9_borneOff 7 = .ok (.new 72, 3) := by decide +kernel
theorem dX9_borneOff_10 : decode cX9_borneOff 10 = .ok (.dup, 1) := by decide +kernel
theorem dX9_borneOff_11 : decode cX9_borneOff 11 = .ok (.invokespecial 74, 3) := by decide +kernel
theorem dX9_borneOff_14 : decode cX9_borneOff 14 = .ok (.athrow, 1) := by decide +kernel
theorem dX9_borneOff_15 : decode cX9_borneOff 15 = .ok (.aload_n 0, 1) := by decide +kernel
theorem dX9_borneOff_16 : decode cX9_borneOff 16 = .ok (.getfield 10, 3) := by decide +kernel
theorem dX9_borneOff_19 : decode cX9_borneOff 19 = .ok (.iload_n 1, 1) := by decide +kernel
theorem dX9_borneOff_20 : decode cX9_borneOff 20 = .ok (.invokevirtual 106, 3) := by decide +kernel
theorem dX9_borneOff_23 : decode cX9_borneOff 23 = .ok (.iconst 0, 1) := by decide +kernel
theorem dX9_borneOff_24 : decode cX9_borneOff 24 = .ok (.invokestatic 209, 3) := by decide +kernel
theorem dX9_borneOff_27 : decode cX9_borneOff 27 = .ok (.ireturn, 1) := by decide +kernel
set_option maxRecDepth 20000 in
theorem ggX9_pips_X9_isPlayer : GoodIn wsX9_pips wsX9_isPlayer := goodIn_r _ [7] (by decide +kernel) (by decide +kernel)
set_option maxRecDepth 20000 in
theorem gX9_pips_X9_isPlayer : GoodIn wsX9_pips (va_wsS RX9 92 yX9_isPlayer wsX9_isPlayer) := goodIn_app (goodIn_of _ (by decide +kernel)) ggX9_pips_X9_isPlayer
set_option maxRecDepth 20000 in
theorem ggX9_pips_X1_piecesOf : GoodIn wsX9_pips wsX1_piecesOf := goodIn_r _ [12, 13, 14, 26, 27, 28, 29, 30, 31, 32, 33, 34, 35, 36, 37, 38] (by decide +kernel) (by decide +kernel)
set_option maxRecDepth 20000 in
theorem gX9_pips_X1_piecesOf : GoodIn wsX9_pips (wsV RX9 106 RX1 yX1_piecesOf wsX1_piecesOf) := goodIn_app (goodIn_of _ (by decide +kernel)) ggX9_pips_X1_piecesOf
set_option maxRecDepth 20000 in
theorem ggX9_pips_X3_sumOfWays : GoodIn wsX9_pips wsX3_sumOfWays := goodIn_r _ [18, 19, 20, 17, 21] (by decide +kernel) (by decide +kernel)
set_option maxRecDepth 20000 in
theorem gX9_pips_X3_sumOfWays : GoodIn wsX9_pips (va_wsS RX9 110 yX3_sumOfWays wsX3_sumOfWays) := goodIn_app (goodIn_of _ (by decide +kernel)) ggX9_pips_X3_sumOfWays
theorem dX9_pips_0 : decode cX9_pips 0 = .ok (.iload_n 1, 1) := by decide +kernel
theorem dX9_pips_1 : decode cX9_pips 1 = .ok (.invokestatic 92, 3) := by decide +kernel
theorem dX9_pips_4 : decode cX9_pips 4 = .ok (.ifCond .ne 11, 3) := by decide +kernel
theorem dX9_pips_7 : decode cX9_pips 7 = .ok (.new 72, 3) := by decide +kernel
theorem dX9_pips_10 : decode cX9_pips 10 = .ok (.dup, 1) := by decide +kernel
theorem dX9_pips_11 : decode cX9_pips 11 = .ok (.invokespecial 74, 3) := by decide +kernel
theorem dX9_pips_14 : decode cX9_pips 14 = .ok (.athrow, 1) := by decide +kernel
theorem dX9_pips_15 : decode cX9_pips 15 = .ok (.aload_n 0, 1) := by decide +kernel
theorem dX9_pips_16 : decode cX9_pips 16 = .ok (.getfield 10, 3) := by decide +kernel
theorem dX9_pips_19 : decode cX9_pips 19 = .ok (.iload_n 1, 1) := by decide +kernel
theorem dX9_pips_20 : decode cX9_pips 20 = .ok (.invokevirtual 106, 3) := by decide +kernel
theorem dX9_pips_23 : decode cX9_pips 23 = .ok (.invokestatic 110, 3) := by decide +kernel
theorem dX9_pips_26 : decode cX9_pips 26 = .ok (.ireturn, 1) := by decide +kernel
set_option maxRecDepth 20000 in
theorem ggX9_blots_X9_isPlayer : GoodIn wsX9_blots wsX9_isPlayer := goodIn_r _ [7] (by decide +kernel) (by decide +kernel)
set_option maxRecDepth 20000 in
theorem gX9_blots_X9_isPlayer : GoodIn wsX9_blots (va_wsS RX9 92 yX9_isPlayer wsX9_isPlayer) := goodIn_app (goodIn_of _ (by decide +kernel)) ggX9_blots_X9_isPlayer
set_option maxRecDepth 20000 in
theorem ggX9_blots_X1_piecesOf : GoodIn wsX9_blots wsX1_piecesOf := goodIn_r _ [12, 13, 14, 26, 27, 28, 29, 30, 31, 32, 33, 34, 35, 36, 37, 38] (by decide +kernel) (by decide +kernel)
set_option maxRecDepth 20000 in
theorem gX9_blots_X1_piecesOf : GoodIn wsX9_blots (wsV RX9 106 RX1 yX1_piecesOf wsX1_piecesOf) := goodIn_app (goodIn_of _ (by decide +kernel)) ggX9_blots_X1_piecesOf
set_option maxRecDepth 20000 in
theorem ggX9_blots_X3_singles : GoodIn wsX9_blots wsX3_singles := goodIn_r _ [18, 19, 20, 17, 21] (by decide +kernel) (by decide +kernel)
set_option maxRecDepth 20000 in
theorem gX9_blots_X3_singles : GoodIn wsX9_blots (va_wsS RX9 213 yX3_singles wsX3_singles) := goodIn_app (goodIn_of _ (by decide +kernel)) ggX9_blots_X3_singles
theorem dX9_blots_0 : decode cX9_blots 0 = .ok (.iload_n 1, 1) := by decide +kernel
theorem dX9_blots_1 : decode cX9_blots 1 = .ok (.invokestatic 92, 3) := by decide +kernel
theorem dX9_blots_4 : decode cX9_blots 4 = .ok (.ifCond .ne 11, 3) := by decide +kernel
theorem dX9_blots_7 : decode cX9_blots 7 = .ok (.new 72, 3) := by decide +kernel
theorem dX9_blots_10 : decode cX9_blots 10 = .ok (.dup, 1) := by decide +kernel
theorem dX9_blots_11 : decode cX9_blots 11 = .ok (.invokespecial 74, 3) := by decide +kernel
theorem dX9_blots_14 : decode cX9_blots 14 = .ok (.athrow, 1) := by decide +kernel
theorem dX9_blots_15 : decode cX9_blots 15 = .ok (.aload_n 0, 1) := by decide +kernel
theorem dX9_blots_16 : decode cX9_blots 16 = .ok (.getfield 10, 3) := by decide +kernel
theorem dX9_blots_19 : decode cX9_blots 19 = .ok (.iload_n 1, 1) := by decide +kernel
theorem dX9_blots_20 : decode cX9_blots 20 = .ok (.invokevirtual 106, 3) := by decide +kernel
theorem dX9_blots_23 : decode cX9_blots 23 = .ok (.invokestatic 213, 3) := by decide +kernel
theorem dX9_blots_26 : decode cX9_blots 26 = .ok (.ireturn, 1) := by decide +kernel
set_option maxRecDepth 20000 in
theorem ggX9_blockade_X9_isPlayer : GoodIn wsX9_blockade wsX9_isPlayer := goodIn_r _ [7] (by decide +kernel) (by decide +kernel)
set_option maxRecDepth 20000 in
theorem gX9_blockade_X9_isPlayer : GoodIn wsX9_blockade (va_wsS RX9 92 yX9_isPlayer wsX9_isPlayer) := goodIn_app (goodIn_of _ (by decide +kernel)) ggX9_blockade_X9_isPlayer
set_option maxRecDepth 20000 in
theorem ggX9_blockade_X1_piecesOf : GoodIn wsX9_blockade wsX1_piecesOf := goodIn_r _ [12, 13, 14, 30, 31, 32, 33, 34, 35, 36, 37, 38, 39, 40, 41, 42] (by decide +kernel) (by decide +kernel)
set_option maxRecDepth 20000 in
theorem gX9_blockade_X1_piecesOf : GoodIn wsX9_blockade (wsV RX9 106 RX1 yX1_piecesOf wsX1_piecesOf) := goodIn_app (goodIn_of _ (by decide +kernel)) ggX9_blockade_X1_piecesOf
set_option maxRecDepth 20000 in
theorem ggX9_blockade_X3_longestWall : GoodIn wsX9_blockade wsX3_longestWall := goodIn_r _ [18, 19, 20, 21, 22, 23, 24, 17, 25] (by decide +kernel) (by decide +kernel)
set_option maxRecDepth 20000 in
theorem gX9_blockade_X3_longestWall : GoodIn wsX9_blockade (va_wsS RX9 216 yX3_longestWall wsX3_longestWall) := goodIn_app (goodIn_of _ (by decide +kernel)) ggX9_blockade_X3_longestWall
theorem dX9_blockade_0 : decode cX9_blockade 0 = .ok (.iload_n 1, 1) := by decide +kernel
theorem dX9_blockade_1 : decode cX9_blockade 1 = .ok (.invokestatic 92, 3) := by decide +kernel
theorem dX9_blockade_4 : decode cX9_blockade 4 = .ok (.ifCond .ne 11, 3) := by decide +kernel
theorem dX9_blockade_7 : decode cX9_blockade 7 = .ok (.new 72, 3) := by decide +kernel
theorem dX9_blockade_10 : decode cX9_blockade 10 = .ok (.dup, 1) := by decide +kernel
theorem dX9_blockade_11 : decode cX9_blockade 11 = .ok (.invokespecial 74, 3) := by decide +kernel
theorem dX9_blockade_14 : decode cX9_blockade 14 = .ok (.athrow, 1) := by decide +kernel
theorem dX9_blockade_15 : decode cX9_blockade 15 = .ok (.aload_n 0, 1) := by decide +kernel
theorem dX9_blockade_16 : decode cX9_blockade 16 = .ok (.getfield 10, 3) := by decide +kernel
theorem dX9_blockade_19 : decode cX9_blockade 19 = .ok (.iload_n 1, 1) := by decide +kernel
theorem dX9_blockade_20 : decode cX9_blockade 20 = .ok (.invokevirtual 106, 3) := by decide +kernel
theorem dX9_blockade_23 : decode cX9_blockade 23 = .ok (.invokestatic 216, 3) := by decide +kernel
theorem dX9_blockade_26 : decode cX9_blockade 26 = .ok (.ireturn, 1) := by decide +kernel
theorem dX9_stake_0 : decode cX9_stake 0 = .ok (.aload_n 0, 1) := by decide +kernel
theorem dX9_stake_1 : decode cX9_stake 1 = .ok (.getfield 10, 3) := by decide +kernel
theorem dX9_stake_4 : decode cX9_stake 4 = .ok (.getfield 122, 3) := by decide +kernel
theorem dX9_stake_7 : decode cX9_stake 7 = .ok (.ireturn, 1) := by decide +kernel
theorem dX9_cubeOf_0 : decode cX9_cubeOf 0 = .ok (.aload_n 0, 1) := by decide +kernel
theorem dX9_cubeOf_1 : decode cX9_cubeOf 1 = .ok (.getfield 10, 3) := by decide +kernel
theorem dX9_cubeOf_4 : decode cX9_cubeOf 4 = .ok (.getfield 219, 3) := by decide +kernel
theorem dX9_cubeOf_7 : decode cX9_cubeOf 7 = .ok (.ireturn, 1) := by decide +kernel
set_option maxRecDepth 20000 in
theorem ggX9_score_X9_isPlayer : GoodIn wsX9_score wsX9_isPlayer := goodIn_r _ [7] (by decide +kernel) (by decide +kernel)
set_option maxRecDepth 20000 in
theorem gX9_score_X9_isPlayer : GoodIn wsX9_score (va_wsS RX9 92 yX9_isPlayer wsX9_isPlayer) := goodIn_app (goodIn_of _ (by decide +kernel)) ggX9_score_X9_isPlayer
set_option maxRecDepth 20000 in
theorem ggX9_score_X1_scoreOf : GoodIn wsX9_score wsX1_scoreOf := goodIn_r _ [12, 13, 14, 19, 20, 21, 22, 23, 24, 25, 26, 27, 28, 29, 30, 31] (by decide +kernel) (by decide +kernel)
set_option maxRecDepth 20000 in
theorem gX9_score_X1_scoreOf : GoodIn wsX9_score (wsV RX9 134 RX1 yX1_scoreOf wsX1_scoreOf) := goodIn_app (goodIn_of _ (by decide +kernel)) ggX9_score_X1_scoreOf
theorem dX9_score_0 : decode cX9_score 0 = .ok (.iload_n 1, 1) := by decide +kernel
theorem dX9_score_1 : decode cX9_score 1 = .ok (.invokestatic 92, 3) := by decide +kernel
theorem dX9_score_4 : decode cX9_score 4 = .ok (.ifCond .ne 11, 3) := by decide +kernel
theorem dX9_score_7 : decode cX9_score 7 = .ok (.new 72, 3) := by decide +kernel
theorem dX9_score_10 : decode cX9_score 10 = .ok (.dup, 1) := by decide +kernel
theorem dX9_score_11 : decode cX9_score 11 = .ok (.invokespecial 74, 3) := by decide +kernel
theorem dX9_score_14 : decode cX9_score 14 = .ok (.athrow, 1) := by decide +kernel
theorem dX9_score_15 : decode cX9_score 15 = .ok (.aload_n 0, 1) := by decide +kernel
theorem dX9_score_16 : decode cX9_score 16 = .ok (.getfield 10, 3) := by decide +kernel
theorem dX9_score_19 : decode cX9_score 19 = .ok (.iload_n 1, 1) := by decide +kernel
theorem dX9_score_20 : decode cX9_score 20 = .ok (.invokevirtual 134, 3) := by decide +kernel
theorem dX9_score_23 : decode cX9_score 23 = .ok (.ireturn, 1) := by decide +kernel
set_option maxRecDepth 20000 in
theorem ggX9_hits_X9_isPlayer : GoodIn wsX9_hits wsX9_isPlayer := goodIn_r _ [7] (by decide +kernel) (by decide +kernel)
set_option maxRecDepth 20000 in
theorem gX9_hits_X9_isPlayer : GoodIn wsX9_hits (va_wsS RX9 92 yX9_isPlayer wsX9_isPlayer) := goodIn_app (goodIn_of _ (by decide +kernel)) ggX9_hits_X9_isPlayer
set_option maxRecDepth 20000 in
theorem ggX9_hits_X1_hitsOf : GoodIn wsX9_hits wsX1_hitsOf := goodIn_r _ [12, 13, 14, 19, 20, 21, 22, 23, 24, 25, 26, 27, 28, 29, 30, 31] (by decide +kernel) (by decide +kernel)
set_option maxRecDepth 20000 in
theorem gX9_hits_X1_hitsOf : GoodIn wsX9_hits (wsV RX9 222 RX1 yX1_hitsOf wsX1_hitsOf) := goodIn_app (goodIn_of _ (by decide +kernel)) ggX9_hits_X1_hitsOf
theorem dX9_hits_0 : decode cX9_hits 0 = .ok (.iload_n 1, 1) := by decide +kernel
theorem dX9_hits_1 : decode cX9_hits 1 = .ok (.invokestatic 92, 3) := by decide +kernel
theorem dX9_hits_4 : decode cX9_hits 4 = .ok (.ifCond .ne 11, 3) := by decide +kernel
theorem dX9_hits_7 : decode cX9_hits 7 = .ok (.new 72, 3) := by decide +kernel
theorem dX9_hits_10 : decode cX9_hits 10 = .ok (.dup, 1) := by decide +kernel
theorem dX9_hits_11 : decode cX9_hits 11 = .ok (.invokespecial 74, 3) := by decide +kernel
theorem dX9_hits_14 : decode cX9_hits 14 = .ok (.athrow, 1) := by decide +kernel
theorem dX9_hits_15 : decode cX9_hits 15 = .ok (.aload_n 0, 1) := by decide +kernel
theorem dX9_hits_16 : decode cX9_hits 16 = .ok (.getfield 10, 3) := by decide +kernel
theorem dX9_hits_19 : decode cX9_hits 19 = .ok (.iload_n 1, 1) := by decide +kernel
theorem dX9_hits_20 : decode cX9_hits 20 = .ok (.invokevirtual 222, 3) := by decide +kernel
theorem dX9_hits_23 : decode cX9_hits 23 = .ok (.ireturn, 1) := by decide +kernel
set_option maxRecDepth 20000 in
theorem ggX9_whyNoStep_X9_isPointOrBar : GoodIn wsX9_whyNoStep wsX9_isPointOrBar := goodIn_r _ [9, 10, 11, 8, 12] (by decide +kernel) (by decide +kernel)
set_option maxRecDepth 20000 in
theorem gX9_whyNoStep_X9_isPointOrBar : GoodIn wsX9_whyNoStep (va_wsS RX9 69 yX9_isPointOrBar wsX9_isPointOrBar) := goodIn_app (goodIn_of _ (by decide +kernel)) ggX9_whyNoStep_X9_isPointOrBar
set_option maxRecDepth 20000 in
theorem ggX9_whyNoStep_X0_isDie : GoodIn wsX9_whyNoStep wsX0_isDie := goodIn_r _ [16] (by decide +kernel) (by decide +kernel)
set_option maxRecDepth 20000 in
theorem gX9_whyNoStep_X0_isDie : GoodIn wsX9_whyNoStep (va_wsS RX9 37 yX0_isDie wsX0_isDie) := goodIn_app (goodIn_of _ (by decide +kernel)) ggX9_whyNoStep_X0_isDie
set_option maxRecDepth 20000 in
theorem ggX9_whyNoStep_X1_reasonAgainst : GoodIn wsX9_whyNoStep wsX1_reasonAgainst := goodIn_r _ [21, 22, 23, 24, 25, 26, 20, 27, 28, 29, 30, 31, 32, 33, 34, 35, 36, 37, 38, 39, 40, 41, 42, 43, 44, 45, 46, 47, 48, 49, 50, 51, 52, 53, 15, 54, 55, 56, 57, 58, 59, 60, 61, 62, 63, 64, 65, 66, 67, 68, 69, 70, 71, 72, 73, 74, 75, 76, 77, 78, 79, 80, 81, 82, 83, 84, 85, 86, 87, 88, 89, 90, 91, 92, 93, 94, 95, 96, 97, 98, 99, 100, 105, 106, 107, 108, 109, 110, 111, 112, 113, 114, 115, 116, 117] (by decide +kernel) (by decide +kernel)
set_option maxRecDepth 20000 in
theorem gX9_whyNoStep_X1_reasonAgainst : GoodIn wsX9_whyNoStep (wsV RX9 75 RX1 yX1_reasonAgainst wsX1_reasonAgainst) := goodIn_app (goodIn_of _ (by decide +kernel)) ggX9_whyNoStep_X1_reasonAgainst
theorem dX9_whyNoStep_0 : decode cX9_whyNoStep 0 = .ok (.iload_n 1, 1) := by decide +kernel
theorem dX9_whyNoStep_1 : decode cX9_whyNoStep 1 = .ok (.invokestatic 69, 3) := by decide +kernel
theorem dX9_whyNoStep_4 : decode cX9_whyNoStep 4 = .ok (.ifCond .ne 11, 3) := by decide +kernel
theorem dX9_whyNoStep_7 : decode cX9_whyNoStep 7 = .ok (.new 72, 3) := by decide +kernel
theorem dX9_whyNoStep_10 : decode cX9_whyNoStep 10 = .ok (.dup, 1) := by decide +kernel
theorem dX9_whyNoStep_11 : decode cX9_whyNoStep 11 = .ok (.invokespecial 74, 3) := by decide +kernel
theorem dX9_whyNoStep_14 : decode cX9_whyNoStep 14 = .ok (.athrow, 1) := by decide +kernel
theorem dX9_whyNoStep_15 : decode cX9_whyNoStep 15 = .ok (.iload_n 2, 1) := by decide +kernel
theorem dX9_whyNoStep_16 : decode cX9_whyNoStep 16 = .ok (.invokestatic 37, 3) := by decide +kernel
theorem dX9_whyNoStep_19 : decode cX9_whyNoStep 19 = .ok (.ifCond .ne 11, 3) := by decide +kernel
theorem dX9_whyNoStep_22 : decode cX9_whyNoStep 22 = .ok (.new 43, 3) := by decide +kernel
theorem dX9_whyNoStep_25 : decode cX9_whyNoStep 25 = .ok (.dup, 1) := by decide +kernel
theorem dX9_whyNoStep_26 : decode cX9_whyNoStep 26 = .ok (.invokespecial 45, 3) := by decide +kernel
theorem dX9_whyNoStep_29 : decode cX9_whyNoStep 29 = .ok (.athrow, 1) := by decide +kernel
theorem dX9_whyNoStep_30 : decode cX9_whyNoStep 30 = .ok (.aload_n 0, 1) := by decide +kernel
theorem dX9_whyNoStep_31 : decode cX9_whyNoStep 31 = .ok (.getfield 10, 3) := by decide +kernel
theorem dX9_whyNoStep_34 : decode cX9_whyNoStep 34 = .ok (.iload_n 1, 1) := by decide +kernel
theorem dX9_whyNoStep_35 : decode cX9_whyNoStep 35 = .ok (.iload_n 2, 1) := by decide +kernel
theorem dX9_whyNoStep_36 : decode cX9_whyNoStep 36 = .ok (.invokevirtual 75, 3) := by decide +kernel
theorem dX9_whyNoStep_39 : decode cX9_whyNoStep 39 = .ok (.ireturn, 1) := by decide +kernel
set_option maxRecDepth 20000 in
theorem ggX9_possibleSteps_X1_moversPieces : GoodIn wsX9_possibleSteps wsX1_moversPieces := goodIn_r _ [7, 8, 9, 10, 11, 6, 12, 13, 14, 83, 84, 85, 86, 87, 88, 89, 90, 91, 92, 93, 94, 95] (by decide +kernel) (by decide +kernel)
set_option maxRecDepth 20000 in
theorem gX9_possibleSteps_X1_moversPieces : GoodIn wsX9_possibleSteps (wsV RX9 225 RX1 yX1_moversPieces wsX1_moversPieces) := goodIn_app (goodIn_of _ (by decide +kernel)) ggX9_possibleSteps_X1_moversPieces
set_option maxRecDepth 20000 in
theorem ggX9_possibleSteps_X1_othersPieces : GoodIn wsX9_possibleSteps wsX1_othersPieces := goodIn_r _ [18, 8, 9, 10, 11, 6, 12, 13, 14, 83, 84, 85, 86, 87, 88, 89, 90, 91, 92, 93, 94, 95] (by decide +kernel) (by decide +kernel)
set_option maxRecDepth 20000 in
theorem gX9_possibleSteps_X1_othersPieces : GoodIn wsX9_possibleSteps (wsV RX9 229 RX1 yX1_othersPieces wsX1_othersPieces) := goodIn_app (goodIn_of _ (by decide +kernel)) ggX9_possibleSteps_X1_othersPieces
set_option maxRecDepth 20000 in
theorem ggX9_possibleSteps_X7_countPossible : GoodIn wsX9_possibleSteps wsX7_countPossible := goodIn_r _ [22, 23, 24, 21, 25, 26, 27, 28, 29, 30, 31, 32, 33, 34, 35, 36, 37, 38, 39, 40, 41, 42, 43, 44, 45, 46, 47, 48, 49, 50, 51, 52, 53, 54, 55, 56, 57, 58, 59, 60, 61, 62, 63, 64, 65, 66, 67, 68, 69, 70, 71, 72, 73, 74, 75, 76, 77, 78] (by decide +kernel) (by decide +kernel)
set_option maxRecDepth 20000 in
theorem gX9_possibleSteps_X7_countPossible : GoodIn wsX9_possibleSteps (va_wsS RX9 232 yX7_countPossible wsX7_countPossible) := goodIn_app (goodIn_of _ (by decide +kernel)) ggX9_possibleSteps_X7_countPossible
theorem dX9_possibleSteps_0 : decode cX9_possibleSteps 0 = .ok (.aload_n 0, 1) := by decide +kernel
theorem dX9_possibleSteps_1 : decode cX9_possibleSteps 1 = .ok (.getfield 10, 3) := by decide +kernel
theorem dX9_possibleSteps_4 : decode cX9_possibleSteps 4 = .ok (.invokevirtual 225, 3) := by decide +kernel
theorem dX9_possibleSteps_7 : decode cX9_possibleSteps 7 = .ok (.aload_n 0, 1) := by decide +kernel
theorem dX9_possibleSteps_8 : decode cX9_possibleSteps 8 = .ok (.getfield 10, 3) := by decide +kernel
theorem dX9_possibleSteps_11 : decode cX9_possibleSteps 11 = .ok (.invokevirtual 229, 3) := by decide +kernel
theorem dX9_possibleSteps_14 : decode cX9_possibleSteps 14 = .ok (.aload_n 0, 1) := by decide +kernel
theorem dX9_possibleSteps_15 : decode cX9_possibleSteps 15 = .ok (.getfield 10, 3) := by decide +kernel
theorem dX9_possibleSteps_18 : decode cX9_possibleSteps 18 = .ok (.getfield 61, 3) := by decide +kernel
theorem dX9_possibleSteps_21 : decode cX9_possibleSteps 21 = .ok (.invokestatic 232, 3) := by decide +kernel
theorem dX9_possibleSteps_24 : decode cX9_possibleSteps 24 = .ok (.ireturn, 1) := by decide +kernel
set_option maxRecDepth 20000 in
theorem ggX9_reach_X1_reachNow : GoodIn wsX9_reach wsX1_reachNow := goodIn_r _ [6, 7, 8, 9, 10, 5, 11, 12, 13, 14, 15, 16, 17, 18, 19, 20, 21, 22, 23, 24, 25, 26, 27, 28, 29, 30, 31, 32, 33, 34, 35, 36, 37, 38, 39, 40, 41, 42, 43, 44, 45, 46, 47, 48, 49, 50, 51, 52, 53, 54, 55, 56, 57, 58, 59, 60, 61, 62, 63, 64, 65, 66, 67, 68, 69, 74, 75, 76, 77, 78, 79, 80, 81, 82, 83, 84, 85, 86] (by decide +kernel) (by decide +kernel)
set_option maxRecDepth 20000 in
theorem gX9_reach_X1_reachNow : GoodIn wsX9_reach (wsV RX9 238 RX1 yX1_reachNow wsX1_reachNow) := goodIn_app (goodIn_of _ (by decide +kernel)) ggX9_reach_X1_reachNow
theorem dX9_reach_0 : decode cX9_reach 0 = .ok (.aload_n 0, 1) := by decide +kernel
theorem dX9_reach_1 : decode cX9_reach 1 = .ok (.getfield 10, 3) := by decide +kernel
theorem dX9_reach_4 : decode cX9_reach 4 = .ok (.invokevirtual 238, 3) := by decide +kernel
theorem dX9_reach_7 : decode cX9_reach 7 = .ok (.ireturn, 1) := by decide +kernel
set_option maxRecDepth 20000 in
theorem ggX9_plays_X1_moversPieces : GoodIn wsX9_plays wsX1_moversPieces := goodIn_r _ [8, 9, 10, 11, 12, 7, 13, 14, 15, 135, 136, 137, 138, 139, 140, 141, 142, 143, 144, 145, 146, 147] (by decide +kernel) (by decide +kernel)
set_option maxRecDepth 20000 in
theorem gX9_plays_X1_moversPieces : GoodIn wsX9_plays (wsV RX9 225 RX1 yX1_moversPieces wsX1_moversPieces) := goodIn_app (goodIn_of _ (by decide +kernel)) ggX9_plays_X1_moversPieces
set_option maxRecDepth 20000 in
theorem ggX9_plays_X1_othersPieces : GoodIn wsX9_plays wsX1_othersPieces := goodIn_r _ [19, 9, 10, 11, 12, 7, 13, 14, 15, 135, 136, 137, 138, 139, 140, 141, 142, 143, 144, 145, 146, 147] (by decide +kernel) (by decide +kernel)
set_option maxRecDepth 20000 in
theorem gX9_plays_X1_othersPieces : GoodIn wsX9_plays (wsV RX9 229 RX1 yX1_othersPieces wsX1_othersPieces) := goodIn_app (goodIn_of _ (by decide +kernel)) ggX9_plays_X1_othersPieces
set_option maxRecDepth 20000 in
theorem ggX9_plays_X4_countEnds : GoodIn wsX9_plays wsX4_countEnds := goodIn_r _ [24, 25, 26, 27, 28, 29, 30, 31, 32, 33, 34, 35, 36, 37, 38, 39, 40, 41, 42, 43, 44, 45, 46, 47, 48, 49, 50, 51, 52, 53, 54, 55, 56, 57, 58, 59, 60, 61, 62, 63, 64, 65, 66, 67, 68, 69, 70, 71, 72, 73, 23, 74, 75, 76, 77, 78, 79, 80, 81, 82, 83, 84, 85, 86, 87, 88, 89, 90, 91, 92, 93, 94, 95, 96, 97, 98, 99, 100, 101, 102, 103, 104, 105, 106, 107, 108, 109, 110, 111, 112, 113, 114, 115, 116, 117, 118, 119, 120, 121, 122, 123, 124, 125, 126, 127, 128, 129, 130, 148, 149, 150, 151, 152, 153, 154] (by decide +kernel) (by decide +kernel)
set_option maxRecDepth 20000 in
theorem gX9_plays_X4_countEnds : GoodIn wsX9_plays (wsV RX9 241 RX4 yX4_countEnds wsX4_countEnds) := goodIn_app (goodIn_of _ (by decide +kernel)) ggX9_plays_X4_countEnds
theorem dX9_plays_0 : decode cX9_plays 0 = .ok (.aload_n 0, 1) := by decide +kernel
theorem dX9_plays_1 : decode cX9_plays 1 = .ok (.getfield 33, 3) := by decide +kernel
theorem dX9_plays_4 : decode cX9_plays 4 = .ok (.aload_n 0, 1) := by decide +kernel
theorem dX9_plays_5 : decode cX9_plays 5 = .ok (.getfield 10, 3) := by decide +kernel
theorem dX9_plays_8 : decode cX9_plays 8 = .ok (.invokevirtual 225, 3) := by decide +kernel
theorem dX9_plays_11 : decode cX9_plays 11 = .ok (.aload_n 0, 1) := by decide +kernel
theorem dX9_plays_12 : decode cX9_plays 12 = .ok (.getfield 10, 3) := by decide +kernel
theorem dX9_plays_15 : decode cX9_plays 15 = .ok (.invokevirtual 229, 3) := by decide +kernel
theorem dX9_plays_18 : decode cX9_plays 18 = .ok (.aload_n 0, 1) := by decide +kernel
theorem dX9_plays_19 : decode cX9_plays 19 = .ok (.getfield 10, 3) := by decide +kernel
theorem dX9_plays_22 : decode cX9_plays 22 = .ok (.getfield 61, 3) := by decide +kernel
theorem dX9_plays_25 : decode cX9_plays 25 = .ok (.iconst 0, 1) := by decide +kernel
theorem dX9_plays_26 : decode cX9_plays 26 = .ok (.invokevirtual 241, 3) := by decide +kernel
theorem dX9_plays_29 : decode cX9_plays 29 = .ok (.ireturn, 1) := by decide +kernel
set_option maxRecDepth 20000 in
theorem ggX9_playsByOrders_X1_moversPieces : GoodIn wsX9_playsByOrders wsX1_moversPieces := goodIn_r _ [8, 9, 10, 11, 12, 7, 13, 14, 15, 135, 136, 137, 138, 139, 140, 141, 142, 143, 144, 145, 146, 147] (by decide +kernel) (by decide +kernel)
set_option maxRecDepth 20000 in
theorem gX9_playsByOrders_X1_moversPieces : GoodIn wsX9_playsByOrders (wsV RX9 225 RX1 yX1_moversPieces wsX1_moversPieces) := goodIn_app (goodIn_of _ (by decide +kernel)) ggX9_playsByOrders_X1_moversPieces
set_option maxRecDepth 20000 in
theorem ggX9_playsByOrders_X1_othersPieces : GoodIn wsX9_playsByOrders wsX1_othersPieces := goodIn_r _ [19, 9, 10, 11, 12, 7, 13, 14, 15, 135, 136, 137, 138, 139, 140, 141, 142, 143, 144, 145, 146, 147] (by decide +kernel) (by decide +kernel)
set_option maxRecDepth 20000 in
theorem gX9_playsByOrders_X1_othersPieces : GoodIn wsX9_playsByOrders (wsV RX9 229 RX1 yX1_othersPieces wsX1_othersPieces) := goodIn_app (goodIn_of _ (by decide +kernel)) ggX9_playsByOrders_X1_othersPieces
set_option maxRecDepth 20000 in
theorem ggX9_playsByOrders_X4_countEnds : GoodIn wsX9_playsByOrders wsX4_countEnds := goodIn_r _ [24, 25, 26, 27, 28, 29, 30, 31, 32, 33, 34, 35, 36, 37, 38, 39, 40, 41, 42, 43, 44, 45, 46, 47, 48, 49, 50, 51, 52, 53, 54, 55, 56, 57, 58, 59, 60, 61, 62, 63, 64, 65, 66, 67, 68, 69, 70, 71, 72, 73, 23, 74, 75, 76, 77, 78, 79, 80, 81, 82, 83, 84, 85, 86, 87, 88, 89, 90, 91, 92, 93, 94, 95, 96, 97, 98, 99, 100, 101, 102, 103, 104, 105, 106, 107, 108, 109, 110, 111, 112, 113, 114, 115, 116, 117, 118, 119, 120, 121, 122, 123, 124, 125, 126, 127, 128, 129, 130, 148, 149, 150, 151, 152, 153, 154] (by decide +kernel) (by decide +kernel)
set_option maxRecDepth 20000 in
theorem gX9_playsByOrders_X4_countEnds : GoodIn wsX9_playsByOrders (wsV RX9 241 RX4 yX4_countEnds wsX4_countEnds) := goodIn_app (goodIn_of _ (by decide +kernel)) ggX9_playsByOrders_X4_countEnds
theorem dX9_playsByOrders_0 : decode cX9_playsByOrders 0 = .ok (.aload_n 0, 1) := by decide +kernel
theorem dX9_playsByOrders_1 : decode cX9_playsByOrders 1 = .ok (.getfield 33, 3) := by decide +kernel
theorem dX9_playsByOrders_4 : decode cX9_playsByOrders 4 = .ok (.aload_n 0, 1) := by decide +kernel
theorem dX9_playsByOrders_5 : decode cX9_playsByOrders 5 = .ok (.getfield 10, 3) := by decide +kernel
theorem dX9_playsByOrders_8 : decode cX9_playsByOrders 8 = .ok (.invokevirtual 225, 3) := by decide +kernel
theorem dX9_playsByOrders_11 : decode cX9_playsByOrders 11 = .ok (.aload_n 0, 1) := by decide +kernel
theorem dX9_playsByOrders_12 : decode cX9_playsByOrders 12 = .ok (.getfield 10, 3) := by decide +kernel
theorem dX9_playsByOrders_15 : decode cX9_playsByOrders 15 = .ok (.invokevirtual 229, 3) := by decide +kernel
theorem dX9_playsByOrders_18 : decode cX9_playsByOrders 18 = .ok (.aload_n 0, 1) := by decide +kernel
theorem dX9_playsByOrders_19 : decode cX9_playsByOrders 19 = .ok (.getfield 10, 3) := by decide +kernel
theorem dX9_playsByOrders_22 : decode cX9_playsByOrders 22 = .ok (.getfield 61, 3) := by decide +kernel
theorem dX9_playsByOrders_25 : decode cX9_playsByOrders 25 = .ok (.iconst 1, 1) := by decide +kernel
theorem dX9_playsByOrders_26 : decode cX9_playsByOrders 26 = .ok (.invokevirtual 241, 3) := by decide +kernel
theorem dX9_playsByOrders_29 : decode cX9_playsByOrders 29 = .ok (.ireturn, 1) := by decide +kernel
set_option maxRecDepth 20000 in
theorem ggX9_playsWith_X0_isDie : GoodIn wsX9_playsWith wsX0_isDie := goodIn_r _ [8] (by decide +kernel) (by decide +kernel)
set_option maxRecDepth 20000 in
theorem gX9_playsWith_X0_isDie : GoodIn wsX9_playsWith (va_wsS RX9 37 yX0_isDie wsX0_isDie) := goodIn_app (goodIn_of _ (by decide +kernel)) ggX9_playsWith_X0_isDie
set_option maxRecDepth 20000 in
theorem ggX9_playsWith_X0_rolled : GoodIn wsX9_playsWith wsX0_rolled := goodIn_r _ [11] (by decide +kernel) (by decide +kernel)
set_option maxRecDepth 20000 in
theorem gX9_playsWith_X0_rolled : GoodIn wsX9_playsWith (va_wsS RX9 245 yX0_rolled wsX0_rolled) := goodIn_app (goodIn_of _ (by decide +kernel)) ggX9_playsWith_X0_rolled
set_option maxRecDepth 20000 in
theorem ggX9_playsWith_X1_moversPieces : GoodIn wsX9_playsWith wsX1_moversPieces := goodIn_r _ [16, 17, 18, 19, 20, 15, 21, 22, 23, 140, 141, 142, 143, 144, 145, 146, 147, 148, 149, 150, 151, 152] (by decide +kernel) (by decide +kernel)
set_option maxRecDepth 20000 in
theorem gX9_playsWith_X1_moversPieces : GoodIn wsX9_playsWith (wsV RX9 225 RX1 yX1_moversPieces wsX1_moversPieces) := goodIn_app (goodIn_of _ (by decide +kernel)) ggX9_playsWith_X1_moversPieces
set_option maxRecDepth 20000 in
theorem ggX9_playsWith_X1_othersPieces : GoodIn wsX9_playsWith wsX1_othersPieces := goodIn_r _ [27, 17, 18, 19, 20, 15, 21, 22, 23, 140, 141, 142, 143, 144, 145, 146, 147, 148, 149, 150, 151, 152] (by decide +kernel) (by decide +kernel)
set_option maxRecDepth 20000 in
theorem gX9_playsWith_X1_othersPieces : GoodIn wsX9_playsWith (wsV RX9 229 RX1 yX1_othersPieces wsX1_othersPieces) := goodIn_app (goodIn_of _ (by decide +kernel)) ggX9_playsWith_X1_othersPieces
set_option maxRecDepth 20000 in
theorem ggX9_playsWith_X4_countEnds : GoodIn wsX9_playsWith wsX4_countEnds := goodIn_r _ [32, 33, 34, 35, 36, 37, 38, 39, 40, 41, 42, 43, 44, 45, 46, 47, 48, 49, 50, 51, 7, 52, 53, 54, 55, 56, 57, 58, 59, 10, 11, 60, 61, 62, 63, 64, 65, 66, 67, 68, 69, 70, 71, 72, 73, 74, 75, 76, 77, 78, 31, 79, 80, 81, 82, 83, 84, 85, 86, 87, 88, 89, 90, 91, 92, 93, 94, 95, 96, 97, 98, 99, 100, 101, 102, 103, 104, 105, 106, 107, 108, 109, 110, 111, 112, 113, 114, 115, 116, 117, 118, 119, 120, 121, 122, 123, 124, 125, 126, 127, 128, 129, 130, 131, 132, 133, 134, 135, 153, 154, 155, 156, 157, 158, 159] (by decide +kernel) (by decide +kernel)
set_option maxRecDepth 20000 in
theorem gX9_playsWith_X4_countEnds : GoodIn wsX9_playsWith (wsV RX9 241 RX4 yX4_countEnds wsX4_countEnds) := goodIn_app (goodIn_of _ (by decide +kernel)) ggX9_playsWith_X4_countEnds
theorem dX9_playsWith_0 : decode cX9_playsWith 0 = .ok (.iload_n 1, 1) := by decide +kernel
theorem dX9_playsWith_1 : decode cX9_playsWith 1 = .ok (.invokestatic 37, 3) := by decide +kernel
theorem dX9_playsWith_4 : decode cX9_playsWith 4 = .ok (.ifCond .eq 10, 3) := by decide +kernel
theorem dX9_playsWith_7 : decode cX9_playsWith 7 = .ok (.iload_n 2, 1) := by decide +kernel
theorem dX9_playsWith_8 : decode cX9_playsWith 8 = .ok (.invokestatic 37, 3) := by decide +kernel
theorem dX9_playsWith_11 : decode cX9_playsWith 11 = .ok (.ifCond .ne 11, 3) := by decide +kernel
theorem dX9_playsWith_14 : decode cX9_playsWith 14 = .ok (.new 43, 3) := by decide +kernel
theorem dX9_playsWith_17 : decode cX9_playsWith 17 = .ok (.dup, 1) := by decide +kernel
theorem dX9_playsWith_18 : decode cX9_playsWith 18 = .ok (.invokespecial 45, 3) := by decide +kernel
theorem dX9_playsWith_21 : decode cX9_playsWith 21 = .ok (.athrow, 1) := by decide +kernel
theorem dX9_playsWith_22 : decode cX9_playsWith 22 = .ok (.iload_n 1, 1) := by decide +kernel
theorem dX9_playsWith_23 : decode cX9_playsWith 23 = .ok (.iload_n 2, 1) := by decide +kernel
theorem dX9_playsWith_24 : decode cX9_playsWith 24 = .ok (.invokestatic 245, 3) := by decide +kernel
theorem dX9_playsWith_27 : decode cX9_playsWith 27 = .ok (.istore_n 3, 1) := by decide +kernel
theorem dX9_playsWith_28 : decode cX9_playsWith 28 = .ok (.aload_n 0, 1) := by decide +kernel
theorem dX9_playsWith_29 : decode cX9_playsWith 29 = .ok (.getfield 33, 3) := by decide +kernel
theorem dX9_playsWith_32 : decode cX9_playsWith 32 = .ok (.aload_n 0, 1) := by decide +kernel
theorem dX9_playsWith_33 : decode cX9_playsWith 33 = .ok (.getfield 10, 3) := by decide +kernel
theorem dX9_playsWith_36 : decode cX9_playsWith 36 = .ok (.invokevirtual 225, 3) := by decide +kernel
theorem dX9_playsWith_39 : decode cX9_playsWith 39 = .ok (.aload_n 0, 1) := by decide +kernel
theorem dX9_playsWith_40 : decode cX9_playsWith 40 = .ok (.getfield 10, 3) := by decide +kernel
theorem dX9_playsWith_43 : decode cX9_playsWith 43 = .ok (.invokevirtual 229, 3) := by decide +kernel
theorem dX9_playsWith_46 : decode cX9_playsWith 46 = .ok (.iload_n 3, 1) := by decide +kernel
theorem dX9_playsWith_47 : decode cX9_playsWith 47 = .ok (.iconst 0, 1) := by decide +kernel
theorem dX9_playsWith_48 : decode cX9_playsWith 48 = .ok (.invokevirtual 241, 3) := by decide +kernel
theorem dX9_playsWith_51 : decode cX9_playsWith 51 = .ok (.ireturn, 1) := by decide +kernel
set_option maxRecDepth 20000 in
theorem ggX9_shots_X9_isPoint : GoodIn wsX9_shots wsX9_isPoint := goodIn_r _ [6] (by decide +kernel) (by decide +kernel)
set_option maxRecDepth 20000 in
theorem gX9_shots_X9_isPoint : GoodIn wsX9_shots (va_wsS RX9 203 yX9_isPoint wsX9_isPoint) := goodIn_app (goodIn_of _ (by decide +kernel)) ggX9_shots_X9_isPoint
set_option maxRecDepth 20000 in
theorem ggX9_shots_X9_shotsRollByRoll : GoodIn wsX9_shots wsX9_shotsRollByRoll := goodIn_r _ [10, 11, 12, 13, 14, 15, 16, 17, 18, 19, 20, 21, 22, 23, 24, 25, 26, 27, 28, 29, 30, 31, 32, 33, 34, 35, 36, 37, 38, 39, 40, 41, 42, 43, 44, 45, 46, 47, 48, 49, 50, 51, 52, 53, 54, 55, 56, 57, 58, 59, 60, 61, 62, 63, 64, 65, 66, 67, 68, 69, 70, 71, 72, 73, 74, 75, 76, 77, 78, 79, 80, 81, 82, 83, 84, 85, 86, 87] (by decide +kernel) (by decide +kernel)
set_option maxRecDepth 20000 in
theorem gX9_shots_X9_shotsRollByRoll : GoodIn wsX9_shots (wsV RX9 248 RX9 yX9_shotsRollByRoll wsX9_shotsRollByRoll) := goodIn_app (goodIn_of _ (by decide +kernel)) ggX9_shots_X9_shotsRollByRoll
theorem dX9_shots_0 : decode cX9_shots 0 = .ok (.iload_n 1, 1) := by decide +kernel
theorem dX9_shots_1 : decode cX9_shots 1 = .ok (.invokestatic 203, 3) := by decide +kernel
theorem dX9_shots_4 : decode cX9_shots 4 = .ok (.ifCond .ne 11, 3) := by decide +kernel
theorem dX9_shots_7 : decode cX9_shots 7 = .ok (.new 72, 3) := by decide +kernel
theorem dX9_shots_10 : decode cX9_shots 10 = .ok (.dup, 1) := by decide +kernel
theorem dX9_shots_11 : decode cX9_shots 11 = .ok (.invokespecial 74, 3) := by decide +kernel
theorem dX9_shots_14 : decode cX9_shots 14 = .ok (.athrow, 1) := by decide +kernel
theorem dX9_shots_15 : decode cX9_shots 15 = .ok (.aload_n 0, 1) := by decide +kernel
theorem dX9_shots_16 : decode cX9_shots 16 = .ok (.iload_n 1, 1) := by decide +kernel
theorem dX9_shots_17 : decode cX9_shots 17 = .ok (.invokevirtual 248, 3) := by decide +kernel
theorem dX9_shots_20 : decode cX9_shots 20 = .ok (.ireturn, 1) := by decide +kernel
set_option maxRecDepth 20000 in
theorem ggX9_shotsByKinds_X9_isPoint : GoodIn wsX9_shotsByKinds wsX9_isPoint := goodIn_r _ [6] (by decide +kernel) (by decide +kernel)
set_option maxRecDepth 20000 in
theorem gX9_shotsByKinds_X9_isPoint : GoodIn wsX9_shotsByKinds (va_wsS RX9 203 yX9_isPoint wsX9_isPoint) := goodIn_app (goodIn_of _ (by decide +kernel)) ggX9_shotsByKinds_X9_isPoint
set_option maxRecDepth 20000 in
theorem ggX9_shotsByKinds_X9_shotsKindByKind : GoodIn wsX9_shotsByKinds wsX9_shotsKindByKind := goodIn_r _ [10, 11, 12, 13, 14, 15, 16, 17, 18, 19, 20, 21, 22, 23, 24, 25, 26, 27, 28, 29, 30, 31, 32, 33, 34, 35, 36, 37, 38, 39, 40, 41, 42, 43, 44, 45, 46, 47, 48, 49, 50, 51, 52, 53, 54, 55, 56, 57, 58, 59, 60, 61, 62, 63, 64, 65, 66, 67, 68, 69, 70, 71, 72, 73, 74, 75, 76, 77, 78, 79, 80, 81, 82, 83, 84, 85, 86, 87] (by decide +kernel) (by decide +kernel)
set_option maxRecDepth 20000 in
theorem gX9_shotsByKinds_X9_shotsKindByKind : GoodIn wsX9_shotsByKinds (wsV RX9 251 RX9 yX9_shotsKindByKind wsX9_shotsKindByKind) := goodIn_app (goodIn_of _ (by decide +kernel)) ggX9_shotsByKinds_X9_shotsKindByKind
theorem dX9_shotsByKinds_0 : decode cX9_shotsByKinds 0 = .ok (.iload_n 1, 1) := by decide +kernel
theorem dX9_shotsByKinds_1 : decode cX9_shotsByKinds 1 = .ok (.invokestatic 203, 3) := by decide +kernel
theorem dX9_shotsByKinds_4 : decode cX9_shotsByKinds 4 = .ok (.ifCond .ne 11, 3) := by decide +kernel
theorem dX9_shotsByKinds_7 : decode cX9_shotsByKinds 7 = .ok (.new 72, 3) := by decide +kernel
theorem dX9_shotsByKinds_10 : decode cX9_shotsByKinds 10 = .ok (.dup, 1) := by decide +kernel
theorem dX9_shotsByKinds_11 : decode cX9_shotsByKinds 11 = .ok (.invokespecial 74, 3) := by decide +kernel
theorem dX9_shotsByKinds_14 : decode cX9_shotsByKinds 14 = .ok (.athrow, 1) := by decide +kernel
theorem dX9_shotsByKinds_15 : decode cX9_shotsByKinds 15 = .ok (.aload_n 0, 1) := by decide +kernel
theorem dX9_shotsByKinds_16 : decode cX9_shotsByKinds 16 = .ok (.iload_n 1, 1) := by decide +kernel
theorem dX9_shotsByKinds_17 : decode cX9_shotsByKinds 17 = .ok (.invokevirtual 251, 3) := by decide +kernel
theorem dX9_shotsByKinds_20 : decode cX9_shotsByKinds 20 = .ok (.ireturn, 1) := by decide +kernel
set_option maxRecDepth 20000 in
theorem ggX9_entering_X9_isPlayer : GoodIn wsX9_entering wsX9_isPlayer := goodIn_r _ [7] (by decide +kernel) (by decide +kernel)
set_option maxRecDepth 20000 in
theorem gX9_entering_X9_isPlayer : GoodIn wsX9_entering (va_wsS RX9 92 yX9_isPlayer wsX9_isPlayer) := goodIn_app (goodIn_of _ (by decide +kernel)) ggX9_entering_X9_isPlayer
set_option maxRecDepth 20000 in
theorem ggX9_entering_X1_piecesOf : GoodIn wsX9_entering wsX1_piecesOf := goodIn_r _ [12, 13, 14, 27, 28, 29, 30, 31, 32, 33, 34, 35, 36, 37, 38, 39] (by decide +kernel) (by decide +kernel)
set_option maxRecDepth 20000 in
theorem gX9_entering_X1_piecesOf : GoodIn wsX9_entering (wsV RX9 106 RX1 yX1_piecesOf wsX1_piecesOf) := goodIn_app (goodIn_of _ (by decide +kernel)) ggX9_entering_X1_piecesOf
set_option maxRecDepth 20000 in
theorem ggX9_entering_X6_rollsThatEnter : GoodIn wsX9_entering wsX6_rollsThatEnter := goodIn_r _ [18, 19, 20, 21, 22] (by decide +kernel) (by decide +kernel)
set_option maxRecDepth 20000 in
theorem gX9_entering_X6_rollsThatEnter : GoodIn wsX9_entering (va_wsS RX9 254 yX6_rollsThatEnter wsX6_rollsThatEnter) := goodIn_app (goodIn_of _ (by decide +kernel)) ggX9_entering_X6_rollsThatEnter
theorem dX9_entering_0 : decode cX9_entering 0 = .ok (.iload_n 1, 1) := by decide +kernel
theorem dX9_entering_1 : decode cX9_entering 1 = .ok (.invokestatic 92, 3) := by decide +kernel
theorem dX9_entering_4 : decode cX9_entering 4 = .ok (.ifCond .ne 11, 3) := by decide +kernel
theorem dX9_entering_7 : decode cX9_entering 7 = .ok (.new 72, 3) := by decide +kernel
theorem dX9_entering_10 : decode cX9_entering 10 = .ok (.dup, 1) := by decide +kernel
theorem dX9_entering_11 : decode cX9_entering 11 = .ok (.invokespecial 74, 3) := by decide +kernel
theorem dX9_entering_14 : decode cX9_entering 14 = .ok (.athrow, 1) := by decide +kernel
theorem dX9_entering_15 : decode cX9_entering 15 = .ok (.aload_n 0, 1) := by decide +kernel
theorem dX9_entering_16 : decode cX9_entering 16 = .ok (.getfield 10, 3) := by decide +kernel
theorem dX9_entering_19 : decode cX9_entering 19 = .ok (.iconst 1, 1) := by decide +kernel
theorem dX9_entering_20 : decode cX9_entering 20 = .ok (.iload_n 1, 1) := by decide +kernel
theorem dX9_entering_21 : decode cX9_entering 21 = .ok (.isub, 1) := by decide +kernel
theorem dX9_entering_22 : decode cX9_entering 22 = .ok (.invokevirtual 106, 3) := by decide +kernel
theorem dX9_entering_25 : decode cX9_entering 25 = .ok (.invokestatic 254, 3) := by decide +kernel
theorem dX9_entering_28 : decode cX9_entering 28 = .ok (.ireturn, 1) := by decide +kernel
set_option maxRecDepth 20000 in
theorem ggX9_blotsBehind_X9_isPointOrBar : GoodIn wsX9_blotsBehind wsX9_isPointOrBar := goodIn_r _ [12, 13, 14, 11, 15] (by decide +kernel) (by decide +kernel)
set_option maxRecDepth 20000 in
theorem gX9_blotsBehind_X9_isPointOrBar : GoodIn wsX9_blotsBehind (va_wsS RX9 69 yX9_isPointOrBar wsX9_isPointOrBar) := goodIn_app (goodIn_of _ (by decide +kernel)) ggX9_blotsBehind_X9_isPointOrBar
set_option maxRecDepth 20000 in
theorem ggX9_blotsBehind_X0_isDie : GoodIn wsX9_blotsBehind wsX0_isDie := goodIn_r _ [19] (by decide +kernel) (by decide +kernel)
set_option maxRecDepth 20000 in
theorem gX9_blotsBehind_X0_isDie : GoodIn wsX9_blotsBehind (va_wsS RX9 37 yX0_isDie wsX0_isDie) := goodIn_app (goodIn_of _ (by decide +kernel)) ggX9_blotsBehind_X0_isDie
set_option maxRecDepth 20000 in
theorem ggX9_blotsBehind_X1_reasonAgainst : GoodIn wsX9_blotsBehind wsX1_reasonAgainst := goodIn_r _ [24, 25, 26, 27, 28, 29, 23, 30, 31, 32, 33, 34, 35, 36, 37, 38, 39, 40, 41, 42, 43, 44, 45, 46, 47, 48, 49, 50, 51, 52, 53, 54, 55, 56, 18, 57, 58, 59, 60, 61, 62, 63, 64, 65, 66, 67, 68, 69, 70, 71, 72, 73, 74, 75, 76, 77, 78, 79, 80, 81, 82, 83, 84, 85, 86, 87, 88, 89, 90, 91, 92, 93, 94, 95, 96, 97, 98, 99, 100, 101, 102, 103, 115, 116, 117, 118, 119, 120, 121, 122, 123, 124, 125, 126, 127] (by decide +kernel) (by decide +kernel)
set_option maxRecDepth 20000 in
theorem gX9_blotsBehind_X1_reasonAgainst : GoodIn wsX9_blotsBehind (wsV RX9 75 RX1 yX1_reasonAgainst wsX1_reasonAgainst) := goodIn_app (goodIn_of _ (by decide +kernel)) ggX9_blotsBehind_X1_reasonAgainst
set_option maxRecDepth 20000 in
theorem ggX9_blotsBehind_X1_wayOf : GoodIn wsX9_blotsBehind wsX1_wayOf := goodIn_r _ [43] (by decide +kernel) (by decide +kernel)
set_option maxRecDepth 20000 in
theorem gX9_blotsBehind_X1_wayOf : GoodIn wsX9_blotsBehind (va_wsS RX9 259 yX1_wayOf wsX1_wayOf) := goodIn_app (goodIn_of _ (by decide +kernel)) ggX9_blotsBehind_X1_wayOf
set_option maxRecDepth 20000 in
theorem ggX9_blotsBehind_X1_moversPieces : GoodIn wsX9_blotsBehind wsX1_moversPieces := goodIn_r _ [30, 26, 31, 32, 33, 23, 34, 35, 36, 115, 116, 117, 118, 119, 120, 121, 122, 123, 124, 125, 126, 127] (by decide +kernel) (by decide +kernel)
set_option maxRecDepth 20000 in
theorem gX9_blotsBehind_X1_moversPieces : GoodIn wsX9_blotsBehind (wsV RX9 225 RX1 yX1_moversPieces wsX1_moversPieces) := goodIn_app (goodIn_of _ (by decide +kernel)) ggX9_blotsBehind_X1_moversPieces
set_option maxRecDepth 20000 in
theorem ggX9_blotsBehind_X7_mineBehind : GoodIn wsX9_blotsBehind wsX7_mineBehind := goodIn_r _ [83, 51, 52, 53, 54, 84, 85, 73, 86] (by decide +kernel) (by decide +kernel)
set_option maxRecDepth 20000 in
theorem gX9_blotsBehind_X7_mineBehind : GoodIn wsX9_blotsBehind (va_wsS RX9 262 yX7_mineBehind wsX7_mineBehind) := goodIn_app (goodIn_of _ (by decide +kernel)) ggX9_blotsBehind_X7_mineBehind
set_option maxRecDepth 20000 in
theorem ggX9_blotsBehind_X3_singles : GoodIn wsX9_blotsBehind wsX3_singles := goodIn_r _ [109, 110, 72, 73, 74] (by decide +kernel) (by decide +kernel)
set_option maxRecDepth 20000 in
theorem gX9_blotsBehind_X3_singles : GoodIn wsX9_blotsBehind (va_wsS RX9 213 yX3_singles wsX3_singles) := goodIn_app (goodIn_of _ (by decide +kernel)) ggX9_blotsBehind_X3_singles
theorem dX9_blotsBehind_0 : decode cX9_blotsBehind 0 = .ok (.iload_n 1, 1) := by decide +kernel
theorem dX9_blotsBehind_1 : decode cX9_blotsBehind 1 = .ok (.invokestatic 69, 3) := by decide +kernel
theorem dX9_blotsBehind_4 : decode cX9_blotsBehind 4 = .ok (.ifCond .ne 11, 3) := by decide +kernel
theorem dX9_blotsBehind_7 : decode cX9_blotsBehind 7 = .ok (.new 72, 3) := by decide +kernel
theorem dX9_blotsBehind_10 : decode cX9_blotsBehind 10 = .ok (.dup, 1) := by decide +kernel
theorem dX9_blotsBehind_11 : decode cX9_blotsBehind 11 = .ok (.invokespecial 74, 3) := by decide +kernel
theorem dX9_blotsBehind_14 : decode cX9_blotsBehind 14 = .ok (.athrow, 1) := by decide +kernel
theorem dX9_blotsBehind_15 : decode cX9_blotsBehind 15 = .ok (.iload_n 2, 1) := by decide +kernel
theorem dX9_blotsBehind_16 : decode cX9_blotsBehind 16 = .ok (.invokestatic 37, 3) := by decide +kernel
theorem dX9_blotsBehind_19 : decode cX9_blotsBehind 19 = .ok (.ifCond .ne 11, 3) := by decide +kernel
theorem dX9_blotsBehind_22 : decode cX9_blotsBehind 22 = .ok (.new 43, 3) := by decide +kernel
theorem dX9_blotsBehind_25 : decode cX9_blotsBehind 25 = .ok (.dup, 1) := by decide +kernel
theorem dX9_blotsBehind_26 : decode cX9_blotsBehind 26 = .ok (.invokespecial 45, 3) := by decide +kernel
theorem dX9_blotsBehind_29 : decode cX9_blotsBehind 29 = .ok (.athrow, 1) := by decide +kernel
theorem dX9_blotsBehind_30 : decode cX9_blotsBehind 30 = .ok (.aload_n 0, 1) := by decide +kernel
theorem dX9_blotsBehind_31 : decode cX9_blotsBehind 31 = .ok (.getfield 10, 3) := by decide +kernel
theorem dX9_blotsBehind_34 : decode cX9_blotsBehind 34 = .ok (.iload_n 1, 1) := by decide +kernel
theorem dX9_blotsBehind_35 : decode cX9_blotsBehind 35 = .ok (.iload_n 2, 1) := by decide +kernel
theorem dX9_blotsBehind_36 : decode cX9_blotsBehind 36 = .ok (.invokevirtual 75, 3) := by decide +kernel
theorem dX9_blotsBehind_39 : decode cX9_blotsBehind 39 = .ok (.ifCond .eq 11, 3) := by decide +kernel
theorem dX9_blotsBehind_42 : decode cX9_blotsBehind 42 = .ok (.new 50, 3) := by decide +kernel
theorem dX9_blotsBehind_45 : decode cX9_blotsBehind 45 = .ok (.dup, 1) := by decide +kernel
theorem dX9_blotsBehind_46 : decode cX9_blotsBehind 46 = .ok (.invokespecial 52, 3) := by decide +kernel
theorem dX9_blotsBehind_49 : decode cX9_blotsBehind 49 = .ok (.athrow, 1) := by decide +kernel
theorem dX9_blotsBehind_50 : decode cX9_blotsBehind 50 = .ok (.aload_n 0, 1) := by decide +kernel
theorem dX9_blotsBehind_51 : decode cX9_blotsBehind 51 = .ok (.getfield 10, 3) := by decide +kernel
theorem dX9_blotsBehind_54 : decode cX9_blotsBehind 54 = .ok (.getfield 89, 3) := by decide +kernel
theorem dX9_blotsBehind_57 : decode cX9_blotsBehind 57 = .ok (.iload_n 1, 1) := by decide +kernel
theorem dX9_blotsBehind_58 : decode cX9_blotsBehind 58 = .ok (.invokestatic 259, 3) := by decide +kernel
theorem dX9_blotsBehind_61 : decode cX9_blotsBehind 61 = .ok (.istore_n 3, 1) := by decide +kernel
theorem dX9_blotsBehind_62 : decode cX9_blotsBehind 62 = .ok (.aload_n 0, 1) := by decide +kernel
theorem dX9_blotsBehind_63 : decode cX9_blotsBehind 63 = .ok (.getfield 10, 3) := by decide +kernel
theorem dX9_blotsBehind_66 : decode cX9_blotsBehind 66 = .ok (.invokevirtual 225, 3) := by decide +kernel
theorem dX9_blotsBehind_69 : decode cX9_blotsBehind 69 = .ok (.iload_n 3, 1) := by decide +kernel
theorem dX9_blotsBehind_70 : decode cX9_blotsBehind 70 = .ok (.iload_n 2, 1) := by decide +kernel
theorem dX9_blotsBehind_71 : decode cX9_blotsBehind 71 = .ok (.invokestatic 262, 3) := by decide +kernel
theorem dX9_blotsBehind_74 : decode cX9_blotsBehind 74 = .ok (.invokestatic 213, 3) := by decide +kernel
theorem dX9_blotsBehind_77 : decode cX9_blotsBehind 77 = .ok (.ireturn, 1) := by decide +kernel
set_option maxRecDepth 20000 in
theorem ggX9_lead_X9_shareOfMover : GoodIn wsX9_lead wsX9_shareOfMover := goodIn_r _ [5, 6, 7, 8, 9, 10, 11, 12, 13, 14, 15, 16, 17, 18, 19, 20, 21, 22, 23, 24, 25, 26, 27, 28, 29, 30, 31, 32, 33, 34, 35, 36, 37, 38, 39, 40, 41, 42, 43, 44, 45, 46, 47] (by decide +kernel) (by decide +kernel)
set_option maxRecDepth 20000 in
theorem gX9_lead_X9_shareOfMover : GoodIn wsX9_lead (wsV RX9 266 RX9 yX9_shareOfMover wsX9_shareOfMover) := goodIn_app (goodIn_of _ (by decide +kernel)) ggX9_lead_X9_shareOfMover
theorem dX9_lead_0 : decode cX9_lead 0 = .ok (.aload_n 0, 1) := by decide +kernel
theorem dX9_lead_1 : decode cX9_lead 1 = .ok (.invokevirtual 266, 3) := by decide +kernel
theorem dX9_lead_4 : decode cX9_lead 4 = .ok (.dreturn, 1) := by decide +kernel
set_option maxRecDepth 20000 in
theorem ggX9_digest_X1_moversPieces : GoodIn wsX9_digest wsX1_moversPieces := goodIn_r _ [13, 14, 15, 16, 17, 12, 18, 19, 20, 267, 268, 269, 270, 271, 272, 273, 274, 275, 276, 277, 278, 279] (by decide +kernel) (by decide +kernel)
set_option maxRecDepth 20000 in
theorem gX9_digest_X1_moversPieces : GoodIn wsX9_digest (wsV RX9 225 RX1 yX1_moversPieces wsX1_moversPieces) := goodIn_app (goodIn_of _ (by decide +kernel)) ggX9_digest_X1_moversPieces
set_option maxRecDepth 20000 in
theorem ggX9_digest_X1_othersPieces : GoodIn wsX9_digest wsX1_othersPieces := goodIn_r _ [24, 14, 15, 16, 17, 12, 18, 19, 20, 267, 268, 269, 270, 271, 272, 273, 274, 275, 276, 277, 278, 279] (by decide +kernel) (by decide +kernel)
set_option maxRecDepth 20000 in
theorem gX9_digest_X1_othersPieces : GoodIn wsX9_digest (wsV RX9 229 RX1 yX1_othersPieces wsX1_othersPieces) := goodIn_app (goodIn_of _ (by decide +kernel)) ggX9_digest_X1_othersPieces
set_option maxRecDepth 20000 in
theorem ggX9_digest_X9_addTurn : GoodIn wsX9_digest wsX9_addTurn := goodIn_r _ [29, 1, 30, 31, 3, 32, 33, 34, 35, 28, 36, 37, 38, 39, 40, 41, 42, 43, 44, 45, 263, 264, 265, 266, 267, 268, 269, 270, 271, 272, 273, 274, 275, 276, 277, 278, 279] (by decide +kernel) (by decide +kernel)
set_option maxRecDepth 20000 in
theorem gX9_digest_X9_addTurn : GoodIn wsX9_digest (wsV RX9 272 RX9 yX9_addTurn wsX9_addTurn) := goodIn_app (goodIn_of _ (by decide +kernel)) ggX9_digest_X9_addTurn
set_option maxRecDepth 20000 in
theorem ggX9_digest_X7_countPossible : GoodIn wsX9_digest wsX7_countPossible := goodIn_r _ [49, 50, 51, 48, 52, 53, 54, 55, 56, 57, 39, 40, 41, 42, 43, 44, 58, 59, 60, 61, 62, 63, 64, 65, 66, 67, 68, 69, 70, 71, 72, 73, 74, 75, 76, 77, 78, 79, 80, 81, 82, 83, 84, 85, 86, 87, 88, 89, 90, 91, 92, 93, 94, 95, 96, 97, 98, 99] (by decide +kernel) (by decide +kernel)
set_option maxRecDepth 20000 in
theorem gX9_digest_X7_countPossible : GoodIn wsX9_digest (va_wsS RX9 232 yX7_countPossible wsX7_countPossible) := goodIn_app (goodIn_of _ (by decide +kernel)) ggX9_digest_X7_countPossible
set_option maxRecDepth 20000 in
theorem ggX9_digest_X9_added : GoodIn wsX9_digest wsX9_added := goodIn_r _ [36, 37] (by decide +kernel) (by decide +kernel)
set_option maxRecDepth 20000 in
theorem gX9_digest_X9_added : GoodIn wsX9_digest (va_wsS RX9 276 yX9_added wsX9_added) := goodIn_app (goodIn_of _ (by decide +kernel)) ggX9_digest_X9_added
set_option maxRecDepth 20000 in
theorem ggX9_digest_X1_reachNow : GoodIn wsX9_digest wsX1_reachNow := goodIn_r _ [103, 104, 105, 10, 11, 12, 13, 14, 15, 16, 17, 18, 19, 20, 106, 22, 23, 24, 51, 48, 52, 53, 54, 55, 56, 57, 39, 40, 41, 42, 43, 44, 58, 59, 60, 61, 62, 63, 64, 65, 66, 67, 68, 69, 70, 71, 72, 73, 74, 75, 76, 77, 78, 79, 80, 81, 82, 83, 84, 85, 86, 87, 88, 89, 50, 267, 268, 269, 270, 271, 272, 273, 274, 275, 276, 277, 278, 279] (by decide +kernel) (by decide +kernel)
set_option maxRecDepth 20000 in
theorem gX9_digest_X1_reachNow : GoodIn wsX9_digest (wsV RX9 238 RX1 yX1_reachNow wsX1_reachNow) := goodIn_app (goodIn_of _ (by decide +kernel)) ggX9_digest_X1_reachNow
set_option maxRecDepth 20000 in
theorem ggX9_digest_X4_countEnds : GoodIn wsX9_digest wsX4_countEnds := goodIn_r _ [111, 112, 113, 114, 115, 116, 117, 118, 119, 120, 121, 122, 123, 124, 125, 126, 127, 128, 129, 130, 40, 131, 132, 59, 60, 42, 43, 44, 133, 134, 135, 136, 137, 138, 139, 140, 141, 142, 143, 144, 145, 146, 147, 148, 149, 150, 151, 152, 153, 154, 110, 155, 51, 48, 52, 53, 54, 55, 56, 57, 39, 41, 58, 61, 62, 63, 64, 65, 66, 67, 68, 69, 70, 71, 72, 73, 74, 75, 76, 77, 78, 79, 80, 81, 82, 83, 84, 85, 86, 87, 88, 89, 50, 156, 157, 158, 91, 92, 93, 94, 95, 96, 97, 98, 99, 159, 160, 161, 284, 285, 286, 287, 288, 289, 290] (by decide +kernel) (by decide +kernel)
set_option maxRecDepth 20000 in
theorem gX9_digest_X4_countEnds : GoodIn wsX9_digest (wsV RX9 241 RX4 yX4_countEnds wsX4_countEnds) := goodIn_app (goodIn_of _ (by decide +kernel)) ggX9_digest_X4_countEnds
set_option maxRecDepth 20000 in
theorem ggX9_digest_X0_rolled : GoodIn wsX9_digest wsX0_rolled := goodIn_r _ [135] (by decide +kernel) (by decide +kernel)
set_option maxRecDepth 20000 in
theorem gX9_digest_X0_rolled : GoodIn wsX9_digest (va_wsS RX9 245 yX0_rolled wsX0_rolled) := goodIn_app (goodIn_of _ (by decide +kernel)) ggX9_digest_X0_rolled
set_option maxRecDepth 20000 in
theorem ggX9_digest_X9_addPlayer : GoodIn wsX9_digest wsX9_addPlayer := goodIn_r _ [166, 1, 167, 16, 17, 12, 18, 19, 20, 168, 69, 70, 71, 34, 35, 28, 36, 37, 169, 170, 171, 172, 173, 174, 175, 176, 177, 178, 179, 54, 55, 56, 180, 181, 182, 183, 184, 185, 186, 187, 188, 189, 190, 191, 192, 193, 194, 195, 196, 73, 74, 197, 198, 199, 200, 15, 201, 202, 203, 204, 263, 264, 265, 266, 267, 268, 269, 270, 271, 272, 273, 274, 275, 276, 277, 278, 279] (by decide +kernel) (by decide +kernel)
set_option maxRecDepth 20000 in
theorem gX9_digest_X9_addPlayer : GoodIn wsX9_digest (wsV RX9 280 RX9 yX9_addPlayer wsX9_addPlayer) := goodIn_app (goodIn_of _ (by decide +kernel)) ggX9_digest_X9_addPlayer
set_option maxRecDepth 20000 in
theorem ggX9_digest_X9_shotsRollByRoll : GoodIn wsX9_digest wsX9_shotsRollByRoll := goodIn_r _ [208, 1, 209, 210, 211, 12, 212, 213, 198, 199, 200, 15, 16, 17, 18, 19, 20, 201, 202, 203, 204, 69, 70, 71, 214, 167, 215, 216, 194, 217, 218, 134, 40, 135, 219, 220, 221, 222, 223, 224, 225, 226, 43, 44, 196, 73, 74, 227, 82, 83, 228, 229, 230, 231, 130, 131, 132, 59, 60, 42, 133, 263, 264, 265, 266, 267, 268, 269, 270, 271, 272, 273, 274, 275, 276, 277, 278, 279] (by decide +kernel) (by decide +kernel)
set_option maxRecDepth 20000 in
theorem gX9_digest_X9_shotsRollByRoll : GoodIn wsX9_digest (wsV RX9 248 RX9 yX9_shotsRollByRoll wsX9_shotsRollByRoll) := goodIn_app (goodIn_of _ (by decide +kernel)) ggX9_digest_X9_shotsRollByRoll
set_option maxRecDepth 20000 in
theorem ggX9_digest_X9_shotsKindByKind : GoodIn wsX9_digest wsX9_shotsKindByKind := goodIn_r _ [235, 1, 209, 210, 211, 12, 212, 213, 198, 199, 200, 15, 16, 17, 18, 19, 20, 201, 202, 203, 204, 69, 70, 71, 214, 167, 236, 237, 194, 238, 218, 134, 40, 135, 219, 220, 221, 222, 223, 224, 225, 226, 43, 44, 196, 73, 74, 227, 82, 83, 228, 229, 230, 231, 130, 131, 132, 59, 60, 42, 133, 263, 264, 265, 266, 267, 268, 269, 270, 271, 272, 273, 274, 275, 276, 277, 278, 279] (by decide +kernel) (by decide +kernel)
set_option maxRecDepth 20000 in
theorem gX9_digest_X9_shotsKindByKind : GoodIn wsX9_digest (wsV RX9 251 RX9 yX9_shotsKindByKind wsX9_shotsKindByKind) := goodIn_app (goodIn_of _ (by decide +kernel)) ggX9_digest_X9_shotsKindByKind
set_option maxRecDepth 20000 in
theorem ggX9_digest_X9_shareOfMover : GoodIn wsX9_digest wsX9_shareOfMover := goodIn_r _ [242, 1, 243, 9, 10, 11, 12, 13, 14, 15, 16, 17, 18, 19, 20, 169, 170, 70, 171, 172, 69, 71, 21, 22, 23, 24, 263, 264, 265, 266, 267, 268, 269, 270, 271, 272, 273, 274, 275, 276, 277, 278, 279] (by decide +kernel) (by decide +kernel)
set_option maxRecDepth 20000 in
theorem gX9_digest_X9_shareOfMover : GoodIn wsX9_digest (wsV RX9 266 RX9 yX9_shareOfMover wsX9_shareOfMover) := goodIn_app (goodIn_of _ (by decide +kernel)) ggX9_digest_X9_shareOfMover
set_option maxRecDepth 20000 in
theorem ggX9_digest_X9_bitsOf : GoodIn wsX9_digest wsX9_bitsOf := goodIn_r _ [246, 247, 248, 249] (by decide +kernel) (by decide +kernel)
set_option maxRecDepth 20000 in
theorem gX9_digest_X9_bitsOf : GoodIn wsX9_digest (va_wsS RX9 284 yX9_bitsOf wsX9_bitsOf) := goodIn_app (goodIn_of _ (by decide +kernel)) ggX9_digest_X9_bitsOf
set_option maxRecDepth 20000 in
theorem ggX9_digest_X9_addText : GoodIn wsX9_digest wsX9_addText := goodIn_r _ [253, 254, 255, 34, 35, 28, 36, 37, 256, 257, 258, 259, 260, 261, 262, 263, 264, 265, 266, 291, 292] (by decide +kernel) (by decide +kernel)
set_option maxRecDepth 20000 in
theorem gX9_digest_X9_addText : GoodIn wsX9_digest (wsV RX9 288 RX9 yX9_addText wsX9_addText) := goodIn_app (goodIn_of _ (by decide +kernel)) ggX9_digest_X9_addText
theorem dX9_digest_0 : decode cX9_digest 0 = .ok (.aload_n 0, 1) := by decide +kernel
theorem dX9_digest_1 : decode cX9_digest 1 = .ok (.getfield 10, 3) := by decide +kernel
theorem dX9_digest_4 : decode cX9_digest 4 = .ok (.invokevirtual 225, 3) := by decide +kernel
theorem dX9_digest_7 : decode cX9_digest 7 = .ok (.lstore_n 1, 1) := by decide +kernel
theorem dX9_digest_8 : decode cX9_digest 8 = .ok (.aload_n 0, 1) := by decide +kernel
theorem dX9_digest_9 : decode cX9_digest 9 = .ok (.getfield 10, 3) := by decide +kernel
theorem dX9_digest_12 : decode cX9_digest 12 = .ok (.invokevirtual 229, 3) := by decide +kernel
theorem dX9_digest_15 : decode cX9_digest 15 = .ok (.lstore_n 3, 1) := by decide +kernel
theorem dX9_digest_16 : decode cX9_digest 16 = .ok (.aload_n 0, 1) := by decide +kernel
theorem dX9_digest_17 : decode cX9_digest 17 = .ok (.ldc2_w 270, 3) := by decide +kernel
theorem dX9_digest_20 : decode cX9_digest 20 = .ok (.invokevirtual 272, 3) := by decide +kernel
theorem dX9_digest_23 : decode cX9_digest 23 = .ok (.lstore 5, 2) := by decide +kernel
theorem dX9_digest_25 : decode cX9_digest 25 = .ok (.lload 5, 2) := by decide +kernel
theorem dX9_digest_27 : decode cX9_digest 27 = .ok (.lload_n 1, 1) := by decide +kernel
theorem dX9_digest_28 : decode cX9_digest 28 = .ok (.lload_n 3, 1) := by decide +kernel
theorem dX9_digest_29 : decode cX9_digest 29 = .ok (.aload_n 0, 1) := by decide +kernel
theorem dX9_digest_30 : decode cX9_digest 30 = .ok (.getfield 10, 3) := by decide +kernel
theorem dX9_digest_33 : decode cX9_digest 33 = .ok (.getfield 61, 3) := by decide +kernel
theorem dX9_digest_36 : decode cX9_digest 36 = .ok (.invokestatic 232, 3) := by decide +kernel
theorem dX9_digest_39 : decode cX9_digest 39 = .ok (.i2l, 1) := by decide +kernel
theorem dX9_digest_40 : decode cX9_digest 40 = .ok (.invokestatic 276, 3) := by decide +kernel
theorem dX9_digest_43 : decode cX9_digest 43 = .ok (.lstore 5, 2) := by decide +kernel
theorem dX9_digest_45 : decode cX9_digest 45 = .ok (.lload 5, 2) := by decide +kernel
theorem dX9_digest_47 : decode cX9_digest 47 = .ok (.aload_n 0, 1) := by decide +kernel
theorem dX9_digest_48 : decode cX9_digest 48 = .ok (.getfield 10, 3) := by decide +kernel
theorem dX9_digest_51 : decode cX9_digest 51 = .ok (.invokevirtual 238, 3) := by decide +kernel
theorem dX9_digest_54 : decode cX9_digest 54 = .ok (.i2l, 1) := by decide +kernel
theorem dX9_digest_55 : decode cX9_digest 55 = .ok (.invokestatic 276, 3) := by decide +kernel
theorem dX9_digest_58 : decode cX9_digest 58 = .ok (.lstore 5, 2) := by decide +kernel
theorem dX9_digest_60 : decode cX9_digest 60 = .ok (.lload 5, 2) := by decide +kernel
theorem dX9_digest_62 : decode cX9_digest 62 = .ok (.aload_n 0, 1) := by decide +kernel
theorem dX9_digest_63 : decode cX9_digest 63 = .ok (.getfield 33, 3) := by decide +kernel
theorem dX9_digest_66 : decode cX9_digest 66 = .ok (.lload_n 1, 1) := by decide +kernel
theorem dX9_digest_67 : decode cX9_digest 67 = .ok (.lload_n 3, 1) := by decide +kernel
theorem dX9_digest_68 : decode cX9_digest 68 = .ok (.aload_n 0, 1) := by decide +kernel
theorem dX9_digest_69 : decode cX9_digest 69 = .ok (.getfield 10, 3) := by decide +kernel
theorem dX9_digest_72 : decode cX9_digest 72 = .ok (.getfield 61, 3) := by decide +kernel
theorem dX9_digest_75 : decode cX9_digest 75 = .ok (.iconst 0, 1) := by decide +kernel
theorem dX9_digest_76 : decode cX9_digest 76 = .ok (.invokevirtual 241, 3) := by decide +kernel
theorem dX9_digest_79 : decode cX9_digest 79 = .ok (.i2l, 1) := by decide +kernel
theorem dX9_digest_80 : decode cX9_digest 80 = .ok (.invokestatic 276, 3) := by decide +kernel
theorem dX9_digest_83 : decode cX9_digest 83 = .ok (.lstore 5, 2) := by decide +kernel
theorem dX9_digest_85 : decode cX9_digest 85 = .ok (.lload 5, 2) := by decide +kernel
theorem dX9_digest_87 : decode cX9_digest 87 = .ok (.aload_n 0, 1) := by decide +kernel
theorem dX9_digest_88 : decode cX9_digest 88 = .ok (.getfield 33, 3) := by decide +kernel
theorem dX9_digest_91 : decode cX9_digest 91 = .ok (.lload_n 1, 1) := by decide +kernel
theorem dX9_digest_92 : decode cX9_digest 92 = .ok (.lload_n 3, 1) := by decide +kernel
theorem dX9_digest_93 : decode cX9_digest 93 = .ok (.aload_n 0, 1) := by decide +kernel
theorem dX9_digest_94 : decode cX9_digest 94 = .ok (.getfield 10, 3) := by decide +kernel
theorem dX9_digest_97 : decode cX9_digest 97 = .ok (.getfield 61, 3) := by decide +kernel
theorem dX9_digest_100 : decode cX9_digest 100 = .ok (.iconst 1, 1) := by decide +kernel
theorem dX9_digest_101 : decode cX9_digest 101 = .ok (.invokevirtual 241, 3) := by decide +kernel
theorem dX9_digest_104 : decode cX9_digest 104 = .ok (.i2l, 1) := by decide +kernel
theorem dX9_digest_105 : decode cX9_digest 105 = .ok (.invokestatic 276, 3) := by decide +kernel
theorem dX9_digest_108 : decode cX9_digest 108 = .ok (.lstore 5, 2) := by decide +kernel
theorem dX9_digest_110 : decode cX9_digest 110 = .ok (.lload 5, 2) := by decide +kernel
theorem dX9_digest_112 : decode cX9_digest 112 = .ok (.aload_n 0, 1) := by decide +kernel
theorem dX9_digest_113 : decode cX9_digest 113 = .ok (.getfield 33, 3) := by decide +kernel
theorem dX9_digest_116 : decode cX9_digest 116 = .ok (.lload_n 1, 1) := by decide +kernel
theorem dX9_digest_117 : decode cX9_digest 117 = .ok (.lload_n 3, 1) := by decide +kernel
theorem dX9_digest_118 : decode cX9_digest 118 = .ok (.bipush 6, 2) := by decide +kernel
theorem dX9_digest_120 : decode cX9_digest 120 = .ok (.iconst 5, 1) := by decide +kernel
theorem dX9_digest_121 : decode cX9_digest 121 = .ok (.invokestatic 245, 3) := by decide +kernel
theorem dX9_digest_124 : decode cX9_digest 124 = .ok (.iconst 0, 1) := by decide +kernel
theorem dX9_digest_125 : decode cX9_digest 125 = .ok (.invokevirtual 241, 3) := by decide +kernel
theorem dX9_digest_128 : decode cX9_digest 128 = .ok (.i2l, 1) := by decide +kernel
theorem dX9_digest_129 : decode cX9_digest 129 = .ok (.invokestatic 276, 3) := by decide +kernel
theorem dX9_digest_132 : decode cX9_digest 132 = .ok (.lstore 5, 2) := by decide +kernel
theorem dX9_digest_134 : decode cX9_digest 134 = .ok (.lload 5, 2) := by decide +kernel
theorem dX9_digest_136 : decode cX9_digest 136 = .ok (.aload_n 0, 1) := by decide +kernel
theorem dX9_digest_137 : decode cX9_digest 137 = .ok (.getfield 19, 3) := by decide +kernel
theorem dX9_digest_140 : decode cX9_digest 140 = .ok (.getfield 183, 3) := by decide +kernel
theorem dX9_digest_143 : decode cX9_digest 143 = .ok (.i2l, 1) := by decide +kernel
theorem dX9_digest_144 : decode cX9_digest 144 = .ok (.invokestatic 276, 3) := by decide +kernel
theorem dX9_digest_147 : decode cX9_digest 147 = .ok (.lstore 5, 2) := by decide +kernel
theorem dX9_digest_149 : decode cX9_digest 149 = .ok (.aload_n 0, 1) := by decide +kernel
theorem dX9_digest_150 : decode cX9_digest 150 = .ok (.lload 5, 2) := by decide +kernel
theorem dX9_digest_152 : decode cX9_digest 152 = .ok (.iconst 0, 1) := by decide +kernel
theorem dX9_digest_153 : decode cX9_digest 153 = .ok (.invokevirtual 280, 3) := by decide +kernel
theorem dX9_digest_156 : decode cX9_digest 156 = .ok (.lstore 5, 2) := by decide +kernel
theorem dX9_digest_158 : decode cX9_digest 158 = .ok (.aload_n 0, 1) := by decide +kernel
theorem dX9_digest_159 : decode cX9_digest 159 = .ok (.lload 5, 2) := by decide +kernel
theorem dX9_digest_161 : decode cX9_digest 161 = .ok (.iconst 1, 1) := by decide +kernel
theorem dX9_digest_162 : decode cX9_digest 162 = .ok (.invokevirtual 280, 3) := by decide +kernel
theorem dX9_digest_165 : decode cX9_digest 165 = .ok (.lstore 5, 2) := by decide +kernel
theorem dX9_digest_167 : decode cX9_digest 167 = .ok (.iconst 0, 1) := by decide +kernel
theorem dX9_digest_168 : decode cX9_digest 168 = .ok (.istore 7, 2) := by decide +kernel
theorem dX9_digest_170 : decode cX9_digest 170 = .ok (.iload 7, 2) := by decide +kernel
theorem dX9_digest_172 : decode cX9_digest 172 = .ok (.bipush 16, 2) := by decide +kernel
theorem dX9_digest_174 : decode cX9_digest 174 = .ok (.if_icmp .ge 37, 3) := by decide +kernel
theorem dX9_digest_177 : decode cX9_digest 177 = .ok (.lload 5, 2) := by decide +kernel
theorem dX9_digest_179 : decode cX9_digest 179 = .ok (.aload_n 0, 1) := by decide +kernel
theorem dX9_digest_180 : decode cX9_digest 180 = .ok (.iload 7, 2) := by decide +kernel
theorem dX9_digest_182 : decode cX9_digest 182 = .ok (.invokevirtual 248, 3) := by decide +kernel
theorem dX9_digest_185 : decode cX9_digest 185 = .ok (.i2l, 1) := by decide +kernel
theorem dX9_digest_186 : decode cX9_digest 186 = .ok (.invokestatic 276, 3) := by decide +kernel
theorem dX9_digest_189 : decode cX9_digest 189 = .ok (.lstore 5, 2) := by decide +kernel
theorem dX9_digest_191 : decode cX9_digest 191 = .ok (.lload 5, 2) := by decide +kernel
theorem dX9_digest_193 : decode cX9_digest 193 = .ok (.aload_n 0, 1) := by decide +kernel
theorem dX9_digest_194 : decode cX9_digest 194 = .ok (.iload 7, 2) := by decide +kernel
theorem dX9_digest_196 : decode cX9_digest 196 = .ok (.invokevirtual 251, 3) := by decide +kernel
theorem dX9_digest_199 : decode cX9_digest 199 = .ok (.i2l, 1) := by decide +kernel
theorem dX9_digest_200 : decode cX9_digest 200 = .ok (.invokestatic 276, 3) := by decide +kernel
theorem dX9_digest_203 : decode cX9_digest 203 = .ok (.lstore 5, 2) := by decide +kernel
theorem dX9_digest_205 : decode cX9_digest 205 = .ok (.iinc 7 1, 3) := by decide +kernel
theorem dX9_digest_208 : decode cX9_digest 208 = .ok (.goto (-38), 3) := by decide +kernel
theorem dX9_digest_211 : decode cX9_digest 211 = .ok (.lload 5, 2) := by decide +kernel
theorem dX9_digest_213 : decode cX9_digest 213 = .ok (.aload_n 0, 1) := by decide +kernel
theorem dX9_digest_214 : decode cX9_digest 214 = .ok (.getfield 10, 3) := by decide +kernel
theorem dX9_digest_217 : decode cX9_digest 217 = .ok (.getfield 176, 3) := by decide +kernel
theorem dX9_digest_220 : decode cX9_digest 220 = .ok (.ifCond .eq 7, 3) := by decide +kernel
theorem dX9_digest_223 : decode cX9_digest 223 = .ok (.lconst 1, 1) := by decide +kernel
theorem dX9_digest_224 : decode cX9_digest 224 = .ok (.goto 4, 3) := by decide +kernel
theorem dX9_digest_227 : decode cX9_digest 227 = .ok (.lconst 0, 1) := by decide +kernel
theorem dX9_digest_228 : decode cX9_digest 228 = .ok (.invokestatic 276, 3) := by decide +kernel
theorem dX9_digest_231 : decode cX9_digest 231 = .ok (.lstore 5, 2) := by decide +kernel
theorem dX9_digest_233 : decode cX9_digest 233 = .ok (.aload_n 0, 1) := by decide +kernel
theorem dX9_digest_234 : decode cX9_digest 234 = .ok (.getfield 10, 3) := by decide +kernel
theorem dX9_digest_237 : decode cX9_digest 237 = .ok (.getfield 176, 3) := by decide +kernel
theorem dX9_digest_240 : decode cX9_digest 240 = .ok (.ifCond .eq 18, 3) := by decide +kernel
theorem dX9_digest_243 : decode cX9_digest 243 = .ok (.lload 5, 2) := by decide +kernel
theorem dX9_digest_245 : decode cX9_digest 245 = .ok (.aload_n 0, 1) := by decide +kernel
theorem dX9_digest_246 : decode cX9_digest 246 = .ok (.getfield 10, 3) := by decide +kernel
theorem dX9_digest_249 : decode cX9_digest 249 = .ok (.getfield 180, 3) := by decide +kernel
theorem dX9_digest_252 : decode cX9_digest 252 = .ok (.i2l, 1) := by decide +kernel
theorem dX9_digest_253 : decode cX9_digest 253 = .ok (.invokestatic 276, 3) := by decide +kernel
theorem dX9_digest_256 : decode cX9_digest 256 = .ok (.lstore 5, 2) := by decide +kernel
theorem dX9_digest_258 : decode cX9_digest 258 = .ok (.lload 5, 2) := by decide +kernel
theorem dX9_digest_260 : decode cX9_digest 260 = .ok (.aload_n 0, 1) := by decide +kernel
theorem dX9_digest_261 : decode cX9_digest 261 = .ok (.invokevirtual 266, 3) := by decide +kernel
theorem dX9_digest_264 : decode cX9_digest 264 = .ok (.invokestatic 284, 3) := by decide +kernel
theorem dX9_digest_267 : decode cX9_digest 267 = .ok (.invokestatic 276, 3) := by decide +kernel
theorem dX9_digest_270 : decode cX9_digest 270 = .ok (.lstore 5, 2) := by decide +kernel
theorem dX9_digest_272 : decode cX9_digest 272 = .ok (.aload_n 0, 1) := by decide +kernel
theorem dX9_digest_273 : decode cX9_digest 273 = .ok (.lload 5, 2) := by decide +kernel
theorem dX9_digest_275 : decode cX9_digest 275 = .ok (.invokevirtual 288, 3) := by decide +kernel
theorem dX9_digest_278 : decode cX9_digest 278 = .ok (.lreturn, 1) := by decide +kernel
theorem dX9_isPlayer_0 : decode cX9_isPlayer 0 = .ok (.iload_n 0, 1) := by decide +kernel
theorem dX9_isPlayer_1 : decode cX9_isPlayer 1 = .ok (.ifCond .eq 8, 3) := by decide +kernel
theorem dX9_isPlayer_4 : decode cX9_isPlayer 4 = .ok (.iload_n 0, 1) := by decide +kernel
theorem dX9_isPlayer_5 : decode cX9_isPlayer 5 = .ok (.iconst 1, 1) := by decide +kernel
theorem dX9_isPlayer_6 : decode cX9_isPlayer 6 = .ok (.if_icmp .ne 7, 3) := by decide +kernel
theorem dX9_isPlayer_9 : decode cX9_isPlayer 9 = .ok (.iconst 1, 1) := by decide +kernel
theorem dX9_isPlayer_10 : decode cX9_isPlayer 10 = .ok (.goto 4, 3) := by decide +kernel
theorem dX9_isPlayer_13 : decode cX9_isPlayer 13 = .ok (.iconst 0, 1) := by decide +kernel
theorem dX9_isPlayer_14 : decode cX9_isPlayer 14 = .ok (.ireturn, 1) := by decide +kernel
theorem dX9_isPoint_0 : decode cX9_isPoint 0 = .ok (.iload_n 0, 1) := by decide +kernel
theorem dX9_isPoint_1 : decode cX9_isPoint 1 = .ok (.ifCond .lt 13, 3) := by decide +kernel
theorem dX9_isPoint_4 : decode cX9_isPoint 4 = .ok (.iload_n 0, 1) := by decide +kernel
theorem dX9_isPoint_5 : decode cX9_isPoint 5 = .ok (.bipush 16, 2) := by decide +kernel
theorem dX9_isPoint_7 : decode cX9_isPoint 7 = .ok (.if_icmp .ge 7, 3) := by decide +kernel
theorem dX9_isPoint_10 : decode cX9_isPoint 10 = .ok (.iconst 1, 1) := by decide +kernel
theorem dX9_isPoint_11 : decode cX9_isPoint 11 = .ok (.goto 4, 3) := by decide +kernel
theorem dX9_isPoint_14 : decode cX9_isPoint 14 = .ok (.iconst 0, 1) := by decide +kernel
theorem dX9_isPoint_15 : decode cX9_isPoint 15 = .ok (.ireturn, 1) := by decide +kernel
set_option maxRecDepth 20000 in
theorem ggX9_isPointOrBar_X9_isPoint : GoodIn wsX9_isPointOrBar wsX9_isPoint := goodIn_r _ [4] (by decide +kernel) (by decide +kernel)
set_option maxRecDepth 20000 in
theorem gX9_isPointOrBar_X9_isPoint : GoodIn wsX9_isPointOrBar (va_wsS RX9 203 yX9_isPoint wsX9_isPoint) := goodIn_app (goodIn_of _ (by decide +kernel)) ggX9_isPointOrBar_X9_isPoint
theorem dX9_isPointOrBar_0 : decode cX9_isPointOrBar 0 = .ok (.iload_n 0, 1) := by decide +kernel
theorem dX9_isPointOrBar_1 : decode cX9_isPointOrBar 1 = .ok (.iconst (-1), 1) := by decide +kernel
theorem dX9_isPointOrBar_2 : decode cX9_isPointOrBar 2 = .ok (.if_icmp .eq 10, 3) := by decide +kernel
theorem dX9_isPointOrBar_5 : decode cX9_isPointOrBar 5 = .ok (.iload_n 0, 1) := by decide +kernel
theorem dX9_isPointOrBar_6 : decode cX9_isPointOrBar 6 = .ok (.invokestatic 203, 3) := by decide +kernel
theorem dX9_isPointOrBar_9 : decode cX9_isPointOrBar 9 = .ok (.ifCond .eq 7, 3) := by decide +kernel
theorem dX9_isPointOrBar_12 : decode cX9_isPointOrBar 12 = .ok (.iconst 1, 1) := by decide +kernel
theorem dX9_isPointOrBar_13 : decode cX9_isPointOrBar 13 = .ok (.goto 4, 3) := by decide +kernel
theorem dX9_isPointOrBar_16 : decode cX9_isPointOrBar 16 = .ok (.iconst 0, 1) := by decide +kernel
theorem dX9_isPointOrBar_17 : decode cX9_isPointOrBar 17 = .ok (.ireturn, 1) := by decide +kernel
set_option maxRecDepth 20000 in
theorem ggX9_isPlace_X9_isPointOrBar : GoodIn wsX9_isPlace wsX9_isPointOrBar := goodIn_r _ [4, 5, 6, 3, 7] (by decide +kernel) (by decide +kernel)
set_option maxRecDepth 20000 in
theorem gX9_isPlace_X9_isPointOrBar : GoodIn wsX9_isPlace (va_wsS RX9 69 yX9_isPointOrBar wsX9_isPointOrBar) := goodIn_app (goodIn_of _ (by decide +kernel)) ggX9_isPlace_X9_isPointOrBar
theorem dX9_isPlace_0 : decode cX9_isPlace 0 = .ok (.iload_n 0, 1) := by decide +kernel
theorem dX9_isPlace_1 : decode cX9_isPlace 1 = .ok (.invokestatic 69, 3) := by decide +kernel
theorem dX9_isPlace_4 : decode cX9_isPlace 4 = .ok (.ifCond .ne 9, 3) := by decide +kernel
theorem dX9_isPlace_7 : decode cX9_isPlace 7 = .ok (.iload_n 0, 1) := by decide +kernel
theorem dX9_isPlace_8 : decode cX9_isPlace 8 = .ok (.bipush 16, 2) := by decide +kernel
theorem dX9_isPlace_10 : decode cX9_isPlace 10 = .ok (.if_icmp .ne 7, 3) := by decide +kernel
theorem dX9_isPlace_13 : decode cX9_isPlace 13 = .ok (.iconst 1, 1) := by decide +kernel
theorem dX9_isPlace_14 : decode cX9_isPlace 14 = .ok (.goto 4, 3) := by decide +kernel
theorem dX9_isPlace_17 : decode cX9_isPlace 17 = .ok (.iconst 0, 1) := by decide +kernel
theorem dX9_isPlace_18 : decode cX9_isPlace 18 = .ok (.ireturn, 1) := by decide +kernel
set_option maxRecDepth 20000 in
theorem ggX9_shotsRollByRoll_X1_ownerOfBlot : GoodIn wsX9_shotsRollByRoll wsX1_ownerOfBlot := goodIn_r _ [6, 7, 8, 9, 5, 10, 11, 12, 13, 14, 15, 16, 17, 18, 19, 20, 21, 22, 23, 65, 66, 67, 68, 69, 70, 71, 72, 73, 74, 75, 76, 77] (by decide +kernel) (by decide +kernel)
set_option maxRecDepth 20000 in
theorem gX9_shotsRollByRoll_X1_ownerOfBlot : GoodIn wsX9_shotsRollByRoll (wsV RX9 291 RX1 yX1_ownerOfBlot wsX1_ownerOfBlot) := goodIn_app (goodIn_of _ (by decide +kernel)) ggX9_shotsRollByRoll_X1_ownerOfBlot
set_option maxRecDepth 20000 in
theorem ggX9_shotsRollByRoll_X1_wayOf : GoodIn wsX9_shotsRollByRoll wsX1_wayOf := goodIn_r _ [19] (by decide +kernel) (by decide +kernel)
set_option maxRecDepth 20000 in
theorem gX9_shotsRollByRoll_X1_wayOf : GoodIn wsX9_shotsRollByRoll (va_wsS RX9 259 yX1_wayOf wsX1_wayOf) := goodIn_app (goodIn_of _ (by decide +kernel)) ggX9_shotsRollByRoll_X1_wayOf
set_option maxRecDepth 20000 in
theorem ggX9_shotsRollByRoll_X1_piecesOf : GoodIn wsX9_shotsRollByRoll wsX1_piecesOf := goodIn_r _ [14, 15, 16, 65, 66, 67, 68, 69, 70, 71, 72, 73, 74, 75, 76, 77] (by decide +kernel) (by decide +kernel)
set_option maxRecDepth 20000 in
theorem gX9_shotsRollByRoll_X1_piecesOf : GoodIn wsX9_shotsRollByRoll (wsV RX9 106 RX1 yX1_piecesOf wsX1_piecesOf) := goodIn_app (goodIn_of _ (by decide +kernel)) ggX9_shotsRollByRoll_X1_piecesOf
set_option maxRecDepth 20000 in
theorem ggX9_shotsRollByRoll_X6_rollByRoll : GoodIn wsX9_shotsRollByRoll wsX6_rollByRoll := goodIn_r _ [29, 30, 31, 32, 33, 34, 35, 28, 36, 37, 38, 39, 40, 21, 22, 23, 41, 42, 43, 44, 45, 46, 47, 48, 49, 50, 51, 52, 53, 54, 55, 56, 57, 58, 59, 60] (by decide +kernel) (by decide +kernel)
set_option maxRecDepth 20000 in
theorem gX9_shotsRollByRoll_X6_rollByRoll : GoodIn wsX9_shotsRollByRoll (va_wsS RX9 294 yX6_rollByRoll wsX6_rollByRoll) := goodIn_app (goodIn_of _ (by decide +kernel)) ggX9_shotsRollByRoll_X6_rollByRoll
theorem dX9_shotsRollByRoll_0 : decode cX9_shotsRollByRoll 0 = .ok (.aload_n 0, 1) := by decide +kernel
theorem dX9_shotsRollByRoll_1 : decode cX9_shotsRollByRoll 1 = .ok (.getfield 10, 3) := by decide +kernel
theorem dX9_shotsRollByRoll_4 : decode cX9_shotsRollByRoll 4 = .ok (.iload_n 1, 1) := by decide +kernel
theorem dX9_shotsRollByRoll_5 : decode cX9_shotsRollByRoll 5 = .ok (.invokevirtual 291, 3) := by decide +kernel
theorem dX9_shotsRollByRoll_8 : decode cX9_shotsRollByRoll 8 = .ok (.istore_n 2, 1) := by decide +kernel
theorem dX9_shotsRollByRoll_9 : decode cX9_shotsRollByRoll 9 = .ok (.iload_n 2, 1) := by decide +kernel
theorem dX9_shotsRollByRoll_10 : decode cX9_shotsRollByRoll 10 = .ok (.ifCond .ge 5, 3) := by decide +kernel
theorem dX9_shotsRollByRoll_13 : decode cX9_shotsRollByRoll 13 = .ok (.iconst 0, 1) := by decide +kernel
theorem dX9_shotsRollByRoll_14 : decode cX9_shotsRollByRoll 14 = .ok (.ireturn, 1) := by decide +kernel
theorem dX9_shotsRollByRoll_15 : decode cX9_shotsRollByRoll 15 = .ok (.iconst 1, 1) := by decide +kernel
theorem dX9_shotsRollByRoll_16 : decode cX9_shotsRollByRoll 16 = .ok (.iload_n 2, 1) := by decide +kernel
theorem dX9_shotsRollByRoll_17 : decode cX9_shotsRollByRoll 17 = .ok (.isub, 1) := by decide +kernel
theorem dX9_shotsRollByRoll_18 : decode cX9_shotsRollByRoll 18 = .ok (.iload_n 1, 1) := by decide +kernel
theorem dX9_shotsRollByRoll_19 : decode cX9_shotsRollByRoll 19 = .ok (.invokestatic 259, 3) := by decide +kernel
theorem dX9_shotsRollByRoll_22 : decode cX9_shotsRollByRoll 22 = .ok (.istore_n 3, 1) := by decide +kernel
theorem dX9_shotsRollByRoll_23 : decode cX9_shotsRollByRoll 23 = .ok (.aload_n 0, 1) := by decide +kernel
theorem dX9_shotsRollByRoll_24 : decode cX9_shotsRollByRoll 24 = .ok (.getfield 10, 3) := by decide +kernel
theorem dX9_shotsRollByRoll_27 : decode cX9_shotsRollByRoll 27 = .ok (.iconst 1, 1) := by decide +kernel
theorem dX9_shotsRollByRoll_28 : decode cX9_shotsRollByRoll 28 = .ok (.iload_n 2, 1) := by decide +kernel
theorem dX9_shotsRollByRoll_29 : decode cX9_shotsRollByRoll 29 = .ok (.isub, 1) := by decide +kernel
theorem dX9_shotsRollByRoll_30 : decode cX9_shotsRollByRoll 30 = .ok (.invokevirtual 106, 3) := by decide +kernel
theorem dX9_shotsRollByRoll_33 : decode cX9_shotsRollByRoll 33 = .ok (.aload_n 0, 1) := by decide +kernel
theorem dX9_shotsRollByRoll_34 : decode cX9_shotsRollByRoll 34 = .ok (.getfield 10, 3) := by decide +kernel
theorem dX9_shotsRollByRoll_37 : decode cX9_shotsRollByRoll 37 = .ok (.iload_n 2, 1) := by decide +kernel
theorem dX9_shotsRollByRoll_38 : decode cX9_shotsRollByRoll 38 = .ok (.invokevirtual 106, 3) := by decide +kernel
theorem dX9_shotsRollByRoll_41 : decode cX9_shotsRollByRoll 41 = .ok (.iload_n 3, 1) := by decide +kernel
theorem dX9_shotsRollByRoll_42 : decode cX9_shotsRollByRoll 42 = .ok (.invokestatic 294, 3) := by decide +kernel
theorem dX9_shotsRollByRoll_45 : decode cX9_shotsRollByRoll 45 = .ok (.ireturn, 1) := by decide +kernel
set_option maxRecDepth 20000 in
theorem ggX9_shotsKindByKind_X1_ownerOfBlot : GoodIn wsX9_shotsKindByKind wsX1_ownerOfBlot := goodIn_r _ [6, 7, 8, 9, 5, 10, 11, 12, 13, 14, 15, 16, 17, 18, 19, 20, 21, 22, 23, 65, 66, 67, 68, 69, 70, 71, 72, 73, 74, 75, 76, 77] (by decide +kernel) (by decide +kernel)
set_option maxRecDepth 20000 in
theorem gX9_shotsKindByKind_X1_ownerOfBlot : GoodIn wsX9_shotsKindByKind (wsV RX9 291 RX1 yX1_ownerOfBlot wsX1_ownerOfBlot) := goodIn_app (goodIn_of _ (by decide +kernel)) ggX9_shotsKindByKind_X1_ownerOfBlot
set_option maxRecDepth 20000 in
theorem ggX9_shotsKindByKind_X1_wayOf : GoodIn wsX9_shotsKindByKind wsX1_wayOf := goodIn_r _ [19] (by decide +kernel) (by decide +kernel)
set_option maxRecDepth 20000 in
theorem gX9_shotsKindByKind_X1_wayOf : GoodIn wsX9_shotsKindByKind (va_wsS RX9 259 yX1_wayOf wsX1_wayOf) := goodIn_app (goodIn_of _ (by decide +kernel)) ggX9_shotsKindByKind_X1_wayOf
set_option maxRecDepth 20000 in
theorem ggX9_shotsKindByKind_X1_piecesOf : GoodIn wsX9_shotsKindByKind wsX1_piecesOf := goodIn_r _ [14, 15, 16, 65, 66, 67, 68, 69, 70, 71, 72, 73, 74, 75, 76, 77] (by decide +kernel) (by decide +kernel)
set_option maxRecDepth 20000 in
theorem gX9_shotsKindByKind_X1_piecesOf : GoodIn wsX9_shotsKindByKind (wsV RX9 106 RX1 yX1_piecesOf wsX1_piecesOf) := goodIn_app (goodIn_of _ (by decide +kernel)) ggX9_shotsKindByKind_X1_piecesOf
set_option maxRecDepth 20000 in
theorem ggX9_shotsKindByKind_X6_kindByKind : GoodIn wsX9_shotsKindByKind wsX6_kindByKind := goodIn_r _ [29, 30, 31, 32, 33, 34, 35, 28, 36, 37, 38, 39, 40, 21, 22, 23, 41, 42, 43, 44, 45, 46, 47, 48, 49, 50, 51, 52, 53, 54, 55, 56, 57, 58, 59, 60] (by decide +kernel) (by decide +kernel)
set_option maxRecDepth 20000 in
theorem gX9_shotsKindByKind_X6_kindByKind : GoodIn wsX9_shotsKindByKind (va_wsS RX9 297 yX6_kindByKind wsX6_kindByKind) := goodIn_app (goodIn_of _ (by decide +kernel)) ggX9_shotsKindByKind_X6_kindByKind
theorem dX9_shotsKindByKind_0 : decode cX9_shotsKindByKind 0 = .ok (.aload_n 0, 1) := by decide +kernel
theorem dX9_shotsKindByKind_1 : decode cX9_shotsKindByKind 1 = .ok (.getfield 10, 3) := by decide +kernel
theorem dX9_shotsKindByKind_4 : decode cX9_shotsKindByKind 4 = .ok (.iload_n 1, 1) := by decide +kernel
theorem dX9_shotsKindByKind_5 : decode cX9_shotsKindByKind 5 = .ok (.invokevirtual 291, 3) := by decide +kernel
theorem dX9_shotsKindByKind_8 : decode cX9_shotsKindByKind 8 = .ok (.istore_n 2, 1) := by decide +kernel
theorem dX9_shotsKindByKind_9 : decode cX9_shotsKindByKind 9 = .ok (.iload_n 2, 1) := by decide +kernel
theorem dX9_shotsKindByKind_10 : decode cX9_shotsKindByKind 10 = .ok (.ifCond .ge 5, 3) := by decide +kernel
theorem dX9_shotsKindByKind_13 : decode cX9_shotsKindByKind 13 = .ok (.iconst 0, 1) := by decide +kernel
theorem dX9_shotsKindByKind_14 : decode cX9_shotsKindByKind 14 = .ok (.ireturn, 1) := by decide +kernel
theorem dX9_shotsKindByKind_15 : decode cX9_shotsKindByKind 15 = .ok (.iconst 1, 1) := by decide +kernel
theorem dX9_shotsKindByKind_16 : decode cX9_shotsKindByKind 16 = .ok (.iload_n 2, 1) := by decide +kernel
theorem dX9_shotsKindByKind_17 : decode cX9_shotsKindByKind 17 = .ok (.isub, 1) := by decide +kernel
theorem dX9_shotsKindByKind_18 : decode cX9_shotsKindByKind 18 = .ok (.iload_n 1, 1) := by decide +kernel
theorem dX9_shotsKindByKind_19 : decode cX9_shotsKindByKind 19 = .ok (.invokestatic 259, 3) := by decide +kernel
theorem dX9_shotsKindByKind_22 : decode cX9_shotsKindByKind 22 = .ok (.istore_n 3, 1) := by decide +kernel
theorem dX9_shotsKindByKind_23 : decode cX9_shotsKindByKind 23 = .ok (.aload_n 0, 1) := by decide +kernel
theorem dX9_shotsKindByKind_24 : decode cX9_shotsKindByKind 24 = .ok (.getfield 10, 3) := by decide +kernel
theorem dX9_shotsKindByKind_27 : decode cX9_shotsKindByKind 27 = .ok (.iconst 1, 1) := by decide +kernel
theorem dX9_shotsKindByKind_28 : decode cX9_shotsKindByKind 28 = .ok (.iload_n 2, 1) := by decide +kernel
theorem dX9_shotsKindByKind_29 : decode cX9_shotsKindByKind 29 = .ok (.isub, 1) := by decide +kernel
theorem dX9_shotsKindByKind_30 : decode cX9_shotsKindByKind 30 = .ok (.invokevirtual 106, 3) := by decide +kernel
theorem dX9_shotsKindByKind_33 : decode cX9_shotsKindByKind 33 = .ok (.aload_n 0, 1) := by decide +kernel
theorem dX9_shotsKindByKind_34 : decode cX9_shotsKindByKind 34 = .ok (.getfield 10, 3) := by decide +kernel
theorem dX9_shotsKindByKind_37 : decode cX9_shotsKindByKind 37 = .ok (.iload_n 2, 1) := by decide +kernel
theorem dX9_shotsKindByKind_38 : decode cX9_shotsKindByKind 38 = .ok (.invokevirtual 106, 3) := by decide +kernel
theorem dX9_shotsKindByKind_41 : decode cX9_shotsKindByKind 41 = .ok (.iload_n 3, 1) := by decide +kernel
theorem dX9_shotsKindByKind_42 : decode cX9_shotsKindByKind 42 = .ok (.invokestatic 297, 3) := by decide +kernel
theorem dX9_shotsKindByKind_45 : decode cX9_shotsKindByKind 45 = .ok (.ireturn, 1) := by decide +kernel
set_option maxRecDepth 20000 in
theorem ggX9_shareOfMover_X1_moversPieces : GoodIn wsX9_shareOfMover wsX1_moversPieces := goodIn_r _ [7, 8, 9, 10, 11, 6, 12, 13, 14, 30, 31, 32, 33, 34, 35, 36, 37, 38, 39, 40, 41, 42] (by decide +kernel) (by decide +kernel)
set_option maxRecDepth 20000 in
theorem gX9_shareOfMover_X1_moversPieces : GoodIn wsX9_shareOfMover (wsV RX9 225 RX1 yX1_moversPieces wsX1_moversPieces) := goodIn_app (goodIn_of _ (by decide +kernel)) ggX9_shareOfMover_X1_moversPieces
set_option maxRecDepth 20000 in
theorem ggX9_shareOfMover_X3_sumOfWays : GoodIn wsX9_shareOfMover wsX3_sumOfWays := goodIn_r _ [18, 19, 20, 17, 21] (by decide +kernel) (by decide +kernel)
set_option maxRecDepth 20000 in
theorem gX9_shareOfMover_X3_sumOfWays : GoodIn wsX9_shareOfMover (va_wsS RX9 110 yX3_sumOfWays wsX3_sumOfWays) := goodIn_app (goodIn_of _ (by decide +kernel)) ggX9_shareOfMover_X3_sumOfWays
set_option maxRecDepth 20000 in
theorem ggX9_shareOfMover_X1_othersPieces : GoodIn wsX9_shareOfMover wsX1_othersPieces := goodIn_r _ [25, 8, 9, 10, 11, 6, 12, 13, 14, 30, 31, 32, 33, 34, 35, 36, 37, 38, 39, 40, 41, 42] (by decide +kernel) (by decide +kernel)
set_option maxRecDepth 20000 in
theorem gX9_shareOfMover_X1_othersPieces : GoodIn wsX9_shareOfMover (wsV RX9 229 RX1 yX1_othersPieces wsX1_othersPieces) := goodIn_app (goodIn_of _ (by decide +kernel)) ggX9_shareOfMover_X1_othersPieces
theorem dX9_shareOfMover_0 : decode cX9_shareOfMover 0 = .ok (.aload_n 0, 1) := by decide +kernel
theorem dX9_shareOfMover_1 : decode cX9_shareOfMover 1 = .ok (.getfield 10, 3) := by decide +kernel
theorem dX9_shareOfMover_4 : decode cX9_shareOfMover 4 = .ok (.invokevirtual 225, 3) := by decide +kernel
theorem dX9_shareOfMover_7 : decode cX9_shareOfMover 7 = .ok (.invokestatic 110, 3) := by decide +kernel
theorem dX9_shareOfMover_10 : decode cX9_shareOfMover 10 = .ok (.istore_n 1, 1) := by decide +kernel
theorem dX9_shareOfMover_11 : decode cX9_shareOfMover 11 = .ok (.aload_n 0, 1) := by decide +kernel
theorem dX9_shareOfMover_12 : decode cX9_shareOfMover 12 = .ok (.getfield 10, 3) := by decide +kernel
theorem dX9_shareOfMover_15 : decode cX9_shareOfMover 15 = .ok (.invokevirtual 229, 3) := by decide +kernel
theorem dX9_shareOfMover_18 : decode cX9_shareOfMover 18 = .ok (.invokestatic 110, 3) := by decide +kernel
theorem dX9_shareOfMover_21 : decode cX9_shareOfMover 21 = .ok (.istore_n 2, 1) := by decide +kernel
theorem dX9_shareOfMover_22 : decode cX9_shareOfMover 22 = .ok (.iload_n 1, 1) := by decide +kernel
theorem dX9_shareOfMover_23 : decode cX9_shareOfMover 23 = .ok (.iload_n 2, 1) := by decide +kernel
theorem dX9_shareOfMover_24 : decode cX9_shareOfMover 24 = .ok (.iadd, 1) := by decide +kernel
theorem dX9_shareOfMover_25 : decode cX9_shareOfMover 25 = .ok (.ifCond .ne 7, 3) := by decide +kernel
theorem dX9_shareOfMover_28 : decode cX9_shareOfMover 28 = .ok (.ldc2_w 300, 3) := by decide +kernel
theorem dX9_shareOfMover_31 : decode cX9_shareOfMover 31 = .ok (.dreturn, 1) := by decide +kernel
theorem dX9_shareOfMover_32 : decode cX9_shareOfMover 32 = .ok (.iload_n 2, 1) := by decide +kernel
theorem dX9_shareOfMover_33 : decode cX9_shareOfMover 33 = .ok (.i2d, 1) := by decide +kernel
theorem dX9_shareOfMover_34 : decode cX9_shareOfMover 34 = .ok (.iload_n 1, 1) := by decide +kernel
theorem dX9_shareOfMover_35 : decode cX9_shareOfMover 35 = .ok (.iload_n 2, 1) := by decide +kernel
theorem dX9_shareOfMover_36 : decode cX9_shareOfMover 36 = .ok (.iadd, 1) := by decide +kernel
theorem dX9_shareOfMover_37 : decode cX9_shareOfMover 37 = .ok (.i2d, 1) := by decide +kernel
theorem dX9_shareOfMover_38 : decode cX9_shareOfMover 38 = .ok (.ddiv, 1) := by decide +kernel
theorem dX9_shareOfMover_39 : decode cX9_shareOfMover 39 = .ok (.dreturn, 1) := by decide +kernel
set_option maxRecDepth 20000 in
theorem ggX9_isPartPossible_X8_at : GoodIn wsX9_isPartPossible wsX8_at := goodIn_r _ [7, 8, 9, 135, 136] (by decide +kernel) (by decide +kernel)
set_option maxRecDepth 20000 in
theorem gX9_isPartPossible_X8_at : GoodIn wsX9_isPartPossible (wsV RX9 302 RX8 yX8_at wsX8_at) := goodIn_app (goodIn_of _ (by decide +kernel)) ggX9_isPartPossible_X8_at
set_option maxRecDepth 20000 in
theorem ggX9_isPartPossible_X1_awaitsRoll : GoodIn wsX9_isPartPossible wsX1_awaitsRoll := goodIn_r _ [14, 15, 137, 138, 139, 140, 141, 142, 143, 144, 145, 146, 147, 148, 149] (by decide +kernel) (by decide +kernel)
set_option maxRecDepth 20000 in
theorem gX9_isPartPossible_X1_awaitsRoll : GoodIn wsX9_isPartPossible (wsV RX9 46 RX1 yX1_awaitsRoll wsX1_awaitsRoll) := goodIn_app (goodIn_of _ (by decide +kernel)) ggX9_isPartPossible_X1_awaitsRoll
set_option maxRecDepth 20000 in
theorem ggX9_isPartPossible_X8_numberAt : GoodIn wsX9_isPartPossible wsX8_numberAt := goodIn_r _ [19, 20, 21, 22, 6, 23, 24, 4, 5, 7, 8, 9, 25, 26, 27, 135, 136] (by decide +kernel) (by decide +kernel)
set_option maxRecDepth 20000 in
theorem gX9_isPartPossible_X8_numberAt : GoodIn wsX9_isPartPossible (wsV RX9 305 RX8 yX8_numberAt wsX8_numberAt) := goodIn_app (goodIn_of _ (by decide +kernel)) ggX9_isPartPossible_X8_numberAt
set_option maxRecDepth 20000 in
theorem ggX9_isPartPossible_X8_digitAt : GoodIn wsX9_isPartPossible wsX8_digitAt := goodIn_r _ [23, 24, 4, 5, 6, 7, 8, 9, 135, 136] (by decide +kernel) (by decide +kernel)
set_option maxRecDepth 20000 in
theorem gX9_isPartPossible_X8_digitAt : GoodIn wsX9_isPartPossible (wsV RX9 308 RX8 yX8_digitAt wsX8_digitAt) := goodIn_app (goodIn_of _ (by decide +kernel)) ggX9_isPartPossible_X8_digitAt
set_option maxRecDepth 20000 in
theorem ggX9_isPartPossible_X1_reasonAgainst : GoodIn wsX9_isPartPossible wsX1_reasonAgainst := goodIn_r _ [32, 33, 34, 35, 36, 37, 13, 38, 39, 40, 41, 42, 43, 44, 45, 46, 47, 48, 49, 50, 51, 52, 53, 54, 55, 56, 57, 58, 59, 60, 61, 62, 63, 64, 65, 66, 67, 68, 69, 70, 71, 72, 73, 74, 75, 76, 77, 78, 79, 80, 81, 82, 83, 84, 85, 86, 87, 88, 89, 90, 91, 92, 93, 94, 95, 96, 97, 98, 99, 100, 101, 102, 103, 104, 105, 106, 107, 108, 109, 110, 111, 112, 137, 138, 139, 140, 141, 142, 143, 144, 145, 146, 147, 148, 149] (by decide +kernel) (by decide +kernel)
set_option maxRecDepth 20000 in
theorem gX9_isPartPossible_X1_reasonAgainst : GoodIn wsX9_isPartPossible (wsV RX9 75 RX1 yX1_reasonAgainst wsX1_reasonAgainst) := goodIn_app (goodIn_of _ (by decide +kernel)) ggX9_isPartPossible_X1_reasonAgainst
set_option maxRecDepth 20000 in
theorem ggX9_isPartPossible_X1_canEndTurn : GoodIn wsX9_isPartPossible wsX1_canEndTurn := goodIn_r _ [116, 15, 52, 53, 54, 13, 55, 33, 35, 36, 37, 38, 34, 39, 40, 41, 42, 43, 44, 45, 46, 47, 48, 56, 57, 58, 59, 60, 61, 62, 63, 64, 65, 66, 67, 68, 69, 70, 71, 72, 73, 74, 75, 76, 77, 78, 79, 80, 81, 82, 83, 84, 85, 86, 87, 88, 89, 90, 91, 92, 93, 94, 95, 96, 97, 98, 99, 100, 101, 102, 137, 138, 139, 140, 141, 142, 143, 144, 145, 146, 147, 148, 149] (by decide +kernel) (by decide +kernel)
set_option maxRecDepth 20000 in
theorem gX9_isPartPossible_X1_canEndTurn : GoodIn wsX9_isPartPossible (wsV RX9 83 RX1 yX1_canEndTurn wsX1_canEndTurn) := goodIn_app (goodIn_of _ (by decide +kernel)) ggX9_isPartPossible_X1_canEndTurn
set_option maxRecDepth 20000 in
theorem ggX9_isPartPossible_X1_canOffer : GoodIn wsX9_isPartPossible wsX1_canOffer := goodIn_r _ [120, 121, 34, 15, 122, 137, 138, 139, 140, 141, 142, 143, 144, 145, 146, 147, 148, 149] (by decide +kernel) (by decide +kernel)
set_option maxRecDepth 20000 in
theorem gX9_isPartPossible_X1_canOffer : GoodIn wsX9_isPartPossible (wsV RX9 116 RX1 yX1_canOffer wsX1_canOffer) := goodIn_app (goodIn_of _ (by decide +kernel)) ggX9_isPartPossible_X1_canOffer
set_option maxRecDepth 20000 in
theorem ggX9_isPartPossible_X1_isOffered : GoodIn wsX9_isPartPossible wsX1_isOffered := goodIn_r _ [126, 15, 137, 138, 139, 140, 141, 142, 143, 144, 145, 146, 147, 148, 149] (by decide +kernel) (by decide +kernel)
set_option maxRecDepth 20000 in
theorem gX9_isPartPossible_X1_isOffered : GoodIn wsX9_isPartPossible (wsV RX9 125 RX1 yX1_isOffered wsX1_isOffered) := goodIn_app (goodIn_of _ (by decide +kernel)) ggX9_isPartPossible_X1_isOffered
set_option maxRecDepth 20000 in
theorem ggX9_isPartPossible_X1_isOver : GoodIn wsX9_isPartPossible wsX1_isOver := goodIn_r _ [130, 15, 137, 138, 139, 140, 141, 142, 143, 144, 145, 146, 147, 148, 149] (by decide +kernel) (by decide +kernel)
set_option maxRecDepth 20000 in
theorem gX9_isPartPossible_X1_isOver : GoodIn wsX9_isPartPossible (wsV RX9 137 RX1 yX1_isOver wsX1_isOver) := goodIn_app (goodIn_of _ (by decide +kernel)) ggX9_isPartPossible_X1_isOver
theorem dX9_isPartPossible_0 : decode cX9_isPartPossible 0 = .ok (.aload_n 0, 1) := by decide +kernel
theorem dX9_isPartPossible_1 : decode cX9_isPartPossible 1 = .ok (.getfield 26, 3) := by decide +kernel
theorem dX9_isPartPossible_4 : decode cX9_isPartPossible 4 = .ok (.iload_n 1, 1) := by decide +kernel
theorem dX9_isPartPossible_5 : decode cX9_isPartPossible 5 = .ok (.invokevirtual 302, 3) := by decide +kernel
theorem dX9_isPartPossible_8 : decode cX9_isPartPossible 8 = .ok (.tableswitch 203 98 120 #[152, 203, 195, 179, 203, 203, 203, 203, 203, 203, 203, 116, 203, 203, 203, 203, 108, 203, 195, 203, 203, 203, 187], 108) := by decide +kernel
theorem dX9_isPartPossible_116 : decode cX9_isPartPossible 116 = .ok (.aload_n 0, 1) := by decide +kernel
theorem dX9_isPartPossible_117 : decode cX9_isPartPossible 117 = .ok (.getfield 10, 3) := by decide +kernel
theorem dX9_isPartPossible_120 : decode cX9_isPartPossible 120 = .ok (.invokevirtual 46, 3) := by decide +kernel
theorem dX9_isPartPossible_123 : decode cX9_isPartPossible 123 = .ok (.ireturn, 1) := by decide +kernel
theorem dX9_isPartPossible_124 : decode cX9_isPartPossible 124 = .ok (.aload_n 0, 1) := by decide +kernel
theorem dX9_isPartPossible_125 : decode cX9_isPartPossible 125 = .ok (.getfield 10, 3) := by decide +kernel
theorem dX9_isPartPossible_128 : decode cX9_isPartPossible 128 = .ok (.aload_n 0, 1) := by decide +kernel
theorem dX9_isPartPossible_129 : decode cX9_isPartPossible 129 = .ok (.getfield 26, 3) := by decide +kernel
theorem dX9_isPartPossible_132 : decode cX9_isPartPossible 132 = .ok (.iload_n 1, 1) := by decide +kernel
theorem dX9_isPartPossible_133 : decode cX9_isPartPossible 133 = .ok (.iconst 1, 1) := by decide +kernel
theorem dX9_isPartPossible_134 : decode cX9_isPartPossible 134 = .ok (.iadd, 1) := by decide +kernel
theorem dX9_isPartPossible_135 : decode cX9_isPartPossible 135 = .ok (.invokevirtual 305, 3) := by decide +kernel
theorem dX9_isPartPossible_138 : decode cX9_isPartPossible 138 = .ok (.aload_n 0, 1) := by decide +kernel
theorem dX9_isPartPossible_139 : decode cX9_isPartPossible 139 = .ok (.getfield 26, 3) := by decide +kernel
theorem dX9_isPartPossible_142 : decode cX9_isPartPossible 142 = .ok (.iload_n 2, 1) := by decide +kernel
theorem dX9_isPartPossible_143 : decode cX9_isPartPossible 143 = .ok (.iconst 1, 1) := by decide +kernel
theorem dX9_isPartPossible_144 : decode cX9_isPartPossible 144 = .ok (.isub, 1) := by decide +kernel
theorem dX9_isPartPossible_145 : decode cX9_isPartPossible 145 = .ok (.invokevirtual 308, 3) := by decide +kernel
theorem dX9_isPartPossible_148 : decode cX9_isPartPossible 148 = .ok (.invokevirtual 75, 3) := by decide +kernel
theorem dX9_isPartPossible_151 : decode cX9_isPartPossible 151 = .ok (.ifCond .ne 7, 3) := by decide +kernel
theorem dX9_isPartPossible_154 : decode cX9_isPartPossible 154 = .ok (.iconst 1, 1) := by decide +kernel
theorem dX9_isPartPossible_155 : decode cX9_isPartPossible 155 = .ok (.goto 4, 3) := by decide +kernel
theorem dX9_isPartPossible_158 : decode cX9_isPartPossible 158 = .ok (.iconst 0, 1) := by decide +kernel
theorem dX9_isPartPossible_159 : decode cX9_isPartPossible 159 = .ok (.ireturn, 1) := by decide +kernel
theorem dX9_isPartPossible_160 : decode cX9_isPartPossible 160 = .ok (.aload_n 0, 1) := by decide +kernel
theorem dX9_isPartPossible_161 : decode cX9_isPartPossible 161 = .ok (.getfield 10, 3) := by decide +kernel
theorem dX9_isPartPossible_164 : decode cX9_isPartPossible 164 = .ok (.iconst (-1), 1) := by decide +kernel
theorem dX9_isPartPossible_165 : decode cX9_isPartPossible 165 = .ok (.aload_n 0, 1) := by decide +kernel
theorem dX9_isPartPossible_166 : decode cX9_isPartPossible 166 = .ok (.getfield 26, 3) := by decide +kernel
theorem dX9_isPartPossible_169 : decode cX9_isPartPossible 169 = .ok (.iload_n 2, 1) := by decide +kernel
theorem dX9_isPartPossible_170 : decode cX9_isPartPossible 170 = .ok (.iconst 1, 1) := by decide +kernel
theorem dX9_isPartPossible_171 : decode cX9_isPartPossible 171 = .ok (.isub, 1) := by decide +kernel
theorem dX9_isPartPossible_172 : decode cX9_isPartPossible 172 = .ok (.invokevirtual 308, 3) := by decide +kernel
theorem dX9_isPartPossible_175 : decode cX9_isPartPossible 175 = .ok (.invokevirtual 75, 3) := by decide +kernel
theorem dX9_isPartPossible_178 : decode cX9_isPartPossible 178 = .ok (.ifCond .ne 7, 3) := by decide +kernel
theorem dX9_isPartPossible_181 : decode cX9_isPartPossible 181 = .ok (.iconst 1, 1) := by decide +kernel
theorem dX9_isPartPossible_182 : decode cX9_isPartPossible 182 = .ok (.goto 4, 3) := by decide +kernel
theorem dX9_isPartPossible_185 : decode cX9_isPartPossible 185 = .ok (.iconst 0, 1) := by decide +kernel
theorem dX9_isPartPossible_186 : decode cX9_isPartPossible 186 = .ok (.ireturn, 1) := by decide +kernel
theorem dX9_isPartPossible_187 : decode cX9_isPartPossible 187 = .ok (.aload_n 0, 1) := by decide +kernel
theorem dX9_isPartPossible_188 : decode cX9_isPartPossible 188 = .ok (.getfield 10, 3) := by decide +kernel
theorem dX9_isPartPossible_191 : decode cX9_isPartPossible 191 = .ok (.invokevirtual 83, 3) := by decide +kernel
theorem dX9_isPartPossible_194 : decode cX9_isPartPossible 194 = .ok (.ireturn, 1) := by decide +kernel
theorem dX9_isPartPossible_195 : decode cX9_isPartPossible 195 = .ok (.aload_n 0, 1) := by decide +kernel
theorem dX9_isPartPossible_196 : decode cX9_isPartPossible 196 = .ok (.getfield 10, 3) := by decide +kernel
theorem dX9_isPartPossible_199 : decode cX9_isPartPossible 199 = .ok (.invokevirtual 116, 3) := by decide +kernel
theorem dX9_isPartPossible_202 : decode cX9_isPartPossible 202 = .ok (.ireturn, 1) := by decide +kernel
theorem dX9_isPartPossible_203 : decode cX9_isPartPossible 203 = .ok (.aload_n 0, 1) := by decide +kernel
theorem dX9_isPartPossible_204 : decode cX9_isPartPossible 204 = .ok (.getfield 10, 3) := by decide +kernel
theorem dX9_isPartPossible_207 : decode cX9_isPartPossible 207 = .ok (.invokevirtual 125, 3) := by decide +kernel
theorem dX9_isPartPossible_210 : decode cX9_isPartPossible 210 = .ok (.ireturn, 1) := by decide +kernel
theorem dX9_isPartPossible_211 : decode cX9_isPartPossible 211 = .ok (.aload_n 0, 1) := by decide +kernel
theorem dX9_isPartPossible_212 : decode cX9_isPartPossible 212 = .ok (.getfield 10, 3) := by decide +kernel
theorem dX9_isPartPossible_215 : decode cX9_isPartPossible 215 = .ok (.invokevirtual 137, 3) := by decide +kernel
theorem dX9_isPartPossible_218 : decode cX9_isPartPossible 218 = .ok (.ireturn, 1) := by decide +kernel
set_option maxRecDepth 20000 in
theorem ggX9_doPart_X8_at : GoodIn wsX9_doPart wsX8_at := goodIn_r _ [7, 8, 9, 132, 133] (by decide +kernel) (by decide +kernel)
set_option maxRecDepth 20000 in
theorem gX9_doPart_X8_at : GoodIn wsX9_doPart (wsV RX9 302 RX8 yX8_at wsX8_at) := goodIn_app (goodIn_of _ (by decide +kernel)) ggX9_doPart_X8_at
set_option maxRecDepth 20000 in
theorem ggX9_doPart_X8_digitAt : GoodIn wsX9_doPart wsX8_digitAt := goodIn_r _ [13, 14, 4, 5, 6, 7, 8, 9, 132, 133] (by decide +kernel) (by decide +kernel)
set_option maxRecDepth 20000 in
theorem gX9_doPart_X8_digitAt : GoodIn wsX9_doPart (wsV RX9 308 RX8 yX8_digitAt wsX8_digitAt) := goodIn_app (goodIn_of _ (by decide +kernel)) ggX9_doPart_X8_digitAt
set_option maxRecDepth 20000 in
theorem ggX9_doPart_X1_doRoll : GoodIn wsX9_doPart wsX1_doRoll := goodIn_r _ [19, 20, 21, 22, 23, 24, 25, 134, 135, 136, 137, 138, 139, 140, 141, 142, 143, 144, 145, 146] (by decide +kernel) (by decide +kernel)
set_option maxRecDepth 20000 in
theorem gX9_doPart_X1_doRoll : GoodIn wsX9_doPart (wsV RX9 57 RX1 yX1_doRoll wsX1_doRoll) := goodIn_app (goodIn_of _ (by decide +kernel)) ggX9_doPart_X1_doRoll
set_option maxRecDepth 20000 in
theorem ggX9_doPart_X8_numberAt : GoodIn wsX9_doPart wsX8_numberAt := goodIn_r _ [29, 30, 11, 12, 6, 13, 14, 4, 5, 7, 8, 9, 31, 32, 33, 132, 133] (by decide +kernel) (by decide +kernel)
set_option maxRecDepth 20000 in
theorem gX9_doPart_X8_numberAt : GoodIn wsX9_doPart (wsV RX9 305 RX8 yX8_numberAt wsX8_numberAt) := goodIn_app (goodIn_of _ (by decide +kernel)) ggX9_doPart_X8_numberAt
set_option maxRecDepth 20000 in
theorem ggX9_doPart_X1_doStep : GoodIn wsX9_doPart wsX1_doStep := goodIn_r _ [37, 38, 20, 39, 40, 41, 18, 42, 43, 44, 45, 46, 47, 48, 49, 50, 51, 52, 53, 54, 55, 56, 57, 58, 59, 60, 61, 62, 63, 64, 65, 66, 67, 68, 69, 70, 71, 72, 73, 74, 75, 76, 77, 78, 79, 80, 24, 81, 82, 83, 84, 85, 86, 87, 88, 89, 90, 91, 92, 93, 94, 95, 96, 97, 98, 99, 100, 101, 102, 103, 104, 105, 21, 134, 135, 136, 137, 138, 139, 140, 141, 142, 143, 144, 145, 146] (by decide +kernel) (by decide +kernel)
set_option maxRecDepth 20000 in
theorem gX9_doPart_X1_doStep : GoodIn wsX9_doPart (wsV RX9 79 RX1 yX1_doStep wsX1_doStep) := goodIn_app (goodIn_of _ (by decide +kernel)) ggX9_doPart_X1_doStep
set_option maxRecDepth 20000 in
theorem ggX9_doPart_X1_doEndTurn : GoodIn wsX9_doPart wsX1_doEndTurn := goodIn_r _ [109, 38, 20, 21, 134, 135, 136, 137, 138, 139, 140, 141, 142, 143, 144, 145, 146] (by decide +kernel) (by decide +kernel)
set_option maxRecDepth 20000 in
theorem gX9_doPart_X1_doEndTurn : GoodIn wsX9_doPart (wsV RX9 86 RX1 yX1_doEndTurn wsX1_doEndTurn) := goodIn_app (goodIn_of _ (by decide +kernel)) ggX9_doPart_X1_doEndTurn
set_option maxRecDepth 20000 in
theorem ggX9_doPart_X1_doOffer : GoodIn wsX9_doPart wsX1_doOffer := goodIn_r _ [113, 21, 134, 135, 136, 137, 138, 139, 140, 141, 142, 143, 144, 145, 146] (by decide +kernel) (by decide +kernel)
set_option maxRecDepth 20000 in
theorem gX9_doPart_X1_doOffer : GoodIn wsX9_doPart (wsV RX9 119 RX1 yX1_doOffer wsX1_doOffer) := goodIn_app (goodIn_of _ (by decide +kernel)) ggX9_doPart_X1_doOffer
set_option maxRecDepth 20000 in
theorem ggX9_doPart_X1_doTake : GoodIn wsX9_doPart wsX1_doTake := goodIn_r _ [117, 39, 38, 118, 21, 134, 135, 136, 137, 138, 139, 140, 141, 142, 143, 144, 145, 146] (by decide +kernel) (by decide +kernel)
set_option maxRecDepth 20000 in
theorem gX9_doPart_X1_doTake : GoodIn wsX9_doPart (wsV RX9 128 RX1 yX1_doTake wsX1_doTake) := goodIn_app (goodIn_of _ (by decide +kernel)) ggX9_doPart_X1_doTake
set_option maxRecDepth 20000 in
theorem ggX9_doPart_X1_doDrop : GoodIn wsX9_doPart wsX1_doDrop := goodIn_r _ [122, 39, 100, 101, 102, 18, 103, 38, 104, 105, 20, 21, 134, 135, 136, 137, 138, 139, 140, 141, 142, 143, 144, 145, 146] (by decide +kernel) (by decide +kernel)
set_option maxRecDepth 20000 in
theorem gX9_doPart_X1_doDrop : GoodIn wsX9_doPart (wsV RX9 131 RX1 yX1_doDrop wsX1_doDrop) := goodIn_app (goodIn_of _ (by decide +kernel)) ggX9_doPart_X1_doDrop
set_option maxRecDepth 20000 in
theorem ggX9_doPart_X1_doNewGame : GoodIn wsX9_doPart wsX1_doNewGame := goodIn_r _ [126, 38, 21, 39, 118, 127, 51, 52, 134, 135, 136, 137, 138, 139, 140, 141, 142, 143, 144, 145, 146] (by decide +kernel) (by decide +kernel)
set_option maxRecDepth 20000 in
theorem gX9_doPart_X1_doNewGame : GoodIn wsX9_doPart (wsV RX9 140 RX1 yX1_doNewGame wsX1_doNewGame) := goodIn_app (goodIn_of _ (by decide +kernel)) ggX9_doPart_X1_doNewGame
theorem dX9_doPart_0 : decode cX9_doPart 0 = .ok (.aload_n 0, 1) := by decide +kernel
theorem dX9_doPart_1 : decode cX9_doPart 1 = .ok (.getfield 26, 3) := by decide +kernel
theorem dX9_doPart_4 : decode cX9_doPart 4 = .ok (.iload_n 1, 1) := by decide +kernel
theorem dX9_doPart_5 : decode cX9_doPart 5 = .ok (.invokevirtual 302, 3) := by decide +kernel
theorem dX9_doPart_8 : decode cX9_doPart 8 = .ok (.tableswitch 231 98 120 #[169, 231, 221, 191, 231, 231, 231, 231, 231, 231, 231, 138, 231, 231, 231, 231, 108, 231, 211, 231, 231, 231, 201], 108) := by decide +kernel
theorem dX9_doPart_116 : decode cX9_doPart 116 = .ok (.aload_n 0, 1) := by decide +kernel
theorem dX9_doPart_117 : decode cX9_doPart 117 = .ok (.getfield 10, 3) := by decide +kernel
theorem dX9_doPart_120 : decode cX9_doPart 120 = .ok (.aload_n 0, 1) := by decide +kernel
theorem dX9_doPart_121 : decode cX9_doPart 121 = .ok (.getfield 26, 3) := by decide +kernel
theorem dX9_doPart_124 : decode cX9_doPart 124 = .ok (.iload_n 1, 1) := by decide +kernel
theorem dX9_doPart_125 : decode cX9_doPart 125 = .ok (.iconst 1, 1) := by decide +kernel
theorem dX9_doPart_126 : decode cX9_doPart 126 = .ok (.iadd, 1) := by decide +kernel
theorem dX9_doPart_127 : decode cX9_doPart 127 = .ok (.invokevirtual 308, 3) := by decide +kernel
theorem dX9_doPart_130 : decode cX9_doPart 130 = .ok (.aload_n 0, 1) := by decide +kernel
theorem dX9_doPart_131 : decode cX9_doPart 131 = .ok (.getfield 26, 3) := by decide +kernel
theorem dX9_doPart_134 : decode cX9_doPart 134 = .ok (.iload_n 1, 1) := by decide +kernel
theorem dX9_doPart_135 : decode cX9_doPart 135 = .ok (.iconst 2, 1) := by decide +kernel
theorem dX9_doPart_136 : decode cX9_doPart 136 = .ok (.iadd, 1) := by decide +kernel
theorem dX9_doPart_137 : decode cX9_doPart 137 = .ok (.invokevirtual 308, 3) := by decide +kernel
theorem dX9_doPart_140 : decode cX9_doPart 140 = .ok (.invokevirtual 57, 3) := by decide +kernel
theorem dX9_doPart_143 : decode cX9_doPart 143 = .ok (.goto 103, 3) := by decide +kernel
theorem dX9_doPart_146 : decode cX9_doPart 146 = .ok (.aload_n 0, 1) := by decide +kernel
theorem dX9_doPart_147 : decode cX9_doPart 147 = .ok (.getfield 10, 3) := by decide +kernel
theorem dX9_doPart_150 : decode cX9_doPart 150 = .ok (.aload_n 0, 1) := by decide +kernel
theorem dX9_doPart_151 : decode cX9_doPart 151 = .ok (.getfield 26, 3) := by decide +kernel
theorem dX9_doPart_154 : decode cX9_doPart 154 = .ok (.iload_n 1, 1) := by decide +kernel
theorem dX9_doPart_155 : decode cX9_doPart 155 = .ok (.iconst 1, 1) := by decide +kernel
theorem dX9_doPart_156 : decode cX9_doPart 156 = .ok (.iadd, 1) := by decide +kernel
theorem dX9_doPart_157 : decode cX9_doPart 157 = .ok (.invokevirtual 305, 3) := by decide +kernel
theorem dX9_doPart_160 : decode cX9_doPart 160 = .ok (.aload_n 0, 1) := by decide +kernel
theorem dX9_doPart_161 : decode cX9_doPart 161 = .ok (.getfield 26, 3) := by decide +kernel
theorem dX9_doPart_164 : decode cX9_doPart 164 = .ok (.iload_n 2, 1) := by decide +kernel
theorem dX9_doPart_165 : decode cX9_doPart 165 = .ok (.iconst 1, 1) := by decide +kernel
theorem dX9_doPart_166 : decode cX9_doPart 166 = .ok (.isub, 1) := by decide +kernel
theorem dX9_doPart_167 : decode cX9_doPart 167 = .ok (.invokevirtual 308, 3) := by decide +kernel
theorem dX9_doPart_170 : decode cX9_doPart 170 = .ok (.invokevirtual 79, 3) := by decide +kernel
theorem dX9_doPart_173 : decode cX9_doPart 173 = .ok (.pop, 1) := by decide +kernel
theorem dX9_doPart_174 : decode cX9_doPart 174 = .ok (.goto 72, 3) := by decide +kernel
theorem dX9_doPart_177 : decode cX9_doPart 177 = .ok (.aload_n 0, 1) := by decide +kernel
theorem dX9_doPart_178 : decode cX9_doPart 178 = .ok (.getfield 10, 3) := by decide +kernel
theorem dX9_doPart_181 : decode cX9_doPart 181 = .ok (.iconst (-1), 1) := by decide +kernel
theorem dX9_doPart_182 : decode cX9_doPart 182 = .ok (.aload_n 0, 1) := by decide +kernel
theorem dX9_doPart_183 : decode cX9_doPart 183 = .ok (.getfield 26, 3) := by decide +kernel
theorem dX9_doPart_186 : decode cX9_doPart 186 = .ok (.iload_n 2, 1) := by decide +kernel
theorem dX9_doPart_187 : decode cX9_doPart 187 = .ok (.iconst 1, 1) := by decide +kernel
theorem dX9_doPart_188 : decode cX9_doPart 188 = .ok (.isub, 1) := by decide +kernel
theorem dX9_doPart_189 : decode cX9_doPart 189 = .ok (.invokevirtual 308, 3) := by decide +kernel
theorem dX9_doPart_192 : decode cX9_doPart 192 = .ok (.invokevirtual 79, 3) := by decide +kernel
theorem dX9_doPart_195 : decode cX9_doPart 195 = .ok (.pop, 1) := by decide +kernel
theorem dX9_doPart_196 : decode cX9_doPart 196 = .ok (.goto 50, 3) := by decide +kernel
theorem dX9_doPart_199 : decode cX9_doPart 199 = .ok (.aload_n 0, 1) := by decide +kernel
theorem dX9_doPart_200 : decode cX9_doPart 200 = .ok (.getfield 10, 3) := by decide +kernel
theorem dX9_doPart_203 : decode cX9_doPart 203 = .ok (.invokevirtual 86, 3) := by decide +kernel
theorem dX9_doPart_206 : decode cX9_doPart 206 = .ok (.goto 40, 3) := by decide +kernel
theorem dX9_doPart_209 : decode cX9_doPart 209 = .ok (.aload_n 0, 1) := by decide +kernel
theorem dX9_doPart_210 : decode cX9_doPart 210 = .ok (.getfield 10, 3) := by decide +kernel
theorem dX9_doPart_213 : decode cX9_doPart 213 = .ok (.invokevirtual 119, 3) := by decide +kernel
theorem dX9_doPart_216 : decode cX9_doPart 216 = .ok (.goto 30, 3) := by decide +kernel
theorem dX9_doPart_219 : decode cX9_doPart 219 = .ok (.aload_n 0, 1) := by decide +kernel
theorem dX9_doPart_220 : decode cX9_doPart 220 = .ok (.getfield 10, 3) := by decide +kernel
theorem dX9_doPart_223 : decode cX9_doPart 223 = .ok (.invokevirtual 128, 3) := by decide +kernel
theorem dX9_doPart_226 : decode cX9_doPart 226 = .ok (.goto 20, 3) := by decide +kernel
theorem dX9_doPart_229 : decode cX9_doPart 229 = .ok (.aload_n 0, 1) := by decide +kernel
theorem dX9_doPart_230 : decode cX9_doPart 230 = .ok (.getfield 10, 3) := by decide +kernel
theorem dX9_doPart_233 : decode cX9_doPart 233 = .ok (.invokevirtual 131, 3) := by decide +kernel
theorem dX9_doPart_236 : decode cX9_doPart 236 = .ok (.goto 10, 3) := by decide +kernel
theorem dX9_doPart_239 : decode cX9_doPart 239 = .ok (.aload_n 0, 1) := by decide +kernel
theorem dX9_doPart_240 : decode cX9_doPart 240 = .ok (.getfield 10, 3) := by decide +kernel
theorem dX9_doPart_243 : decode cX9_doPart 243 = .ok (.invokevirtual 140, 3) := by decide +kernel
theorem dX9_doPart_246 : decode cX9_doPart 246 = .ok (.return_, 1) := by decide +kernel
theorem dX9_added_0 : decode cX9_added 0 = .ok (.ldc2_w 311, 3) := by decide +kernel
theorem dX9_added_3 : decode cX9_added 3 = .ok (.lload_n 0, 1) := by decide +kernel
theorem dX9_added_4 : decode cX9_added 4 = .ok (.lmul, 1) := by decide +kernel
theorem dX9_added_5 : decode cX9_added 5 = .ok (.lload_n 2, 1) := by decide +kernel
theorem dX9_added_6 : decode cX9_added 6 = .ok (.ladd, 1) := by decide +kernel
theorem dX9_added_7 : decode cX9_added 7 = .ok (.lreturn, 1) := by decide +kernel
set_option maxRecDepth 20000 in
theorem ggX9_addTurn_X9_added : GoodIn wsX9_addTurn wsX9_added := goodIn_r _ [10, 11] (by decide +kernel) (by decide +kernel)
set_option maxRecDepth 20000 in
theorem gX9_addTurn_X9_added : GoodIn wsX9_addTurn (va_wsS RX9 276 yX9_added wsX9_added) := goodIn_app (goodIn_of _ (by decide +kernel)) ggX9_addTurn_X9_added
set_option maxRecDepth 20000 in
theorem ggX9_addTurn_X0_count : GoodIn wsX9_addTurn wsX0_count := goodIn_r _ [15, 16, 17, 14, 18] (by decide +kernel) (by decide +kernel)
set_option maxRecDepth 20000 in
theorem gX9_addTurn_X0_count : GoodIn wsX9_addTurn (va_wsS RX9 65 yX0_count wsX0_count) := goodIn_app (goodIn_of _ (by decide +kernel)) ggX9_addTurn_X0_count
set_option maxRecDepth 20000 in
theorem ggX9_addTurn_X0_at : GoodIn wsX9_addTurn wsX0_at := goodIn_r _ [18] (by decide +kernel) (by decide +kernel)
set_option maxRecDepth 20000 in
theorem gX9_addTurn_X0_at : GoodIn wsX9_addTurn (va_wsS RX9 200 yX0_at wsX0_at) := goodIn_app (goodIn_of _ (by decide +kernel)) ggX9_addTurn_X0_at
theorem dX9_addTurn_0 : decode cX9_addTurn 0 = .ok (.lload_n 1, 1) := by decide +kernel
theorem dX9_addTurn_1 : decode cX9_addTurn 1 = .ok (.aload_n 0, 1) := by decide +kernel
theorem dX9_addTurn_2 : decode cX9_addTurn 2 = .ok (.getfield 10, 3) := by decide +kernel
theorem dX9_addTurn_5 : decode cX9_addTurn 5 = .ok (.getfield 89, 3) := by decide +kernel
theorem dX9_addTurn_8 : decode cX9_addTurn 8 = .ok (.i2l, 1) := by decide +kernel
theorem dX9_addTurn_9 : decode cX9_addTurn 9 = .ok (.invokestatic 276, 3) := by decide +kernel
theorem dX9_addTurn_12 : decode cX9_addTurn 12 = .ok (.lstore_n 3, 1) := by decide +kernel
theorem dX9_addTurn_13 : decode cX9_addTurn 13 = .ok (.lload_n 3, 1) := by decide +kernel
theorem dX9_addTurn_14 : decode cX9_addTurn 14 = .ok (.aload_n 0, 1) := by decide +kernel
theorem dX9_addTurn_15 : decode cX9_addTurn 15 = .ok (.getfield 10, 3) := by decide +kernel
theorem dX9_addTurn_18 : decode cX9_addTurn 18 = .ok (.getfield 197, 3) := by decide +kernel
theorem dX9_addTurn_21 : decode cX9_addTurn 21 = .ok (.i2l, 1) := by decide +kernel
theorem dX9_addTurn_22 : decode cX9_addTurn 22 = .ok (.invokestatic 276, 3) := by decide +kernel
theorem dX9_addTurn_25 : decode cX9_addTurn 25 = .ok (.lstore_n 3, 1) := by decide +kernel
theorem dX9_addTurn_26 : decode cX9_addTurn 26 = .ok (.lload_n 3, 1) := by decide +kernel
theorem dX9_addTurn_27 : decode cX9_addTurn 27 = .ok (.aload_n 0, 1) := by decide +kernel
theorem dX9_addTurn_28 : decode cX9_addTurn 28 = .ok (.getfield 10, 3) := by decide +kernel
theorem dX9_addTurn_31 : decode cX9_addTurn 31 = .ok (.getfield 61, 3) := by decide +kernel
theorem dX9_addTurn_34 : decode cX9_addTurn 34 = .ok (.invokestatic 65, 3) := by decide +kernel
theorem dX9_addTurn_37 : decode cX9_addTurn 37 = .ok (.i2l, 1) := by decide +kernel
theorem dX9_addTurn_38 : decode cX9_addTurn 38 = .ok (.invokestatic 276, 3) := by decide +kernel
theorem dX9_addTurn_41 : decode cX9_addTurn 41 = .ok (.lstore_n 3, 1) := by decide +kernel
theorem dX9_addTurn_42 : decode cX9_addTurn 42 = .ok (.iconst 0, 1) := by decide +kernel
theorem dX9_addTurn_43 : decode cX9_addTurn 43 = .ok (.istore 5, 2) := by decide +kernel
theorem dX9_addTurn_45 : decode cX9_addTurn 45 = .ok (.iload 5, 2) := by decide +kernel
theorem dX9_addTurn_47 : decode cX9_addTurn 47 = .ok (.aload_n 0, 1) := by decide +kernel
theorem dX9_addTurn_48 : decode cX9_addTurn 48 = .ok (.getfield 10, 3) := by decide +kernel
theorem dX9_addTurn_51 : decode cX9_addTurn 51 = .ok (.getfield 61, 3) := by decide +kernel
theorem dX9_addTurn_54 : decode cX9_addTurn 54 = .ok (.invokestatic 65, 3) := by decide +kernel
theorem dX9_addTurn_57 : decode cX9_addTurn 57 = .ok (.if_icmp .ge 27, 3) := by decide +kernel
theorem dX9_addTurn_60 : decode cX9_addTurn 60 = .ok (.lload_n 3, 1) := by decide +kernel
theorem dX9_addTurn_61 : decode cX9_addTurn 61 = .ok (.aload_n 0, 1) := by decide +kernel
theorem dX9_addTurn_62 : decode cX9_addTurn 62 = .ok (.getfield 10, 3) := by decide +kernel
theorem dX9_addTurn_65 : decode cX9_addTurn 65 = .ok (.getfield 61, 3) := by decide +kernel
theorem dX9_addTurn_68 : decode cX9_addTurn 68 = .ok (.iload 5, 2) := by decide +kernel
theorem dX9_addTurn_70 : decode cX9_addTurn 70 = .ok (.invokestatic 200, 3) := by decide +kernel
theorem dX9_addTurn_73 : decode cX9_addTurn 73 = .ok (.i2l, 1) := by decide +kernel
theorem dX9_addTurn_74 : decode cX9_addTurn 74 = .ok (.invokestatic 276, 3) := by decide +kernel
theorem dX9_addTurn_77 : decode cX9_addTurn 77 = .ok (.lstore_n 3, 1) := by decide +kernel
theorem dX9_addTurn_78 : decode cX9_addTurn 78 = .ok (.iinc 5 1, 3) := by decide +kernel
theorem dX9_addTurn_81 : decode cX9_addTurn 81 = .ok (.goto (-36), 3) := by decide +kernel
theorem dX9_addTurn_84 : decode cX9_addTurn 84 = .ok (.lload_n 3, 1) := by decide +kernel
theorem dX9_addTurn_85 : decode cX9_addTurn 85 = .ok (.aload_n 0, 1) := by decide +kernel
theorem dX9_addTurn_86 : decode cX9_addTurn 86 = .ok (.getfield 10, 3) := by decide +kernel
theorem dX9_addTurn_89 : decode cX9_addTurn 89 = .ok (.getfield 122, 3) := by decide +kernel
theorem dX9_addTurn_92 : decode cX9_addTurn 92 = .ok (.i2l, 1) := by decide +kernel
theorem dX9_addTurn_93 : decode cX9_addTurn 93 = .ok (.invokestatic 276, 3) := by decide +kernel
theorem dX9_addTurn_96 : decode cX9_addTurn 96 = .ok (.lstore_n 3, 1) := by decide +kernel
theorem dX9_addTurn_97 : decode cX9_addTurn 97 = .ok (.lload_n 3, 1) := by decide +kernel
theorem dX9_addTurn_98 : decode cX9_addTurn 98 = .ok (.aload_n 0, 1) := by decide +kernel
theorem dX9_addTurn_99 : decode cX9_addTurn 99 = .ok (.getfield 10, 3) := by decide +kernel
theorem dX9_addTurn_102 : decode cX9_addTurn 102 = .ok (.getfield 219, 3) := by decide +kernel
theorem dX9_addTurn_105 : decode cX9_addTurn 105 = .ok (.i2l, 1) := by decide +kernel
theorem dX9_addTurn_106 : decode cX9_addTurn 106 = .ok (.invokestatic 276, 3) := by decide +kernel
theorem dX9_addTurn_109 : decode cX9_addTurn 109 = .ok (.lreturn, 1) := by decide +kernel
set_option maxRecDepth 20000 in
theorem ggX9_addPlayer_X1_piecesOf : GoodIn wsX9_addPlayer wsX1_piecesOf := goodIn_r _ [6, 7, 8, 64, 65, 66, 67, 68, 69, 70, 71, 72, 73, 74, 75, 76] (by decide +kernel) (by decide +kernel)
set_option maxRecDepth 20000 in
theorem gX9_addPlayer_X1_piecesOf : GoodIn wsX9_addPlayer (wsV RX9 106 RX1 yX1_piecesOf wsX1_piecesOf) := goodIn_app (goodIn_of _ (by decide +kernel)) ggX9_addPlayer_X1_piecesOf
set_option maxRecDepth 20000 in
theorem ggX9_addPlayer_X3_on : GoodIn wsX9_addPlayer wsX3_on := goodIn_r _ [12] (by decide +kernel) (by decide +kernel)
set_option maxRecDepth 20000 in
theorem gX9_addPlayer_X3_on : GoodIn wsX9_addPlayer (va_wsS RX9 209 yX3_on wsX3_on) := goodIn_app (goodIn_of _ (by decide +kernel)) ggX9_addPlayer_X3_on
set_option maxRecDepth 20000 in
theorem ggX9_addPlayer_X9_added : GoodIn wsX9_addPlayer wsX9_added := goodIn_r _ [16, 17] (by decide +kernel) (by decide +kernel)
set_option maxRecDepth 20000 in
theorem gX9_addPlayer_X9_added : GoodIn wsX9_addPlayer (va_wsS RX9 276 yX9_added wsX9_added) := goodIn_app (goodIn_of _ (by decide +kernel)) ggX9_addPlayer_X9_added
set_option maxRecDepth 20000 in
theorem ggX9_addPlayer_X3_sumOfWays : GoodIn wsX9_addPlayer wsX3_sumOfWays := goodIn_r _ [20, 21, 10, 11, 12] (by decide +kernel) (by decide +kernel)
set_option maxRecDepth 20000 in
theorem gX9_addPlayer_X3_sumOfWays : GoodIn wsX9_addPlayer (va_wsS RX9 110 yX3_sumOfWays wsX3_sumOfWays) := goodIn_app (goodIn_of _ (by decide +kernel)) ggX9_addPlayer_X3_sumOfWays
set_option maxRecDepth 20000 in
theorem ggX9_addPlayer_X3_singles : GoodIn wsX9_addPlayer wsX3_singles := goodIn_r _ [24, 21, 10, 11, 12] (by decide +kernel) (by decide +kernel)
set_option maxRecDepth 20000 in
theorem gX9_addPlayer_X3_singles : GoodIn wsX9_addPlayer (va_wsS RX9 213 yX3_singles wsX3_singles) := goodIn_app (goodIn_of _ (by decide +kernel)) ggX9_addPlayer_X3_singles
set_option maxRecDepth 20000 in
theorem ggX9_addPlayer_X3_longestWall : GoodIn wsX9_addPlayer wsX3_longestWall := goodIn_r _ [27, 28, 29, 30, 31, 21, 10, 11, 12] (by decide +kernel) (by decide +kernel)
set_option maxRecDepth 20000 in
theorem gX9_addPlayer_X3_longestWall : GoodIn wsX9_addPlayer (va_wsS RX9 216 yX3_longestWall wsX3_longestWall) := goodIn_app (goodIn_of _ (by decide +kernel)) ggX9_addPlayer_X3_longestWall
set_option maxRecDepth 20000 in
theorem ggX9_addPlayer_X1_scoreOf : GoodIn wsX9_addPlayer wsX1_scoreOf := goodIn_r _ [35, 36, 37, 64, 65, 66, 67, 68, 69, 70, 71, 72, 73, 74, 75, 76] (by decide +kernel) (by decide +kernel)
set_option maxRecDepth 20000 in
theorem gX9_addPlayer_X1_scoreOf : GoodIn wsX9_addPlayer (wsV RX9 134 RX1 yX1_scoreOf wsX1_scoreOf) := goodIn_app (goodIn_of _ (by decide +kernel)) ggX9_addPlayer_X1_scoreOf
set_option maxRecDepth 20000 in
theorem ggX9_addPlayer_X1_hitsOf : GoodIn wsX9_addPlayer wsX1_hitsOf := goodIn_r _ [41, 42, 43, 64, 65, 66, 67, 68, 69, 70, 71, 72, 73, 74, 75, 76] (by decide +kernel) (by decide +kernel)
set_option maxRecDepth 20000 in
theorem gX9_addPlayer_X1_hitsOf : GoodIn wsX9_addPlayer (wsV RX9 222 RX1 yX1_hitsOf wsX1_hitsOf) := goodIn_app (goodIn_of _ (by decide +kernel)) ggX9_addPlayer_X1_hitsOf
set_option maxRecDepth 20000 in
theorem ggX9_addPlayer_X6_rollsThatEnter : GoodIn wsX9_addPlayer wsX6_rollsThatEnter := goodIn_r _ [47, 48, 49, 11, 50] (by decide +kernel) (by decide +kernel)
set_option maxRecDepth 20000 in
theorem gX9_addPlayer_X6_rollsThatEnter : GoodIn wsX9_addPlayer (va_wsS RX9 254 yX6_rollsThatEnter wsX6_rollsThatEnter) := goodIn_app (goodIn_of _ (by decide +kernel)) ggX9_addPlayer_X6_rollsThatEnter
set_option maxRecDepth 20000 in
theorem ggX9_addPlayer_X1_countAt : GoodIn wsX9_addPlayer wsX1_countAt := goodIn_r _ [54, 55, 3, 4, 5, 6, 7, 8, 56, 57, 58, 59, 10, 11, 12, 64, 65, 66, 67, 68, 69, 70, 71, 72, 73, 74, 75, 76] (by decide +kernel) (by decide +kernel)
set_option maxRecDepth 20000 in
theorem gX9_addPlayer_X1_countAt : GoodIn wsX9_addPlayer (wsV RX9 206 RX1 yX1_countAt wsX1_countAt) := goodIn_app (goodIn_of _ (by decide +kernel)) ggX9_addPlayer_X1_countAt
theorem dX9_addPlayer_0 : decode cX9_addPlayer 0 = .ok (.aload_n 0, 1) := by decide +kernel
theorem dX9_addPlayer_1 : decode cX9_addPlayer 1 = .ok (.getfield 10, 3) := by decide +kernel
theorem dX9_addPlayer_4 : decode cX9_addPlayer 4 = .ok (.iload_n 3, 1) := by decide +kernel
theorem dX9_addPlayer_5 : decode cX9_addPlayer 5 = .ok (.invokevirtual 106, 3) := by decide +kernel
theorem dX9_addPlayer_8 : decode cX9_addPlayer 8 = .ok (.lstore 4, 2) := by decide +kernel
theorem dX9_addPlayer_10 : decode cX9_addPlayer 10 = .ok (.lload_n 1, 1) := by decide +kernel
theorem dX9_addPlayer_11 : decode cX9_addPlayer 11 = .ok (.lload 4, 2) := by decide +kernel
theorem dX9_addPlayer_13 : decode cX9_addPlayer 13 = .ok (.bipush 17, 2) := by decide +kernel
theorem dX9_addPlayer_15 : decode cX9_addPlayer 15 = .ok (.invokestatic 209, 3) := by decide +kernel
theorem dX9_addPlayer_18 : decode cX9_addPlayer 18 = .ok (.i2l, 1) := by decide +kernel
theorem dX9_addPlayer_19 : decode cX9_addPlayer 19 = .ok (.invokestatic 276, 3) := by decide +kernel
theorem dX9_addPlayer_22 : decode cX9_addPlayer 22 = .ok (.lstore 6, 2) := by decide +kernel
theorem dX9_addPlayer_24 : decode cX9_addPlayer 24 = .ok (.lload 6, 2) := by decide +kernel
theorem dX9_addPlayer_26 : decode cX9_addPlayer 26 = .ok (.lload 4, 2) := by decide +kernel
theorem dX9_addPlayer_28 : decode cX9_addPlayer 28 = .ok (.iconst 0, 1) := by decide +kernel
theorem dX9_addPlayer_29 : decode cX9_addPlayer 29 = .ok (.invokestatic 209, 3) := by decide +kernel
theorem dX9_addPlayer_32 : decode cX9_addPlayer 32 = .ok (.i2l, 1) := by decide +kernel
theorem dX9_addPlayer_33 : decode cX9_addPlayer 33 = .ok (.invokestatic 276, 3) := by decide +kernel
theorem dX9_addPlayer_36 : decode cX9_addPlayer 36 = .ok (.lstore 6, 2) := by decide +kernel
theorem dX9_addPlayer_38 : decode cX9_addPlayer 38 = .ok (.lload 6, 2) := by decide +kernel
theorem dX9_addPlayer_40 : decode cX9_addPlayer 40 = .ok (.lload 4, 2) := by decide +kernel
theorem dX9_addPlayer_42 : decode cX9_addPlayer 42 = .ok (.invokestatic 110, 3) := by decide +kernel
theorem dX9_addPlayer_45 : decode cX9_addPlayer 45 = .ok (.i2l, 1) := by decide +kernel
theorem dX9_addPlayer_46 : decode cX9_addPlayer 46 = .ok (.invokestatic 276, 3) := by decide +kernel
theorem dX9_addPlayer_49 : decode cX9_addPlayer 49 = .ok (.lstore 6, 2) := by decide +kernel
theorem dX9_addPlayer_51 : decode cX9_addPlayer 51 = .ok (.lload 6, 2) := by decide +kernel
theorem dX9_addPlayer_53 : decode cX9_addPlayer 53 = .ok (.lload 4, 2) := by decide +kernel
theorem dX9_addPlayer_55 : decode cX9_addPlayer 55 = .ok (.invokestatic 213, 3) := by decide +kernel
theorem dX9_addPlayer_58 : decode cX9_addPlayer 58 = .ok (.i2l, 1) := by decide +kernel
theorem dX9_addPlayer_59 : decode cX9_addPlayer 59 = .ok (.invokestatic 276, 3) := by decide +kernel
theorem dX9_addPlayer_62 : decode cX9_addPlayer 62 = .ok (.lstore 6, 2) := by decide +kernel
theorem dX9_addPlayer_64 : decode cX9_addPlayer 64 = .ok (.lload 6, 2) := by decide +kernel
theorem dX9_addPlayer_66 : decode cX9_addPlayer 66 = .ok (.lload 4, 2) := by decide +kernel
theorem dX9_addPlayer_68 : decode cX9_addPlayer 68 = .ok (.invokestatic 216, 3) := by decide +kernel
theorem dX9_addPlayer_71 : decode cX9_addPlayer 71 = .ok (.i2l, 1) := by decide +kernel
theorem dX9_addPlayer_72 : decode cX9_addPlayer 72 = .ok (.invokestatic 276, 3) := by decide +kernel
theorem dX9_addPlayer_75 : decode cX9_addPlayer 75 = .ok (.lstore 6, 2) := by decide +kernel
theorem dX9_addPlayer_77 : decode cX9_addPlayer 77 = .ok (.lload 6, 2) := by decide +kernel
theorem dX9_addPlayer_79 : decode cX9_addPlayer 79 = .ok (.aload_n 0, 1) := by decide +kernel
theorem dX9_addPlayer_80 : decode cX9_addPlayer 80 = .ok (.getfield 10, 3) := by decide +kernel
theorem dX9_addPlayer_83 : decode cX9_addPlayer 83 = .ok (.iload_n 3, 1) := by decide +kernel
theorem dX9_addPlayer_84 : decode cX9_addPlayer 84 = .ok (.invokevirtual 134, 3) := by decide +kernel
theorem dX9_addPlayer_87 : decode cX9_addPlayer 87 = .ok (.i2l, 1) := by decide +kernel
theorem dX9_addPlayer_88 : decode cX9_addPlayer 88 = .ok (.invokestatic 276, 3) := by decide +kernel
theorem dX9_addPlayer_91 : decode cX9_addPlayer 91 = .ok (.lstore 6, 2) := by decide +kernel
theorem dX9_addPlayer_93 : decode cX9_addPlayer 93 = .ok (.lload 6, 2) := by decide +kernel
theorem dX9_addPlayer_95 : decode cX9_addPlayer 95 = .ok (.aload_n 0, 1) := by decide +kernel
theorem dX9_addPlayer_96 : decode cX9_addPlayer 96 = .ok (.getfield 10, 3) := by decide +kernel
theorem dX9_addPlayer_99 : decode cX9_addPlayer 99 = .ok (.iload_n 3, 1) := by decide +kernel
theorem dX9_addPlayer_100 : decode cX9_addPlayer 100 = .ok (.invokevirtual 222, 3) := by decide +kernel
theorem dX9_addPlayer_103 : decode cX9_addPlayer 103 = .ok (.i2l, 1) := by decide +kernel
theorem dX9_addPlayer_104 : decode cX9_addPlayer 104 = .ok (.invokestatic 276, 3) := by decide +kernel
theorem dX9_addPlayer_107 : decode cX9_addPlayer 107 = .ok (.lstore 6, 2) := by decide +kernel
theorem dX9_addPlayer_109 : decode cX9_addPlayer 109 = .ok (.lload 6, 2) := by decide +kernel
theorem dX9_addPlayer_111 : decode cX9_addPlayer 111 = .ok (.aload_n 0, 1) := by decide +kernel
theorem dX9_addPlayer_112 : decode cX9_addPlayer 112 = .ok (.getfield 10, 3) := by decide +kernel
theorem dX9_addPlayer_115 : decode cX9_addPlayer 115 = .ok (.iconst 1, 1) := by decide +kernel
theorem dX9_addPlayer_116 : decode cX9_addPlayer 116 = .ok (.iload_n 3, 1) := by decide +kernel
theorem dX9_addPlayer_117 : decode cX9_addPlayer 117 = .ok (.isub, 1) := by decide +kernel
theorem dX9_addPlayer_118 : decode cX9_addPlayer 118 = .ok (.invokevirtual 106, 3) := by decide +kernel
theorem dX9_addPlayer_121 : decode cX9_addPlayer 121 = .ok (.invokestatic 254, 3) := by decide +kernel
theorem dX9_addPlayer_124 : decode cX9_addPlayer 124 = .ok (.i2l, 1) := by decide +kernel
theorem dX9_addPlayer_125 : decode cX9_addPlayer 125 = .ok (.invokestatic 276, 3) := by decide +kernel
theorem dX9_addPlayer_128 : decode cX9_addPlayer 128 = .ok (.lstore 6, 2) := by decide +kernel
theorem dX9_addPlayer_130 : decode cX9_addPlayer 130 = .ok (.iconst 0, 1) := by decide +kernel
theorem dX9_addPlayer_131 : decode cX9_addPlayer 131 = .ok (.istore 8, 2) := by decide +kernel
theorem dX9_addPlayer_133 : decode cX9_addPlayer 133 = .ok (.iload 8, 2) := by decide +kernel
theorem dX9_addPlayer_135 : decode cX9_addPlayer 135 = .ok (.bipush 16, 2) := by decide +kernel
theorem dX9_addPlayer_137 : decode cX9_addPlayer 137 = .ok (.if_icmp .ge 27, 3) := by decide +kernel
theorem dX9_addPlayer_140 : decode cX9_addPlayer 140 = .ok (.lload 6, 2) := by decide +kernel
theorem dX9_addPlayer_142 : decode cX9_addPlayer 142 = .ok (.aload_n 0, 1) := by decide +kernel
theorem dX9_addPlayer_143 : decode cX9_addPlayer 143 = .ok (.getfield 10, 3) := by decide +kernel
theorem dX9_addPlayer_146 : decode cX9_addPlayer 146 = .ok (.iload_n 3, 1) := by decide +kernel
theorem dX9_addPlayer_147 : decode cX9_addPlayer 147 = .ok (.iload 8, 2) := by decide +kernel
theorem dX9_addPlayer_149 : decode cX9_addPlayer 149 = .ok (.invokevirtual 206, 3) := by decide +kernel
theorem dX9_addPlayer_152 : decode cX9_addPlayer 152 = .ok (.i2l, 1) := by decide +kernel
theorem dX9_addPlayer_153 : decode cX9_addPlayer 153 = .ok (.invokestatic 276, 3) := by decide +kernel
theorem dX9_addPlayer_156 : decode cX9_addPlayer 156 = .ok (.lstore 6, 2) := by decide +kernel
theorem dX9_addPlayer_158 : decode cX9_addPlayer 158 = .ok (.iinc 8 1, 3) := by decide +kernel
theorem dX9_addPlayer_161 : decode cX9_addPlayer 161 = .ok (.goto (-28), 3) := by decide +kernel
theorem dX9_addPlayer_164 : decode cX9_addPlayer 164 = .ok (.lload 6, 2) := by decide +kernel
theorem dX9_addPlayer_166 : decode cX9_addPlayer 166 = .ok (.lreturn, 1) := by decide +kernel
set_option maxRecDepth 20000 in
theorem ggX9_addText_X9_added : GoodIn wsX9_addText wsX9_added := goodIn_r _ [6, 7] (by decide +kernel) (by decide +kernel)
set_option maxRecDepth 20000 in
theorem gX9_addText_X9_added : GoodIn wsX9_addText (va_wsS RX9 276 yX9_added wsX9_added) := goodIn_app (goodIn_of _ (by decide +kernel)) ggX9_addText_X9_added
set_option maxRecDepth 20000 in
theorem ggX9_addText_X8_at : GoodIn wsX9_addText wsX8_at := goodIn_r _ [12, 13, 14, 19, 20] (by decide +kernel) (by decide +kernel)
set_option maxRecDepth 20000 in
theorem gX9_addText_X8_at : GoodIn wsX9_addText (wsV RX9 302 RX8 yX8_at wsX8_at) := goodIn_app (goodIn_of _ (by decide +kernel)) ggX9_addText_X8_at
theorem dX9_addText_0 : decode cX9_addText 0 = .ok (.lload_n 1, 1) := by decide +kernel
theorem dX9_addText_1 : decode cX9_addText 1 = .ok (.aload_n 0, 1) := by decide +kernel
theorem dX9_addText_2 : decode cX9_addText 2 = .ok (.getfield 26, 3) := by decide +kernel
theorem dX9_addText_5 : decode cX9_addText 5 = .ok (.getfield 150, 3) := by decide +kernel
theorem dX9_addText_8 : decode cX9_addText 8 = .ok (.i2l, 1) := by decide +kernel
theorem dX9_addText_9 : decode cX9_addText 9 = .ok (.invokestatic 276, 3) := by decide +kernel
theorem dX9_addText_12 : decode cX9_addText 12 = .ok (.lstore_n 3, 1) := by decide +kernel
theorem dX9_addText_13 : decode cX9_addText 13 = .ok (.iconst 0, 1) := by decide +kernel
theorem dX9_addText_14 : decode cX9_addText 14 = .ok (.istore 5, 2) := by decide +kernel
theorem dX9_addText_16 : decode cX9_addText 16 = .ok (.iload 5, 2) := by decide +kernel
theorem dX9_addText_18 : decode cX9_addText 18 = .ok (.aload_n 0, 1) := by decide +kernel
theorem dX9_addText_19 : decode cX9_addText 19 = .ok (.getfield 26, 3) := by decide +kernel
theorem dX9_addText_22 : decode cX9_addText 22 = .ok (.getfield 150, 3) := by decide +kernel
theorem dX9_addText_25 : decode cX9_addText 25 = .ok (.if_icmp .ge 24, 3) := by decide +kernel
theorem dX9_addText_28 : decode cX9_addText 28 = .ok (.lload_n 3, 1) := by decide +kernel
theorem dX9_addText_29 : decode cX9_addText 29 = .ok (.aload_n 0, 1) := by decide +kernel
theorem dX9_addText_30 : decode cX9_addText 30 = .ok (.getfield 26, 3) := by decide +kernel
theorem dX9_addText_33 : decode cX9_addText 33 = .ok (.iload 5, 2) := by decide +kernel
theorem dX9_addText_35 : decode cX9_addText 35 = .ok (.invokevirtual 302, 3) := by decide +kernel
theorem dX9_addText_38 : decode cX9_addText 38 = .ok (.i2l, 1) := by decide +kernel
theorem dX9_addText_39 : decode cX9_addText 39 = .ok (.invokestatic 276, 3) := by decide +kernel
theorem dX9_addText_42 : decode cX9_addText 42 = .ok (.lstore_n 3, 1) := by decide +kernel
theorem dX9_addText_43 : decode cX9_addText 43 = .ok (.iinc 5 1, 3) := by decide +kernel
theorem dX9_addText_46 : decode cX9_addText 46 = .ok (.goto (-30), 3) := by decide +kernel
theorem dX9_addText_49 : decode cX9_addText 49 = .ok (.lload_n 3, 1) := by decide +kernel
theorem dX9_addText_50 : decode cX9_addText 50 = .ok (.lreturn, 1) := by decide +kernel
theorem dX9_bitsOf_0 : decode cX9_bitsOf 0 = .ok (.dload_n 0, 1) := by decide +kernel
theorem dX9_bitsOf_1 : decode cX9_bitsOf 1 = .ok (.dconst 0, 1) := by decide +kernel
theorem dX9_bitsOf_2 : decode cX9_bitsOf 2 = .ok (.dcmp .g, 1) := by decide +kernel
theorem dX9_bitsOf_3 : decode cX9_bitsOf 3 = .ok (.ifCond .gt 5, 3) := by decide +kernel
theorem dX9_bitsOf_6 : decode cX9_bitsOf 6 = .ok (.lconst 0, 1) := by decide +kernel
theorem dX9_bitsOf_7 : decode cX9_bitsOf 7 = .ok (.lreturn, 1) := by decide +kernel
theorem dX9_bitsOf_8 : decode cX9_bitsOf 8 = .ok (.dload_n 0, 1) := by decide +kernel
theorem dX9_bitsOf_9 : decode cX9_bitsOf 9 = .ok (.dstore_n 2, 1) := by decide +kernel
theorem dX9_bitsOf_10 : decode cX9_bitsOf 10 = .ok (.ldc2_w 313, 3) := by decide +kernel
theorem dX9_bitsOf_13 : decode cX9_bitsOf 13 = .ok (.lstore 4, 2) := by decide +kernel
theorem dX9_bitsOf_15 : decode cX9_bitsOf 15 = .ok (.iconst 0, 1) := by decide +kernel
theorem dX9_bitsOf_16 : decode cX9_bitsOf 16 = .ok (.istore 6, 2) := by decide +kernel
theorem dX9_bitsOf_18 : decode cX9_bitsOf 18 = .ok (.iload 6, 2) := by decide +kernel
theorem dX9_bitsOf_20 : decode cX9_bitsOf 20 = .ok (.sipush 1000, 3) := by decide +kernel
theorem dX9_bitsOf_23 : decode cX9_bitsOf 23 = .ok (.if_icmp .ge 27, 3) := by decide +kernel
theorem dX9_bitsOf_26 : decode cX9_bitsOf 26 = .ok (.dload_n 2, 1) := by decide +kernel
theorem dX9_bitsOf_27 : decode cX9_bitsOf 27 = .ok (.dconst 1, 1) := by decide +kernel
theorem dX9_bitsOf_28 : decode cX9_bitsOf 28 = .ok (.dcmp .g, 1) := by decide +kernel
theorem dX9_bitsOf_29 : decode cX9_bitsOf 29 = .ok (.ifCond .ge 21, 3) := by decide +kernel
theorem dX9_bitsOf_32 : decode cX9_bitsOf 32 = .ok (.dload_n 2, 1) := by decide +kernel
theorem dX9_bitsOf_33 : decode cX9_bitsOf 33 = .ok (.ldc2_w 315, 3) := by decide +kernel
theorem dX9_bitsOf_36 : decode cX9_bitsOf 36 = .ok (.dmul, 1) := by decide +kernel
theorem dX9_bitsOf_37 : decode cX9_bitsOf 37 = .ok (.dstore_n 2, 1) := by decide +kernel
theorem dX9_bitsOf_38 : decode cX9_bitsOf 38 = .ok (.lload 4, 2) := by decide +kernel
theorem dX9_bitsOf_40 : decode cX9_bitsOf 40 = .ok (.lconst 1, 1) := by decide +kernel
theorem dX9_bitsOf_41 : decode cX9_bitsOf 41 = .ok (.lsub, 1) := by decide +kernel
theorem dX9_bitsOf_42 : decode cX9_bitsOf 42 = .ok (.lstore 4, 2) := by decide +kernel
theorem dX9_bitsOf_44 : decode cX9_bitsOf 44 = .ok (.iinc 6 1, 3) := by decide +kernel
theorem dX9_bitsOf_47 : decode cX9_bitsOf 47 = .ok (.goto (-29), 3) := by decide +kernel
theorem dX9_bitsOf_50 : decode cX9_bitsOf 50 = .ok (.lload 4, 2) := by decide +kernel
theorem dX9_bitsOf_52 : decode cX9_bitsOf 52 = .ok (.bipush 52, 2) := by decide +kernel
theorem dX9_bitsOf_54 : decode cX9_bitsOf 54 = .ok (.lshl, 1) := by decide +kernel
theorem dX9_bitsOf_55 : decode cX9_bitsOf 55 = .ok (.dload_n 2, 1) := by decide +kernel
theorem dX9_bitsOf_56 : decode cX9_bitsOf 56 = .ok (.dconst 1, 1) := by decide +kernel
theorem dX9_bitsOf_57 : decode cX9_bitsOf 57 = .ok (.dsub, 1) := by decide +kernel
theorem dX9_bitsOf_58 : decode cX9_bitsOf 58 = .ok (.ldc2_w 317, 3) := by decide +kernel
theorem dX9_bitsOf_61 : decode cX9_bitsOf 61 = .ok (.dmul, 1) := by decide +kernel
theorem dX9_bitsOf_62 : decode cX9_bitsOf 62 = .ok (.d2l, 1) := by decide +kernel
theorem dX9_bitsOf_63 : decode cX9_bitsOf 63 = .ok (.ladd, 1) := by decide +kernel
theorem dX9_bitsOf_64 : decode cX9_bitsOf 64 = .ok (.lreturn, 1) := by decide +kernel
set_option maxRecDepth 20000 in
theorem ggX10_init_X10_begins : GoodIn wsX10_init wsX10_begins := goodIn_r _ [21, 5, 22, 23, 24, 20, 25, 26, 27, 28, 29, 30, 31, 32, 33, 34, 35, 36, 37, 38, 39, 40, 41, 42, 43, 44, 45, 46, 47, 48, 49] (by decide +kernel) (by decide +kernel)
set_option maxRecDepth 20000 in
theorem gX10_init_X10_begins : GoodIn wsX10_init (wsV RX10 44 RX10 yX10_begins wsX10_begins) := goodIn_app (goodIn_of _ (by decide +kernel)) ggX10_init_X10_begins
