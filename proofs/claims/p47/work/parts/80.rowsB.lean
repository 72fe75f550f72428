set_option maxRecDepth 20000 in
theorem ggX9_init_X1_init : GoodIn wsX9_init wsX1_init := goodIn_r _ [21, 22, 2, 3, 23, 24, 25, 26, 27, 28, 29, 30, 31, 32, 33, 34, 35, 36, 69, 70, 71, 72, 73, 74, 75, 76, 77, 78, 79, 80, 81] (by decide +kernel) (by decide +kernel)
set_option maxRecDepth 20000 in
theorem gX9_init_X1_init_n9 : GoodIn wsX9_init (wsX1_init) := ggX9_init_X1_init
set_option maxRecDepth 20000 in
theorem ggX9_init_X2_init : GoodIn wsX9_init wsX2_init := goodIn_r _ [39, 40, 2, 3, 41, 42, 5, 6, 43, 44, 45, 20, 21, 22, 23, 24, 25, 26, 27, 28, 29, 30, 31, 32, 33, 34, 35, 36, 86, 87, 88, 89, 69, 70, 71, 72, 73, 74, 75, 76, 77, 78, 79, 80, 81] (by decide +kernel) (by decide +kernel)
set_option maxRecDepth 20000 in
theorem gX9_init_X2_init : GoodIn wsX9_init (wsX2_init) := ggX9_init_X2_init
set_option maxRecDepth 20000 in
theorem ggX9_init_X8_init : GoodIn wsX9_init wsX8_init := goodIn_r _ [47, 48, 2, 3, 49, 50, 51, 90, 91] (by decide +kernel) (by decide +kernel)
set_option maxRecDepth 20000 in
theorem gX9_init_X8_init_n25 : GoodIn wsX9_init (wsX8_init) := ggX9_init_X8_init
set_option maxRecDepth 20000 in
theorem ggX9_init_X4_init : GoodIn wsX9_init wsX4_init := goodIn_r _ [53, 54, 2, 3, 55, 56, 57, 58, 59, 60, 61, 62, 63, 64, 65, 66, 67, 68, 95, 96, 97, 98, 92, 93, 94] (by decide +kernel) (by decide +kernel)
set_option maxRecDepth 20000 in
theorem gX9_init_X4_init_n32 : GoodIn wsX9_init (wsX4_init) := ggX9_init_X4_init
theorem dX9_init_0 : decode cX9_init 0 = .ok (.aload_n 0, 1) := by decide +kernel
theorem dX9_init_1 : decode cX9_init 1 = .ok (.invokespecial 1, 3) := by decide +kernel
theorem dX9_init_4 : decode cX9_init 4 = .ok (.aload_n 0, 1) := by decide +kernel
theorem dX9_init_5 : decode cX9_init 5 = .ok (.new 7, 3) := by decide +kernel
theorem dX9_init_8 : decode cX9_init 8 = .ok (.dup, 1) := by decide +kernel
theorem dX9_init_9 : decode cX9_init 9 = .ok (.invokespecial 9, 3) := by decide +kernel
theorem dX9_init_12 : decode cX9_init 12 = .ok (.putfield 10, 3) := by decide +kernel
theorem dX9_init_15 : decode cX9_init 15 = .ok (.aload_n 0, 1) := by decide +kernel
theorem dX9_init_16 : decode cX9_init 16 = .ok (.new 16, 3) := by decide +kernel
theorem dX9_init_19 : decode cX9_init 19 = .ok (.dup, 1) := by decide +kernel
theorem dX9_init_20 : decode cX9_init 20 = .ok (.invokespecial 18, 3) := by decide +kernel
theorem dX9_init_23 : decode cX9_init 23 = .ok (.putfield 19, 3) := by decide +kernel
theorem dX9_init_26 : decode cX9_init 26 = .ok (.aload_n 0, 1) := by decide +kernel
theorem dX9_init_27 : decode cX9_init 27 = .ok (.new 23, 3) := by decide +kernel
theorem dX9_init_30 : decode cX9_init 30 = .ok (.dup, 1) := by decide +kernel
theorem dX9_init_31 : decode cX9_init 31 = .ok (.invokespecial 25, 3) := by decide +kernel
theorem dX9_init_34 : decode cX9_init 34 = .ok (.putfield 26, 3) := by decide +kernel
theorem dX9_init_37 : decode cX9_init 37 = .ok (.aload_n 0, 1) := by decide +kernel
theorem dX9_init_38 : decode cX9_init 38 = .ok (.new 30, 3) := by decide +kernel
theorem dX9_init_41 : decode cX9_init 41 = .ok (.dup, 1) := by decide +kernel
theorem dX9_init_42 : decode cX9_init 42 = .ok (.invokespecial 32, 3) := by decide +kernel
theorem dX9_init_45 : decode cX9_init 45 = .ok (.putfield 33, 3) := by decide +kernel
theorem dX9_init_48 : decode cX9_init 48 = .ok (.return_, 1) := by decide +kernel
set_option maxRecDepth 20000 in
theorem ggX9_roll_X0_isDie : GoodIn wsX9_roll wsX0_isDie := goodIn_r _ [11] (by decide +kernel) (by decide +kernel)
set_option maxRecDepth 20000 in
theorem gX9_roll_X0_isDie : GoodIn wsX9_roll (va_wsS RX9 37 yX0_isDie wsX0_isDie) := goodIn_app (goodIn_of _ (by decide +kernel)) ggX9_roll_X0_isDie
set_option maxRecDepth 20000 in
theorem ggX9_roll_X1_awaitsRoll : GoodIn wsX9_roll wsX1_awaitsRoll := goodIn_r _ [16, 17, 66, 67, 68, 69, 70, 71, 72, 73, 74, 75, 76, 77, 78] (by decide +kernel) (by decide +kernel)
set_option maxRecDepth 20000 in
theorem gX9_roll_X1_awaitsRoll : GoodIn wsX9_roll (wsV RX9 46 RX1 yX1_awaitsRoll wsX1_awaitsRoll) := goodIn_app (goodIn_of _ (by decide +kernel)) ggX9_roll_X1_awaitsRoll
set_option maxRecDepth 20000 in
theorem ggX9_roll_X2_save : GoodIn wsX9_roll wsX2_save := goodIn_r _ [22, 23, 24, 25, 26, 21, 27, 28, 29, 30, 31, 32, 33, 34, 35, 15, 36, 37, 17, 38, 39, 40, 41, 42, 43, 44, 45, 46, 47, 48, 79, 80, 81, 82, 66, 67, 68, 69, 70, 71, 72, 73, 74, 75, 76, 77, 78] (by decide +kernel) (by decide +kernel)
set_option maxRecDepth 20000 in
theorem gX9_roll_X2_save : GoodIn wsX9_roll (wsV RX9 53 RX2 yX2_save wsX2_save) := goodIn_app (goodIn_of _ (by decide +kernel)) ggX9_roll_X2_save
set_option maxRecDepth 20000 in
theorem ggX9_roll_X1_doRoll : GoodIn wsX9_roll wsX1_doRoll := goodIn_r _ [52, 38, 17, 53, 54, 10, 55, 66, 67, 68, 69, 70, 71, 72, 73, 74, 75, 76, 77, 78] (by decide +kernel) (by decide +kernel)
set_option maxRecDepth 20000 in
theorem gX9_roll_X1_doRoll : GoodIn wsX9_roll (wsV RX9 57 RX1 yX1_doRoll wsX1_doRoll) := goodIn_app (goodIn_of _ (by decide +kernel)) ggX9_roll_X1_doRoll
set_option maxRecDepth 20000 in
theorem ggX9_roll_X0_count : GoodIn wsX9_roll wsX0_count := goodIn_r _ [58, 59, 60, 10, 61] (by decide +kernel) (by decide +kernel)
set_option maxRecDepth 20000 in
theorem gX9_roll_X0_count : GoodIn wsX9_roll (va_wsS RX9 65 yX0_count wsX0_count) := goodIn_app (goodIn_of _ (by decide +kernel)) ggX9_roll_X0_count
theorem dX9_roll_0 : decode cX9_roll 0 = .ok (.iload_n 1, 1) := by decide +kernel
theorem dX9_roll_1 : decode cX9_roll 1 = .ok (.invokestatic 37, 3) := by decide +kernel
theorem dX9_roll_4 : decode cX9_roll 4 = .ok (.ifCond .eq 10, 3) := by decide +kernel
theorem dX9_roll_7 : decode cX9_roll 7 = .ok (.iload_n 2, 1) := by decide +kernel
theorem dX9_roll_8 : decode cX9_roll 8 = .ok (.invokestatic 37, 3) := by decide +kernel
theorem dX9_roll_11 : decode cX9_roll 11 = .ok (.ifCond .ne 11, 3) := by decide +kernel
theorem dX9_roll_14 : decode cX9_roll 14 = .ok (.new 43, 3) := by decide +kernel
theorem dX9_roll_17 : decode cX9_roll 17 = .ok (.dup, 1) := by decide +kernel
theorem dX9_roll_18 : decode cX9_roll 18 = .ok (.invokespecial 45, 3) := by decide +kernel
theorem dX9_roll_21 : decode cX9_roll 21 = .ok (.athrow, 1) := by decide +kernel
theorem dX9_roll_22 : decode cX9_roll 22 = .ok (.aload_n 0, 1) := by decide +kernel
theorem dX9_roll_23 : decode cX9_roll 23 = .ok (.getfield 10, 3) := by decide +kernel
theorem dX9_roll_26 : decode cX9_roll 26 = .ok (.invokevirtual 46, 3) := by decide +kernel
theorem dX9_roll_29 : decode cX9_roll 29 = .ok (.ifCond .ne 11, 3) := by decide +kernel
theorem dX9_roll_32 : decode cX9_roll 32 = .ok (.new 50, 3) := by decide +kernel
theorem dX9_roll_35 : decode cX9_roll 35 = .ok (.dup, 1) := by decide +kernel
theorem dX9_roll_36 : decode cX9_roll 36 = .ok (.invokespecial 52, 3) := by decide +kernel
theorem dX9_roll_39 : decode cX9_roll 39 = .ok (.athrow, 1) := by decide +kernel
theorem dX9_roll_40 : decode cX9_roll 40 = .ok (.aload_n 0, 1) := by decide +kernel
theorem dX9_roll_41 : decode cX9_roll 41 = .ok (.getfield 19, 3) := by decide +kernel
theorem dX9_roll_44 : decode cX9_roll 44 = .ok (.aload_n 0, 1) := by decide +kernel
theorem dX9_roll_45 : decode cX9_roll 45 = .ok (.getfield 10, 3) := by decide +kernel
theorem dX9_roll_48 : decode cX9_roll 48 = .ok (.invokevirtual 53, 3) := by decide +kernel
theorem dX9_roll_51 : decode cX9_roll 51 = .ok (.aload_n 0, 1) := by decide +kernel
theorem dX9_roll_52 : decode cX9_roll 52 = .ok (.getfield 10, 3) := by decide +kernel
theorem dX9_roll_55 : decode cX9_roll 55 = .ok (.iload_n 1, 1) := by decide +kernel
theorem dX9_roll_56 : decode cX9_roll 56 = .ok (.iload_n 2, 1) := by decide +kernel
theorem dX9_roll_57 : decode cX9_roll 57 = .ok (.invokevirtual 57, 3) := by decide +kernel
theorem dX9_roll_60 : decode cX9_roll 60 = .ok (.aload_n 0, 1) := by decide +kernel
theorem dX9_roll_61 : decode cX9_roll 61 = .ok (.getfield 10, 3) := by decide +kernel
theorem dX9_roll_64 : decode cX9_roll 64 = .ok (.getfield 61, 3) := by decide +kernel
theorem dX9_roll_67 : decode cX9_roll 67 = .ok (.invokestatic 65, 3) := by decide +kernel
theorem dX9_roll_70 : decode cX9_roll 70 = .ok (.ireturn, 1) := by decide +kernel
set_option maxRecDepth 20000 in
theorem ggX9_step_X9_isPointOrBar : GoodIn wsX9_step wsX9_isPointOrBar := goodIn_r _ [12, 13, 14, 11, 15] (by decide +kernel) (by decide +kernel)
set_option maxRecDepth 20000 in
theorem gX9_step_X9_isPointOrBar : GoodIn wsX9_step (va_wsS RX9 69 yX9_isPointOrBar wsX9_isPointOrBar) := goodIn_app (goodIn_of _ (by decide +kernel)) ggX9_step_X9_isPointOrBar
set_option maxRecDepth 20000 in
theorem ggX9_step_X0_isDie : GoodIn wsX9_step wsX0_isDie := goodIn_r _ [19] (by decide +kernel) (by decide +kernel)
set_option maxRecDepth 20000 in
theorem gX9_step_X0_isDie : GoodIn wsX9_step (va_wsS RX9 37 yX0_isDie wsX0_isDie) := goodIn_app (goodIn_of _ (by decide +kernel)) ggX9_step_X0_isDie
set_option maxRecDepth 20000 in
theorem ggX9_step_X1_reasonAgainst : GoodIn wsX9_step wsX1_reasonAgainst := goodIn_r _ [24, 25, 26, 27, 28, 29, 23, 30, 31, 32, 33, 34, 35, 36, 37, 38, 39, 40, 41, 42, 43, 44, 45, 46, 47, 48, 49, 50, 51, 52, 53, 54, 55, 56, 18, 57, 58, 59, 60, 61, 62, 63, 64, 65, 66, 67, 68, 69, 70, 71, 72, 73, 74, 75, 76, 77, 78, 79, 80, 81, 82, 83, 84, 85, 86, 87, 88, 89, 90, 91, 92, 93, 94, 95, 96, 97, 98, 99, 100, 101, 102, 103, 160, 161, 162, 163, 164, 165, 166, 167, 168, 169, 170, 171, 172] (by decide +kernel) (by decide +kernel)
set_option maxRecDepth 20000 in
theorem gX9_step_X1_reasonAgainst : GoodIn wsX9_step (wsV RX9 75 RX1 yX1_reasonAgainst wsX1_reasonAgainst) := goodIn_app (goodIn_of _ (by decide +kernel)) ggX9_step_X1_reasonAgainst
set_option maxRecDepth 20000 in
theorem ggX9_step_X2_save : GoodIn wsX9_step wsX2_save := goodIn_r _ [108, 109, 110, 111, 112, 107, 113, 114, 115, 116, 117, 118, 119, 120, 121, 23, 122, 26, 123, 25, 124, 125, 35, 36, 126, 127, 128, 129, 130, 131, 173, 174, 175, 176, 160, 161, 162, 163, 164, 165, 166, 167, 168, 169, 170, 171, 172] (by decide +kernel) (by decide +kernel)
set_option maxRecDepth 20000 in
theorem gX9_step_X2_save : GoodIn wsX9_step (wsV RX9 53 RX2 yX2_save wsX2_save) := goodIn_app (goodIn_of _ (by decide +kernel)) ggX9_step_X2_save
set_option maxRecDepth 20000 in
theorem ggX9_step_X1_doStep : GoodIn wsX9_step wsX1_doStep := goodIn_r _ [135, 26, 25, 124, 41, 42, 23, 43, 37, 38, 39, 40, 31, 32, 33, 34, 35, 36, 136, 88, 49, 89, 75, 76, 73, 77, 84, 85, 86, 137, 138, 139, 140, 27, 28, 29, 30, 141, 82, 83, 51, 52, 53, 54, 142, 91, 18, 92, 58, 59, 60, 143, 144, 145, 146, 128, 129, 147, 148, 149, 150, 79, 80, 151, 72, 74, 152, 153, 154, 155, 126, 127, 123, 160, 161, 162, 163, 164, 165, 166, 167, 168, 169, 170, 171, 172] (by decide +kernel) (by decide +kernel)
set_option maxRecDepth 20000 in
theorem gX9_step_X1_doStep : GoodIn wsX9_step (wsV RX9 79 RX1 yX1_doStep wsX1_doStep) := goodIn_app (goodIn_of _ (by decide +kernel)) ggX9_step_X1_doStep
theorem dX9_step_0 : decode cX9_step 0 = .ok (.iload_n 1, 1) := by decide +kernel
theorem dX9_step_1 : decode cX9_step 1 = .ok (.invokestatic 69, 3) := by decide +kernel
theorem dX9_step_4 : decode cX9_step 4 = .ok (.ifCond .ne 11, 3) := by decide +kernel
theorem dX9_step_7 : decode cX9_step 7 = .ok (.new 72, 3) := by decide +kernel
theorem dX9_step_10 : decode cX9_step 10 = .ok (.dup, 1) := by decide +kernel
theorem dX9_step_11 : decode cX9_step 11 = .ok (.invokespecial 74, 3) := by decide +kernel
theorem dX9_step_14 : decode cX9_step 14 = .ok (.athrow, 1) := by decide +kernel
theorem dX9_step_15 : decode cX9_step 15 = .ok (.iload_n 2, 1) := by decide +kernel
theorem dX9_step_16 : decode cX9_step 16 = .ok (.invokestatic 37, 3) := by decide +kernel
theorem dX9_step_19 : decode cX9_step 19 = .ok (.ifCond .ne 11, 3) := by decide +kernel
theorem dX9_step_22 : decode cX9_step 22 = .ok (.new 43, 3) := by decide +kernel
theorem dX9_step_25 : decode cX9_step 25 = .ok (.dup, 1) := by decide +kernel
theorem dX9_step_26 : decode cX9_step 26 = .ok (.invokespecial 45, 3) := by decide +kernel
theorem dX9_step_29 : decode cX9_step 29 = .ok (.athrow, 1) := by decide +kernel
theorem dX9_step_30 : decode cX9_step 30 = .ok (.aload_n 0, 1) := by decide +kernel
theorem dX9_step_31 : decode cX9_step 31 = .ok (.getfield 10, 3) := by decide +kernel
theorem dX9_step_34 : decode cX9_step 34 = .ok (.iload_n 1, 1) := by decide +kernel
theorem dX9_step_35 : decode cX9_step 35 = .ok (.iload_n 2, 1) := by decide +kernel
theorem dX9_step_36 : decode cX9_step 36 = .ok (.invokevirtual 75, 3) := by decide +kernel
theorem dX9_step_39 : decode cX9_step 39 = .ok (.ifCond .eq 11, 3) := by decide +kernel
theorem dX9_step_42 : decode cX9_step 42 = .ok (.new 50, 3) := by decide +kernel
theorem dX9_step_45 : decode cX9_step 45 = .ok (.dup, 1) := by decide +kernel
theorem dX9_step_46 : decode cX9_step 46 = .ok (.invokespecial 52, 3) := by decide +kernel
theorem dX9_step_49 : decode cX9_step 49 = .ok (.athrow, 1) := by decide +kernel
theorem dX9_step_50 : decode cX9_step 50 = .ok (.aload_n 0, 1) := by decide +kernel
theorem dX9_step_51 : decode cX9_step 51 = .ok (.getfield 19, 3) := by decide +kernel
theorem dX9_step_54 : decode cX9_step 54 = .ok (.aload_n 0, 1) := by decide +kernel
theorem dX9_step_55 : decode cX9_step 55 = .ok (.getfield 10, 3) := by decide +kernel
theorem dX9_step_58 : decode cX9_step 58 = .ok (.invokevirtual 53, 3) := by decide +kernel
theorem dX9_step_61 : decode cX9_step 61 = .ok (.aload_n 0, 1) := by decide +kernel
theorem dX9_step_62 : decode cX9_step 62 = .ok (.getfield 10, 3) := by decide +kernel
theorem dX9_step_65 : decode cX9_step 65 = .ok (.iload_n 1, 1) := by decide +kernel
theorem dX9_step_66 : decode cX9_step 66 = .ok (.iload_n 2, 1) := by decide +kernel
theorem dX9_step_67 : decode cX9_step 67 = .ok (.invokevirtual 79, 3) := by decide +kernel
theorem dX9_step_70 : decode cX9_step 70 = .ok (.ireturn, 1) := by decide +kernel
set_option maxRecDepth 20000 in
theorem ggX9_endTurn_X1_canEndTurn : GoodIn wsX9_endTurn wsX1_canEndTurn := goodIn_r _ [10, 11, 12, 13, 14, 9, 15, 16, 17, 18, 19, 20, 21, 22, 23, 24, 25, 26, 27, 28, 29, 30, 31, 32, 33, 34, 35, 36, 37, 38, 39, 40, 41, 42, 43, 44, 45, 46, 47, 48, 49, 50, 51, 52, 53, 54, 55, 56, 57, 58, 59, 60, 61, 62, 63, 64, 65, 66, 67, 68, 69, 70, 71, 72, 73, 74, 75, 76, 77, 78, 114, 115, 116, 117, 118, 119, 120, 121, 122, 123, 124, 125, 126] (by decide +kernel) (by decide +kernel)
set_option maxRecDepth 20000 in
theorem gX9_endTurn_X1_canEndTurn : GoodIn wsX9_endTurn (wsV RX9 83 RX1 yX1_canEndTurn wsX1_canEndTurn) := goodIn_app (goodIn_of _ (by decide +kernel)) ggX9_endTurn_X1_canEndTurn
set_option maxRecDepth 20000 in
theorem ggX9_endTurn_X2_save : GoodIn wsX9_endTurn wsX2_save := goodIn_r _ [83, 84, 85, 86, 87, 82, 88, 89, 90, 91, 92, 93, 94, 95, 96, 9, 97, 21, 11, 16, 98, 99, 26, 27, 100, 101, 102, 103, 104, 105, 127, 128, 129, 130, 114, 115, 116, 117, 118, 119, 120, 121, 122, 123, 124, 125, 126] (by decide +kernel) (by decide +kernel)
set_option maxRecDepth 20000 in
theorem gX9_endTurn_X2_save : GoodIn wsX9_endTurn (wsV RX9 53 RX2 yX2_save wsX2_save) := goodIn_app (goodIn_of _ (by decide +kernel)) ggX9_endTurn_X2_save
set_option maxRecDepth 20000 in
theorem ggX9_endTurn_X1_doEndTurn : GoodIn wsX9_endTurn wsX1_doEndTurn := goodIn_r _ [109, 21, 16, 11, 114, 115, 116, 117, 118, 119, 120, 121, 122, 123, 124, 125, 126] (by decide +kernel) (by decide +kernel)
set_option maxRecDepth 20000 in
theorem gX9_endTurn_X1_doEndTurn : GoodIn wsX9_endTurn (wsV RX9 86 RX1 yX1_doEndTurn wsX1_doEndTurn) := goodIn_app (goodIn_of _ (by decide +kernel)) ggX9_endTurn_X1_doEndTurn
theorem dX9_endTurn_0 : decode cX9_endTurn 0 = .ok (.aload_n 0, 1) := by decide +kernel
theorem dX9_endTurn_1 : decode cX9_endTurn 1 = .ok (.getfield 10, 3) := by decide +kernel
theorem dX9_endTurn_4 : decode cX9_endTurn 4 = .ok (.invokevirtual 83, 3) := by decide +kernel
theorem dX9_endTurn_7 : decode cX9_endTurn 7 = .ok (.ifCond .ne 11, 3) := by decide +kernel
theorem dX9_endTurn_10 : decode cX9_endTurn 10 = .ok (.new 50, 3) := by decide +kernel
theorem dX9_endTurn_13 : decode cX9_endTurn 13 = .ok (.dup, 1) := by decide +kernel
theorem dX9_endTurn_14 : decode cX9_endTurn 14 = .ok (.invokespecial 52, 3) := by decide +kernel
theorem dX9_endTurn_17 : decode cX9_endTurn 17 = .ok (.athrow, 1) := by decide +kernel
theorem dX9_endTurn_18 : decode cX9_endTurn 18 = .ok (.aload_n 0, 1) := by decide +kernel
theorem dX9_endTurn_19 : decode cX9_endTurn 19 = .ok (.getfield 19, 3) := by decide +kernel
theorem dX9_endTurn_22 : decode cX9_endTurn 22 = .ok (.aload_n 0, 1) := by decide +kernel
theorem dX9_endTurn_23 : decode cX9_endTurn 23 = .ok (.getfield 10, 3) := by decide +kernel
theorem dX9_endTurn_26 : decode cX9_endTurn 26 = .ok (.invokevirtual 53, 3) := by decide +kernel
theorem dX9_endTurn_29 : decode cX9_endTurn 29 = .ok (.aload_n 0, 1) := by decide +kernel
theorem dX9_endTurn_30 : decode cX9_endTurn 30 = .ok (.getfield 10, 3) := by decide +kernel
theorem dX9_endTurn_33 : decode cX9_endTurn 33 = .ok (.invokevirtual 86, 3) := by decide +kernel
theorem dX9_endTurn_36 : decode cX9_endTurn 36 = .ok (.aload_n 0, 1) := by decide +kernel
theorem dX9_endTurn_37 : decode cX9_endTurn 37 = .ok (.getfield 10, 3) := by decide +kernel
theorem dX9_endTurn_40 : decode cX9_endTurn 40 = .ok (.getfield 89, 3) := by decide +kernel
theorem dX9_endTurn_43 : decode cX9_endTurn 43 = .ok (.ireturn, 1) := by decide +kernel
set_option maxRecDepth 20000 in
theorem ggX9_carry_X9_isPlayer : GoodIn wsX9_carry wsX9_isPlayer := goodIn_r _ [10] (by decide +kernel) (by decide +kernel)
set_option maxRecDepth 20000 in
theorem gX9_carry_X9_isPlayer : GoodIn wsX9_carry (va_wsS RX9 92 yX9_isPlayer wsX9_isPlayer) := goodIn_app (goodIn_of _ (by decide +kernel)) ggX9_carry_X9_isPlayer
set_option maxRecDepth 20000 in
theorem ggX9_carry_X9_isPlace : GoodIn wsX9_carry wsX9_isPlace := goodIn_r _ [13, 14, 15, 9, 16, 17, 18, 19] (by decide +kernel) (by decide +kernel)
set_option maxRecDepth 20000 in
theorem gX9_carry_X9_isPlace : GoodIn wsX9_carry (va_wsS RX9 95 yX9_isPlace wsX9_isPlace) := goodIn_app (goodIn_of _ (by decide +kernel)) ggX9_carry_X9_isPlace
set_option maxRecDepth 20000 in
theorem ggX9_carry_X1_canCarry : GoodIn wsX9_carry wsX1_canCarry := goodIn_r _ [24, 25, 26, 27, 28, 23, 29, 30, 31, 32, 33, 34, 35, 36, 37, 38, 39, 40, 41, 42, 43, 44, 45, 46, 47, 48, 49, 50, 51, 52, 53, 54, 55, 102, 103, 104, 105, 106, 107, 108, 109, 110, 111, 112, 113, 114] (by decide +kernel) (by decide +kernel)
set_option maxRecDepth 20000 in
theorem gX9_carry_X1_canCarry : GoodIn wsX9_carry (wsV RX9 98 RX1 yX1_canCarry wsX1_canCarry) := goodIn_app (goodIn_of _ (by decide +kernel)) ggX9_carry_X1_canCarry
set_option maxRecDepth 20000 in
theorem ggX9_carry_X2_save : GoodIn wsX9_carry wsX2_save := goodIn_r _ [60, 61, 62, 63, 64, 59, 65, 66, 67, 68, 69, 70, 71, 72, 73, 23, 74, 75, 25, 76, 77, 78, 34, 35, 79, 80, 81, 82, 83, 84, 115, 116, 117, 118, 102, 103, 104, 105, 106, 107, 108, 109, 110, 111, 112, 113, 114] (by decide +kernel) (by decide +kernel)
set_option maxRecDepth 20000 in
theorem gX9_carry_X2_save : GoodIn wsX9_carry (wsV RX9 53 RX2 yX2_save wsX2_save) := goodIn_app (goodIn_of _ (by decide +kernel)) ggX9_carry_X2_save
set_option maxRecDepth 20000 in
theorem ggX9_carry_X1_doCarry : GoodIn wsX9_carry wsX1_doCarry := goodIn_r _ [88, 43, 44, 45, 23, 46, 30, 31, 32, 33, 34, 35, 36, 37, 38, 47, 48, 41, 49, 89, 90, 91, 92, 102, 103, 104, 105, 106, 107, 108, 109, 110, 111, 112, 113, 114] (by decide +kernel) (by decide +kernel)
set_option maxRecDepth 20000 in
theorem gX9_carry_X1_doCarry : GoodIn wsX9_carry (wsV RX9 102 RX1 yX1_doCarry wsX1_doCarry) := goodIn_app (goodIn_of _ (by decide +kernel)) ggX9_carry_X1_doCarry
set_option maxRecDepth 20000 in
theorem ggX9_carry_X1_piecesOf : GoodIn wsX9_carry wsX1_piecesOf := goodIn_r _ [33, 34, 35, 102, 103, 104, 105, 106, 107, 108, 109, 110, 111, 112, 113, 114] (by decide +kernel) (by decide +kernel)
set_option maxRecDepth 20000 in
theorem gX9_carry_X1_piecesOf : GoodIn wsX9_carry (wsV RX9 106 RX1 yX1_piecesOf wsX1_piecesOf) := goodIn_app (goodIn_of _ (by decide +kernel)) ggX9_carry_X1_piecesOf
set_option maxRecDepth 20000 in
theorem ggX9_carry_X3_sumOfWays : GoodIn wsX9_carry wsX3_sumOfWays := goodIn_r _ [96, 97, 40, 41, 42] (by decide +kernel) (by decide +kernel)
set_option maxRecDepth 20000 in
theorem gX9_carry_X3_sumOfWays : GoodIn wsX9_carry (va_wsS RX9 110 yX3_sumOfWays wsX3_sumOfWays) := goodIn_app (goodIn_of _ (by decide +kernel)) ggX9_carry_X3_sumOfWays
theorem dX9_carry_0 : decode cX9_carry 0 = .ok (.iload_n 1, 1) := by decide +kernel
theorem dX9_carry_1 : decode cX9_carry 1 = .ok (.invokestatic 92, 3) := by decide +kernel
theorem dX9_carry_4 : decode cX9_carry 4 = .ok (.ifCond .eq 17, 3) := by decide +kernel
theorem dX9_carry_7 : decode cX9_carry 7 = .ok (.iload_n 2, 1) := by decide +kernel
theorem dX9_carry_8 : decode cX9_carry 8 = .ok (.invokestatic 95, 3) := by decide +kernel
theorem dX9_carry_11 : decode cX9_carry 11 = .ok (.ifCond .eq 10, 3) := by decide +kernel
theorem dX9_carry_14 : decode cX9_carry 14 = .ok (.iload_n 3, 1) := by decide +kernel
theorem dX9_carry_15 : decode cX9_carry 15 = .ok (.invokestatic 95, 3) := by decide +kernel
theorem dX9_carry_18 : decode cX9_carry 18 = .ok (.ifCond .ne 11, 3) := by decide +kernel
theorem dX9_carry_21 : decode cX9_carry 21 = .ok (.new 72, 3) := by decide +kernel
theorem dX9_carry_24 : decode cX9_carry 24 = .ok (.dup, 1) := by decide +kernel
theorem dX9_carry_25 : decode cX9_carry 25 = .ok (.invokespecial 74, 3) := by decide +kernel
theorem dX9_carry_28 : decode cX9_carry 28 = .ok (.athrow, 1) := by decide +kernel
theorem dX9_carry_29 : decode cX9_carry 29 = .ok (.aload_n 0, 1) := by decide +kernel
theorem dX9_carry_30 : decode cX9_carry 30 = .ok (.getfield 10, 3) := by decide +kernel
theorem dX9_carry_33 : decode cX9_carry 33 = .ok (.iload_n 1, 1) := by decide +kernel
theorem dX9_carry_34 : decode cX9_carry 34 = .ok (.iload_n 2, 1) := by decide +kernel
theorem dX9_carry_35 : decode cX9_carry 35 = .ok (.iload_n 3, 1) := by decide +kernel
theorem dX9_carry_36 : decode cX9_carry 36 = .ok (.invokevirtual 98, 3) := by decide +kernel
theorem dX9_carry_39 : decode cX9_carry 39 = .ok (.ifCond .ne 11, 3) := by decide +kernel
theorem dX9_carry_42 : decode cX9_carry 42 = .ok (.new 50, 3) := by decide +kernel
theorem dX9_carry_45 : decode cX9_carry 45 = .ok (.dup, 1) := by decide +kernel
theorem dX9_carry_46 : decode cX9_carry 46 = .ok (.invokespecial 52, 3) := by decide +kernel
theorem dX9_carry_49 : decode cX9_carry 49 = .ok (.athrow, 1) := by decide +kernel
theorem dX9_carry_50 : decode cX9_carry 50 = .ok (.aload_n 0, 1) := by decide +kernel
theorem dX9_carry_51 : decode cX9_carry 51 = .ok (.getfield 19, 3) := by decide +kernel
theorem dX9_carry_54 : decode cX9_carry 54 = .ok (.aload_n 0, 1) := by decide +kernel
theorem dX9_carry_55 : decode cX9_carry 55 = .ok (.getfield 10, 3) := by decide +kernel
theorem dX9_carry_58 : decode cX9_carry 58 = .ok (.invokevirtual 53, 3) := by decide +kernel
theorem dX9_carry_61 : decode cX9_carry 61 = .ok (.aload_n 0, 1) := by decide +kernel
theorem dX9_carry_62 : decode cX9_carry 62 = .ok (.getfield 10, 3) := by decide +kernel
theorem dX9_carry_65 : decode cX9_carry 65 = .ok (.iload_n 1, 1) := by decide +kernel
theorem dX9_carry_66 : decode cX9_carry 66 = .ok (.iload_n 2, 1) := by decide +kernel
theorem dX9_carry_67 : decode cX9_carry 67 = .ok (.iload_n 3, 1) := by decide +kernel
theorem dX9_carry_68 : decode cX9_carry 68 = .ok (.invokevirtual 102, 3) := by decide +kernel
theorem dX9_carry_71 : decode cX9_carry 71 = .ok (.aload_n 0, 1) := by decide +kernel
theorem dX9_carry_72 : decode cX9_carry 72 = .ok (.getfield 10, 3) := by decide +kernel
theorem dX9_carry_75 : decode cX9_carry 75 = .ok (.iload_n 1, 1) := by decide +kernel
theorem dX9_carry_76 : decode cX9_carry 76 = .ok (.invokevirtual 106, 3) := by decide +kernel
theorem dX9_carry_79 : decode cX9_carry 79 = .ok (.invokestatic 110, 3) := by decide +kernel
theorem dX9_carry_82 : decode cX9_carry 82 = .ok (.ireturn, 1) := by decide +kernel
set_option maxRecDepth 20000 in
theorem ggX9_offer_X1_canOffer : GoodIn wsX9_offer wsX1_canOffer := goodIn_r _ [10, 11, 12, 13, 14, 51, 52, 53, 54, 55, 56, 57, 58, 59, 60, 61, 62, 63] (by decide +kernel) (by decide +kernel)
set_option maxRecDepth 20000 in
theorem gX9_offer_X1_canOffer : GoodIn wsX9_offer (wsV RX9 116 RX1 yX1_canOffer wsX1_canOffer) := goodIn_app (goodIn_of _ (by decide +kernel)) ggX9_offer_X1_canOffer
set_option maxRecDepth 20000 in
theorem ggX9_offer_X2_save : GoodIn wsX9_offer wsX2_save := goodIn_r _ [19, 20, 21, 22, 23, 18, 24, 25, 26, 27, 28, 29, 30, 31, 32, 9, 33, 12, 13, 34, 14, 11, 35, 36, 37, 38, 39, 40, 41, 42, 64, 65, 66, 67, 51, 52, 53, 54, 55, 56, 57, 58, 59, 60, 61, 62, 63] (by decide +kernel) (by decide +kernel)
set_option maxRecDepth 20000 in
theorem gX9_offer_X2_save : GoodIn wsX9_offer (wsV RX9 53 RX2 yX2_save wsX2_save) := goodIn_app (goodIn_of _ (by decide +kernel)) ggX9_offer_X2_save
set_option maxRecDepth 20000 in
theorem ggX9_offer_X1_doOffer : GoodIn wsX9_offer wsX1_doOffer := goodIn_r _ [46, 13, 51, 52, 53, 54, 55, 56, 57, 58, 59, 60, 61, 62, 63] (by decide +kernel) (by decide +kernel)
set_option maxRecDepth 20000 in
theorem gX9_offer_X1_doOffer : GoodIn wsX9_offer (wsV RX9 119 RX1 yX1_doOffer wsX1_doOffer) := goodIn_app (goodIn_of _ (by decide +kernel)) ggX9_offer_X1_doOffer
theorem dX9_offer_0 : decode cX9_offer 0 = .ok (.aload_n 0, 1) := by decide +kernel
theorem dX9_offer_1 : decode cX9_offer 1 = .ok (.getfield 10, 3) := by decide +kernel
theorem dX9_offer_4 : decode cX9_offer 4 = .ok (.invokevirtual 116, 3) := by decide +kernel
theorem dX9_offer_7 : decode cX9_offer 7 = .ok (.ifCond .ne 11, 3) := by decide +kernel
theorem dX9_offer_10 : decode cX9_offer 10 = .ok (.new 50, 3) := by decide +kernel
theorem dX9_offer_13 : decode cX9_offer 13 = .ok (.dup, 1) := by decide +kernel
theorem dX9_offer_14 : decode cX9_offer 14 = .ok (.invokespecial 52, 3) := by decide +kernel
theorem dX9_offer_17 : decode cX9_offer 17 = .ok (.athrow, 1) := by decide +kernel
theorem dX9_offer_18 : decode cX9_offer 18 = .ok (.aload_n 0, 1) := by decide +kernel
theorem dX9_offer_19 : decode cX9_offer 19 = .ok (.getfield 19, 3) := by decide +kernel
theorem dX9_offer_22 : decode cX9_offer 22 = .ok (.aload_n 0, 1) := by decide +kernel
theorem dX9_offer_23 : decode cX9_offer 23 = .ok (.getfield 10, 3) := by decide +kernel
theorem dX9_offer_26 : decode cX9_offer 26 = .ok (.invokevirtual 53, 3) := by decide +kernel
theorem dX9_offer_29 : decode cX9_offer 29 = .ok (.aload_n 0, 1) := by decide +kernel
theorem dX9_offer_30 : decode cX9_offer 30 = .ok (.getfield 10, 3) := by decide +kernel
theorem dX9_offer_33 : decode cX9_offer 33 = .ok (.invokevirtual 119, 3) := by decide +kernel
theorem dX9_offer_36 : decode cX9_offer 36 = .ok (.iconst 2, 1) := by decide +kernel
theorem dX9_offer_37 : decode cX9_offer 37 = .ok (.aload_n 0, 1) := by decide +kernel
theorem dX9_offer_38 : decode cX9_offer 38 = .ok (.getfield 10, 3) := by decide +kernel
theorem dX9_offer_41 : decode cX9_offer 41 = .ok (.getfield 122, 3) := by decide +kernel
theorem dX9_offer_44 : decode cX9_offer 44 = .ok (.imul, 1) := by decide +kernel
theorem dX9_offer_45 : decode cX9_offer 45 = .ok (.ireturn, 1) := by decide +kernel
set_option maxRecDepth 20000 in
theorem ggX9_take_X1_isOffered : GoodIn wsX9_take wsX1_isOffered := goodIn_r _ [10, 11, 51, 52, 53, 54, 55, 56, 57, 58, 59, 60, 61, 62, 63] (by decide +kernel) (by decide +kernel)
set_option maxRecDepth 20000 in
theorem gX9_take_X1_isOffered : GoodIn wsX9_take (wsV RX9 125 RX1 yX1_isOffered wsX1_isOffered) := goodIn_app (goodIn_of _ (by decide +kernel)) ggX9_take_X1_isOffered
set_option maxRecDepth 20000 in
theorem ggX9_take_X2_save : GoodIn wsX9_take wsX2_save := goodIn_r _ [16, 17, 18, 19, 20, 15, 21, 22, 23, 24, 25, 26, 27, 28, 29, 9, 30, 31, 11, 32, 33, 34, 35, 36, 37, 38, 39, 40, 41, 42, 64, 65, 66, 67, 51, 52, 53, 54, 55, 56, 57, 58, 59, 60, 61, 62, 63] (by decide +kernel) (by decide +kernel)
set_option maxRecDepth 20000 in
theorem gX9_take_X2_save : GoodIn wsX9_take (wsV RX9 53 RX2 yX2_save wsX2_save) := goodIn_app (goodIn_of _ (by decide +kernel)) ggX9_take_X2_save
set_option maxRecDepth 20000 in
theorem ggX9_take_X1_doTake : GoodIn wsX9_take wsX1_doTake := goodIn_r _ [46, 33, 31, 34, 11, 51, 52, 53, 54, 55, 56, 57, 58, 59, 60, 61, 62, 63] (by decide +kernel) (by decide +kernel)
set_option maxRecDepth 20000 in
theorem gX9_take_X1_doTake : GoodIn wsX9_take (wsV RX9 128 RX1 yX1_doTake wsX1_doTake) := goodIn_app (goodIn_of _ (by decide +kernel)) ggX9_take_X1_doTake
theorem dX9_take_0 : decode cX9_take 0 = .ok (.aload_n 0, 1) := by decide +kernel
theorem dX9_take_1 : decode cX9_take 1 = .ok (.getfield 10, 3) := by decide +kernel
theorem dX9_take_4 : decode cX9_take 4 = .ok (.invokevirtual 125, 3) := by decide +kernel
theorem dX9_take_7 : decode cX9_take 7 = .ok (.ifCond .ne 11, 3) := by decide +kernel
theorem dX9_take_10 : decode cX9_take 10 = .ok (.new 50, 3) := by decide +kernel
theorem dX9_take_13 : decode cX9_take 13 = .ok (.dup, 1) := by decide +kernel
theorem dX9_take_14 : decode cX9_take 14 = .ok (.invokespecial 52, 3) := by decide +kernel
theorem dX9_take_17 : decode cX9_take 17 = .ok (.athrow, 1) := by decide +kernel
theorem dX9_take_18 : decode cX9_take 18 = .ok (.aload_n 0, 1) := by decide +kernel
theorem dX9_take_19 : decode cX9_take 19 = .ok (.getfield 19, 3) := by decide +kernel
theorem dX9_take_22 : decode cX9_take 22 = .ok (.aload_n 0, 1) := by decide +kernel
theorem dX9_take_23 : decode cX9_take 23 = .ok (.getfield 10, 3) := by decide +kernel
theorem dX9_take_26 : decode cX9_take 26 = .ok (.invokevirtual 53, 3) := by decide +kernel
theorem dX9_take_29 : decode cX9_take 29 = .ok (.aload_n 0, 1) := by decide +kernel
theorem dX9_take_30 : decode cX9_take 30 = .ok (.getfield 10, 3) := by decide +kernel
theorem dX9_take_33 : decode cX9_take 33 = .ok (.invokevirtual 128, 3) := by decide +kernel
theorem dX9_take_36 : decode cX9_take 36 = .ok (.aload_n 0, 1) := by decide +kernel
theorem dX9_take_37 : decode cX9_take 37 = .ok (.getfield 10, 3) := by decide +kernel
theorem dX9_take_40 : decode cX9_take 40 = .ok (.getfield 122, 3) := by decide +kernel
theorem dX9_take_43 : decode cX9_take 43 = .ok (.ireturn, 1) := by decide +kernel
set_option maxRecDepth 20000 in
theorem ggX9_drop_X1_isOffered : GoodIn wsX9_drop wsX1_isOffered := goodIn_r _ [10, 11, 59, 60, 61, 62, 63, 64, 65, 66, 67, 68, 69, 70, 71] (by decide +kernel) (by decide +kernel)
set_option maxRecDepth 20000 in
theorem gX9_drop_X1_isOffered : GoodIn wsX9_drop (wsV RX9 125 RX1 yX1_isOffered wsX1_isOffered) := goodIn_app (goodIn_of _ (by decide +kernel)) ggX9_drop_X1_isOffered
set_option maxRecDepth 20000 in
theorem ggX9_drop_X2_save : GoodIn wsX9_drop wsX2_save := goodIn_r _ [16, 17, 18, 19, 20, 15, 21, 22, 23, 24, 25, 26, 27, 28, 29, 9, 30, 31, 11, 32, 33, 34, 35, 36, 37, 38, 39, 40, 41, 42, 72, 73, 74, 75, 59, 60, 61, 62, 63, 64, 65, 66, 67, 68, 69, 70, 71] (by decide +kernel) (by decide +kernel)
set_option maxRecDepth 20000 in
theorem gX9_drop_X2_save : GoodIn wsX9_drop (wsV RX9 53 RX2 yX2_save wsX2_save) := goodIn_app (goodIn_of _ (by decide +kernel)) ggX9_drop_X2_save
set_option maxRecDepth 20000 in
theorem ggX9_drop_X1_doDrop : GoodIn wsX9_drop wsX1_doDrop := goodIn_r _ [46, 33, 47, 48, 49, 9, 50, 31, 37, 38, 32, 11, 59, 60, 61, 62, 63, 64, 65, 66, 67, 68, 69, 70, 71] (by decide +kernel) (by decide +kernel)
set_option maxRecDepth 20000 in
theorem gX9_drop_X1_doDrop : GoodIn wsX9_drop (wsV RX9 131 RX1 yX1_doDrop wsX1_doDrop) := goodIn_app (goodIn_of _ (by decide +kernel)) ggX9_drop_X1_doDrop
set_option maxRecDepth 20000 in
theorem ggX9_drop_X1_scoreOf : GoodIn wsX9_drop wsX1_scoreOf := goodIn_r _ [54, 37, 38, 59, 60, 61, 62, 63, 64, 65, 66, 67, 68, 69, 70, 71] (by decide +kernel) (by decide +kernel)
set_option maxRecDepth 20000 in
theorem gX9_drop_X1_scoreOf : GoodIn wsX9_drop (wsV RX9 134 RX1 yX1_scoreOf wsX1_scoreOf) := goodIn_app (goodIn_of _ (by decide +kernel)) ggX9_drop_X1_scoreOf
theorem dX9_drop_0 : decode cX9_drop 0 = .ok (.aload_n 0, 1) := by decide +kernel
theorem dX9_drop_1 : decode cX9_drop 1 = .ok (.getfield 10, 3) := by decide +kernel
theorem dX9_drop_4 : decode cX9_drop 4 = .ok (.invokevirtual 125, 3) := by decide +kernel
theorem dX9_drop_7 : decode cX9_drop 7 = .ok (.ifCond .ne 11, 3) := by decide +kernel
theorem dX9_drop_10 : decode cX9_drop 10 = .ok (.new 50, 3) := by decide +kernel
theorem dX9_drop_13 : decode cX9_drop 13 = .ok (.dup, 1) := by decide +kernel
theorem dX9_drop_14 : decode cX9_drop 14 = .ok (.invokespecial 52, 3) := by decide +kernel
theorem dX9_drop_17 : decode cX9_drop 17 = .ok (.athrow, 1) := by decide +kernel
theorem dX9_drop_18 : decode cX9_drop 18 = .ok (.aload_n 0, 1) := by decide +kernel
theorem dX9_drop_19 : decode cX9_drop 19 = .ok (.getfield 19, 3) := by decide +kernel
theorem dX9_drop_22 : decode cX9_drop 22 = .ok (.aload_n 0, 1) := by decide +kernel
theorem dX9_drop_23 : decode cX9_drop 23 = .ok (.getfield 10, 3) := by decide +kernel
theorem dX9_drop_26 : decode cX9_drop 26 = .ok (.invokevirtual 53, 3) := by decide +kernel
theorem dX9_drop_29 : decode cX9_drop 29 = .ok (.aload_n 0, 1) := by decide +kernel
theorem dX9_drop_30 : decode cX9_drop 30 = .ok (.getfield 10, 3) := by decide +kernel
theorem dX9_drop_33 : decode cX9_drop 33 = .ok (.invokevirtual 131, 3) := by decide +kernel
theorem dX9_drop_36 : decode cX9_drop 36 = .ok (.aload_n 0, 1) := by decide +kernel
theorem dX9_drop_37 : decode cX9_drop 37 = .ok (.getfield 10, 3) := by decide +kernel
theorem dX9_drop_40 : decode cX9_drop 40 = .ok (.aload_n 0, 1) := by decide +kernel
theorem dX9_drop_41 : decode cX9_drop 41 = .ok (.getfield 10, 3) := by decide +kernel
theorem dX9_drop_44 : decode cX9_drop 44 = .ok (.getfield 89, 3) := by decide +kernel
theorem dX9_drop_47 : decode cX9_drop 47 = .ok (.invokevirtual 134, 3) := by decide +kernel
theorem dX9_drop_50 : decode cX9_drop 50 = .ok (.ireturn, 1) := by decide +kernel
set_option maxRecDepth 20000 in
theorem ggX9_newGame_X1_isOver : GoodIn wsX9_newGame wsX1_isOver := goodIn_r _ [10, 11, 52, 53, 54, 55, 56, 57, 58, 59, 60, 61, 62, 63, 64] (by decide +kernel) (by decide +kernel)
set_option maxRecDepth 20000 in
theorem gX9_newGame_X1_isOver : GoodIn wsX9_newGame (wsV RX9 137 RX1 yX1_isOver wsX1_isOver) := goodIn_app (goodIn_of _ (by decide +kernel)) ggX9_newGame_X1_isOver
set_option maxRecDepth 20000 in
theorem ggX9_newGame_X2_save : GoodIn wsX9_newGame wsX2_save := goodIn_r _ [16, 17, 18, 19, 20, 15, 21, 22, 23, 24, 25, 26, 27, 28, 29, 9, 30, 31, 11, 32, 33, 34, 35, 36, 37, 38, 39, 40, 41, 42, 65, 66, 67, 68, 52, 53, 54, 55, 56, 57, 58, 59, 60, 61, 62, 63, 64] (by decide +kernel) (by decide +kernel)
set_option maxRecDepth 20000 in
theorem gX9_newGame_X2_save : GoodIn wsX9_newGame (wsV RX9 53 RX2 yX2_save wsX2_save) := goodIn_app (goodIn_of _ (by decide +kernel)) ggX9_newGame_X2_save
set_option maxRecDepth 20000 in
theorem ggX9_newGame_X1_doNewGame : GoodIn wsX9_newGame wsX1_doNewGame := goodIn_r _ [46, 31, 11, 33, 34, 47, 35, 36, 52, 53, 54, 55, 56, 57, 58, 59, 60, 61, 62, 63, 64] (by decide +kernel) (by decide +kernel)
set_option maxRecDepth 20000 in
theorem gX9_newGame_X1_doNewGame : GoodIn wsX9_newGame (wsV RX9 140 RX1 yX1_doNewGame wsX1_doNewGame) := goodIn_app (goodIn_of _ (by decide +kernel)) ggX9_newGame_X1_doNewGame
theorem dX9_newGame_0 : decode cX9_newGame 0 = .ok (.aload_n 0, 1) := by decide +kernel
theorem dX9_newGame_1 : decode cX9_newGame 1 = .ok (.getfield 10, 3) := by decide +kernel
theorem dX9_newGame_4 : decode cX9_newGame 4 = .ok (.invokevirtual 137, 3) := by decide +kernel
theorem dX9_newGame_7 : decode cX9_newGame 7 = .ok (.ifCond .ne 11, 3) := by decide +kernel
theorem dX9_newGame_10 : decode cX9_newGame 10 = .ok (.new 50, 3) := by decide +kernel
theorem dX9_newGame_13 : decode cX9_newGame 13 = .ok (.dup, 1) := by decide +kernel
theorem dX9_newGame_14 : decode cX9_newGame 14 = .ok (.invokespecial 52, 3) := by decide +kernel
theorem dX9_newGame_17 : decode cX9_newGame 17 = .ok (.athrow, 1) := by decide +kernel
theorem dX9_newGame_18 : decode cX9_newGame 18 = .ok (.aload_n 0, 1) := by decide +kernel
theorem dX9_newGame_19 : decode cX9_newGame 19 = .ok (.getfield 19, 3) := by decide +kernel
theorem dX9_newGame_22 : decode cX9_newGame 22 = .ok (.aload_n 0, 1) := by decide +kernel
theorem dX9_newGame_23 : decode cX9_newGame 23 = .ok (.getfield 10, 3) := by decide +kernel
theorem dX9_newGame_26 : decode cX9_newGame 26 = .ok (.invokevirtual 53, 3) := by decide +kernel
theorem dX9_newGame_29 : decode cX9_newGame 29 = .ok (.aload_n 0, 1) := by decide +kernel
theorem dX9_newGame_30 : decode cX9_newGame 30 = .ok (.getfield 10, 3) := by decide +kernel
theorem dX9_newGame_33 : decode cX9_newGame 33 = .ok (.invokevirtual 140, 3) := by decide +kernel
theorem dX9_newGame_36 : decode cX9_newGame 36 = .ok (.aload_n 0, 1) := by decide +kernel
theorem dX9_newGame_37 : decode cX9_newGame 37 = .ok (.getfield 10, 3) := by decide +kernel
theorem dX9_newGame_40 : decode cX9_newGame 40 = .ok (.getfield 89, 3) := by decide +kernel
theorem dX9_newGame_43 : decode cX9_newGame 43 = .ok (.ireturn, 1) := by decide +kernel
theorem dX9_mover_0 : decode cX9_mover 0 = .ok (.aload_n 0, 1) := by decide +kernel
theorem dX9_mover_1 : decode cX9_mover 1 = .ok (.getfield 10, 3) := by decide +kernel
theorem dX9_mover_4 : decode cX9_mover 4 = .ok (.getfield 89, 3) := by decide +kernel
theorem dX9_mover_7 : decode cX9_mover 7 = .ok (.ireturn, 1) := by decide +kernel
theorem dX9_phase_0 : decode cX9_phase 0 = .ok (.aload_n 0, 1) := by decide +kernel
theorem dX9_phase_1 : decode cX9_phase 1 = .ok (.getfield 10, 3) := by decide +kernel
theorem dX9_phase_4 : decode cX9_phase 4 = .ok (.getfield 197, 3) := by decide +kernel
theorem dX9_phase_7 : decode cX9_phase 7 = .ok (.ireturn, 1) := by decide +kernel
set_option maxRecDepth 20000 in
theorem ggX9_diceLeft_X0_count : GoodIn wsX9_diceLeft wsX0_count := goodIn_r _ [6, 7, 8, 5, 9] (by decide +kernel) (by decide +kernel)
set_option maxRecDepth 20000 in
theorem gX9_diceLeft_X0_count : GoodIn wsX9_diceLeft (va_wsS RX9 65 yX0_count wsX0_count) := goodIn_app (goodIn_of _ (by decide +kernel)) ggX9_diceLeft_X0_count
theorem dX9_diceLeft_0 : decode cX9_diceLeft 0 = .ok (.aload_n 0, 1) := by decide +kernel
theorem dX9_diceLeft_1 : decode cX9_diceLeft 1 = .ok (.getfield 10, 3) := by decide +kernel
theorem dX9_diceLeft_4 : decode cX9_diceLeft 4 = .ok (.getfield 61, 3) := by decide +kernel
theorem dX9_diceLeft_7 : decode cX9_diceLeft 7 = .ok (.invokestatic 65, 3) := by decide +kernel
theorem dX9_diceLeft_10 : decode cX9_diceLeft 10 = .ok (.ireturn, 1) := by decide +kernel
set_option maxRecDepth 20000 in
theorem ggX9_dieLeft_X0_count : GoodIn wsX9_dieLeft wsX0_count := goodIn_r _ [8, 9, 10, 7, 11] (by decide +kernel) (by decide +kernel)
set_option maxRecDepth 20000 in
theorem gX9_dieLeft_X0_count : GoodIn wsX9_dieLeft (va_wsS RX9 65 yX0_count wsX0_count) := goodIn_app (goodIn_of _ (by decide +kernel)) ggX9_dieLeft_X0_count
set_option maxRecDepth 20000 in
theorem ggX9_dieLeft_X0_at : GoodIn wsX9_dieLeft wsX0_at := goodIn_r _ [11] (by decide +kernel) (by decide +kernel)
set_option maxRecDepth 20000 in
theorem gX9_dieLeft_X0_at : GoodIn wsX9_dieLeft (va_wsS RX9 200 yX0_at wsX0_at) := goodIn_app (goodIn_of _ (by decide +kernel)) ggX9_dieLeft_X0_at
theorem dX9_dieLeft_0 : decode cX9_dieLeft 0 = .ok (.iload_n 1, 1) := by decide +kernel
theorem dX9_dieLeft_1 : decode cX9_dieLeft 1 = .ok (.ifCond .lt 17, 3) := by decide +kernel
theorem dX9_dieLeft_4 : decode cX9_dieLeft 4 = .ok (.iload_n 1, 1) := by decide +kernel
theorem dX9_dieLeft_5 : decode cX9_dieLeft 5 = .ok (.aload_n 0, 1) := by decide +kernel
theorem dX9_dieLeft_6 : decode cX9_dieLeft 6 = .ok (.getfield 10, 3) := by decide +kernel
theorem dX9_dieLeft_9 : decode cX9_dieLeft 9 = .ok (.getfield 61, 3) := by decide +kernel
theorem dX9_dieLeft_12 : decode cX9_dieLeft 12 = .ok (.invokestatic 65, 3) := by decide +kernel
theorem dX9_dieLeft_15 : decode cX9_dieLeft 15 = .ok (.if_icmp .lt 11, 3) := by decide +kernel
theorem dX9_dieLeft_18 : decode cX9_dieLeft 18 = .ok (.new 72, 3) := by decide +kernel
theorem dX9_dieLeft_21 : decode cX9_dieLeft 21 = .ok (.dup, 1) := by decide +kernel
theorem dX9_dieLeft_22 : decode cX9_dieLeft 22 = .ok (.invokespecial 74, 3) := by decide +kernel
theorem dX9_dieLeft_25 : decode cX9_dieLeft 25 = .ok (.athrow, 1) := by decide +kernel
theorem dX9_dieLeft_26 : decode cX9_dieLeft 26 = .ok (.aload_n 0, 1) := by decide +kernel
theorem dX9_dieLeft_27 : decode cX9_dieLeft 27 = .ok (.getfield 10, 3) := by decide +kernel
theorem dX9_dieLeft_30 : decode cX9_dieLeft 30 = .ok (.getfield 61, 3) := by decide +kernel
theorem dX9_dieLeft_33 : decode cX9_dieLeft 33 = .ok (.iload_n 1, 1) := by decide +kernel
theorem dX9_dieLeft_34 : decode cX9_dieLeft 34 = .ok (.invokestatic 200, 3) := by decide +kernel
theorem dX9_dieLeft_37 : decode cX9_dieLeft 37 = .ok (.ireturn, 1) := by decide +kernel
set_option maxRecDepth 20000 in
theorem ggX9_piecesOn_X9_isPlayer : GoodIn wsX9_piecesOn wsX9_isPlayer := goodIn_r _ [7] (by decide +kernel) (by decide +kernel)
set_option maxRecDepth 20000 in
theorem gX9_piecesOn_X9_isPlayer : GoodIn wsX9_piecesOn (va_wsS RX9 92 yX9_isPlayer wsX9_isPlayer) := goodIn_app (goodIn_of _ (by decide +kernel)) ggX9_piecesOn_X9_isPlayer
set_option maxRecDepth 20000 in
theorem ggX9_piecesOn_X9_isPoint : GoodIn wsX9_piecesOn wsX9_isPoint := goodIn_r _ [10] (by decide +kernel) (by decide +kernel)
set_option maxRecDepth 20000 in
theorem gX9_piecesOn_X9_isPoint : GoodIn wsX9_piecesOn (va_wsS RX9 203 yX9_isPoint wsX9_isPoint) := goodIn_app (goodIn_of _ (by decide +kernel)) ggX9_piecesOn_X9_isPoint
set_option maxRecDepth 20000 in
theorem ggX9_piecesOn_X1_countAt : GoodIn wsX9_piecesOn wsX1_countAt := goodIn_r _ [15, 16, 17, 18, 14, 19, 20, 21, 22, 23, 24, 25, 26, 27, 28, 33, 34, 35, 36, 37, 38, 39, 40, 41, 42, 43, 44, 45] (by decide +kernel) (by decide +kernel)
set_option maxRecDepth 20000 in
theorem gX9_piecesOn_X1_countAt : GoodIn wsX9_piecesOn (wsV RX9 206 RX1 yX1_countAt wsX1_countAt) := goodIn_app (goodIn_of _ (by decide +kernel)) ggX9_piecesOn_X1_countAt
theorem dX9_piecesOn_0 : decode cX9_piecesOn 0 = .ok (.iload_n 1, 1) := by decide +kernel
theorem dX9_piecesOn_1 : decode cX9_piecesOn 1 = .ok (.invokestatic 92, 3) := by decide +kernel
theorem dX9_piecesOn_4 : decode cX9_piecesOn 4 = .ok (.ifCond .eq 10, 3) := by decide +kernel
theorem dX9_piecesOn_7 : decode cX9_piecesOn 7 = .ok (.iload_n 2, 1) := by decide +kernel
theorem dX9_piecesOn_8 : decode cX9_piecesOn 8 = .ok (.invokestatic 203, 3) := by decide +kernel
theorem dX9_piecesOn_11 : decode cX9_piecesOn 11 = .ok (.ifCond .ne 11, 3) := by decide +kernel
theorem dX9_piecesOn_14 : decode cX9_piecesOn 14 = .ok (.new 72, 3) := by decide +kernel
theorem dX9_piecesOn_17 : decode cX9_piecesOn 17 = .ok (.dup, 1) := by decide +kernel
theorem dX9_piecesOn_18 : decode cX9_piecesOn 18 = .ok (.invokespecial 74, 3) := by decide +kernel
theorem dX9_piecesOn_21 : decode cX9_piecesOn 21 = .ok (.athrow, 1) := by decide +kernel
theorem dX9_piecesOn_22 : decode cX9_piecesOn 22 = .ok (.aload_n 0, 1) := by decide +kernel
theorem dX9_piecesOn_23 : decode cX9_piecesOn 23 = .ok (.getfield 10, 3) := by decide +kernel
theorem dX9_piecesOn_26 : decode cX9_piecesOn 26 = .ok (.iload_n 1, 1) := by decide +kernel
theorem dX9_piecesOn_27 : decode cX9_piecesOn 27 = .ok (.iload_n 2, 1) := by decide +kernel
theorem dX9_piecesOn_28 : decode cX9_piecesOn 28 = .ok (.invokevirtual 206, 3) := by decide +kernel
theorem dX9_piecesOn_31 : decode cX9_piecesOn 31 = .ok (.ireturn, 1) := by decide +kernel
set_option maxRecDepth 20000 in
theorem ggX9_onBar_X9_isPlayer : GoodIn wsX9_onBar wsX9_isPlayer := goodIn_r _ [7] (by decide +kernel) (by decide +kernel)
set_option maxRecDepth 20000 in
theorem gX9_onBar_X9_isPlayer : GoodIn wsX9_onBar (va_wsS RX9 92 yX9_isPlayer wsX9_isPlayer) := goodIn_app (goodIn_of _ (by decide +kernel)) ggX9_onBar_X9_isPlayer
set_option maxRecDepth 20000 in
theorem ggX9_onBar_X1_piecesOf : GoodIn wsX9_onBar wsX1_piecesOf := goodIn_r _ [12, 13, 14, 23, 24, 25, 26, 27, 28, 29, 30, 31, 32, 33, 34, 35] (by decide +kernel) (by decide +kernel)
set_option maxRecDepth 20000 in
theorem gX9_onBar_X1_piecesOf : GoodIn wsX9_onBar (wsV RX9 106 RX1 yX1_piecesOf wsX1_piecesOf) := goodIn_app (goodIn_of _ (by decide +kernel)) ggX9_onBar_X1_piecesOf
set_option maxRecDepth 20000 in
theorem ggX9_onBar_X3_on : GoodIn wsX9_onBar wsX3_on := goodIn_r _ [18] (by decide +kernel) (by decide +kernel)
set_option maxRecDepth 20000 in
theorem gX9_onBar_X3_on : GoodIn wsX9_onBar (va_wsS RX9 209 yX3_on wsX3_on) := goodIn_app (goodIn_of _ (by decide +kernel)) ggX9_onBar_X3_on
theorem dX9_onBar_0 : decode cX9_onBar 0 = .ok (.iload_n 1, 1) := by decide +kernel
theorem dX9_onBar_1 : decode cX9_onBar 1 = .ok (.invokestatic 92, 3) := by decide +kernel
theorem dX9_onBar_4 : decode cX9_onBar 4 = .ok (.ifCond .ne 11, 3) := by decide +kernel
theorem dX9_onBar_7 : decode cX9_onBar 7 = .ok (.new 72, 3) := by decide +kernel
theorem dX9_onBar_10 : decode cX9_onBar 10 = .ok (.dup, 1) := by decide +kernel
theorem dX9_onBar_11 : decode cX9_onBar 11 = .ok (.invokespecial 74, 3) := by decide +kernel
theorem dX9_onBar_14 : decode cX9_onBar 14 = .ok (.athrow, 1) := by decide +kernel
theorem dX9_onBar_15 : decode cX9_onBar 15 = .ok (.aload_n 0, 1) := by decide +kernel
theorem dX9_onBar_16 : decode cX9_onBar 16 = .ok (.getfield 10, 3) := by decide +kernel
theorem dX9_onBar_19 : decode cX9_onBar 19 = .ok (.iload_n 1, 1) := by decide +kernel
theorem dX9_onBar_20 : decode cX9_onBar 20 = .ok (.invokevirtual 106, 3) := by decide +kernel
theorem dX9_onBar_23 : decode cX9_onBar 23 = .ok (.bipush 17, 2) := by decide +kernel
theorem dX9_onBar_25 : decode cX9_onBar 25 = .ok (.invokestatic 209, 3) := by decide +kernel
theorem dX9_onBar_28 : decode cX9_onBar 28 = .ok (.ireturn, 1) := by decide +kernel
set_option maxRecDepth 20000 in
theorem ggX9_borneOff_X9_isPlayer : GoodIn wsX9_borneOff wsX9_isPlayer := goodIn_r _ [7] (by decide +kernel) (by decide +kernel)
set_option maxRecDepth 20000 in
theorem gX9_borneOff_X9_isPlayer : GoodIn wsX9_borneOff (va_wsS RX9 92 yX9_isPlayer wsX9_isPlayer) := goodIn_app (goodIn_of _ (by decide +kernel)) ggX9_borneOff_X9_isPlayer
set_option maxRecDepth 20000 in
theorem ggX9_borneOff_X1_piecesOf : GoodIn wsX9_borneOff wsX1_piecesOf := goodIn_r _ [12, 13, 14, 23, 24, 25, 26, 27, 28, 29, 30, 31, 32, 33, 34, 35] (by decide +kernel) (by decide +kernel)
set_option maxRecDepth 20000 in
theorem gX9_borneOff_X1_piecesOf : GoodIn wsX9_borneOff (wsV RX9 106 RX1 yX1_piecesOf wsX1_piecesOf) := goodIn_app (goodIn_of _ (by decide +kernel)) ggX9_borneOff_X1_piecesOf
set_option maxRecDepth 20000 in
theorem ggX9_borneOff_X3_on : GoodIn wsX9_borneOff wsX3_on := goodIn_r _ [18] (by decide +kernel) (by decide +kernel)
set_option maxRecDepth 20000 in
theorem gX9_borneOff_X3_on : GoodIn wsX9_borneOff (va_wsS RX9 209 yX3_on wsX3_on) := goodIn_app (goodIn_of _ (by decide +kernel)) ggX9_borneOff_X3_on
theorem dX9_borneOff_0 : decode cX9_borneOff 0 = .ok (.iload_n 1, 1) := by decide +kernel
theorem dX9_borneOff_1 : decode cX9_borneOff 1 = .ok (.invokestatic 92, 3) := by decide +kernel
theorem dX9_borneOff_4 : decode cX9_borneOff 4 = .ok (.ifCond .ne 11, 3) := by decide +kernel
theorem dX9_borneOff_7 : decode cX9_borneOff 7 = .ok (.new 72, 3) := by decide +kernel
theorem dX9_borneOff_10 : decode cX9_borneOff 10 = .ok (.dup, 1) := by decide +kernel
theorem dX9_borneOff_11 : decode cX9_borneOff 11 = .ok (.invokespecial 74, 3) := by decide +kernel
theorem dX9_borneOff_14 : decode cX9_borneOff 14 = .ok (.athrow, 1) := by decide +kernel
theorem dX9_borneOff_15 : decode cX9_borneOff 15 = .ok (.aload_n 0, 1) := by decide +kernel
theorem dX9_borneOff_16 : decode cX9_borneOff 16 = .ok (.getfield 10, 3) := by decide +kernel
theorem dX9_borneOff_19 : decode cX9_borneOff 19 = .ok (.iload_n 1, 1) := by decide +kernel
theorem dX9_borneOff_20 : decode cX9_borneOff 20 = .ok (.invokevirtual 106, 3) := by decide +kernel
theorem dX9_borneOff_23 : decode cX9_borneOff 23 = .ok (.iconst 0, 1) := by decide +kernel
theorem dX9_borneOff_24 : decode cX9_borneOff 24 = .ok (.invokestatic 209, 3) := by decide +kernel
theorem dX9_borneOff_27 : decode cX9_borneOff 27 = .ok (.ireturn, 1) := by decide +kernel
set_option maxRecDepth 20000 in
theorem ggX9_pips_X9_isPlayer : GoodIn wsX9_pips wsX9_isPlayer := goodIn_r _ [7] (by decide +kernel) (by decide +kernel)
set_option maxRecDepth 20000 in
theorem gX9_pips_X9_isPlayer : GoodIn wsX9_pips (va_wsS RX9 92 yX9_isPlayer wsX9_isPlayer) := goodIn_app (goodIn_of _ (by decide +kernel)) ggX9_pips_X9_isPlayer
set_option maxRecDepth 20000 in
theorem ggX9_pips_X1_piecesOf : GoodIn wsX9_pips wsX1_piecesOf := goodIn_r _ [12, 13, 14, 26, 27, 28, 29, 30, 31, 32, 33, 34, 35, 36, 37, 38] (by decide +kernel) (by decide +kernel)
set_option maxRecDepth 20000 in
theorem gX9_pips_X1_piecesOf : GoodIn wsX9_pips (wsV RX9 106 RX1 yX1_piecesOf wsX1_piecesOf) := goodIn_app (goodIn_of _ (by decide +kernel)) ggX9_pips_X1_piecesOf
set_option maxRecDepth 20000 in
theorem ggX9_pips_X3_sumOfWays : GoodIn wsX9_pips wsX3_sumOfWays := goodIn_r _ [18, 19, 20, 17, 21] (by decide +kernel) (by decide +kernel)
set_option maxRecDepth 20000 in
theorem gX9_pips_X3_sumOfWays : GoodIn wsX9_pips (va_wsS RX9 110 yX3_sumOfWays wsX3_sumOfWays) := goodIn_app (goodIn_of _ (by decide +kernel)) ggX9_pips_X3_sumOfWays
theorem dX9_pips_0 : decode cX9_pips 0 = .ok (.iload_n 1, 1) := by decide +kernel
theorem dX9_pips_1 : decode cX9_pips 1 = .ok (.invokestatic 92, 3) := by decide +kernel
theorem dX9_pips_4 : decode cX9_pips 4 = .ok (.ifCond .ne 11, 3) := by decide +kernel
theorem dX9_pips_7 : decode cX9_pips 7 = .ok (.new 72, 3) := by decide +kernel
theorem dX9_pips_10 : decode cX9_pips 10 = .ok (.dup, 1) := by decide +kernel
theorem dX9_pips_11 : decode cX9_pips 11 = .ok (.invokespecial 74, 3) := by decide +kernel
theorem dX9_pips_14 : decode cX9_pips 14 = .ok (.athrow, 1) := by decide +kernel
theorem dX9_pips_15 : decode cX9_pips 15 = .ok (.aload_n 0, 1) := by decide +kernel
theorem dX9_pips_16 : decode cX9_pips 16 = .ok (.getfield 10, 3) := by decide +kernel
theorem dX9_pips_19 : decode cX9_pips 19 = .ok (.iload_n 1, 1) := by decide +kernel
theorem dX9_pips_20 : decode cX9_pips 20 = .ok (.invokevirtual 106, 3) := by decide +kernel
theorem dX9_pips_23 : decode cX9_pips 23 = .ok (.invokestatic 110, 3) := by decide +kernel
theorem dX9_pips_26 : decode cX9_pips 26 = .ok (.ireturn, 1) := by decide +kernel
set_option maxRecDepth 20000 in
theorem ggX9_blots_X9_isPlayer : GoodIn wsX9_blots wsX9_isPlayer := goodIn_r _ [7] (by decide +kernel) (by decide +kernel)
set_option maxRecDepth 20000 in
theorem gX9_blots_X9_isPlayer : GoodIn wsX9_blots (va_wsS RX9 92 yX9_isPlayer wsX9_isPlayer) := goodIn_app (goodIn_of _ (by decide +kernel)) ggX9_blots_X9_isPlayer
set_option maxRecDepth 20000 in
theorem ggX9_blots_X1_piecesOf : GoodIn wsX9_blots wsX1_piecesOf := goodIn_r _ [12, 13, 14, 26, 27, 28, 29, 30, 31, 32, 33, 34, 35, 36, 37, 38] (by decide +kernel) (by decide +kernel)
set_option maxRecDepth 20000 in
theorem gX9_blots_X1_piecesOf : GoodIn wsX9_blots (wsV RX9 106 RX1 yX1_piecesOf wsX1_piecesOf) := goodIn_app (goodIn_of _ (by decide +kernel)) ggX9_blots_X1_piecesOf
set_option maxRecDepth 20000 in
theorem ggX9_blots_X3_singles : GoodIn wsX9_blots wsX3_singles := goodIn_r _ [18, 19, 20, 17, 21] (by decide +kernel) (by decide +kernel)
set_option maxRecDepth 20000 in
theorem gX9_blots_X3_singles : GoodIn wsX9_blots (va_wsS RX9 213 yX3_singles wsX3_singles) := goodIn_app (goodIn_of _ (by decide +kernel)) ggX9_blots_X3_singles
theorem dX9_blots_0 : decode cX9_blots 0 = .ok (.iload_n 1, 1) := by decide +kernel
theorem dX9_blots_1 : decode cX9_blots 1 = .ok (.invokestatic 92, 3) := by decide +kernel
theorem dX9_blots_4 : decode cX9_blots 4 = .ok (.ifCond .ne 11, 3) := by decide +kernel
theorem dX9_blots_7 : decode cX9_blots 7 = .ok (.new 72, 3) := by decide +kernel
theorem dX9_blots_10 : decode cX9_blots 10 = .ok (.dup, 1) := by decide +kernel
theorem dX9_blots_11 : decode cX9_blots 11 = .ok (.invokespecial 74, 3) := by decide +kernel
theorem dX9_blots_14 : decode cX9_blots 14 = .ok (.athrow, 1) := by decide +kernel
theorem dX9_blots_15 : decode cX9_blots 15 = .ok (.aload_n 0, 1) := by decide +kernel
theorem dX9_blots_16 : decode cX9_blots 16 = .ok (.getfield 10, 3) := by decide +kernel
theorem dX9_blots_19 : decode cX9_blots 19 = .ok (.iload_n 1, 1) := by decide +kernel
theorem dX9_blots_20 : decode cX9_blots 20 = .ok (.invokevirtual 106, 3) := by decide +kernel
theorem dX9_blots_23 : decode cX9_blots 23 = .ok (.invokestatic 213, 3) := by decide +kernel
theorem dX9_blots_26 : decode cX9_blots 26 = .ok (.ireturn, 1) := by decide +kernel
set_option maxRecDepth 20000 in
theorem ggX9_blockade_X9_isPlayer : GoodIn wsX9_blockade wsX9_isPlayer := goodIn_r _ [7] (by decide +kernel) (by decide +kernel)
set_option maxRecDepth 20000 in
theorem gX9_blockade_X9_isPlayer : GoodIn wsX9_blockade (va_wsS RX9 92 yX9_isPlayer wsX9_isPlayer) := goodIn_app (goodIn_of _ (by decide +kernel)) ggX9_blockade_X9_isPlayer
set_option maxRecDepth 20000 in
theorem ggX9_blockade_X1_piecesOf : GoodIn wsX9_blockade wsX1_piecesOf := goodIn_r _ [12, 13, 14, 30, 31, 32, 33, 34, 35, 36, 37, 38, 39, 40, 41, 42] (by decide +kernel) (by decide +kernel)
set_option maxRecDepth 20000 in
theorem gX9_blockade_X1_piecesOf : GoodIn wsX9_blockade (wsV RX9 106 RX1 yX1_piecesOf wsX1_piecesOf) := goodIn_app (goodIn_of _ (by decide +kernel)) ggX9_blockade_X1_piecesOf
set_option maxRecDepth 20000 in
theorem ggX9_blockade_X3_longestWall : GoodIn wsX9_blockade wsX3_longestWall := goodIn_r _ [18, 19, 20, 21, 22, 23, 24, 17, 25] (by decide +kernel) (by decide +kernel)
set_option maxRecDepth 20000 in
theorem gX9_blockade_X3_longestWall : GoodIn wsX9_blockade (va_wsS RX9 216 yX3_longestWall wsX3_longestWall) := goodIn_app (goodIn_of _ (by decide +kernel)) ggX9_blockade_X3_longestWall
theorem dX9_blockade_0 : decode cX9_blockade 0 = .ok (.iload_n 1, 1) := by decide +kernel
theorem dX9_blockade_1 : decode cX9_blockade 1 = .ok (.invokestatic 92, 3) := by decide +kernel
theorem dX9_blockade_4 : decode cX9_blockade 4 = .ok (.ifCond .ne 11, 3) := by decide +kernel
theorem dX9_blockade_7 : decode cX9_blockade 7 = .ok (.new 72, 3) := by decide +kernel
theorem dX9_blockade_10 : decode cX9_blockade 10 = .ok (.dup, 1) := by decide +kernel
theorem dX9_blockade_11 : decode cX9_blockade 11 = .ok (.invokespecial 74, 3) := by decide +kernel
theorem dX9_blockade_14 : decode cX9_blockade 14 = .ok (.athrow, 1) := by decide +kernel
theorem dX9_blockade_15 : decode cX9_blockade 15 = .ok (.aload_n 0, 1) := by decide +kernel
theorem dX9_blockade_16 : decode cX9_blockade 16 = .ok (.getfield 10, 3) := by decide +kernel
theorem dX9_blockade_19 : decode cX9_blockade 19 = .ok (.iload_n 1, 1) := by decide +kernel
theorem dX9_blockade_20 : decode cX9_blockade 20 = .ok (.invokevirtual 106, 3) := by decide +kernel
theorem dX9_blockade_23 : decode cX9_blockade 23 = .ok (.invokestatic 216, 3) := by decide +kernel
theorem dX9_blockade_26 : decode cX9_blockade 26 = .ok (.ireturn, 1) := by decide +kernel
theorem dX9_stake_0 : decode cX9_stake 0 = .ok (.aload_n 0, 1) := by decide +kernel
theorem dX9_stake_1 : decode cX9_stake 1 = .ok (.getfield 10, 3) := by decide +kernel
theorem dX9_stake_4 : decode cX9_stake 4 = .ok (.getfield 122, 3) := by decide +kernel
theorem dX9_stake_7 : decode cX9_stake 7 = .ok (.ireturn, 1) := by decide +kernel
theorem dX9_cubeOf_0 : decode cX9_cubeOf 0 = .ok (.aload_n 0, 1) := by decide +kernel
theorem dX9_cubeOf_1 : decode cX9_cubeOf 1 = .ok (.getfield 10, 3) := by decide +kernel
theorem dX9_cubeOf_4 : decode cX9_cubeOf 4 = .ok (.getfield 219, 3) := by decide +kernel
theorem dX9_cubeOf_7 : decode cX9_cubeOf 7 = .ok (.ireturn, 1) := by decide +kernel
set_option maxRecDepth 20000 in
theorem ggX9_score_X9_isPlayer : GoodIn wsX9_score wsX9_isPlayer := goodIn_r _ [7] (by decide +kernel) (by decide +kernel)
set_option maxRecDepth 20000 in
theorem gX9_score_X9_isPlayer : GoodIn wsX9_score (va_wsS RX9 92 yX9_isPlayer wsX9_isPlayer) := goodIn_app (goodIn_of _ (by decide +kernel)) ggX9_score_X9_isPlayer
set_option maxRecDepth 20000 in
theorem ggX9_score_X1_scoreOf : GoodIn wsX9_score wsX1_scoreOf := goodIn_r _ [12, 13, 14, 19, 20, 21, 22, 23, 24, 25, 26, 27, 28, 29, 30, 31] (by decide +kernel) (by decide +kernel)
set_option maxRecDepth 20000 in
theorem gX9_score_X1_scoreOf : GoodIn wsX9_score (wsV RX9 134 RX1 yX1_scoreOf wsX1_scoreOf) := goodIn_app (goodIn_of _ (by decide +kernel)) ggX9_score_X1_scoreOf
theorem dX9_score_0 : decode cX9_score 0 = .ok (.iload_n 1, 1) := by decide +kernel
theorem dX9_score_1 : decode cX9_score 1 = .ok (.invokestatic 92, 3) := by decide +kernel
theorem dX9_score_4 : decode cX9_score 4 = .ok (.ifCond .ne 11, 3) := by decide +kernel
theorem dX9_score_7 : decode cX9_score 7 = .ok (.new 72, 3) := by decide +kernel
theorem dX9_score_10 : decode cX9_score 10 = .ok (.dup, 1) := by decide +kernel
theorem dX9_score_11 : decode cX9_score 11 = .ok (.invokespecial 74, 3) := by decide +kernel
theorem dX9_score_14 : decode cX9_score 14 = .ok (.athrow, 1) := by decide +kernel
theorem dX9_score_15 : decode cX9_score 15 = .ok (.aload_n 0, 1) := by decide +kernel
theorem dX9_score_16 : decode cX9_score 16 = .ok (.getfield 10, 3) := by decide +kernel
theorem dX9_score_19 : decode cX9_score 19 = .ok (.iload_n 1, 1) := by decide +kernel
theorem dX9_score_20 : decode cX9_score 20 = .ok (.invokevirtual 134, 3) := by decide +kernel
theorem dX9_score_23 : decode cX9_score 23 = .ok (.ireturn, 1) := by decide +kernel
set_option maxRecDepth 20000 in
theorem ggX9_hits_X9_isPlayer : GoodIn wsX9_hits wsX9_isPlayer := goodIn_r _ [7] (by decide +kernel) (by decide +kernel)
set_option maxRecDepth 20000 in
theorem gX9_hits_X9_isPlayer : GoodIn wsX9_hits (va_wsS RX9 92 yX9_isPlayer wsX9_isPlayer) := goodIn_app (goodIn_of _ (by decide +kernel)) ggX9_hits_X9_isPlayer
set_option maxRecDepth 20000 in
theorem ggX9_hits_X1_hitsOf : GoodIn wsX9_hits wsX1_hitsOf := goodIn_r _ [12, 13, 14, 19, 20, 21, 22, 23, 24, 25, 26, 27, 28, 29, 30, 31] (by decide +kernel) (by decide +kernel)
set_option maxRecDepth 20000 in
theorem gX9_hits_X1_hitsOf : GoodIn wsX9_hits (wsV RX9 222 RX1 yX1_hitsOf wsX1_hitsOf) := goodIn_app (goodIn_of _ (by decide +kernel)) ggX9_hits_X1_hitsOf
theorem dX9_hits_0 : decode cX9_hits 0 = .ok (.iload_n 1, 1) := by decide +kernel
theorem dX9_hits_1 : decode cX9_hits 1 = .ok (.invokestatic 92, 3) := by decide +kernel
theorem dX9_hits_4 : decode cX9_hits 4 = .ok (.ifCond .ne 11, 3) := by decide +kernel
theorem dX9_hits_7 : decode cX9_hits 7 = .ok (.new 72, 3) := by decide +kernel
theorem dX9_hits_10 : decode cX9_hits 10 = .ok (.dup, 1) := by decide +kernel
theorem dX9_hits_11 : decode cX9_hits 11 = .ok (.invokespecial 74, 3) := by decide +kernel
theorem dX9_hits_14 : decode cX9_hits 14 = .ok (.athrow, 1) := by decide +kernel
theorem dX9_hits_15 : decode cX9_hits 15 = .ok (.aload_n 0, 1) := by decide +kernel
theorem dX9_hits_16 : decode cX9_hits 16 = .ok (.getfield 10, 3) := by decide +kernel
theorem dX9_hits_19 : decode cX9_hits 19 = .ok (.iload_n 1, 1) := by decide +kernel
theorem dX9_hits_20 : decode cX9_hits 20 = .ok (.invokevirtual 222, 3) := by decide +kernel
theorem dX9_hits_23 : decode cX9_hits 23 = .ok (.ireturn, 1) := by decide +kernel
set_option maxRecDepth 20000 in
theorem ggX9_whyNoStep_X9_isPointOrBar : GoodIn wsX9_whyNoStep wsX9_isPointOrBar := goodIn_r _ [9, 10, 11, 8, 12] (by decide +kernel) (by decide +kernel)
set_option maxRecDepth 20000 in
theorem gX9_whyNoStep_X9_isPointOrBar : GoodIn wsX9_whyNoStep (va_wsS RX9 69 yX9_isPointOrBar wsX9_isPointOrBar) := goodIn_app (goodIn_of _ (by decide +kernel)) ggX9_whyNoStep_X9_isPointOrBar
set_option maxRecDepth 20000 in
theorem ggX9_whyNoStep_X0_isDie : GoodIn wsX9_whyNoStep wsX0_isDie := goodIn_r _ [16] (by decide +kernel) (by decide +kernel)
set_option maxRecDepth 20000 in
theorem gX9_whyNoStep_X0_isDie : GoodIn wsX9_whyNoStep (va_wsS RX9 37 yX0_isDie wsX0_isDie) := goodIn_app (goodIn_of _ (by decide +kernel)) ggX9_whyNoStep_X0_isDie
set_option maxRecDepth 20000 in
theorem ggX9_whyNoStep_X1_reasonAgainst : GoodIn wsX9_whyNoStep wsX1_reasonAgainst := goodIn_r _ [21, 22, 23, 24, 25, 26, 20, 27, 28, 29, 30, 31, 32, 33, 34, 35, 36, 37, 38, 39, 40, 41, 42, 43, 44, 45, 46, 47, 48, 49, 50, 51, 52, 53, 15, 54, 55, 56, 57, 58, 59, 60, 61, 62, 63, 64, 65, 66, 67, 68, 69, 70, 71, 72, 73, 74, 75, 76, 77, 78, 79, 80, 81, 82, 83, 84, 85, 86, 87, 88, 89, 90, 91, 92, 93, 94, 95, 96, 97, 98, 99, 100, 105, 106, 107, 108, 109, 110, 111, 112, 113, 114, 115, 116, 117] (by decide +kernel) (by decide +kernel)
set_option maxRecDepth 20000 in
theorem gX9_whyNoStep_X1_reasonAgainst : GoodIn wsX9_whyNoStep (wsV RX9 75 RX1 yX1_reasonAgainst wsX1_reasonAgainst) := goodIn_app (goodIn_of _ (by decide +kernel)) ggX9_whyNoStep_X1_reasonAgainst
theorem dX9_whyNoStep_0 : decode cX9_whyNoStep 0 = .ok (.iload_n 1, 1) := by decide +kernel
theorem dX9_whyNoStep_1 : decode cX9_whyNoStep 1 = .ok (.invokestatic 69, 3) := by decide +kernel
theorem dX9_whyNoStep_4 : decode cX9_whyNoStep 4 = .ok (.ifCond .ne 11, 3) := by decide +kernel
theorem dX9_whyNoStep_7 : decode cX9_whyNoStep 7 = .ok (.new 72, 3) := by decide +kernel
theorem dX9_whyNoStep_10 : decode cX9_whyNoStep 10 = .ok (.dup, 1) := by decide +kernel
theorem dX9_whyNoStep_11 : decode cX9_whyNoStep 11 = .ok (.invokespecial 74, 3) := by decide +kernel
theorem dX9_whyNoStep_14 : decode cX9_whyNoStep 14 = .ok (.athrow, 1) := by decide +kernel
theorem dX9_whyNoStep_15 : decode cX9_whyNoStep 15 = .ok (.iload_n 2, 1) := by decide +kernel
theorem dX9_whyNoStep_16 : decode cX9_whyNoStep 16 = .ok (.invokestatic 37, 3) := by decide +kernel
theorem dX9_whyNoStep_19 : decode cX9_whyNoStep 19 = .ok (.ifCond .ne 11, 3) := by decide +kernel
theorem dX9_whyNoStep_22 : decode cX9_whyNoStep 22 = .ok (.new 43, 3) := by decide +kernel
theorem dX9_whyNoStep_25 : decode cX9_whyNoStep 25 = .ok (.dup, 1) := by decide +kernel
theorem dX9_whyNoStep_26 : decode cX9_whyNoStep 26 = .ok (.invokespecial 45, 3) := by decide +kernel
theorem dX9_whyNoStep_29 : decode cX9_whyNoStep 29 = .ok (.athrow, 1) := by decide +kernel
theorem dX9_whyNoStep_30 : decode cX9_whyNoStep 30 = .ok (.aload_n 0, 1) := by decide +kernel
theorem dX9_whyNoStep_31 : decode cX9_whyNoStep 31 = .ok (.getfield 10, 3) := by decide +kernel
theorem dX9_whyNoStep_34 : decode cX9_whyNoStep 34 = .ok (.iload_n 1, 1) := by decide +kernel
theorem dX9_whyNoStep_35 : decode cX9_whyNoStep 35 = .ok (.iload_n 2, 1) := by decide +kernel
theorem dX9_whyNoStep_36 : decode cX9_whyNoStep 36 = .ok (.invokevirtual 75, 3) := by decide +kernel
theorem dX9_whyNoStep_39 : decode cX9_whyNoStep 39 = .ok (.ireturn, 1) := by decide +kernel
set_option maxRecDepth 20000 in
theorem ggX9_possibleSteps_X1_moversPieces : GoodIn wsX9_possibleSteps wsX1_moversPieces := goodIn_r _ [7, 8, 9, 10, 11, 6, 12, 13, 14, 83, 84, 85, 86, 87, 88, 89, 90, 91, 92, 93, 94, 95] (by decide +kernel) (by decide +kernel)
set_option maxRecDepth 20000 in
theorem gX9_possibleSteps_X1_moversPieces : GoodIn wsX9_possibleSteps (wsV RX9 225 RX1 yX1_moversPieces wsX1_moversPieces) := goodIn_app (goodIn_of _ (by decide +kernel)) ggX9_possibleSteps_X1_moversPieces
set_option maxRecDepth 20000 in
theorem ggX9_possibleSteps_X1_othersPieces : GoodIn wsX9_possibleSteps wsX1_othersPieces := goodIn_r _ [18, 8, 9, 10, 11, 6, 12, 13, 14, 83, 84, 85, 86, 87, 88, 89, 90, 91, 92, 93, 94, 95] (by decide +kernel) (by decide +kernel)
set_option maxRecDepth 20000 in
theorem gX9_possibleSteps_X1_othersPieces : GoodIn wsX9_possibleSteps (wsV RX9 229 RX1 yX1_othersPieces wsX1_othersPieces) := goodIn_app (goodIn_of _ (by decide +kernel)) ggX9_possibleSteps_X1_othersPieces
set_option maxRecDepth 20000 in
theorem ggX9_possibleSteps_X7_countPossible : GoodIn wsX9_possibleSteps wsX7_countPossible := goodIn_r _ [22, 23, 24, 21, 25, 26, 27, 28, 29, 30, 31, 32, 33, 34, 35, 36, 37, 38, 39, 40, 41, 42, 43, 44, 45, 46, 47, 48, 49, 50, 51, 52, 53, 54, 55, 56, 57, 58, 59, 60, 61, 62, 63, 64, 65, 66, 67, 68, 69, 70, 71, 72, 73, 74, 75, 76, 77, 78] (by decide +kernel) (by decide +kernel)
set_option maxRecDepth 20000 in
theorem gX9_possibleSteps_X7_countPossible : GoodIn wsX9_possibleSteps (va_wsS RX9 232 yX7_countPossible wsX7_countPossible) := goodIn_app (goodIn_of _ (by decide +kernel)) ggX9_possibleSteps_X7_countPossible
theorem dX9_possibleSteps_0 : decode cX9_possibleSteps 0 = .ok (.aload_n 0, 1) := by decide +kernel
theorem dX9_possibleSteps_1 : decode cX9_possibleSteps 1 = .ok (.getfield 10, 3) := by decide +kernel
theorem dX9_possibleSteps_4 : decode cX9_possibleSteps 4 = .ok (.invokevirtual 225, 3) := by decide +kernel
theorem dX9_possibleSteps_7 : decode cX9_possibleSteps 7 = .ok (.aload_n 0, 1) := by decide +kernel
theorem dX9_possibleSteps_8 : decode cX9_possibleSteps 8 = .ok (.getfield 10, 3) := by decide +kernel
theorem dX9_possibleSteps_11 : decode cX9_possibleSteps 11 = .ok (.invokevirtual 229, 3) := by decide +kernel
theorem dX9_possibleSteps_14 : decode cX9_possibleSteps 14 = .ok (.aload_n 0, 1) := by decide +kernel
theorem dX9_possibleSteps_15 : decode cX9_possibleSteps 15 = .ok (.getfield 10, 3) := by decide +kernel
theorem dX9_possibleSteps_18 : decode cX9_possibleSteps 18 = .ok (.getfield 61, 3) := by decide +kernel
theorem dX9_possibleSteps_21 : decode cX9_possibleSteps 21 = .ok (.invokestatic 232, 3) := by decide +kernel
theorem dX9_possibleSteps_24 : decode cX9_possibleSteps 24 = .ok (.ireturn, 1) := by decide +kernel
set_option maxRecDepth 20000 in
theorem ggX9_reach_X1_reachNow : GoodIn wsX9_reach wsX1_reachNow := goodIn_r _ [6, 7, 8, 9, 10, 5, 11, 12, 13, 14, 15, 16, 17, 18, 19, 20, 21, 22, 23, 24, 25, 26, 27, 28, 29, 30, 31, 32, 33, 34, 35, 36, 37, 38, 39, 40, 41, 42, 43, 44, 45, 46, 47, 48, 49, 50, 51, 52, 53, 54, 55, 56, 57, 58, 59, 60, 61, 62, 63, 64, 65, 66, 67, 68, 69, 74, 75, 76, 77, 78, 79, 80, 81, 82, 83, 84, 85, 86] (by decide +kernel) (by decide +kernel)
set_option maxRecDepth 20000 in
theorem gX9_reach_X1_reachNow : GoodIn wsX9_reach (wsV RX9 238 RX1 yX1_reachNow wsX1_reachNow) := goodIn_app (goodIn_of _ (by decide +kernel)) ggX9_reach_X1_reachNow
theorem dX9_reach_0 : decode cX9_reach 0 = .ok (.aload_n 0, 1) := by decide +kernel
theorem dX9_reach_1 : decode cX9_reach 1 = .ok (.getfield 10, 3) := by decide +kernel
theorem dX9_reach_4 : decode cX9_reach 4 = .ok (.invokevirtual 238, 3) := by decide +kernel
theorem dX9_reach_7 : decode cX9_reach 7 = .ok (.ireturn, 1) := by decide +kernel
set_option maxRecDepth 20000 in
theorem ggX9_plays_X1_moversPieces : GoodIn wsX9_plays wsX1_moversPieces := goodIn_r _ [8, 9, 10, 11, 12, 7, 13, 14, 15, 135, 136, 137, 138, 139, 140, 141, 142, 143, 144, 145, 146, 147] (by decide +kernel) (by decide +kernel)
set_option maxRecDepth 20000 in
theorem gX9_plays_X1_moversPieces : GoodIn wsX9_plays (wsV RX9 225 RX1 yX1_moversPieces wsX1_moversPieces) := goodIn_app (goodIn_of _ (by decide +kernel)) ggX9_plays_X1_moversPieces
set_option maxRecDepth 20000 in
theorem ggX9_plays_X1_othersPieces : GoodIn wsX9_plays wsX1_othersPieces := goodIn_r _ [19, 9, 10, 11, 12, 7, 13, 14, 15, 135, 136, 137, 138, 139, 140, 141, 142, 143, 144, 145, 146, 147] (by decide +kernel) (by decide +kernel)
set_option maxRecDepth 20000 in
theorem gX9_plays_X1_othersPieces : GoodIn wsX9_plays (wsV RX9 229 RX1 yX1_othersPieces wsX1_othersPieces) := goodIn_app (goodIn_of _ (by decide +kernel)) ggX9_plays_X1_othersPieces
set_option maxRecDepth 20000 in
theorem ggX9_plays_X4_countEnds : GoodIn wsX9_plays wsX4_countEnds := goodIn_r _ [24, 25, 26, 27, 28, 29, 30, 31, 32, 33, 34, 35, 36, 37, 38, 39, 40, 41, 42, 43, 44, 45, 46, 47, 48, 49, 50, 51, 52, 53, 54, 55, 56, 57, 58, 59, 60, 61, 62, 63, 64, 65, 66, 67, 68, 69, 70, 71, 72, 73, 23, 74, 75, 76, 77, 78, 79, 80, 81, 82, 83, 84, 85, 86, 87, 88, 89, 90, 91, 92, 93, 94, 95, 96, 97, 98, 99, 100, 101, 102, 103, 104, 105, 106, 107, 108, 109, 110, 111, 112, 113, 114, 115, 116, 117, 118, 119, 120, 121, 122, 123, 124, 125, 126, 127, 128, 129, 130, 148, 149, 150, 151, 152, 153, 154] (by decide +kernel) (by decide +kernel)
set_option maxRecDepth 20000 in
theorem gX9_plays_X4_countEnds : GoodIn wsX9_plays (wsV RX9 241 RX4 yX4_countEnds wsX4_countEnds) := goodIn_app (goodIn_of _ (by decide +kernel)) ggX9_plays_X4_countEnds
theorem dX9_plays_0 : decode cX9_plays 0 = .ok (.aload_n 0, 1) := by decide +kernel
theorem dX9_plays_1 : decode cX9_plays 1 = .ok (.getfield 33, 3) := by decide +kernel
theorem dX9_plays_4 : decode cX9_plays 4 = .ok (.aload_n 0, 1) := by decide +kernel
theorem dX9_plays_5 : decode cX9_plays 5 = .ok (.getfield 10, 3) := by decide +kernel
theorem dX9_plays_8 : decode cX9_plays 8 = .ok (.invokevirtual 225, 3) := by decide +kernel
theorem dX9_plays_11 : decode cX9_plays 11 = .ok (.aload_n 0, 1) := by decide +kernel
theorem dX9_plays_12 : decode cX9_plays 12 = .ok (.getfield 10, 3) := by decide +kernel
theorem dX9_plays_15 : decode cX9_plays 15 = .ok (.invokevirtual 229, 3) := by decide +kernel
theorem dX9_plays_18 : decode cX9_plays 18 = .ok (.aload_n 0, 1) := by decide +kernel
theorem dX9_plays_19 : decode cX9_plays 19 = .ok (.getfield 10, 3) := by decide +kernel
theorem dX9_plays_22 : decode cX9_plays 22 = .ok (.getfield 61, 3) := by decide +kernel
theorem dX9_plays_25 : decode cX9_plays 25 = .ok (.iconst 0, 1) := by decide +kernel
theorem dX9_plays_26 : decode cX9_plays 26 = .ok (.invokevirtual 241, 3) := by decide +kernel
theorem dX9_plays_29 : decode cX9_plays 29 = .ok (.ireturn, 1) := by decide +kernel
set_option maxRecDepth 20000 in
theorem ggX9_playsByOrders_X1_moversPieces : GoodIn wsX9_playsByOrders wsX1_moversPieces := goodIn_r _ [8, 9, 10, 11, 12, 7, 13, 14, 15, 135, 136, 137, 138, 139, 140, 141, 142, 143, 144, 145, 146, 147] (by decide +kernel) (by decide +kernel)
set_option maxRecDepth 20000 in
theorem gX9_playsByOrders_X1_moversPieces : GoodIn wsX9_playsByOrders (wsV RX9 225 RX1 yX1_moversPieces wsX1_moversPieces) := goodIn_app (goodIn_of _ (by decide +kernel)) ggX9_playsByOrders_X1_moversPieces
set_option maxRecDepth 20000 in
theorem ggX9_playsByOrders_X1_othersPieces : GoodIn wsX9_playsByOrders wsX1_othersPieces := goodIn_r _ [19, 9, 10, 11, 12, 7, 13, 14, 15, 135, 136, 137, 138, 139, 140, 141, 142, 143, 144, 145, 146, 147] (by decide +kernel) (by decide +kernel)
set_option maxRecDepth 20000 in
theorem gX9_playsByOrders_X1_othersPieces : GoodIn wsX9_playsByOrders (wsV RX9 229 RX1 yX1_othersPieces wsX1_othersPieces) := goodIn_app (goodIn_of _ (by decide +kernel)) ggX9_playsByOrders_X1_othersPieces
set_option maxRecDepth 20000 in
theorem ggX9_playsByOrders_X4_countEnds : GoodIn wsX9_playsByOrders wsX4_countEnds := goodIn_r _ [24, 25, 26, 27, 28, 29, 30, 31, 32, 33, 34, 35, 36, 37, 38, 39, 40, 41, 42, 43, 44, 45, 46, 47, 48, 49, 50, 51, 52, 53, 54, 55, 56, 57, 58, 59, 60, 61, 62, 63, 64, 65, 66, 67, 68, 69, 70, 71, 72, 73, 23, 74, 75, 76, 77, 78, 79, 80, 81, 82, 83, 84, 85, 86, 87, 88, 89, 90, 91, 92, 93, 94, 95, 96, 97, 98, 99, 100, 101, 102, 103, 104, 105, 106, 107, 108, 109, 110, 111, 112, 113, 114, 115, 116, 117, 118, 119, 120, 121, 122, 123, 124, 125, 126, 127, 128, 129, 130, 148, 149, 150, 151, 152, 153, 154] (by decide +kernel) (by decide +kernel)
set_option maxRecDepth 20000 in
theorem gX9_playsByOrders_X4_countEnds : GoodIn wsX9_playsByOrders (wsV RX9 241 RX4 yX4_countEnds wsX4_countEnds) := goodIn_app (goodIn_of _ (by decide +kernel)) ggX9_playsByOrders_X4_countEnds
theorem dX9_playsByOrders_0 : decode cX9_playsByOrders 0 = .ok (.aload_n 0, 1) := by decide +kernel
theorem dX9_playsByOrders_1 : decode cX9_playsByOrders 1 = .ok (.getfield 33, 3) := by decide +kernel
theorem dX9_playsByOrders_4 : decode cX9_playsByOrders 4 = .ok (.aload_n 0, 1) := by decide +kernel
theorem dX9_playsByOrders_5 : decode cX9_playsByOrders 5 = .ok (.getfield 10, 3) := by decide +kernel
theorem dX9_playsByOrders_8 : decode cX9_playsByOrders 8 = .ok (.invokevirtual 225, 3) := by decide +kernel
theorem dX9_playsByOrders_11 : decode cX9_playsByOrders 11 = .ok (.aload_n 0, 1) := by decide +kernel
theorem dX9_playsByOrders_12 : decode cX9_playsByOrders 12 = .ok (.getfield 10, 3) := by decide +kernel
theorem dX9_playsByOrders_15 : decode cX9_playsByOrders 15 = .ok (.invokevirtual 229, 3) := by decide +kernel
theorem dX9_playsByOrders_18 : decode cX9_playsByOrders 18 = .ok (.aload_n 0, 1) := by decide +kernel
theorem dX9_playsByOrders_19 : decode cX9_playsByOrders 19 = .ok (.getfield 10, 3) := by decide +kernel
theorem dX9_playsByOrders_22 : decode cX9_playsByOrders 22 = .ok (.getfield 61, 3) := by decide +kernel
theorem dX9_playsByOrders_25 : decode cX9_playsByOrders 25 = .ok (.iconst 1, 1) := by decide +kernel
theorem dX9_playsByOrders_26 : decode cX9_playsByOrders 26 = .ok (.invokevirtual 241, 3) := by decide +kernel
theorem dX9_playsByOrders_29 : decode cX9_playsByOrders 29 = .ok (.ireturn, 1) := by decide +kernel
set_option maxRecDepth 20000 in
theorem ggX9_playsWith_X0_isDie : GoodIn wsX9_playsWith wsX0_isDie := goodIn_r _ [8] (by decide +kernel) (by decide +kernel)
set_option maxRecDepth 20000 in
theorem gX9_playsWith_X0_isDie : GoodIn wsX9_playsWith (va_wsS RX9 37 yX0_isDie wsX0_isDie) := goodIn_app (goodIn_of _ (by decide +kernel)) ggX9_playsWith_X0_isDie
set_option maxRecDepth 20000 in
theorem ggX9_playsWith_X0_rolled : GoodIn wsX9_playsWith wsX0_rolled := goodIn_r _ [11] (by decide +kernel) (by decide +kernel)
set_option maxRecDepth 20000 in
theorem gX9_playsWith_X0_rolled : GoodIn wsX9_playsWith (va_wsS RX9 245 yX0_rolled wsX0_rolled) := goodIn_app (goodIn_of _ (by decide +kernel)) ggX9_playsWith_X0_rolled
set_option maxRecDepth 20000 in
theorem ggX9_playsWith_X1_moversPieces : GoodIn wsX9_playsWith wsX1_moversPieces := goodIn_r _ [16, 17, 18, 19, 20, 15, 21, 22, 23, 140, 141, 142, 143, 144, 145, 146, 147, 148, 149, 150, 151, 152] (by decide +kernel) (by decide +kernel)
set_option maxRecDepth 20000 in
theorem gX9_playsWith_X1_moversPieces : GoodIn wsX9_playsWith (wsV RX9 225 RX1 yX1_moversPieces wsX1_moversPieces) := goodIn_app (goodIn_of _ (by decide +kernel)) ggX9_playsWith_X1_moversPieces
set_option maxRecDepth 20000 in
theorem ggX9_playsWith_X1_othersPieces : GoodIn wsX9_playsWith wsX1_othersPieces := goodIn_r _ [27, 17, 18, 19, 20, 15, 21, 22, 23, 140, 141, 142, 143, 144, 145, 146, 147, 148, 149, 150, 151, 152] (by decide +kernel) (by decide +kernel)
set_option maxRecDepth 20000 in
theorem gX9_playsWith_X1_othersPieces : GoodIn wsX9_playsWith (wsV RX9 229 RX1 yX1_othersPieces wsX1_othersPieces) := goodIn_app (goodIn_of _ (by decide +kernel)) ggX9_playsWith_X1_othersPieces
set_option maxRecDepth 20000 in
theorem ggX9_playsWith_X4_countEnds : GoodIn wsX9_playsWith wsX4_countEnds := goodIn_r _ [32, 33, 34, 35, 36, 37, 38, 39, 40, 41, 42, 43, 44, 45, 46, 47, 48, 49, 50, 51, 7, 52, 53, 54, 55, 56, 57, 58, 59, 10, 11, 60, 61, 62, 63, 64, 65, 66, 67, 68, 69, 70, 71, 72, 73, 74, 75, 76, 77, 78, 31, 79, 80, 81, 82, 83, 84, 85, 86, 87, 88, 89, 90, 91, 92, 93, 94, 95, 96, 97, 98, 99, 100, 101, 102, 103, 104, 105, 106, 107, 108, 109, 110, 111, 112, 113, 114, 115, 116, 117, 118, 119, 120, 121, 122, 123, 124, 125, 126, 127, 128, 129, 130, 131, 132, 133, 134, 135, 153, 154, 155, 156, 157, 158, 159] (by decide +kernel) (by decide +kernel)
set_option maxRecDepth 20000 in
theorem gX9_playsWith_X4_countEnds : GoodIn wsX9_playsWith (wsV RX9 241 RX4 yX4_countEnds wsX4_countEnds) := goodIn_app (goodIn_of _ (by decide +kernel)) ggX9_playsWith_X4_countEnds
theorem dX9_playsWith_0 : decode cX9_playsWith 0 = .ok (.iload_n 1, 1) := by decide +kernel
theorem dX9_playsWith_1 : decode cX9_playsWith 1 = .ok (.invokestatic 37, 3) := by decide +kernel
theorem dX9_playsWith_4 : decode cX9_playsWith 4 = .ok (.ifCond .eq 10, 3) := by decide +kernel
theorem dX9_playsWith_7 : decode cX9_playsWith 7 = .ok (.iload_n 2, 1) := by decide +kernel
theorem dX9_playsWith_8 : decode cX9_playsWith 8 = .ok (.invokestatic 37, 3) := by decide +kernel
theorem dX9_playsWith_11 : decode cX9_playsWith 11 = .ok (.ifCond .ne 11, 3) := by decide +kernel
theorem dX9_playsWith_14 : decode cX9_playsWith 14 = .ok (.new 43, 3) := by decide +kernel
theorem dX9_playsWith_17 : decode cX9_playsWith 17 = .ok (.dup, 1) := by decide +kernel
theorem dX9_playsWith_18 : decode cX9_playsWith 18 = .ok (.invokespecial 45, 3) := by decide +kernel
theorem dX9_playsWith_21 : decode cX9_playsWith 21 = .ok (.athrow, 1) := by decide +kernel
theorem dX9_playsWith_22 : decode cX9_playsWith 22 = .ok (.iload_n 1, 1) := by decide +kernel
theorem dX9_playsWith_23 : decode cX9_playsWith 23 = .ok (.iload_n 2, 1) := by decide +kernel
theorem dX9_playsWith_24 : decode cX9_playsWith 24 = .ok (.invokestatic 245, 3) := by decide +kernel
theorem dX9_playsWith_27 : decode cX9_playsWith 27 = .ok (.istore_n 3, 1) := by decide +kernel
theorem dX9_playsWith_28 : decode cX9_playsWith 28 = .ok (.aload_n 0, 1) := by decide +kernel
theorem dX9_playsWith_29 : decode cX9_playsWith 29 = .ok (.getfield 33, 3) := by decide +kernel
theorem dX9_playsWith_32 : decode cX9_playsWith 32 = .ok (.aload_n 0, 1) := by decide +kernel
theorem dX9_playsWith_33 : decode cX9_playsWith 33 = .ok (.getfield 10, 3) := by decide +kernel
theorem dX9_playsWith_36 : decode cX9_playsWith 36 = .ok (.invokevirtual 225, 3) := by decide +kernel
theorem dX9_playsWith_39 : decode cX9_playsWith 39 = .ok (.aload_n 0, 1) := by decide +kernel
theorem dX9_playsWith_40 : decode cX9_playsWith 40 = .ok (.getfield 10, 3) := by decide +kernel
theorem dX9_playsWith_43 : decode cX9_playsWith 43 = .ok (.invokevirtual 229, 3) := by decide +kernel
theorem dX9_playsWith_46 : decode cX9_playsWith 46 = .ok (.iload_n 3, 1) := by decide +kernel
theorem dX9_playsWith_47 : decode cX9_playsWith 47 = .ok (.iconst 0, 1) := by decide +kernel
theorem dX9_playsWith_48 : decode cX9_playsWith 48 = .ok (.invokevirtual 241, 3) := by decide +kernel
theorem dX9_playsWith_51 : decode cX9_playsWith 51 = .ok (.ireturn, 1) := by decide +kernel
set_option maxRecDepth 20000 in
theorem ggX9_shots_X9_isPoint : GoodIn wsX9_shots wsX9_isPoint := goodIn_r _ [6] (by decide +kernel) (by decide +kernel)
set_option maxRecDepth 20000 in
theorem gX9_shots_X9_isPoint : GoodIn wsX9_shots (va_wsS RX9 203 yX9_isPoint wsX9_isPoint) := goodIn_app (goodIn_of _ (by decide +kernel)) ggX9_shots_X9_isPoint
set_option maxRecDepth 20000 in
theorem ggX9_shots_X9_shotsRollByRoll : GoodIn wsX9_shots wsX9_shotsRollByRoll := goodIn_r _ [10, 11, 12, 13, 14, 15, 16, 17, 18, 19, 20, 21, 22, 23, 24, 25, 26, 27, 28, 29, 30, 31, 32, 33, 34, 35, 36, 37, 38, 39, 40, 41, 42, 43, 44, 45, 46, 47, 48, 49, 50, 51, 52, 53, 54, 55, 56, 57, 58, 59, 60, 61, 62, 63, 64, 65, 66, 67, 68, 69, 70, 71, 72, 73, 74, 75, 76, 77, 78, 79, 80, 81, 82, 83, 84, 85, 86, 87] (by decide +kernel) (by decide +kernel)
set_option maxRecDepth 20000 in
theorem gX9_shots_X9_shotsRollByRoll : GoodIn wsX9_shots (wsV RX9 248 RX9 yX9_shotsRollByRoll wsX9_shotsRollByRoll) := goodIn_app (goodIn_of _ (by decide +kernel)) ggX9_shots_X9_shotsRollByRoll
theorem dX9_shots_0 : decode cX9_shots 0 = .ok (.iload_n 1, 1) := by decide +kernel
theorem dX9_shots_1 : decode cX9_shots 1 = .ok (.invokestatic 203, 3) := by decide +kernel
theorem dX9_shots_4 : decode cX9_shots 4 = .ok (.ifCond .ne 11, 3) := by decide +kernel
theorem dX9_shots_7 : decode cX9_shots 7 = .ok (.new 72, 3) := by decide +kernel
theorem dX9_shots_10 : decode cX9_shots 10 = .ok (.dup, 1) := by decide +kernel
theorem dX9_shots_11 : decode cX9_shots 11 = .ok (.invokespecial 74, 3) := by decide +kernel
theorem dX9_shots_14 : decode cX9_shots 14 = .ok (.athrow, 1) := by decide +kernel
theorem dX9_shots_15 : decode cX9_shots 15 = .ok (.aload_n 0, 1) := by decide +kernel
theorem dX9_shots_16 : decode cX9_shots 16 = .ok (.iload_n 1, 1) := by decide +kernel
theorem dX9_shots_17 : decode cX9_shots 17 = .ok (.invokevirtual 248, 3) := by decide +kernel
theorem dX9_shots_20 : decode cX9_shots 20 = .ok (.ireturn, 1) := by decide +kernel
set_option maxRecDepth 20000 in
theorem ggX9_shotsByKinds_X9_isPoint : GoodIn wsX9_shotsByKinds wsX9_isPoint := goodIn_r _ [6] (by decide +kernel) (by decide +kernel)
set_option maxRecDepth 20000 in
theorem gX9_shotsByKinds_X9_isPoint : GoodIn wsX9_shotsByKinds (va_wsS RX9 203 yX9_isPoint wsX9_isPoint) := goodIn_app (goodIn_of _ (by decide +kernel)) ggX9_shotsByKinds_X9_isPoint
set_option maxRecDepth 20000 in
theorem ggX9_shotsByKinds_X9_shotsKindByKind : GoodIn wsX9_shotsByKinds wsX9_shotsKindByKind := goodIn_r _ [10, 11, 12, 13, 14, 15, 16, 17, 18, 19, 20, 21, 22, 23, 24, 25, 26, 27, 28, 29, 30, 31, 32, 33, 34, 35, 36, 37, 38, 39, 40, 41, 42, 43, 44, 45, 46, 47, 48, 49, 50, 51, 52, 53, 54, 55, 56, 57, 58, 59, 60, 61, 62, 63, 64, 65, 66, 67, 68, 69, 70, 71, 72, 73, 74, 75, 76, 77, 78, 79, 80, 81, 82, 83, 84, 85, 86, 87] (by decide +kernel) (by decide +kernel)
set_option maxRecDepth 20000 in
theorem gX9_shotsByKinds_X9_shotsKindByKind : GoodIn wsX9_shotsByKinds (wsV RX9 251 RX9 yX9_shotsKindByKind wsX9_shotsKindByKind) := goodIn_app (goodIn_of _ (by decide +kernel)) ggX9_shotsByKinds_X9_shotsKindByKind
theorem dX9_shotsByKinds_0 : decode cX9_shotsByKinds 0 = .ok (.iload_n 1, 1) := by decide +kernel
theorem dX9_shotsByKinds_1 : decode cX9_shotsByKinds 1 = .ok (.invokestatic 203, 3) := by decide +kernel
theorem dX9_shotsByKinds_4 : decode cX9_shotsByKinds 4 = .ok (.ifCond .ne 11, 3) := by decide +kernel
theorem dX9_shotsByKinds_7 : decode cX9_shotsByKinds 7 = .ok (.new 72, 3) := by decide +kernel
theorem dX9_shotsByKinds_10 : decode cX9_shotsByKinds 10 = .ok (.dup, 1) := by decide +kernel
theorem dX9_shotsByKinds_11 : decode cX9_shotsByKinds 11 = .ok (.invokespecial 74, 3) := by decide +kernel
theorem dX9_shotsByKinds_14 : decode cX9_shotsByKinds 14 = .ok (.athrow, 1) := by decide +kernel
theorem dX9_shotsByKinds_15 : decode cX9_shotsByKinds 15 = .ok (.aload_n 0, 1) := by decide +kernel
theorem dX9_shotsByKinds_16 : decode cX9_shotsByKinds 16 = .ok (.iload_n 1, 1) := by decide +kernel
theorem dX9_shotsByKinds_17 : decode cX9_shotsByKinds 17 = .ok (.invokevirtual 251, 3) := by decide +kernel
theorem dX9_shotsByKinds_20 : decode cX9_shotsByKinds 20 = .ok (.ireturn, 1) := by decide +kernel
set_option maxRecDepth 20000 in
theorem ggX9_entering_X9_isPlayer : GoodIn wsX9_entering wsX9_isPlayer := goodIn_r _ [7] (by decide +kernel) (by decide +kernel)
set_option maxRecDepth 20000 in
theorem gX9_entering_X9_isPlayer : GoodIn wsX9_entering (va_wsS RX9 92 yX9_isPlayer wsX9_isPlayer) := goodIn_app (goodIn_of _ (by decide +kernel)) ggX9_entering_X9_isPlayer
set_option maxRecDepth 20000 in
theorem ggX9_entering_X1_piecesOf : GoodIn wsX9_entering wsX1_piecesOf := goodIn_r _ [12, 13, 14, 27, 28, 29, 30, 31, 32, 33, 34, 35, 36, 37, 38, 39] (by decide +kernel) (by decide +kernel)
set_option maxRecDepth 20000 in
theorem gX9_entering_X1_piecesOf : GoodIn wsX9_entering (wsV RX9 106 RX1 yX1_piecesOf wsX1_piecesOf) := goodIn_app (goodIn_of _ (by decide +kernel)) ggX9_entering_X1_piecesOf
set_option maxRecDepth 20000 in
theorem ggX9_entering_X6_rollsThatEnter : GoodIn wsX9_entering wsX6_rollsThatEnter := goodIn_r _ [18, 19, 20, 21, 22] (by decide +kernel) (by decide +kernel)
set_option maxRecDepth 20000 in
theorem gX9_entering_X6_rollsThatEnter : GoodIn wsX9_entering (va_wsS RX9 254 yX6_rollsThatEnter wsX6_rollsThatEnter) := goodIn_app (goodIn_of _ (by decide +kernel)) ggX9_entering_X6_rollsThatEnter
theorem dX9_entering_0 : decode cX9_entering 0 = .ok (.iload_n 1, 1) := by decide +kernel
theorem dX9_entering_1 : decode cX9_entering 1 = .ok (.invokestatic 92, 3) := by decide +kernel
theorem dX9_entering_4 : decode cX9_entering 4 = .ok (.ifCond .ne 11, 3) := by decide +kernel
theorem dX9_entering_7 : decode cX9_entering 7 = .ok (.new 72, 3) := by decide +kernel
theorem dX9_entering_10 : decode cX9_entering 10 = .ok (.dup, 1) := by decide +kernel
theorem dX9_entering_11 : decode cX9_entering 11 = .ok (.invokespecial 74, 3) := by decide +kernel
theorem dX9_entering_14 : decode cX9_entering 14 = .ok (.athrow, 1) := by decide +kernel
theorem dX9_entering_15 : decode cX9_entering 15 = .ok (.aload_n 0, 1) := by decide +kernel
theorem dX9_entering_16 : decode cX9_entering 16 = .ok (.getfield 10, 3) := by decide +kernel
theorem dX9_entering_19 : decode cX9_entering 19 = .ok (.iconst 1, 1) := by decide +kernel
theorem dX9_entering_20 : decode cX9_entering 20 = .ok (.iload_n 1, 1) := by decide +kernel
theorem dX9_entering_21 : decode cX9_entering 21 = .ok (.isub, 1) := by decide +kernel
theorem dX9_entering_22 : decode cX9_entering 22 = .ok (.invokevirtual 106, 3) := by decide +kernel
theorem dX9_entering_25 : decode cX9_entering 25 = .ok (.invokestatic 254, 3) := by decide +kernel
theorem dX9_entering_28 : decode cX9_entering 28 = .ok (.ireturn, 1) := by decide +kernel
set_option maxRecDepth 20000 in
theorem ggX9_blotsBehind_X9_isPointOrBar : GoodIn wsX9_blotsBehind wsX9_isPointOrBar := goodIn_r _ [12, 13, 14, 11, 15] (by decide +kernel) (by decide +kernel)
set_option maxRecDepth 20000 in
theorem gX9_blotsBehind_X9_isPointOrBar : GoodIn wsX9_blotsBehind (va_wsS RX9 69 yX9_isPointOrBar wsX9_isPointOrBar) := goodIn_app (goodIn_of _ (by decide +kernel)) ggX9_blotsBehind_X9_isPointOrBar
set_option maxRecDepth 20000 in
theorem ggX9_blotsBehind_X0_isDie : GoodIn wsX9_blotsBehind wsX0_isDie := goodIn_r _ [19] (by decide +kernel) (by decide +kernel)
set_option maxRecDepth 20000 in
theorem gX9_blotsBehind_X0_isDie : GoodIn wsX9_blotsBehind (va_wsS RX9 37 yX0_isDie wsX0_isDie) := goodIn_app (goodIn_of _ (by decide +kernel)) ggX9_blotsBehind_X0_isDie
set_option maxRecDepth 20000 in
theorem ggX9_blotsBehind_X1_reasonAgainst : GoodIn wsX9_blotsBehind wsX1_reasonAgainst := goodIn_r _ [24, 25, 26, 27, 28, 29, 23, 30, 31, 32, 33, 34, 35, 36, 37, 38, 39, 40, 41, 42, 43, 44, 45, 46, 47, 48, 49, 50, 51, 52, 53, 54, 55, 56, 18, 57, 58, 59, 60, 61, 62, 63, 64, 65, 66, 67, 68, 69, 70, 71, 72, 73, 74, 75, 76, 77, 78, 79, 80, 81, 82, 83, 84, 85, 86, 87, 88, 89, 90, 91, 92, 93, 94, 95, 96, 97, 98, 99, 100, 101, 102, 103, 115, 116, 117, 118, 119, 120, 121, 122, 123, 124, 125, 126, 127] (by decide +kernel) (by decide +kernel)
set_option maxRecDepth 20000 in
theorem gX9_blotsBehind_X1_reasonAgainst : GoodIn wsX9_blotsBehind (wsV RX9 75 RX1 yX1_reasonAgainst wsX1_reasonAgainst) := goodIn_app (goodIn_of _ (by decide +kernel)) ggX9_blotsBehind_X1_reasonAgainst
set_option maxRecDepth 20000 in
theorem ggX9_blotsBehind_X1_wayOf : GoodIn wsX9_blotsBehind wsX1_wayOf := goodIn_r _ [43] (by decide +kernel) (by decide +kernel)
set_option maxRecDepth 20000 in
theorem gX9_blotsBehind_X1_wayOf : GoodIn wsX9_blotsBehind (va_wsS RX9 259 yX1_wayOf wsX1_wayOf) := goodIn_app (goodIn_of _ (by decide +kernel)) ggX9_blotsBehind_X1_wayOf
set_option maxRecDepth 20000 in
theorem ggX9_blotsBehind_X1_moversPieces : GoodIn wsX9_blotsBehind wsX1_moversPieces := goodIn_r _ [30, 26, 31, 32, 33, 23, 34, 35, 36, 115, 116, 117, 118, 119, 120, 121, 122, 123, 124, 125, 126, 127] (by decide +kernel) (by decide +kernel)
set_option maxRecDepth 20000 in
theorem gX9_blotsBehind_X1_moversPieces : GoodIn wsX9_blotsBehind (wsV RX9 225 RX1 yX1_moversPieces wsX1_moversPieces) := goodIn_app (goodIn_of _ (by decide +kernel)) ggX9_blotsBehind_X1_moversPieces
set_option maxRecDepth 20000 in
theorem ggX9_blotsBehind_X7_mineBehind : GoodIn wsX9_blotsBehind wsX7_mineBehind := goodIn_r _ [83, 51, 52, 53, 54, 84, 85, 73, 86] (by decide +kernel) (by decide +kernel)
set_option maxRecDepth 20000 in
theorem gX9_blotsBehind_X7_mineBehind : GoodIn wsX9_blotsBehind (va_wsS RX9 262 yX7_mineBehind wsX7_mineBehind) := goodIn_app (goodIn_of _ (by decide +kernel)) ggX9_blotsBehind_X7_mineBehind
set_option maxRecDepth 20000 in
theorem ggX9_blotsBehind_X3_singles : GoodIn wsX9_blotsBehind wsX3_singles := goodIn_r _ [109, 110, 72, 73, 74] (by decide +kernel) (by decide +kernel)
set_option maxRecDepth 20000 in
theorem gX9_blotsBehind_X3_singles : GoodIn wsX9_blotsBehind (va_wsS RX9 213 yX3_singles wsX3_singles) := goodIn_app (goodIn_of _ (by decide +kernel)) ggX9_blotsBehind_X3_singles
theorem dX9_blotsBehind_0 : decode cX9_blotsBehind 0 = .ok (.iload_n 1, 1) := by decide +kernel
theorem dX9_blotsBehind_1 : decode cX9_blotsBehind 1 = .ok (.invokestatic 69, 3) := by decide +kernel
theorem dX9_blotsBehind_4 : decode cX9_blotsBehind 4 = .ok (.ifCond .ne 11, 3) := by decide +kernel
theorem dX9_blotsBehind_7 : decode cX9_blotsBehind 7 = .ok (.new 72, 3) := by decide +kernel
theorem dX9_blotsBehind_10 : decode cX9_blotsBehind 10 = .ok (.dup, 1) := by decide +kernel
theorem dX9_blotsBehind_11 : decode cX9_blotsBehind 11 = .ok (.invokespecial 74, 3) := by decide +kernel
theorem dX9_blotsBehind_14 : decode cX9_blotsBehind 14 = .ok (.athrow, 1) := by decide +kernel
theorem dX9_blotsBehind_15 : decode cX9_blotsBehind 15 = .ok (.iload_n 2, 1) := by decide +kernel
theorem dX9_blotsBehind_16 : decode cX9_blotsBehind 16 = .ok (.invokestatic 37, 3) := by decide +kernel
theorem dX9_blotsBehind_19 : decode cX9_blotsBehind 19 = .ok (.ifCond .ne 11, 3) := by decide +kernel
theorem dX9_blotsBehind_22 : decode cX9_blotsBehind 22 = .ok (.new 43, 3) := by decide +kernel
theorem dX9_blotsBehind_25 : decode cX9_blotsBehind 25 = .ok (.dup, 1) := by decide +kernel
theorem dX9_blotsBehind_26 : decode cX9_blotsBehind 26 = .ok (.invokespecial 45, 3) := by decide +kernel
theorem dX9_blotsBehind_29 : decode cX9_blotsBehind 29 = .ok (.athrow, 1) := by decide +kernel
theorem dX9_blotsBehind_30 : decode cX9_blotsBehind 30 = .ok (.aload_n 0, 1) := by decide +kernel
theorem dX9_blotsBehind_31 : decode cX9_blotsBehind 31 = .ok (.getfield 10, 3) := by decide +kernel
theorem dX9_blotsBehind_34 : decode cX9_blotsBehind 34 = .ok (.iload_n 1, 1) := by decide +kernel
theorem dX9_blotsBehind_35 : decode cX9_blotsBehind 35 = .ok (.iload_n 2, 1) := by decide +kernel
theorem dX9_blotsBehind_36 : decode cX9_blotsBehind 36 = .ok (.invokevirtual 75, 3) := by decide +kernel
theorem dX9_blotsBehind_39 : decode cX9_blotsBehind 39 = .ok (.ifCond .eq 11, 3) := by decide +kernel
theorem dX9_blotsBehind_42 : decode cX9_blotsBehind 42 = .ok (.new 50, 3) := by decide +kernel
theorem dX9_blotsBehind_45 : decode cX9_blotsBehind 45 = .ok (.dup, 1) := by decide +kernel
theorem dX9_blotsBehind_46 : decode cX9_blotsBehind 46 = .ok (.invokespecial 52, 3) := by decide +kernel
theorem dX9_blotsBehind_49 : decode cX9_blotsBehind 49 = .ok (.athrow, 1) := by decide +kernel
theorem dX9_blotsBehind_50 : decode cX9_blotsBehind 50 = .ok (.aload_n 0, 1) := by decide +kernel
theorem dX9_blotsBehind_51 : decode cX9_blotsBehind 51 = .ok (.getfield 10, 3) := by decide +kernel
theorem dX9_blotsBehind_54 : decode cX9_blotsBehind 54 = .ok (.getfield 89, 3) := by decide +kernel
theorem dX9_blotsBehind_57 : decode cX9_blotsBehind 57 = .ok (.iload_n 1, 1) := by decide +kernel
theorem dX9_blotsBehind_58 : decode cX9_blotsBehind 58 = .ok (.invokestatic 259, 3) := by decide +kernel
theorem dX9_blotsBehind_61 : decode cX9_blotsBehind 61 = .ok (.istore_n 3, 1) := by decide +kernel
theorem dX9_blotsBehind_62 : decode cX9_blotsBehind 62 = .ok (.aload_n 0, 1) := by decide +kernel
theorem dX9_blotsBehind_63 : decode cX9_blotsBehind 63 = .ok (.getfield 10, 3) := by decide +kernel
theorem dX9_blotsBehind_66 : decode cX9_blotsBehind 66 = .ok (.invokevirtual 225, 3) := by decide +kernel
theorem dX9_blotsBehind_69 : decode cX9_blotsBehind 69 = .ok (.iload_n 3, 1) := by decide +kernel
theorem dX9_blotsBehind_70 : decode cX9_blotsBehind 70 = .ok (.iload_n 2, 1) := by decide +kernel
theorem dX9_blotsBehind_71 : decode cX9_blotsBehind 71 = .ok (.invokestatic 262, 3) := by decide +kernel
theorem dX9_blotsBehind_74 : decode cX9_blotsBehind 74 = .ok (.invokestatic 213, 3) := by decide +kernel
theorem dX9_blotsBehind_77 : decode cX9_blotsBehind 77 = .ok (.ireturn, 1) := by decide +kernel
set_option maxRecDepth 20000 in
theorem ggX9_lead_X9_shareOfMover : GoodIn wsX9_lead wsX9_shareOfMover := goodIn_r _ [5, 6, 7, 8, 9, 10, 11, 12, 13, 14, 15, 16, 17, 18, 19, 20, 21, 22, 23, 24, 25, 26, 27, 28, 29, 30, 31, 32, 33, 34, 35, 36, 37, 38, 39, 40, 41, 42, 43, 44, 45, 46, 47] (by decide +kernel) (by decide +kernel)
set_option maxRecDepth 20000 in
theorem gX9_lead_X9_shareOfMover : GoodIn wsX9_lead (wsV RX9 266 RX9 yX9_shareOfMover wsX9_shareOfMover) := goodIn_app (goodIn_of _ (by decide +kernel)) ggX9_lead_X9_shareOfMover
theorem dX9_lead_0 : decode cX9_lead 0 = .ok (.aload_n 0, 1) := by decide +kernel
theorem dX9_lead_1 : decode cX9_lead 1 = .ok (.invokevirtual 266, 3) := by decide +kernel
theorem dX9_lead_4 : decode cX9_lead 4 = .ok (.dreturn, 1) := by decide +kernel
theorem dX9_isPlayer_0 : decode cX9_isPlayer 0 = .ok (.iload_n 0, 1) := by decide +kernel
theorem dX9_isPlayer_1 : decode cX9_isPlayer 1 = .ok (.ifCond .eq 8, 3) := by decide +kernel
theorem dX9_isPlayer_4 : decode cX9_isPlayer 4 = .ok (.iload_n 0, 1) := by decide +kernel
theorem dX9_isPlayer_5 : decode cX9_isPlayer 5 = .ok (.iconst 1, 1) := by decide +kernel
theorem dX9_isPlayer_6 : decode cX9_isPlayer 6 = .ok (.if_icmp .ne 7, 3) := by decide +kernel
theorem dX9_isPlayer_9 : decode cX9_isPlayer 9 = .ok (.iconst 1, 1) := by decide +kernel
theorem dX9_isPlayer_10 : decode cX9_isPlayer 10 = .ok (.goto 4, 3) := by decide +kernel
theorem dX9_isPlayer_13 : decode cX9_isPlayer 13 = .ok (.iconst 0, 1) := by decide +kernel
theorem dX9_isPlayer_14 : decode cX9_isPlayer 14 = .ok (.ireturn, 1) := by decide +kernel
theorem dX9_isPoint_0 : decode cX9_isPoint 0 = .ok (.iload_n 0, 1) := by decide +kernel
theorem dX9_isPoint_1 : decode cX9_isPoint 1 = .ok (.ifCond .lt 13, 3) := by decide +kernel
theorem dX9_isPoint_4 : decode cX9_isPoint 4 = .ok (.iload_n 0, 1) := by decide +kernel
theorem dX9_isPoint_5 : decode cX9_isPoint 5 = .ok (.bipush 16, 2) := by decide +kernel
theorem dX9_isPoint_7 : decode cX9_isPoint 7 = .ok (.if_icmp .ge 7, 3) := by decide +kernel
theorem dX9_isPoint_10 : decode cX9_isPoint 10 = .ok (.iconst 1, 1) := by decide +kernel
theorem dX9_isPoint_11 : decode cX9_isPoint 11 = .ok (.goto 4, 3) := by decide +kernel
theorem dX9_isPoint_14 : decode cX9_isPoint 14 = .ok (.iconst 0, 1) := by decide +kernel
theorem dX9_isPoint_15 : decode cX9_isPoint 15 = .ok (.ireturn, 1) := by decide +kernel
set_option maxRecDepth 20000 in
theorem ggX9_isPointOrBar_X9_isPoint : GoodIn wsX9_isPointOrBar wsX9_isPoint := goodIn_r _ [4] (by decide +kernel) (by decide +kernel)
set_option maxRecDepth 20000 in
theorem gX9_isPointOrBar_X9_isPoint : GoodIn wsX9_isPointOrBar (va_wsS RX9 203 yX9_isPoint wsX9_isPoint) := goodIn_app (goodIn_of _ (by decide +kernel)) ggX9_isPointOrBar_X9_isPoint
theorem dX9_isPointOrBar_0 : decode cX9_isPointOrBar 0 = .ok (.iload_n 0, 1) := by decide +kernel
theorem dX9_isPointOrBar_1 : decode cX9_isPointOrBar 1 = .ok (.iconst (-1), 1) := by decide +kernel
theorem dX9_isPointOrBar_2 : decode cX9_isPointOrBar 2 = .ok (.if_icmp .eq 10, 3) := by decide +kernel
theorem dX9_isPointOrBar_5 : decode cX9_isPointOrBar 5 = .ok (.iload_n 0, 1) := by decide +kernel
theorem dX9_isPointOrBar_6 : decode cX9_isPointOrBar 6 = .ok (.invokestatic 203, 3) := by decide +kernel
theorem dX9_isPointOrBar_9 : decode cX9_isPointOrBar 9 = .ok (.ifCond .eq 7, 3) := by decide +kernel
theorem dX9_isPointOrBar_12 : decode cX9_isPointOrBar 12 = .ok (.iconst 1, 1) := by decide +kernel
theorem dX9_isPointOrBar_13 : decode cX9_isPointOrBar 13 = .ok (.goto 4, 3) := by decide +kernel
theorem dX9_isPointOrBar_16 : decode cX9_isPointOrBar 16 = .ok (.iconst 0, 1) := by decide +kernel
theorem dX9_isPointOrBar_17 : decode cX9_isPointOrBar 17 = .ok (.ireturn, 1) := by decide +kernel
set_option maxRecDepth 20000 in
theorem ggX9_isPlace_X9_isPointOrBar : GoodIn wsX9_isPlace wsX9_isPointOrBar := goodIn_r _ [4, 5, 6, 3, 7] (by decide +kernel) (by decide +kernel)
set_option maxRecDepth 20000 in
theorem gX9_isPlace_X9_isPointOrBar : GoodIn wsX9_isPlace (va_wsS RX9 69 yX9_isPointOrBar wsX9_isPointOrBar) := goodIn_app (goodIn_of _ (by decide +kernel)) ggX9_isPlace_X9_isPointOrBar
theorem dX9_isPlace_0 : decode cX9_isPlace 0 = .ok (.iload_n 0, 1) := by decide +kernel
theorem dX9_isPlace_1 : decode cX9_isPlace 1 = .ok (.invokestatic 69, 3) := by decide +kernel
theorem dX9_isPlace_4 : decode cX9_isPlace 4 = .ok (.ifCond .ne 9, 3) := by decide +kernel
theorem dX9_isPlace_7 : decode cX9_isPlace 7 = .ok (.iload_n 0, 1) := by decide +kernel
theorem dX9_isPlace_8 : decode cX9_isPlace 8 = .ok (.bipush 16, 2) := by decide +kernel
theorem dX9_isPlace_10 : decode cX9_isPlace 10 = .ok (.if_icmp .ne 7, 3) := by decide +kernel
theorem dX9_isPlace_13 : decode cX9_isPlace 13 = .ok (.iconst 1, 1) := by decide +kernel
theorem dX9_isPlace_14 : decode cX9_isPlace 14 = .ok (.goto 4, 3) := by decide +kernel
theorem dX9_isPlace_17 : decode cX9_isPlace 17 = .ok (.iconst 0, 1) := by decide +kernel
theorem dX9_isPlace_18 : decode cX9_isPlace 18 = .ok (.ireturn, 1) := by decide +kernel
set_option maxRecDepth 20000 in
theorem ggX9_shotsRollByRoll_X1_ownerOfBlot : GoodIn wsX9_shotsRollByRoll wsX1_ownerOfBlot := goodIn_r _ [6, 7, 8, 9, 5, 10, 11, 12, 13, 14, 15, 16, 17, 18, 19, 20, 21, 22, 23, 65, 66, 67, 68, 69, 70, 71, 72, 73, 74, 75, 76, 77] (by decide +kernel) (by decide +kernel)
set_option maxRecDepth 20000 in
theorem gX9_shotsRollByRoll_X1_ownerOfBlot : GoodIn wsX9_shotsRollByRoll (wsV RX9 291 RX1 yX1_ownerOfBlot wsX1_ownerOfBlot) := goodIn_app (goodIn_of _ (by decide +kernel)) ggX9_shotsRollByRoll_X1_ownerOfBlot
set_option maxRecDepth 20000 in
theorem ggX9_shotsRollByRoll_X1_wayOf : GoodIn wsX9_shotsRollByRoll wsX1_wayOf := goodIn_r _ [19] (by decide +kernel) (by decide +kernel)
set_option maxRecDepth 20000 in
theorem gX9_shotsRollByRoll_X1_wayOf : GoodIn wsX9_shotsRollByRoll (va_wsS RX9 259 yX1_wayOf wsX1_wayOf) := goodIn_app (goodIn_of _ (by decide +kernel)) ggX9_shotsRollByRoll_X1_wayOf
set_option maxRecDepth 20000 in
theorem ggX9_shotsRollByRoll_X1_piecesOf : GoodIn wsX9_shotsRollByRoll wsX1_piecesOf := goodIn_r _ [14, 15, 16, 65, 66, 67, 68, 69, 70, 71, 72, 73, 74, 75, 76, 77] (by decide +kernel) (by decide +kernel)
set_option maxRecDepth 20000 in
theorem gX9_shotsRollByRoll_X1_piecesOf : GoodIn wsX9_shotsRollByRoll (wsV RX9 106 RX1 yX1_piecesOf wsX1_piecesOf) := goodIn_app (goodIn_of _ (by decide +kernel)) ggX9_shotsRollByRoll_X1_piecesOf
set_option maxRecDepth 20000 in
theorem ggX9_shotsRollByRoll_X6_rollByRoll : GoodIn wsX9_shotsRollByRoll wsX6_rollByRoll := goodIn_r _ [29, 30, 31, 32, 33, 34, 35, 28, 36, 37, 38, 39, 40, 21, 22, 23, 41, 42, 43, 44, 45, 46, 47, 48, 49, 50, 51, 52, 53, 54, 55, 56, 57, 58, 59, 60] (by decide +kernel) (by decide +kernel)
set_option maxRecDepth 20000 in
theorem gX9_shotsRollByRoll_X6_rollByRoll : GoodIn wsX9_shotsRollByRoll (va_wsS RX9 294 yX6_rollByRoll wsX6_rollByRoll) := goodIn_app (goodIn_of _ (by decide +kernel)) ggX9_shotsRollByRoll_X6_rollByRoll
theorem dX9_shotsRollByRoll_0 : decode cX9_shotsRollByRoll 0 = .ok (.aload_n 0, 1) := by decide +kernel
theorem dX9_shotsRollByRoll_1 : decode cX9_shotsRollByRoll 1 = .ok (.getfield 10, 3) := by decide +kernel
theorem dX9_shotsRollByRoll_4 : decode cX9_shotsRollByRoll 4 = .ok (.iload_n 1, 1) := by decide +kernel
theorem dX9_shotsRollByRoll_5 : decode cX9_shotsRollByRoll 5 = .ok (.invokevirtual 291, 3) := by decide +kernel
theorem dX9_shotsRollByRoll_8 : decode cX9_shotsRollByRoll 8 = .ok (.istore_n 2, 1) := by decide +kernel
theorem dX9_shotsRollByRoll_9 : decode cX9_shotsRollByRoll 9 = .ok (.iload_n 2, 1) := by decide +kernel
theorem dX9_shotsRollByRoll_10 : decode cX9_shotsRollByRoll 10 = .ok (.ifCond .ge 5, 3) := by decide +kernel
theorem dX9_shotsRollByRoll_13 : decode cX9_shotsRollByRoll 13 = .ok (.iconst 0, 1) := by decide +kernel
theorem dX9_shotsRollByRoll_14 : decode cX9_shotsRollByRoll 14 = .ok (.ireturn, 1) := by decide +kernel
theorem dX9_shotsRollByRoll_15 : decode cX9_shotsRollByRoll 15 = .ok (.iconst 1, 1) := by decide +kernel
theorem dX9_shotsRollByRoll_16 : decode cX9_shotsRollByRoll 16 = .ok (.iload_n 2, 1) := by decide +kernel
theorem dX9_shotsRollByRoll_17 : decode cX9_shotsRollByRoll 17 = .ok (.isub, 1) := by decide +kernel
theorem dX9_shotsRollByRoll_18 : decode cX9_shotsRollByRoll 18 = .ok (.iload_n 1, 1) := by decide +kernel
theorem dX9_shotsRollByRoll_19 : decode cX9_shotsRollByRoll 19 = .ok (.invokestatic 259, 3) := by decide +kernel
theorem dX9_shotsRollByRoll_22 : decode cX9_shotsRollByRoll 22 = .ok (.istore_n 3, 1) := by decide +kernel
theorem dX9_shotsRollByRoll_23 : decode cX9_shotsRollByRoll 23 = .ok (.aload_n 0, 1) := by decide +kernel
theorem dX9_shotsRollByRoll_24 : decode cX9_shotsRollByRoll 24 = .ok (.getfield 10, 3) := by decide +kernel
theorem dX9_shotsRollByRoll_27 : decode cX9_shotsRollByRoll 27 = .ok (.iconst 1, 1) := by decide +kernel
theorem dX9_shotsRollByRoll_28 : decode cX9_shotsRollByRoll 28 = .ok (.iload_n 2, 1) := by decide +kernel
theorem dX9_shotsRollByRoll_29 : decode cX9_shotsRollByRoll 29 = .ok (.isub, 1) := by decide +kernel
theorem dX9_shotsRollByRoll_30 : decode cX9_shotsRollByRoll 30 = .ok (.invokevirtual 106, 3) := by decide +kernel
theorem dX9_shotsRollByRoll_33 : decode cX9_shotsRollByRoll 33 = .ok (.aload_n 0, 1) := by decide +kernel
theorem dX9_shotsRollByRoll_34 : decode cX9_shotsRollByRoll 34 = .ok (.getfield 10, 3) := by decide +kernel
theorem dX9_shotsRollByRoll_37 : decode cX9_shotsRollByRoll 37 = .ok (.iload_n 2, 1) := by decide +kernel
theorem dX9_shotsRollByRoll_38 : decode cX9_shotsRollByRoll 38 = .ok (.invokevirtual 106, 3) := by decide +kernel
theorem dX9_shotsRollByRoll_41 : decode cX9_shotsRollByRoll 41 = .ok (.iload_n 3, 1) := by decide +kernel
theorem dX9_shotsRollByRoll_42 : decode cX9_shotsRollByRoll 42 = .ok (.invokestatic 294, 3) := by decide +kernel
theorem dX9_shotsRollByRoll_45 : decode cX9_shotsRollByRoll 45 = .ok (.ireturn, 1) := by decide +kernel
set_option maxRecDepth 20000 in
theorem ggX9_shotsKindByKind_X1_ownerOfBlot : GoodIn wsX9_shotsKindByKind wsX1_ownerOfBlot := goodIn_r _ [6, 7, 8, 9, 5, 10, 11, 12, 13, 14, 15, 16, 17, 18, 19, 20, 21, 22, 23, 65, 66, 67, 68, 69, 70, 71, 72, 73, 74, 75, 76, 77] (by decide +kernel) (by decide +kernel)
set_option maxRecDepth 20000 in
theorem gX9_shotsKindByKind_X1_ownerOfBlot : GoodIn wsX9_shotsKindByKind (wsV RX9 291 RX1 yX1_ownerOfBlot wsX1_ownerOfBlot) := goodIn_app (goodIn_of _ (by decide +kernel)) ggX9_shotsKindByKind_X1_ownerOfBlot
set_option maxRecDepth 20000 in
theorem ggX9_shotsKindByKind_X1_wayOf : GoodIn wsX9_shotsKindByKind wsX1_wayOf := goodIn_r _ [19] (by decide +kernel) (by decide +kernel)
set_option maxRecDepth 20000 in
theorem gX9_shotsKindByKind_X1_wayOf : GoodIn wsX9_shotsKindByKind (va_wsS RX9 259 yX1_wayOf wsX1_wayOf) := goodIn_app (goodIn_of _ (by decide +kernel)) ggX9_shotsKindByKind_X1_wayOf
set_option maxRecDepth 20000 in
theorem ggX9_shotsKindByKind_X1_piecesOf : GoodIn wsX9_shotsKindByKind wsX1_piecesOf := goodIn_r _ [14, 15, 16, 65, 66, 67, 68, 69, 70, 71, 72, 73, 74, 75, 76, 77] (by decide +kernel) (by decide +kernel)
set_option maxRecDepth 20000 in
theorem gX9_shotsKindByKind_X1_piecesOf : GoodIn wsX9_shotsKindByKind (wsV RX9 106 RX1 yX1_piecesOf wsX1_piecesOf) := goodIn_app (goodIn_of _ (by decide +kernel)) ggX9_shotsKindByKind_X1_piecesOf
set_option maxRecDepth 20000 in
theorem ggX9_shotsKindByKind_X6_kindByKind : GoodIn wsX9_shotsKindByKind wsX6_kindByKind := goodIn_r _ [29, 30, 31, 32, 33, 34, 35, 28, 36, 37, 38, 39, 40, 21, 22, 23, 41, 42, 43, 44, 45, 46, 47, 48, 49, 50, 51, 52, 53, 54, 55, 56, 57, 58, 59, 60] (by decide +kernel) (by decide +kernel)
set_option maxRecDepth 20000 in
theorem gX9_shotsKindByKind_X6_kindByKind : GoodIn wsX9_shotsKindByKind (va_wsS RX9 297 yX6_kindByKind wsX6_kindByKind) := goodIn_app (goodIn_of _ (by decide +kernel)) ggX9_shotsKindByKind_X6_kindByKind
theorem dX9_shotsKindByKind_0 : decode cX9_shotsKindByKind 0 = .ok (.aload_n 0, 1) := by decide +kernel
theorem dX9_shotsKindByKind_1 : decode cX9_shotsKindByKind 1 = .ok (.getfield 10, 3) := by decide +kernel
theorem dX9_shotsKindByKind_4 : decode cX9_shotsKindByKind 4 = .ok (.iload_n 1, 1) := by decide +kernel
theorem dX9_shotsKindByKind_5 : decode cX9_shotsKindByKind 5 = .ok (.invokevirtual 291, 3) := by decide +kernel
theorem dX9_shotsKindByKind_8 : decode cX9_shotsKindByKind 8 = .ok (.istore_n 2, 1) := by decide +kernel
theorem dX9_shotsKindByKind_9 : decode cX9_shotsKindByKind 9 = .ok (.iload_n 2, 1) := by decide +kernel
theorem dX9_shotsKindByKind_10 : decode cX9_shotsKindByKind 10 = .ok (.ifCond .ge 5, 3) := by decide +kernel
theorem dX9_shotsKindByKind_13 : decode cX9_shotsKindByKind 13 = .ok (.iconst 0, 1) := by decide +kernel
theorem dX9_shotsKindByKind_14 : decode cX9_shotsKindByKind 14 = .ok (.ireturn, 1) := by decide +kernel
theorem dX9_shotsKindByKind_15 : decode cX9_shotsKindByKind 15 = .ok (.iconst 1, 1) := by decide +kernel
theorem dX9_shotsKindByKind_16 : decode cX9_shotsKindByKind 16 = .ok (.iload_n 2, 1) := by decide +kernel
theorem dX9_shotsKindByKind_17 : decode cX9_shotsKindByKind 17 = .ok (.isub, 1) := by decide +kernel
theorem dX9_shotsKindByKind_18 : decode cX9_shotsKindByKind 18 = .ok (.iload_n 1, 1) := by decide +kernel
theorem dX9_shotsKindByKind_19 : decode cX9_shotsKindByKind 19 = .ok (.invokestatic 259, 3) := by decide +kernel
theorem dX9_shotsKindByKind_22 : decode cX9_shotsKindByKind 22 = .ok (.istore_n 3, 1) := by decide +kernel
theorem dX9_shotsKindByKind_23 : decode cX9_shotsKindByKind 23 = .ok (.aload_n 0, 1) := by decide +kernel
theorem dX9_shotsKindByKind_24 : decode cX9_shotsKindByKind 24 = .ok (.getfield 10, 3) := by decide +kernel
theorem dX9_shotsKindByKind_27 : decode cX9_shotsKindByKind 27 = .ok (.iconst 1, 1) := by decide +kernel
theorem dX9_shotsKindByKind_28 : decode cX9_shotsKindByKind 28 = .ok (.iload_n 2, 1) := by decide +kernel
theorem dX9_shotsKindByKind_29 : decode cX9_shotsKindByKind 29 = .ok (.isub, 1) := by decide +kernel
theorem dX9_shotsKindByKind_30 : decode cX9_shotsKindByKind 30 = .ok (.invokevirtual 106, 3) := by decide +kernel
theorem dX9_shotsKindByKind_33 : decode cX9_shotsKindByKind 33 = .ok (.aload_n 0, 1) := by decide +kernel
theorem dX9_shotsKindByKind_34 : decode cX9_shotsKindByKind 34 = .ok (.getfield 10, 3) := by decide +kernel
theorem dX9_shotsKindByKind_37 : decode cX9_shotsKindByKind 37 = .ok (.iload_n 2, 1) := by decide +kernel
theorem dX9_shotsKindByKind_38 : decode cX9_shotsKindByKind 38 = .ok (.invokevirtual 106, 3) := by decide +kernel
theorem dX9_shotsKindByKind_41 : decode cX9_shotsKindByKind 41 = .ok (.iload_n 3, 1) := by decide +kernel
theorem dX9_shotsKindByKind_42 : decode cX9_shotsKindByKind 42 = .ok (.invokestatic 297, 3) := by decide +kernel
theorem dX9_shotsKindByKind_45 : decode cX9_shotsKindByKind 45 = .ok (.ireturn, 1) := by decide +kernel
set_option maxRecDepth 20000 in
theorem ggX9_shareOfMover_X1_moversPieces : GoodIn wsX9_shareOfMover wsX1_moversPieces := goodIn_r _ [7, 8, 9, 10, 11, 6, 12, 13, 14, 30, 31, 32, 33, 34, 35, 36, 37, 38, 39, 40, 41, 42] (by decide +kernel) (by decide +kernel)
set_option maxRecDepth 20000 in
theorem gX9_shareOfMover_X1_moversPieces : GoodIn wsX9_shareOfMover (wsV RX9 225 RX1 yX1_moversPieces wsX1_moversPieces) := goodIn_app (goodIn_of _ (by decide +kernel)) ggX9_shareOfMover_X1_moversPieces
set_option maxRecDepth 20000 in
theorem ggX9_shareOfMover_X3_sumOfWays : GoodIn wsX9_shareOfMover wsX3_sumOfWays := goodIn_r _ [18, 19, 20, 17, 21] (by decide +kernel) (by decide +kernel)
set_option maxRecDepth 20000 in
theorem gX9_shareOfMover_X3_sumOfWays : GoodIn wsX9_shareOfMover (va_wsS RX9 110 yX3_sumOfWays wsX3_sumOfWays) := goodIn_app (goodIn_of _ (by decide +kernel)) ggX9_shareOfMover_X3_sumOfWays
set_option maxRecDepth 20000 in
theorem ggX9_shareOfMover_X1_othersPieces : GoodIn wsX9_shareOfMover wsX1_othersPieces := goodIn_r _ [25, 8, 9, 10, 11, 6, 12, 13, 14, 30, 31, 32, 33, 34, 35, 36, 37, 38, 39, 40, 41, 42] (by decide +kernel) (by decide +kernel)
set_option maxRecDepth 20000 in
theorem gX9_shareOfMover_X1_othersPieces : GoodIn wsX9_shareOfMover (wsV RX9 229 RX1 yX1_othersPieces wsX1_othersPieces) := goodIn_app (goodIn_of _ (by decide +kernel)) ggX9_shareOfMover_X1_othersPieces
theorem dX9_shareOfMover_0 : decode cX9_shareOfMover 0 = .ok (.aload_n 0, 1) := by decide +kernel
theorem dX9_shareOfMover_1 : decode cX9_shareOfMover 1 = .ok (.getfield 10, 3) := by decide +kernel
theorem dX9_shareOfMover_4 : decode cX9_shareOfMover 4 = .ok (.invokevirtual 225, 3) := by decide +kernel
theorem dX9_shareOfMover_7 : decode cX9_shareOfMover 7 = .ok (.invokestatic 110, 3) := by decide +kernel
theorem dX9_shareOfMover_10 : decode cX9_shareOfMover 10 = .ok (.istore_n 1, 1) := by decide +kernel
theorem dX9_shareOfMover_11 : decode cX9_shareOfMover 11 = .ok (.aload_n 0, 1) := by decide +kernel
theorem dX9_shareOfMover_12 : decode cX9_shareOfMover 12 = .ok (.getfield 10, 3) := by decide +kernel
theorem dX9_shareOfMover_15 : decode cX9_shareOfMover 15 = .ok (.invokevirtual 229, 3) := by decide +kernel
theorem dX9_shareOfMover_18 : decode cX9_shareOfMover 18 = .ok (.invokestatic 110, 3) := by decide +kernel
theorem dX9_shareOfMover_21 : decode cX9_shareOfMover 21 = .ok (.istore_n 2, 1) := by decide +kernel
theorem dX9_shareOfMover_22 : decode cX9_shareOfMover 22 = .ok (.iload_n 1, 1) := by decide +kernel
theorem dX9_shareOfMover_23 : decode cX9_shareOfMover 23 = .ok (.iload_n 2, 1) := by decide +kernel
theorem dX9_shareOfMover_24 : decode cX9_shareOfMover 24 = .ok (.iadd, 1) := by decide +kernel
theorem dX9_shareOfMover_25 : decode cX9_shareOfMover 25 = .ok (.ifCond .ne 7, 3) := by decide +kernel
theorem dX9_shareOfMover_28 : decode cX9_shareOfMover 28 = .ok (.ldc2_w 300, 3) := by decide +kernel
theorem dX9_shareOfMover_31 : decode cX9_shareOfMover 31 = .ok (.dreturn, 1) := by decide +kernel
theorem dX9_shareOfMover_32 : decode cX9_shareOfMover 32 = .ok (.iload_n 2, 1) := by decide +kernel
theorem dX9_shareOfMover_33 : decode cX9_shareOfMover 33 = .ok (.i2d, 1) := by decide +kernel
theorem dX9_shareOfMover_34 : decode cX9_shareOfMover 34 = .ok (.iload_n 1, 1) := by decide +kernel
theorem dX9_shareOfMover_35 : decode cX9_shareOfMover 35 = .ok (.iload_n 2, 1) := by decide +kernel
theorem dX9_shareOfMover_36 : decode cX9_shareOfMover 36 = .ok (.iadd, 1) := by decide +kernel
theorem dX9_shareOfMover_37 : decode cX9_shareOfMover 37 = .ok (.i2d, 1) := by decide +kernel
theorem dX9_shareOfMover_38 : decode cX9_shareOfMover 38 = .ok (.ddiv, 1) := by decide +kernel
theorem dX9_shareOfMover_39 : decode cX9_shareOfMover 39 = .ok (.dreturn, 1) := by decide +kernel
