theorem dX0_isDie_0 : decode cX0_isDie 0 = .ok (.iload_n 0, 1) := by decide +kernel
theorem dX0_isDie_1 : decode cX0_isDie 1 = .ok (.iconst 1, 1) := by decide +kernel
theorem dX0_isDie_2 : decode cX0_isDie 2 = .ok (.if_icmp .lt 13, 3) := by decide +kernel
theorem dX0_isDie_5 : decode cX0_isDie 5 = .ok (.iload_n 0, 1) := by decide +kernel
theorem dX0_isDie_6 : decode cX0_isDie 6 = .ok (.bipush 6, 2) := by decide +kernel
theorem dX0_isDie_8 : decode cX0_isDie 8 = .ok (.if_icmp .gt 7, 3) := by decide +kernel
theorem dX0_isDie_11 : decode cX0_isDie 11 = .ok (.iconst 1, 1) := by decide +kernel
theorem dX0_isDie_12 : decode cX0_isDie 12 = .ok (.goto 4, 3) := by decide +kernel
theorem dX0_isDie_15 : decode cX0_isDie 15 = .ok (.iconst 0, 1) := by decide +kernel
theorem dX0_isDie_16 : decode cX0_isDie 16 = .ok (.ireturn, 1) := by decide +kernel
theorem dX0_rolled_0 : decode cX0_rolled 0 = .ok (.iload_n 0, 1) := by decide +kernel
theorem dX0_rolled_1 : decode cX0_rolled 1 = .ok (.iload_n 1, 1) := by decide +kernel
theorem dX0_rolled_2 : decode cX0_rolled 2 = .ok (.iconst 3, 1) := by decide +kernel
theorem dX0_rolled_3 : decode cX0_rolled 3 = .ok (.ishl, 1) := by decide +kernel
theorem dX0_rolled_4 : decode cX0_rolled 4 = .ok (.ior, 1) := by decide +kernel
theorem dX0_rolled_5 : decode cX0_rolled 5 = .ok (.istore_n 2, 1) := by decide +kernel
theorem dX0_rolled_6 : decode cX0_rolled 6 = .ok (.iload_n 0, 1) := by decide +kernel
theorem dX0_rolled_7 : decode cX0_rolled 7 = .ok (.iload_n 1, 1) := by decide +kernel
theorem dX0_rolled_8 : decode cX0_rolled 8 = .ok (.if_icmp .ne 12, 3) := by decide +kernel
theorem dX0_rolled_11 : decode cX0_rolled 11 = .ok (.iload_n 2, 1) := by decide +kernel
theorem dX0_rolled_12 : decode cX0_rolled 12 = .ok (.iload_n 2, 1) := by decide +kernel
theorem dX0_rolled_13 : decode cX0_rolled 13 = .ok (.bipush 6, 2) := by decide +kernel
theorem dX0_rolled_15 : decode cX0_rolled 15 = .ok (.ishl, 1) := by decide +kernel
theorem dX0_rolled_16 : decode cX0_rolled 16 = .ok (.ior, 1) := by decide +kernel
theorem dX0_rolled_17 : decode cX0_rolled 17 = .ok (.goto 4, 3) := by decide +kernel
theorem dX0_rolled_20 : decode cX0_rolled 20 = .ok (.iload_n 2, 1) := by decide +kernel
theorem dX0_rolled_21 : decode cX0_rolled 21 = .ok (.ireturn, 1) := by decide +kernel
theorem dX0_at_0 : decode cX0_at 0 = .ok (.iload_n 0, 1) := by decide +kernel
theorem dX0_at_1 : decode cX0_at 1 = .ok (.iconst 3, 1) := by decide +kernel
theorem dX0_at_2 : decode cX0_at 2 = .ok (.iload_n 1, 1) := by decide +kernel
theorem dX0_at_3 : decode cX0_at 3 = .ok (.imul, 1) := by decide +kernel
theorem dX0_at_4 : decode cX0_at 4 = .ok (.iushr, 1) := by decide +kernel
theorem dX0_at_5 : decode cX0_at 5 = .ok (.bipush 7, 2) := by decide +kernel
theorem dX0_at_7 : decode cX0_at 7 = .ok (.iand, 1) := by decide +kernel
theorem dX0_at_8 : decode cX0_at 8 = .ok (.ireturn, 1) := by decide +kernel
set_option maxRecDepth 20000 in
theorem ggX0_count_X0_at : GoodIn wsX0_count wsX0_at := goodIn_r _ [4] (by decide +kernel) (by decide +kernel)
set_option maxRecDepth 20000 in
theorem gX0_count_X0_at : GoodIn wsX0_count (va_wsS RX0 9 yX0_at wsX0_at) := goodIn_app (goodIn_of _ (by decide +kernel)) ggX0_count_X0_at
theorem dX0_count_0 : decode cX0_count 0 = .ok (.iconst 0, 1) := by decide +kernel
theorem dX0_count_1 : decode cX0_count 1 = .ok (.istore_n 1, 1) := by decide +kernel
theorem dX0_count_2 : decode cX0_count 2 = .ok (.iconst 0, 1) := by decide +kernel
theorem dX0_count_3 : decode cX0_count 3 = .ok (.istore_n 2, 1) := by decide +kernel
theorem dX0_count_4 : decode cX0_count 4 = .ok (.iload_n 2, 1) := by decide +kernel
theorem dX0_count_5 : decode cX0_count 5 = .ok (.iconst 4, 1) := by decide +kernel
theorem dX0_count_6 : decode cX0_count 6 = .ok (.if_icmp .ge 25, 3) := by decide +kernel
theorem dX0_count_9 : decode cX0_count 9 = .ok (.iload_n 1, 1) := by decide +kernel
theorem dX0_count_10 : decode cX0_count 10 = .ok (.iload_n 0, 1) := by decide +kernel
theorem dX0_count_11 : decode cX0_count 11 = .ok (.iload_n 2, 1) := by decide +kernel
theorem dX0_count_12 : decode cX0_count 12 = .ok (.invokestatic 9, 3) := by decide +kernel
theorem dX0_count_15 : decode cX0_count 15 = .ok (.ifCond .ne 7, 3) := by decide +kernel
theorem dX0_count_18 : decode cX0_count 18 = .ok (.iconst 0, 1) := by decide +kernel
theorem dX0_count_19 : decode cX0_count 19 = .ok (.goto 4, 3) := by decide +kernel
theorem dX0_count_22 : decode cX0_count 22 = .ok (.iconst 1, 1) := by decide +kernel
theorem dX0_count_23 : decode cX0_count 23 = .ok (.iadd, 1) := by decide +kernel
theorem dX0_count_24 : decode cX0_count 24 = .ok (.istore_n 1, 1) := by decide +kernel
theorem dX0_count_25 : decode cX0_count 25 = .ok (.iinc 2 1, 3) := by decide +kernel
theorem dX0_count_28 : decode cX0_count 28 = .ok (.goto (-24), 3) := by decide +kernel
theorem dX0_count_31 : decode cX0_count 31 = .ok (.iload_n 1, 1) := by decide +kernel
theorem dX0_count_32 : decode cX0_count 32 = .ok (.ireturn, 1) := by decide +kernel
set_option maxRecDepth 20000 in
theorem ggX0_kinds_X0_at : GoodIn wsX0_kinds wsX0_at := goodIn_r _ [4] (by decide +kernel) (by decide +kernel)
set_option maxRecDepth 20000 in
theorem gX0_kinds_X0_at : GoodIn wsX0_kinds (va_wsS RX0 9 yX0_at wsX0_at) := goodIn_app (goodIn_of _ (by decide +kernel)) ggX0_kinds_X0_at
theorem dX0_kinds_0 : decode cX0_kinds 0 = .ok (.iload_n 0, 1) := by decide +kernel
theorem dX0_kinds_1 : decode cX0_kinds 1 = .ok (.ifCond .ne 5, 3) := by decide +kernel
theorem dX0_kinds_4 : decode cX0_kinds 4 = .ok (.iconst 0, 1) := by decide +kernel
theorem dX0_kinds_5 : decode cX0_kinds 5 = .ok (.ireturn, 1) := by decide +kernel
theorem dX0_kinds_6 : decode cX0_kinds 6 = .ok (.iload_n 0, 1) := by decide +kernel
theorem dX0_kinds_7 : decode cX0_kinds 7 = .ok (.iconst 1, 1) := by decide +kernel
theorem dX0_kinds_8 : decode cX0_kinds 8 = .ok (.invokestatic 9, 3) := by decide +kernel
theorem dX0_kinds_11 : decode cX0_kinds 11 = .ok (.ifCond .eq 20, 3) := by decide +kernel
theorem dX0_kinds_14 : decode cX0_kinds 14 = .ok (.iload_n 0, 1) := by decide +kernel
theorem dX0_kinds_15 : decode cX0_kinds 15 = .ok (.iconst 0, 1) := by decide +kernel
theorem dX0_kinds_16 : decode cX0_kinds 16 = .ok (.invokestatic 9, 3) := by decide +kernel
theorem dX0_kinds_19 : decode cX0_kinds 19 = .ok (.iload_n 0, 1) := by decide +kernel
theorem dX0_kinds_20 : decode cX0_kinds 20 = .ok (.iconst 1, 1) := by decide +kernel
theorem dX0_kinds_21 : decode cX0_kinds 21 = .ok (.invokestatic 9, 3) := by decide +kernel
theorem dX0_kinds_24 : decode cX0_kinds 24 = .ok (.if_icmp .eq 7, 3) := by decide +kernel
theorem dX0_kinds_27 : decode cX0_kinds 27 = .ok (.iconst 2, 1) := by decide +kernel
theorem dX0_kinds_28 : decode cX0_kinds 28 = .ok (.goto 4, 3) := by decide +kernel
theorem dX0_kinds_31 : decode cX0_kinds 31 = .ok (.iconst 1, 1) := by decide +kernel
theorem dX0_kinds_32 : decode cX0_kinds 32 = .ok (.ireturn, 1) := by decide +kernel
theorem dX0_has_0 : decode cX0_has 0 = .ok (.iload_n 0, 1) := by decide +kernel
theorem dX0_has_1 : decode cX0_has 1 = .ok (.bipush 7, 2) := by decide +kernel
theorem dX0_has_3 : decode cX0_has 3 = .ok (.iand, 1) := by decide +kernel
theorem dX0_has_4 : decode cX0_has 4 = .ok (.iload_n 1, 1) := by decide +kernel
theorem dX0_has_5 : decode cX0_has 5 = .ok (.if_icmp .eq 13, 3) := by decide +kernel
theorem dX0_has_8 : decode cX0_has 8 = .ok (.iload_n 0, 1) := by decide +kernel
theorem dX0_has_9 : decode cX0_has 9 = .ok (.iconst 3, 1) := by decide +kernel
theorem dX0_has_10 : decode cX0_has 10 = .ok (.iushr, 1) := by decide +kernel
theorem dX0_has_11 : decode cX0_has 11 = .ok (.bipush 7, 2) := by decide +kernel
theorem dX0_has_13 : decode cX0_has 13 = .ok (.iand, 1) := by decide +kernel
theorem dX0_has_14 : decode cX0_has 14 = .ok (.iload_n 1, 1) := by decide +kernel
theorem dX0_has_15 : decode cX0_has 15 = .ok (.if_icmp .ne 7, 3) := by decide +kernel
theorem dX0_has_18 : decode cX0_has 18 = .ok (.iconst 1, 1) := by decide +kernel
theorem dX0_has_19 : decode cX0_has 19 = .ok (.goto 4, 3) := by decide +kernel
theorem dX0_has_22 : decode cX0_has 22 = .ok (.iconst 0, 1) := by decide +kernel
theorem dX0_has_23 : decode cX0_has 23 = .ok (.ireturn, 1) := by decide +kernel
set_option maxRecDepth 20000 in
theorem ggX0_without_X0_at : GoodIn wsX0_without wsX0_at := goodIn_r _ [4] (by decide +kernel) (by decide +kernel)
set_option maxRecDepth 20000 in
theorem gX0_without_X0_at : GoodIn wsX0_without (va_wsS RX0 9 yX0_at wsX0_at) := goodIn_app (goodIn_of _ (by decide +kernel)) ggX0_without_X0_at
theorem dX0_without_0 : decode cX0_without 0 = .ok (.iload_n 0, 1) := by decide +kernel
theorem dX0_without_1 : decode cX0_without 1 = .ok (.iconst 0, 1) := by decide +kernel
theorem dX0_without_2 : decode cX0_without 2 = .ok (.invokestatic 9, 3) := by decide +kernel
theorem dX0_without_5 : decode cX0_without 5 = .ok (.iload_n 1, 1) := by decide +kernel
theorem dX0_without_6 : decode cX0_without 6 = .ok (.if_icmp .ne 7, 3) := by decide +kernel
theorem dX0_without_9 : decode cX0_without 9 = .ok (.iload_n 0, 1) := by decide +kernel
theorem dX0_without_10 : decode cX0_without 10 = .ok (.iconst 3, 1) := by decide +kernel
theorem dX0_without_11 : decode cX0_without 11 = .ok (.iushr, 1) := by decide +kernel
theorem dX0_without_12 : decode cX0_without 12 = .ok (.ireturn, 1) := by decide +kernel
theorem dX0_without_13 : decode cX0_without 13 = .ok (.iload_n 0, 1) := by decide +kernel
theorem dX0_without_14 : decode cX0_without 14 = .ok (.iconst 1, 1) := by decide +kernel
theorem dX0_without_15 : decode cX0_without 15 = .ok (.invokestatic 9, 3) := by decide +kernel
theorem dX0_without_18 : decode cX0_without 18 = .ok (.iload_n 1, 1) := by decide +kernel
theorem dX0_without_19 : decode cX0_without 19 = .ok (.if_icmp .ne 11, 3) := by decide +kernel
theorem dX0_without_22 : decode cX0_without 22 = .ok (.iload_n 0, 1) := by decide +kernel
theorem dX0_without_23 : decode cX0_without 23 = .ok (.iconst 0, 1) := by decide +kernel
theorem dX0_without_24 : decode cX0_without 24 = .ok (.invokestatic 9, 3) := by decide +kernel
theorem dX0_without_27 : decode cX0_without 27 = .ok (.goto 4, 3) := by decide +kernel
theorem dX0_without_30 : decode cX0_without 30 = .ok (.iload_n 0, 1) := by decide +kernel
theorem dX0_without_31 : decode cX0_without 31 = .ok (.ireturn, 1) := by decide +kernel
set_option maxRecDepth 20000 in
theorem ggX0_turned_X0_kinds : GoodIn wsX0_turned wsX0_kinds := goodIn_r _ [4, 5, 6, 3, 7] (by decide +kernel) (by decide +kernel)
set_option maxRecDepth 20000 in
theorem gX0_turned_X0_kinds : GoodIn wsX0_turned (va_wsS RX0 13 yX0_kinds wsX0_kinds) := goodIn_app (goodIn_of _ (by decide +kernel)) ggX0_turned_X0_kinds
set_option maxRecDepth 20000 in
theorem ggX0_turned_X0_at : GoodIn wsX0_turned wsX0_at := goodIn_r _ [7] (by decide +kernel) (by decide +kernel)
set_option maxRecDepth 20000 in
theorem gX0_turned_X0_at : GoodIn wsX0_turned (va_wsS RX0 9 yX0_at wsX0_at) := goodIn_app (goodIn_of _ (by decide +kernel)) ggX0_turned_X0_at
set_option maxRecDepth 20000 in
theorem ggX0_turned_X0_rolled : GoodIn wsX0_turned wsX0_rolled := goodIn_r _ [10] (by decide +kernel) (by decide +kernel)
set_option maxRecDepth 20000 in
theorem gX0_turned_X0_rolled : GoodIn wsX0_turned (va_wsS RX0 17 yX0_rolled wsX0_rolled) := goodIn_app (goodIn_of _ (by decide +kernel)) ggX0_turned_X0_rolled
theorem dX0_turned_0 : decode cX0_turned 0 = .ok (.iload_n 0, 1) := by decide +kernel
theorem dX0_turned_1 : decode cX0_turned 1 = .ok (.invokestatic 13, 3) := by decide +kernel
theorem dX0_turned_4 : decode cX0_turned 4 = .ok (.iconst 2, 1) := by decide +kernel
theorem dX0_turned_5 : decode cX0_turned 5 = .ok (.if_icmp .ne 19, 3) := by decide +kernel
theorem dX0_turned_8 : decode cX0_turned 8 = .ok (.iload_n 0, 1) := by decide +kernel
theorem dX0_turned_9 : decode cX0_turned 9 = .ok (.iconst 1, 1) := by decide +kernel
theorem dX0_turned_10 : decode cX0_turned 10 = .ok (.invokestatic 9, 3) := by decide +kernel
theorem dX0_turned_13 : decode cX0_turned 13 = .ok (.iload_n 0, 1) := by decide +kernel
theorem dX0_turned_14 : decode cX0_turned 14 = .ok (.iconst 0, 1) := by decide +kernel
theorem dX0_turned_15 : decode cX0_turned 15 = .ok (.invokestatic 9, 3) := by decide +kernel
theorem dX0_turned_18 : decode cX0_turned 18 = .ok (.invokestatic 17, 3) := by decide +kernel
theorem dX0_turned_21 : decode cX0_turned 21 = .ok (.goto 4, 3) := by decide +kernel
theorem dX0_turned_24 : decode cX0_turned 24 = .ok (.iload_n 0, 1) := by decide +kernel
theorem dX0_turned_25 : decode cX0_turned 25 = .ok (.ireturn, 1) := by decide +kernel
set_option maxRecDepth 20000 in
theorem ggX0_greater_X0_at : GoodIn wsX0_greater wsX0_at := goodIn_r _ [8] (by decide +kernel) (by decide +kernel)
set_option maxRecDepth 20000 in
theorem gX0_greater_X0_at : GoodIn wsX0_greater (va_wsS RX0 9 yX0_at wsX0_at) := goodIn_app (goodIn_of _ (by decide +kernel)) ggX0_greater_X0_at
theorem dX0_greater_0 : decode cX0_greater 0 = .ok (.iload_n 0, 1) := by decide +kernel
theorem dX0_greater_1 : decode cX0_greater 1 = .ok (.iconst 0, 1) := by decide +kernel
theorem dX0_greater_2 : decode cX0_greater 2 = .ok (.invokestatic 9, 3) := by decide +kernel
theorem dX0_greater_5 : decode cX0_greater 5 = .ok (.iload_n 0, 1) := by decide +kernel
theorem dX0_greater_6 : decode cX0_greater 6 = .ok (.iconst 1, 1) := by decide +kernel
theorem dX0_greater_7 : decode cX0_greater 7 = .ok (.invokestatic 9, 3) := by decide +kernel
theorem dX0_greater_10 : decode cX0_greater 10 = .ok (.invokestatic 20, 3) := by decide +kernel
theorem dX0_greater_13 : decode cX0_greater 13 = .ok (.ireturn, 1) := by decide +kernel
theorem dX1_init_0 : decode cX1_init 0 = .ok (.aload_n 0, 1) := by decide +kernel
theorem dX1_init_1 : decode cX1_init 1 = .ok (.invokespecial 3, 3) := by decide +kernel
theorem dX1_init_4 : decode cX1_init 4 = .ok (.aload_n 0, 1) := by decide +kernel
theorem dX1_init_5 : decode cX1_init 5 = .ok (.iconst 0, 1) := by decide +kernel
theorem dX1_init_6 : decode cX1_init 6 = .ok (.putfield 9, 3) := by decide +kernel
theorem dX1_init_9 : decode cX1_init 9 = .ok (.aload_n 0, 1) := by decide +kernel
theorem dX1_init_10 : decode cX1_init 10 = .ok (.iconst 0, 1) := by decide +kernel
theorem dX1_init_11 : decode cX1_init 11 = .ok (.putfield 15, 3) := by decide +kernel
theorem dX1_init_14 : decode cX1_init 14 = .ok (.aload_n 0, 1) := by decide +kernel
theorem dX1_init_15 : decode cX1_init 15 = .ok (.iconst 0, 1) := by decide +kernel
theorem dX1_init_16 : decode cX1_init 16 = .ok (.putfield 18, 3) := by decide +kernel
theorem dX1_init_19 : decode cX1_init 19 = .ok (.aload_n 0, 1) := by decide +kernel
theorem dX1_init_20 : decode cX1_init 20 = .ok (.iconst 1, 1) := by decide +kernel
theorem dX1_init_21 : decode cX1_init 21 = .ok (.putfield 21, 3) := by decide +kernel
theorem dX1_init_24 : decode cX1_init 24 = .ok (.aload_n 0, 1) := by decide +kernel
theorem dX1_init_25 : decode cX1_init 25 = .ok (.iconst (-1), 1) := by decide +kernel
theorem dX1_init_26 : decode cX1_init 26 = .ok (.putfield 24, 3) := by decide +kernel
theorem dX1_init_29 : decode cX1_init 29 = .ok (.aload_n 0, 1) := by decide +kernel
theorem dX1_init_30 : decode cX1_init 30 = .ok (.ldc2_w 29, 3) := by decide +kernel
theorem dX1_init_33 : decode cX1_init 33 = .ok (.putfield 31, 3) := by decide +kernel
theorem dX1_init_36 : decode cX1_init 36 = .ok (.aload_n 0, 1) := by decide +kernel
theorem dX1_init_37 : decode cX1_init 37 = .ok (.ldc2_w 29, 3) := by decide +kernel
theorem dX1_init_40 : decode cX1_init 40 = .ok (.putfield 35, 3) := by decide +kernel
theorem dX1_init_43 : decode cX1_init 43 = .ok (.aload_n 0, 1) := by decide +kernel
theorem dX1_init_44 : decode cX1_init 44 = .ok (.iconst 0, 1) := by decide +kernel
theorem dX1_init_45 : decode cX1_init 45 = .ok (.putfield 38, 3) := by decide +kernel
theorem dX1_init_48 : decode cX1_init 48 = .ok (.aload_n 0, 1) := by decide +kernel
theorem dX1_init_49 : decode cX1_init 49 = .ok (.iconst 0, 1) := by decide +kernel
theorem dX1_init_50 : decode cX1_init 50 = .ok (.putfield 41, 3) := by decide +kernel
theorem dX1_init_53 : decode cX1_init 53 = .ok (.aload_n 0, 1) := by decide +kernel
theorem dX1_init_54 : decode cX1_init 54 = .ok (.iconst 0, 1) := by decide +kernel
theorem dX1_init_55 : decode cX1_init 55 = .ok (.putfield 44, 3) := by decide +kernel
theorem dX1_init_58 : decode cX1_init 58 = .ok (.aload_n 0, 1) := by decide +kernel
theorem dX1_init_59 : decode cX1_init 59 = .ok (.iconst 0, 1) := by decide +kernel
theorem dX1_init_60 : decode cX1_init 60 = .ok (.putfield 47, 3) := by decide +kernel
theorem dX1_init_63 : decode cX1_init 63 = .ok (.aload_n 0, 1) := by decide +kernel
theorem dX1_init_64 : decode cX1_init 64 = .ok (.iconst 0, 1) := by decide +kernel
theorem dX1_init_65 : decode cX1_init 65 = .ok (.putfield 50, 3) := by decide +kernel
theorem dX1_init_68 : decode cX1_init 68 = .ok (.aload_n 0, 1) := by decide +kernel
theorem dX1_init_69 : decode cX1_init 69 = .ok (.iconst 0, 1) := by decide +kernel
theorem dX1_init_70 : decode cX1_init 70 = .ok (.putfield 54, 3) := by decide +kernel
theorem dX1_init_73 : decode cX1_init 73 = .ok (.return_, 1) := by decide +kernel
theorem dX1_copyFrom_0 : decode cX1_copyFrom 0 = .ok (.aload_n 0, 1) := by decide +kernel
theorem dX1_copyFrom_1 : decode cX1_copyFrom 1 = .ok (.aload_n 1, 1) := by decide +kernel
theorem dX1_copyFrom_2 : decode cX1_copyFrom 2 = .ok (.getfield 9, 3) := by decide +kernel
theorem dX1_copyFrom_5 : decode cX1_copyFrom 5 = .ok (.putfield 9, 3) := by decide +kernel
theorem dX1_copyFrom_8 : decode cX1_copyFrom 8 = .ok (.aload_n 0, 1) := by decide +kernel
theorem dX1_copyFrom_9 : decode cX1_copyFrom 9 = .ok (.aload_n 1, 1) := by decide +kernel
theorem dX1_copyFrom_10 : decode cX1_copyFrom 10 = .ok (.getfield 15, 3) := by decide +kernel
theorem dX1_copyFrom_13 : decode cX1_copyFrom 13 = .ok (.putfield 15, 3) := by decide +kernel
theorem dX1_copyFrom_16 : decode cX1_copyFrom 16 = .ok (.aload_n 0, 1) := by decide +kernel
theorem dX1_copyFrom_17 : decode cX1_copyFrom 17 = .ok (.aload_n 1, 1) := by decide +kernel
theorem dX1_copyFrom_18 : decode cX1_copyFrom 18 = .ok (.getfield 18, 3) := by decide +kernel
theorem dX1_copyFrom_21 : decode cX1_copyFrom 21 = .ok (.putfield 18, 3) := by decide +kernel
theorem dX1_copyFrom_24 : decode cX1_copyFrom 24 = .ok (.aload_n 0, 1) := by decide +kernel
theorem dX1_copyFrom_25 : decode cX1_copyFrom 25 = .ok (.aload_n 1, 1) := by decide +kernel
theorem dX1_copyFrom_26 : decode cX1_copyFrom 26 = .ok (.getfield 21, 3) := by decide +kernel
theorem dX1_copyFrom_29 : decode cX1_copyFrom 29 = .ok (.putfield 21, 3) := by decide +kernel
theorem dX1_copyFrom_32 : decode cX1_copyFrom 32 = .ok (.aload_n 0, 1) := by decide +kernel
theorem dX1_copyFrom_33 : decode cX1_copyFrom 33 = .ok (.aload_n 1, 1) := by decide +kernel
theorem dX1_copyFrom_34 : decode cX1_copyFrom 34 = .ok (.getfield 24, 3) := by decide +kernel
theorem dX1_copyFrom_37 : decode cX1_copyFrom 37 = .ok (.putfield 24, 3) := by decide +kernel
theorem dX1_copyFrom_40 : decode cX1_copyFrom 40 = .ok (.aload_n 0, 1) := by decide +kernel
theorem dX1_copyFrom_41 : decode cX1_copyFrom 41 = .ok (.aload_n 1, 1) := by decide +kernel
theorem dX1_copyFrom_42 : decode cX1_copyFrom 42 = .ok (.getfield 31, 3) := by decide +kernel
theorem dX1_copyFrom_45 : decode cX1_copyFrom 45 = .ok (.putfield 31, 3) := by decide +kernel
theorem dX1_copyFrom_48 : decode cX1_copyFrom 48 = .ok (.aload_n 0, 1) := by decide +kernel
theorem dX1_copyFrom_49 : decode cX1_copyFrom 49 = .ok (.aload_n 1, 1) := by decide +kernel
theorem dX1_copyFrom_50 : decode cX1_copyFrom 50 = .ok (.getfield 35, 3) := by decide +kernel
theorem dX1_copyFrom_53 : decode cX1_copyFrom 53 = .ok (.putfield 35, 3) := by decide +kernel
theorem dX1_copyFrom_56 : decode cX1_copyFrom 56 = .ok (.aload_n 0, 1) := by decide +kernel
theorem dX1_copyFrom_57 : decode cX1_copyFrom 57 = .ok (.aload_n 1, 1) := by decide +kernel
theorem dX1_copyFrom_58 : decode cX1_copyFrom 58 = .ok (.getfield 38, 3) := by decide +kernel
theorem dX1_copyFrom_61 : decode cX1_copyFrom 61 = .ok (.putfield 38, 3) := by decide +kernel
theorem dX1_copyFrom_64 : decode cX1_copyFrom 64 = .ok (.aload_n 0, 1) := by decide +kernel
theorem dX1_copyFrom_65 : decode cX1_copyFrom 65 = .ok (.aload_n 1, 1) := by decide +kernel
theorem dX1_copyFrom_66 : decode cX1_copyFrom 66 = .ok (.getfield 41, 3) := by decide +kernel
theorem dX1_copyFrom_69 : decode cX1_copyFrom 69 = .ok (.putfield 41, 3) := by decide +kernel
theorem dX1_copyFrom_72 : decode cX1_copyFrom 72 = .ok (.aload_n 0, 1) := by decide +kernel
theorem dX1_copyFrom_73 : decode cX1_copyFrom 73 = .ok (.aload_n 1, 1) := by decide +kernel
theorem dX1_copyFrom_74 : decode cX1_copyFrom 74 = .ok (.getfield 44, 3) := by decide +kernel
theorem dX1_copyFrom_77 : decode cX1_copyFrom 77 = .ok (.putfield 44, 3) := by decide +kernel
theorem dX1_copyFrom_80 : decode cX1_copyFrom 80 = .ok (.aload_n 0, 1) := by decide +kernel
theorem dX1_copyFrom_81 : decode cX1_copyFrom 81 = .ok (.aload_n 1, 1) := by decide +kernel
theorem dX1_copyFrom_82 : decode cX1_copyFrom 82 = .ok (.getfield 47, 3) := by decide +kernel
theorem dX1_copyFrom_85 : decode cX1_copyFrom 85 = .ok (.putfield 47, 3) := by decide +kernel
theorem dX1_copyFrom_88 : decode cX1_copyFrom 88 = .ok (.aload_n 0, 1) := by decide +kernel
theorem dX1_copyFrom_89 : decode cX1_copyFrom 89 = .ok (.aload_n 1, 1) := by decide +kernel
theorem dX1_copyFrom_90 : decode cX1_copyFrom 90 = .ok (.getfield 50, 3) := by decide +kernel
theorem dX1_copyFrom_93 : decode cX1_copyFrom 93 = .ok (.putfield 50, 3) := by decide +kernel
theorem dX1_copyFrom_96 : decode cX1_copyFrom 96 = .ok (.aload_n 0, 1) := by decide +kernel
theorem dX1_copyFrom_97 : decode cX1_copyFrom 97 = .ok (.aload_n 1, 1) := by decide +kernel
theorem dX1_copyFrom_98 : decode cX1_copyFrom 98 = .ok (.getfield 54, 3) := by decide +kernel
theorem dX1_copyFrom_101 : decode cX1_copyFrom 101 = .ok (.putfield 54, 3) := by decide +kernel
theorem dX1_copyFrom_104 : decode cX1_copyFrom 104 = .ok (.return_, 1) := by decide +kernel
theorem dX1_wayOf_0 : decode cX1_wayOf 0 = .ok (.iload_n 1, 1) := by decide +kernel
theorem dX1_wayOf_1 : decode cX1_wayOf 1 = .ok (.iconst (-1), 1) := by decide +kernel
theorem dX1_wayOf_2 : decode cX1_wayOf 2 = .ok (.if_icmp .ne 6, 3) := by decide +kernel
theorem dX1_wayOf_5 : decode cX1_wayOf 5 = .ok (.bipush 17, 2) := by decide +kernel
theorem dX1_wayOf_7 : decode cX1_wayOf 7 = .ok (.ireturn, 1) := by decide +kernel
theorem dX1_wayOf_8 : decode cX1_wayOf 8 = .ok (.iload_n 1, 1) := by decide +kernel
theorem dX1_wayOf_9 : decode cX1_wayOf 9 = .ok (.bipush 16, 2) := by decide +kernel
theorem dX1_wayOf_11 : decode cX1_wayOf 11 = .ok (.if_icmp .ne 5, 3) := by decide +kernel
theorem dX1_wayOf_14 : decode cX1_wayOf 14 = .ok (.iconst 0, 1) := by decide +kernel
theorem dX1_wayOf_15 : decode cX1_wayOf 15 = .ok (.ireturn, 1) := by decide +kernel
theorem dX1_wayOf_16 : decode cX1_wayOf 16 = .ok (.iload_n 0, 1) := by decide +kernel
theorem dX1_wayOf_17 : decode cX1_wayOf 17 = .ok (.ifCond .ne 10, 3) := by decide +kernel
theorem dX1_wayOf_20 : decode cX1_wayOf 20 = .ok (.bipush 16, 2) := by decide +kernel
theorem dX1_wayOf_22 : decode cX1_wayOf 22 = .ok (.iload_n 1, 1) := by decide +kernel
theorem dX1_wayOf_23 : decode cX1_wayOf 23 = .ok (.isub, 1) := by decide +kernel
theorem dX1_wayOf_24 : decode cX1_wayOf 24 = .ok (.goto 6, 3) := by decide +kernel
theorem dX1_wayOf_27 : decode cX1_wayOf 27 = .ok (.iload_n 1, 1) := by decide +kernel
theorem dX1_wayOf_28 : decode cX1_wayOf 28 = .ok (.iconst 1, 1) := by decide +kernel
theorem dX1_wayOf_29 : decode cX1_wayOf 29 = .ok (.iadd, 1) := by decide +kernel
theorem dX1_wayOf_30 : decode cX1_wayOf 30 = .ok (.ireturn, 1) := by decide +kernel
theorem dX1_piecesOf_0 : decode cX1_piecesOf 0 = .ok (.iload_n 1, 1) := by decide +kernel
theorem dX1_piecesOf_1 : decode cX1_piecesOf 1 = .ok (.ifCond .ne 10, 3) := by decide +kernel
theorem dX1_piecesOf_4 : decode cX1_piecesOf 4 = .ok (.aload_n 0, 1) := by decide +kernel
theorem dX1_piecesOf_5 : decode cX1_piecesOf 5 = .ok (.getfield 31, 3) := by decide +kernel
theorem dX1_piecesOf_8 : decode cX1_piecesOf 8 = .ok (.goto 7, 3) := by decide +kernel
theorem dX1_piecesOf_11 : decode cX1_piecesOf 11 = .ok (.aload_n 0, 1) := by decide +kernel
theorem dX1_piecesOf_12 : decode cX1_piecesOf 12 = .ok (.getfield 35, 3) := by decide +kernel
theorem dX1_piecesOf_15 : decode cX1_piecesOf 15 = .ok (.lreturn, 1) := by decide +kernel
set_option maxRecDepth 20000 in
theorem ggX1_moversPieces_X1_piecesOf : GoodIn wsX1_moversPieces wsX1_piecesOf := goodIn_r _ [6, 7, 8, 9, 10, 11, 12, 13, 14, 15, 16, 17, 18, 19, 20, 21] (by decide +kernel) (by decide +kernel)
set_option maxRecDepth 20000 in
theorem gX1_moversPieces_X1_piecesOf : GoodIn wsX1_moversPieces (wsV RX1 57 RX1 yX1_piecesOf wsX1_piecesOf) := goodIn_app (goodIn_of _ (by decide +kernel)) ggX1_moversPieces_X1_piecesOf
theorem dX1_moversPieces_0 : decode cX1_moversPieces 0 = .ok (.aload_n 0, 1) := by decide +kernel
theorem dX1_moversPieces_1 : decode cX1_moversPieces 1 = .ok (.aload_n 0, 1) := by decide +kernel
theorem dX1_moversPieces_2 : decode cX1_moversPieces 2 = .ok (.getfield 9, 3) := by decide +kernel
theorem dX1_moversPieces_5 : decode cX1_moversPieces 5 = .ok (.invokevirtual 57, 3) := by decide +kernel
theorem dX1_moversPieces_8 : decode cX1_moversPieces 8 = .ok (.lreturn, 1) := by decide +kernel
set_option maxRecDepth 20000 in
theorem ggX1_othersPieces_X1_piecesOf : GoodIn wsX1_othersPieces wsX1_piecesOf := goodIn_r _ [6, 7, 8, 9, 10, 11, 12, 13, 14, 15, 16, 17, 18, 19, 20, 21] (by decide +kernel) (by decide +kernel)
set_option maxRecDepth 20000 in
theorem gX1_othersPieces_X1_piecesOf : GoodIn wsX1_othersPieces (wsV RX1 57 RX1 yX1_piecesOf wsX1_piecesOf) := goodIn_app (goodIn_of _ (by decide +kernel)) ggX1_othersPieces_X1_piecesOf
theorem dX1_othersPieces_0 : decode cX1_othersPieces 0 = .ok (.aload_n 0, 1) := by decide +kernel
theorem dX1_othersPieces_1 : decode cX1_othersPieces 1 = .ok (.iconst 1, 1) := by decide +kernel
theorem dX1_othersPieces_2 : decode cX1_othersPieces 2 = .ok (.aload_n 0, 1) := by decide +kernel
theorem dX1_othersPieces_3 : decode cX1_othersPieces 3 = .ok (.getfield 9, 3) := by decide +kernel
theorem dX1_othersPieces_6 : decode cX1_othersPieces 6 = .ok (.isub, 1) := by decide +kernel
theorem dX1_othersPieces_7 : decode cX1_othersPieces 7 = .ok (.invokevirtual 57, 3) := by decide +kernel
theorem dX1_othersPieces_10 : decode cX1_othersPieces 10 = .ok (.lreturn, 1) := by decide +kernel
theorem dX1_setPieces_0 : decode cX1_setPieces 0 = .ok (.iload_n 1, 1) := by decide +kernel
theorem dX1_setPieces_1 : decode cX1_setPieces 1 = .ok (.ifCond .ne 11, 3) := by decide +kernel
theorem dX1_setPieces_4 : decode cX1_setPieces 4 = .ok (.aload_n 0, 1) := by decide +kernel
theorem dX1_setPieces_5 : decode cX1_setPieces 5 = .ok (.lload_n 2, 1) := by decide +kernel
theorem dX1_setPieces_6 : decode cX1_setPieces 6 = .ok (.putfield 31, 3) := by decide +kernel
theorem dX1_setPieces_9 : decode cX1_setPieces 9 = .ok (.goto 8, 3) := by decide +kernel
theorem dX1_setPieces_12 : decode cX1_setPieces 12 = .ok (.aload_n 0, 1) := by decide +kernel
theorem dX1_setPieces_13 : decode cX1_setPieces 13 = .ok (.lload_n 2, 1) := by decide +kernel
theorem dX1_setPieces_14 : decode cX1_setPieces 14 = .ok (.putfield 35, 3) := by decide +kernel
theorem dX1_setPieces_17 : decode cX1_setPieces 17 = .ok (.return_, 1) := by decide +kernel
set_option maxRecDepth 20000 in
theorem ggX1_countAt_X1_piecesOf : GoodIn wsX1_countAt wsX1_piecesOf := goodIn_r _ [5, 6, 7, 15, 16, 17, 18, 19, 20, 21, 22, 23, 24, 25, 26, 27] (by decide +kernel) (by decide +kernel)
set_option maxRecDepth 20000 in
theorem gX1_countAt_X1_piecesOf : GoodIn wsX1_countAt (wsV RX1 57 RX1 yX1_piecesOf wsX1_piecesOf) := goodIn_app (goodIn_of _ (by decide +kernel)) ggX1_countAt_X1_piecesOf
set_option maxRecDepth 20000 in
theorem ggX1_countAt_X1_wayOf : GoodIn wsX1_countAt wsX1_wayOf := goodIn_r _ [10] (by decide +kernel) (by decide +kernel)
set_option maxRecDepth 20000 in
theorem gX1_countAt_X1_wayOf : GoodIn wsX1_countAt (va_wsS RX1 61 yX1_wayOf wsX1_wayOf) := goodIn_app (goodIn_of _ (by decide +kernel)) ggX1_countAt_X1_wayOf
set_option maxRecDepth 20000 in
theorem ggX1_countAt_X3_on : GoodIn wsX1_countAt wsX3_on := goodIn_r _ [14] (by decide +kernel) (by decide +kernel)
set_option maxRecDepth 20000 in
theorem gX1_countAt_X3_on : GoodIn wsX1_countAt (va_wsS RX1 65 yX3_on wsX3_on) := goodIn_app (goodIn_of _ (by decide +kernel)) ggX1_countAt_X3_on
theorem dX1_countAt_0 : decode cX1_countAt 0 = .ok (.aload_n 0, 1) := by decide +kernel
theorem dX1_countAt_1 : decode cX1_countAt 1 = .ok (.iload_n 1, 1) := by decide +kernel
theorem dX1_countAt_2 : decode cX1_countAt 2 = .ok (.invokevirtual 57, 3) := by decide +kernel
theorem dX1_countAt_5 : decode cX1_countAt 5 = .ok (.iload_n 1, 1) := by decide +kernel
theorem dX1_countAt_6 : decode cX1_countAt 6 = .ok (.iload_n 2, 1) := by decide +kernel
theorem dX1_countAt_7 : decode cX1_countAt 7 = .ok (.invokestatic 61, 3) := by decide +kernel
theorem dX1_countAt_10 : decode cX1_countAt 10 = .ok (.invokestatic 65, 3) := by decide +kernel
theorem dX1_countAt_13 : decode cX1_countAt 13 = .ok (.ireturn, 1) := by decide +kernel
set_option maxRecDepth 20000 in
theorem ggX1_ownerOfBlot_X1_countAt : GoodIn wsX1_ownerOfBlot wsX1_countAt := goodIn_r _ [5, 6, 7, 8, 4, 9, 10, 11, 12, 13, 14, 15, 16, 17, 18, 19, 20, 21, 22, 23, 24, 25, 26, 27, 28, 29, 30, 31] (by decide +kernel) (by decide +kernel)
set_option maxRecDepth 20000 in
theorem gX1_ownerOfBlot_X1_countAt : GoodIn wsX1_ownerOfBlot (wsV RX1 69 RX1 yX1_countAt wsX1_countAt) := goodIn_app (goodIn_of _ (by decide +kernel)) ggX1_ownerOfBlot_X1_countAt
theorem dX1_ownerOfBlot_0 : decode cX1_ownerOfBlot 0 = .ok (.aload_n 0, 1) := by decide +kernel
theorem dX1_ownerOfBlot_1 : decode cX1_ownerOfBlot 1 = .ok (.iconst 0, 1) := by decide +kernel
theorem dX1_ownerOfBlot_2 : decode cX1_ownerOfBlot 2 = .ok (.iload_n 1, 1) := by decide +kernel
theorem dX1_ownerOfBlot_3 : decode cX1_ownerOfBlot 3 = .ok (.invokevirtual 69, 3) := by decide +kernel
theorem dX1_ownerOfBlot_6 : decode cX1_ownerOfBlot 6 = .ok (.iconst 1, 1) := by decide +kernel
theorem dX1_ownerOfBlot_7 : decode cX1_ownerOfBlot 7 = .ok (.if_icmp .ne 5, 3) := by decide +kernel
theorem dX1_ownerOfBlot_10 : decode cX1_ownerOfBlot 10 = .ok (.iconst 0, 1) := by decide +kernel
theorem dX1_ownerOfBlot_11 : decode cX1_ownerOfBlot 11 = .ok (.ireturn, 1) := by decide +kernel
theorem dX1_ownerOfBlot_12 : decode cX1_ownerOfBlot 12 = .ok (.aload_n 0, 1) := by decide +kernel
theorem dX1_ownerOfBlot_13 : decode cX1_ownerOfBlot 13 = .ok (.iconst 1, 1) := by decide +kernel
theorem dX1_ownerOfBlot_14 : decode cX1_ownerOfBlot 14 = .ok (.iload_n 1, 1) := by decide +kernel
theorem dX1_ownerOfBlot_15 : decode cX1_ownerOfBlot 15 = .ok (.invokevirtual 69, 3) := by decide +kernel
theorem dX1_ownerOfBlot_18 : decode cX1_ownerOfBlot 18 = .ok (.iconst 1, 1) := by decide +kernel
theorem dX1_ownerOfBlot_19 : decode cX1_ownerOfBlot 19 = .ok (.if_icmp .ne 7, 3) := by decide +kernel
theorem dX1_ownerOfBlot_22 : decode cX1_ownerOfBlot 22 = .ok (.iconst 1, 1) := by decide +kernel
theorem dX1_ownerOfBlot_23 : decode cX1_ownerOfBlot 23 = .ok (.goto 4, 3) := by decide +kernel
theorem dX1_ownerOfBlot_26 : decode cX1_ownerOfBlot 26 = .ok (.iconst (-1), 1) := by decide +kernel
theorem dX1_ownerOfBlot_27 : decode cX1_ownerOfBlot 27 = .ok (.ireturn, 1) := by decide +kernel
theorem dX1_scoreOf_0 : decode cX1_scoreOf 0 = .ok (.iload_n 1, 1) := by decide +kernel
theorem dX1_scoreOf_1 : decode cX1_scoreOf 1 = .ok (.ifCond .ne 10, 3) := by decide +kernel
theorem dX1_scoreOf_4 : decode cX1_scoreOf 4 = .ok (.aload_n 0, 1) := by decide +kernel
theorem dX1_scoreOf_5 : decode cX1_scoreOf 5 = .ok (.getfield 38, 3) := by decide +kernel
theorem dX1_scoreOf_8 : decode cX1_scoreOf 8 = .ok (.goto 7, 3) := by decide +kernel
theorem dX1_scoreOf_11 : decode cX1_scoreOf 11 = .ok (.aload_n 0, 1) := by decide +kernel
theorem dX1_scoreOf_12 : decode cX1_scoreOf 12 = .ok (.getfield 41, 3) := by decide +kernel
theorem dX1_scoreOf_15 : decode cX1_scoreOf 15 = .ok (.ireturn, 1) := by decide +kernel
theorem dX1_hitsOf_0 : decode cX1_hitsOf 0 = .ok (.iload_n 1, 1) := by decide +kernel
theorem dX1_hitsOf_1 : decode cX1_hitsOf 1 = .ok (.ifCond .ne 10, 3) := by decide +kernel
theorem dX1_hitsOf_4 : decode cX1_hitsOf 4 = .ok (.aload_n 0, 1) := by decide +kernel
theorem dX1_hitsOf_5 : decode cX1_hitsOf 5 = .ok (.getfield 44, 3) := by decide +kernel
theorem dX1_hitsOf_8 : decode cX1_hitsOf 8 = .ok (.goto 7, 3) := by decide +kernel
theorem dX1_hitsOf_11 : decode cX1_hitsOf 11 = .ok (.aload_n 0, 1) := by decide +kernel
theorem dX1_hitsOf_12 : decode cX1_hitsOf 12 = .ok (.getfield 47, 3) := by decide +kernel
theorem dX1_hitsOf_15 : decode cX1_hitsOf 15 = .ok (.ireturn, 1) := by decide +kernel
theorem dX1_awaitsRoll_0 : decode cX1_awaitsRoll 0 = .ok (.aload_n 0, 1) := by decide +kernel
theorem dX1_awaitsRoll_1 : decode cX1_awaitsRoll 1 = .ok (.getfield 15, 3) := by decide +kernel
theorem dX1_awaitsRoll_4 : decode cX1_awaitsRoll 4 = .ok (.ifCond .ne 7, 3) := by decide +kernel
theorem dX1_awaitsRoll_7 : decode cX1_awaitsRoll 7 = .ok (.iconst 1, 1) := by decide +kernel
theorem dX1_awaitsRoll_8 : decode cX1_awaitsRoll 8 = .ok (.goto 4, 3) := by decide +kernel
theorem dX1_awaitsRoll_11 : decode cX1_awaitsRoll 11 = .ok (.iconst 0, 1) := by decide +kernel
theorem dX1_awaitsRoll_12 : decode cX1_awaitsRoll 12 = .ok (.ireturn, 1) := by decide +kernel
set_option maxRecDepth 20000 in
theorem ggX1_doRoll_X0_rolled : GoodIn wsX1_doRoll wsX0_rolled := goodIn_r _ [6] (by decide +kernel) (by decide +kernel)
set_option maxRecDepth 20000 in
theorem gX1_doRoll_X0_rolled : GoodIn wsX1_doRoll (va_wsS RX1 72 yX0_rolled wsX0_rolled) := goodIn_app (goodIn_of _ (by decide +kernel)) ggX1_doRoll_X0_rolled
theorem dX1_doRoll_0 : decode cX1_doRoll 0 = .ok (.aload_n 0, 1) := by decide +kernel
theorem dX1_doRoll_1 : decode cX1_doRoll 1 = .ok (.iload_n 1, 1) := by decide +kernel
theorem dX1_doRoll_2 : decode cX1_doRoll 2 = .ok (.iload_n 2, 1) := by decide +kernel
theorem dX1_doRoll_3 : decode cX1_doRoll 3 = .ok (.invokestatic 72, 3) := by decide +kernel
theorem dX1_doRoll_6 : decode cX1_doRoll 6 = .ok (.putfield 18, 3) := by decide +kernel
theorem dX1_doRoll_9 : decode cX1_doRoll 9 = .ok (.aload_n 0, 1) := by decide +kernel
theorem dX1_doRoll_10 : decode cX1_doRoll 10 = .ok (.iconst 1, 1) := by decide +kernel
theorem dX1_doRoll_11 : decode cX1_doRoll 11 = .ok (.putfield 15, 3) := by decide +kernel
theorem dX1_doRoll_14 : decode cX1_doRoll 14 = .ok (.return_, 1) := by decide +kernel
set_option maxRecDepth 20000 in
theorem ggX1_reachNow_X1_moversPieces : GoodIn wsX1_reachNow wsX1_moversPieces := goodIn_r _ [6, 7, 8, 9, 10, 5, 11, 12, 13, 65, 66, 67, 68, 69, 70, 71, 72, 73, 74, 75, 76, 77] (by decide +kernel) (by decide +kernel)
set_option maxRecDepth 20000 in
theorem gX1_reachNow_X1_moversPieces : GoodIn wsX1_reachNow (wsV RX1 77 RX1 yX1_moversPieces wsX1_moversPieces) := goodIn_app (goodIn_of _ (by decide +kernel)) ggX1_reachNow_X1_moversPieces
set_option maxRecDepth 20000 in
theorem ggX1_reachNow_X1_othersPieces : GoodIn wsX1_reachNow wsX1_othersPieces := goodIn_r _ [17, 7, 8, 9, 10, 5, 11, 12, 13, 65, 66, 67, 68, 69, 70, 71, 72, 73, 74, 75, 76, 77] (by decide +kernel) (by decide +kernel)
set_option maxRecDepth 20000 in
theorem gX1_reachNow_X1_othersPieces : GoodIn wsX1_reachNow (wsV RX1 81 RX1 yX1_othersPieces wsX1_othersPieces) := goodIn_app (goodIn_of _ (by decide +kernel)) ggX1_reachNow_X1_othersPieces
set_option maxRecDepth 20000 in
theorem ggX1_reachNow_X7_reachOf : GoodIn wsX1_reachNow wsX7_reachOf := goodIn_r _ [20, 21, 22, 23, 24, 25, 26, 27, 28, 29, 30, 31, 32, 33, 34, 35, 36, 37, 19, 38, 39, 40, 41, 42, 43, 44, 45, 46, 47, 48, 49, 50, 51, 52, 53, 54, 55, 56, 57, 58, 59, 60, 61, 62, 63, 64, 18] (by decide +kernel) (by decide +kernel)
set_option maxRecDepth 20000 in
theorem gX1_reachNow_X7_reachOf_n84 : GoodIn wsX1_reachNow (wsX7_reachOf) := ggX1_reachNow_X7_reachOf
theorem dX1_reachNow_0 : decode cX1_reachNow 0 = .ok (.aload_n 0, 1) := by decide +kernel
theorem dX1_reachNow_1 : decode cX1_reachNow 1 = .ok (.invokevirtual 77, 3) := by decide +kernel
theorem dX1_reachNow_4 : decode cX1_reachNow 4 = .ok (.aload_n 0, 1) := by decide +kernel
theorem dX1_reachNow_5 : decode cX1_reachNow 5 = .ok (.invokevirtual 81, 3) := by decide +kernel
theorem dX1_reachNow_8 : decode cX1_reachNow 8 = .ok (.aload_n 0, 1) := by decide +kernel
theorem dX1_reachNow_9 : decode cX1_reachNow 9 = .ok (.getfield 18, 3) := by decide +kernel
theorem dX1_reachNow_12 : decode cX1_reachNow 12 = .ok (.iconst 4, 1) := by decide +kernel
theorem dX1_reachNow_13 : decode cX1_reachNow 13 = .ok (.invokestatic 84, 3) := by decide +kernel
theorem dX1_reachNow_16 : decode cX1_reachNow 16 = .ok (.ireturn, 1) := by decide +kernel
set_option maxRecDepth 20000 in
theorem ggX1_reasonAgainst_X1_moversPieces : GoodIn wsX1_reasonAgainst wsX1_moversPieces := goodIn_r _ [7, 2, 8, 9, 10, 6, 11, 12, 13, 82, 83, 84, 85, 86, 87, 88, 89, 90, 91, 92, 93, 94] (by decide +kernel) (by decide +kernel)
set_option maxRecDepth 20000 in
theorem gX1_reasonAgainst_X1_moversPieces : GoodIn wsX1_reasonAgainst (wsV RX1 77 RX1 yX1_moversPieces wsX1_moversPieces) := goodIn_app (goodIn_of _ (by decide +kernel)) ggX1_reasonAgainst_X1_moversPieces
set_option maxRecDepth 20000 in
theorem ggX1_reasonAgainst_X1_othersPieces : GoodIn wsX1_reasonAgainst wsX1_othersPieces := goodIn_r _ [17, 2, 8, 9, 10, 6, 11, 12, 13, 82, 83, 84, 85, 86, 87, 88, 89, 90, 91, 92, 93, 94] (by decide +kernel) (by decide +kernel)
set_option maxRecDepth 20000 in
theorem gX1_reasonAgainst_X1_othersPieces : GoodIn wsX1_reasonAgainst (wsV RX1 81 RX1 yX1_othersPieces wsX1_othersPieces) := goodIn_app (goodIn_of _ (by decide +kernel)) ggX1_reasonAgainst_X1_othersPieces
set_option maxRecDepth 20000 in
theorem ggX1_reasonAgainst_X1_wayOf : GoodIn wsX1_reasonAgainst wsX1_wayOf := goodIn_r _ [20] (by decide +kernel) (by decide +kernel)
set_option maxRecDepth 20000 in
theorem gX1_reasonAgainst_X1_wayOf : GoodIn wsX1_reasonAgainst (va_wsS RX1 61 yX1_wayOf wsX1_wayOf) := goodIn_app (goodIn_of _ (by decide +kernel)) ggX1_reasonAgainst_X1_wayOf
set_option maxRecDepth 20000 in
theorem ggX1_reasonAgainst_X1_reachNow : GoodIn wsX1_reasonAgainst wsX1_reachNow := goodIn_r _ [24, 1, 3, 4, 5, 6, 7, 2, 8, 9, 10, 11, 12, 13, 14, 15, 16, 17, 25, 26, 27, 28, 29, 30, 31, 32, 33, 34, 35, 36, 37, 38, 39, 40, 41, 42, 43, 44, 45, 46, 47, 48, 49, 50, 51, 52, 53, 54, 55, 56, 57, 58, 59, 60, 61, 62, 63, 64, 65, 66, 67, 68, 69, 70, 71, 82, 83, 84, 85, 86, 87, 88, 89, 90, 91, 92, 93, 94] (by decide +kernel) (by decide +kernel)
set_option maxRecDepth 20000 in
theorem gX1_reasonAgainst_X1_reachNow : GoodIn wsX1_reasonAgainst (wsV RX1 90 RX1 yX1_reachNow wsX1_reachNow) := goodIn_app (goodIn_of _ (by decide +kernel)) ggX1_reasonAgainst_X1_reachNow
set_option maxRecDepth 20000 in
theorem ggX1_reasonAgainst_X7_reason : GoodIn wsX1_reasonAgainst wsX7_reason := goodIn_r _ [74, 43, 44, 26, 45, 46, 47, 34, 48, 49, 50, 51, 52, 53, 54, 55, 56, 57, 58, 59, 60, 61, 28, 29, 30, 31, 62, 63, 64, 65, 66, 67, 68, 69, 70, 36, 37, 38, 71, 25, 27, 32, 33, 35, 39, 40, 41, 42, 75, 76, 77, 78, 79, 80, 81] (by decide +kernel) (by decide +kernel)
set_option maxRecDepth 20000 in
theorem gX1_reasonAgainst_X7_reason : GoodIn wsX1_reasonAgainst (va_wsS RX1 94 yX7_reason wsX7_reason) := goodIn_app (goodIn_of _ (by decide +kernel)) ggX1_reasonAgainst_X7_reason
theorem dX1_reasonAgainst_0 : decode cX1_reasonAgainst 0 = .ok (.aload_n 0, 1) := by decide +kernel
theorem dX1_reasonAgainst_1 : decode cX1_reasonAgainst 1 = .ok (.invokevirtual 77, 3) := by decide +kernel
theorem dX1_reasonAgainst_4 : decode cX1_reasonAgainst 4 = .ok (.aload_n 0, 1) := by decide +kernel
theorem dX1_reasonAgainst_5 : decode cX1_reasonAgainst 5 = .ok (.invokevirtual 81, 3) := by decide +kernel
theorem dX1_reasonAgainst_8 : decode cX1_reasonAgainst 8 = .ok (.aload_n 0, 1) := by decide +kernel
theorem dX1_reasonAgainst_9 : decode cX1_reasonAgainst 9 = .ok (.getfield 18, 3) := by decide +kernel
theorem dX1_reasonAgainst_12 : decode cX1_reasonAgainst 12 = .ok (.aload_n 0, 1) := by decide +kernel
theorem dX1_reasonAgainst_13 : decode cX1_reasonAgainst 13 = .ok (.getfield 9, 3) := by decide +kernel
theorem dX1_reasonAgainst_16 : decode cX1_reasonAgainst 16 = .ok (.iload_n 1, 1) := by decide +kernel
theorem dX1_reasonAgainst_17 : decode cX1_reasonAgainst 17 = .ok (.invokestatic 61, 3) := by decide +kernel
theorem dX1_reasonAgainst_20 : decode cX1_reasonAgainst 20 = .ok (.iload_n 2, 1) := by decide +kernel
theorem dX1_reasonAgainst_21 : decode cX1_reasonAgainst 21 = .ok (.aload_n 0, 1) := by decide +kernel
theorem dX1_reasonAgainst_22 : decode cX1_reasonAgainst 22 = .ok (.invokevirtual 90, 3) := by decide +kernel
theorem dX1_reasonAgainst_25 : decode cX1_reasonAgainst 25 = .ok (.invokestatic 94, 3) := by decide +kernel
theorem dX1_reasonAgainst_28 : decode cX1_reasonAgainst 28 = .ok (.ireturn, 1) := by decide +kernel
set_option maxRecDepth 20000 in
theorem ggX1_doStep_X1_wayOf : GoodIn wsX1_doStep wsX1_wayOf := goodIn_r _ [7] (by decide +kernel) (by decide +kernel)
set_option maxRecDepth 20000 in
theorem gX1_doStep_X1_wayOf : GoodIn wsX1_doStep (va_wsS RX1 61 yX1_wayOf wsX1_wayOf) := goodIn_app (goodIn_of _ (by decide +kernel)) ggX1_doStep_X1_wayOf
set_option maxRecDepth 20000 in
theorem ggX1_doStep_X1_othersPieces : GoodIn wsX1_doStep wsX1_othersPieces := goodIn_r _ [11, 1, 12, 13, 14, 6, 15, 16, 17, 73, 74, 75, 76, 77, 78, 79, 80, 81, 82, 83, 84, 85] (by decide +kernel) (by decide +kernel)
set_option maxRecDepth 20000 in
theorem gX1_doStep_X1_othersPieces : GoodIn wsX1_doStep (wsV RX1 81 RX1 yX1_othersPieces wsX1_othersPieces) := goodIn_app (goodIn_of _ (by decide +kernel)) ggX1_doStep_X1_othersPieces
set_option maxRecDepth 20000 in
theorem ggX1_doStep_X7_theirsBehind : GoodIn wsX1_doStep wsX7_theirsBehind := goodIn_r _ [21, 22, 23, 24, 25, 26, 27, 28] (by decide +kernel) (by decide +kernel)
set_option maxRecDepth 20000 in
theorem gX1_doStep_X7_theirsBehind : GoodIn wsX1_doStep (va_wsS RX1 98 yX7_theirsBehind wsX7_theirsBehind) := goodIn_app (goodIn_of _ (by decide +kernel)) ggX1_doStep_X7_theirsBehind
set_option maxRecDepth 20000 in
theorem ggX1_doStep_X1_setPieces : GoodIn wsX1_doStep wsX1_setPieces := goodIn_r _ [32, 16, 17, 73, 74, 75, 76, 77, 78, 79, 80, 81, 82, 83, 84, 85] (by decide +kernel) (by decide +kernel)
set_option maxRecDepth 20000 in
theorem gX1_doStep_X1_setPieces : GoodIn wsX1_doStep (wsV RX1 102 RX1 yX1_setPieces wsX1_setPieces) := goodIn_app (goodIn_of _ (by decide +kernel)) ggX1_doStep_X1_setPieces
set_option maxRecDepth 20000 in
theorem ggX1_doStep_X1_moversPieces : GoodIn wsX1_doStep wsX1_moversPieces := goodIn_r _ [36, 1, 12, 13, 14, 6, 15, 16, 17, 73, 74, 75, 76, 77, 78, 79, 80, 81, 82, 83, 84, 85] (by decide +kernel) (by decide +kernel)
set_option maxRecDepth 20000 in
theorem gX1_doStep_X1_moversPieces : GoodIn wsX1_doStep (wsV RX1 77 RX1 yX1_moversPieces wsX1_moversPieces) := goodIn_app (goodIn_of _ (by decide +kernel)) ggX1_doStep_X1_moversPieces
set_option maxRecDepth 20000 in
theorem ggX1_doStep_X7_mineBehind : GoodIn wsX1_doStep wsX7_mineBehind := goodIn_r _ [39, 40, 41, 42, 43, 26, 27, 24, 28] (by decide +kernel) (by decide +kernel)
set_option maxRecDepth 20000 in
theorem gX1_doStep_X7_mineBehind : GoodIn wsX1_doStep (va_wsS RX1 106 yX7_mineBehind wsX7_mineBehind) := goodIn_app (goodIn_of _ (by decide +kernel)) ggX1_doStep_X7_mineBehind
set_option maxRecDepth 20000 in
theorem ggX1_doStep_X0_without : GoodIn wsX1_doStep wsX0_without := goodIn_r _ [47, 48, 49, 46, 50] (by decide +kernel) (by decide +kernel)
set_option maxRecDepth 20000 in
theorem gX1_doStep_X0_without : GoodIn wsX1_doStep (va_wsS RX1 109 yX0_without wsX0_without) := goodIn_app (goodIn_of _ (by decide +kernel)) ggX1_doStep_X0_without
set_option maxRecDepth 20000 in
theorem ggX1_doStep_X1_countHit : GoodIn wsX1_doStep wsX1_countHit := goodIn_r _ [54, 55, 56, 73, 74, 75, 76, 77, 78, 79, 80, 81, 82, 83, 84, 85] (by decide +kernel) (by decide +kernel)
set_option maxRecDepth 20000 in
theorem gX1_doStep_X1_countHit : GoodIn wsX1_doStep (wsV RX1 112 RX1 yX1_countHit wsX1_countHit) := goodIn_app (goodIn_of _ (by decide +kernel)) ggX1_doStep_X1_countHit
set_option maxRecDepth 20000 in
theorem ggX1_doStep_X3_allOff : GoodIn wsX1_doStep wsX3_allOff := goodIn_r _ [59, 60, 61, 24, 62] (by decide +kernel) (by decide +kernel)
set_option maxRecDepth 20000 in
theorem gX1_doStep_X3_allOff : GoodIn wsX1_doStep (va_wsS RX1 116 yX3_allOff wsX3_allOff) := goodIn_app (goodIn_of _ (by decide +kernel)) ggX1_doStep_X3_allOff
set_option maxRecDepth 20000 in
theorem ggX1_doStep_X3_on : GoodIn wsX1_doStep wsX3_on := goodIn_r _ [65] (by decide +kernel) (by decide +kernel)
set_option maxRecDepth 20000 in
theorem gX1_doStep_X3_on : GoodIn wsX1_doStep (va_wsS RX1 65 yX3_on wsX3_on) := goodIn_app (goodIn_of _ (by decide +kernel)) ggX1_doStep_X3_on
set_option maxRecDepth 20000 in
theorem ggX1_doStep_X1_winBy : GoodIn wsX1_doStep wsX1_winBy := goodIn_r _ [69, 1, 70, 71, 2, 72, 73, 74, 75, 76, 77, 78, 79, 80, 81, 82, 83, 84, 85] (by decide +kernel) (by decide +kernel)
set_option maxRecDepth 20000 in
theorem gX1_doStep_X1_winBy : GoodIn wsX1_doStep (wsV RX1 120 RX1 yX1_winBy wsX1_winBy) := goodIn_app (goodIn_of _ (by decide +kernel)) ggX1_doStep_X1_winBy
theorem dX1_doStep_0 : decode cX1_doStep 0 = .ok (.aload_n 0, 1) := by decide +kernel
theorem dX1_doStep_1 : decode cX1_doStep 1 = .ok (.getfield 9, 3) := by decide +kernel
theorem dX1_doStep_4 : decode cX1_doStep 4 = .ok (.iload_n 1, 1) := by decide +kernel
theorem dX1_doStep_5 : decode cX1_doStep 5 = .ok (.invokestatic 61, 3) := by decide +kernel
theorem dX1_doStep_8 : decode cX1_doStep 8 = .ok (.istore_n 3, 1) := by decide +kernel
theorem dX1_doStep_9 : decode cX1_doStep 9 = .ok (.aload_n 0, 1) := by decide +kernel
theorem dX1_doStep_10 : decode cX1_doStep 10 = .ok (.invokevirtual 81, 3) := by decide +kernel
theorem dX1_doStep_13 : decode cX1_doStep 13 = .ok (.iload_n 3, 1) := by decide +kernel
theorem dX1_doStep_14 : decode cX1_doStep 14 = .ok (.iload_n 2, 1) := by decide +kernel
theorem dX1_doStep_15 : decode cX1_doStep 15 = .ok (.invokestatic 98, 3) := by decide +kernel
theorem dX1_doStep_18 : decode cX1_doStep 18 = .ok (.lstore 4, 2) := by decide +kernel
theorem dX1_doStep_20 : decode cX1_doStep 20 = .ok (.lload 4, 2) := by decide +kernel
theorem dX1_doStep_22 : decode cX1_doStep 22 = .ok (.aload_n 0, 1) := by decide +kernel
theorem dX1_doStep_23 : decode cX1_doStep 23 = .ok (.invokevirtual 81, 3) := by decide +kernel
theorem dX1_doStep_26 : decode cX1_doStep 26 = .ok (.lcmp, 1) := by decide +kernel
theorem dX1_doStep_27 : decode cX1_doStep 27 = .ok (.ifCond .eq 7, 3) := by decide +kernel
theorem dX1_doStep_30 : decode cX1_doStep 30 = .ok (.iconst 1, 1) := by decide +kernel
theorem dX1_doStep_31 : decode cX1_doStep 31 = .ok (.goto 4, 3) := by decide +kernel
theorem dX1_doStep_34 : decode cX1_doStep 34 = .ok (.iconst 0, 1) := by decide +kernel
theorem dX1_doStep_35 : decode cX1_doStep 35 = .ok (.istore 6, 2) := by decide +kernel
theorem dX1_doStep_37 : decode cX1_doStep 37 = .ok (.aload_n 0, 1) := by decide +kernel
theorem dX1_doStep_38 : decode cX1_doStep 38 = .ok (.iconst 1, 1) := by decide +kernel
theorem dX1_doStep_39 : decode cX1_doStep 39 = .ok (.aload_n 0, 1) := by decide +kernel
theorem dX1_doStep_40 : decode cX1_doStep 40 = .ok (.getfield 9, 3) := by decide +kernel
theorem dX1_doStep_43 : decode cX1_doStep 43 = .ok (.isub, 1) := by decide +kernel
theorem dX1_doStep_44 : decode cX1_doStep 44 = .ok (.lload 4, 2) := by decide +kernel
theorem dX1_doStep_46 : decode cX1_doStep 46 = .ok (.invokevirtual 102, 3) := by decide +kernel
theorem dX1_doStep_49 : decode cX1_doStep 49 = .ok (.aload_n 0, 1) := by decide +kernel
theorem dX1_doStep_50 : decode cX1_doStep 50 = .ok (.aload_n 0, 1) := by decide +kernel
theorem dX1_doStep_51 : decode cX1_doStep 51 = .ok (.getfield 9, 3) := by decide +kernel
theorem dX1_doStep_54 : decode cX1_doStep 54 = .ok (.aload_n 0, 1) := by decide +kernel
theorem dX1_doStep_55 : decode cX1_doStep 55 = .ok (.invokevirtual 77, 3) := by decide +kernel
theorem dX1_doStep_58 : decode cX1_doStep 58 = .ok (.iload_n 3, 1) := by decide +kernel
theorem dX1_doStep_59 : decode cX1_doStep 59 = .ok (.iload_n 2, 1) := by decide +kernel
theorem dX1_doStep_60 : decode cX1_doStep 60 = .ok (.invokestatic 106, 3) := by decide +kernel
theorem dX1_doStep_63 : decode cX1_doStep 63 = .ok (.invokevirtual 102, 3) := by decide +kernel
theorem dX1_doStep_66 : decode cX1_doStep 66 = .ok (.aload_n 0, 1) := by decide +kernel
theorem dX1_doStep_67 : decode cX1_doStep 67 = .ok (.aload_n 0, 1) := by decide +kernel
theorem dX1_doStep_68 : decode cX1_doStep 68 = .ok (.getfield 18, 3) := by decide +kernel
theorem dX1_doStep_71 : decode cX1_doStep 71 = .ok (.iload_n 2, 1) := by decide +kernel
theorem dX1_doStep_72 : decode cX1_doStep 72 = .ok (.invokestatic 109, 3) := by decide +kernel
theorem dX1_doStep_75 : decode cX1_doStep 75 = .ok (.putfield 18, 3) := by decide +kernel
theorem dX1_doStep_78 : decode cX1_doStep 78 = .ok (.iload 6, 2) := by decide +kernel
theorem dX1_doStep_80 : decode cX1_doStep 80 = .ok (.ifCond .eq 13, 3) := by decide +kernel
theorem dX1_doStep_83 : decode cX1_doStep 83 = .ok (.aload_n 0, 1) := by decide +kernel
theorem dX1_doStep_84 : decode cX1_doStep 84 = .ok (.iconst 1, 1) := by decide +kernel
theorem dX1_doStep_85 : decode cX1_doStep 85 = .ok (.aload_n 0, 1) := by decide +kernel
theorem dX1_doStep_86 : decode cX1_doStep 86 = .ok (.getfield 9, 3) := by decide +kernel
theorem dX1_doStep_89 : decode cX1_doStep 89 = .ok (.isub, 1) := by decide +kernel
theorem dX1_doStep_90 : decode cX1_doStep 90 = .ok (.invokevirtual 112, 3) := by decide +kernel
theorem dX1_doStep_93 : decode cX1_doStep 93 = .ok (.aload_n 0, 1) := by decide +kernel
theorem dX1_doStep_94 : decode cX1_doStep 94 = .ok (.invokevirtual 77, 3) := by decide +kernel
theorem dX1_doStep_97 : decode cX1_doStep 97 = .ok (.invokestatic 116, 3) := by decide +kernel
theorem dX1_doStep_100 : decode cX1_doStep 100 = .ok (.ifCond .eq 43, 3) := by decide +kernel
theorem dX1_doStep_103 : decode cX1_doStep 103 = .ok (.aload_n 0, 1) := by decide +kernel
theorem dX1_doStep_104 : decode cX1_doStep 104 = .ok (.invokevirtual 81, 3) := by decide +kernel
theorem dX1_doStep_107 : decode cX1_doStep 107 = .ok (.iconst 0, 1) := by decide +kernel
theorem dX1_doStep_108 : decode cX1_doStep 108 = .ok (.invokestatic 65, 3) := by decide +kernel
theorem dX1_doStep_111 : decode cX1_doStep 111 = .ok (.ifCond .ne 7, 3) := by decide +kernel
theorem dX1_doStep_114 : decode cX1_doStep 114 = .ok (.iconst 1, 1) := by decide +kernel
theorem dX1_doStep_115 : decode cX1_doStep 115 = .ok (.goto 4, 3) := by decide +kernel
theorem dX1_doStep_118 : decode cX1_doStep 118 = .ok (.iconst 0, 1) := by decide +kernel
theorem dX1_doStep_119 : decode cX1_doStep 119 = .ok (.istore 7, 2) := by decide +kernel
theorem dX1_doStep_121 : decode cX1_doStep 121 = .ok (.aload_n 0, 1) := by decide +kernel
theorem dX1_doStep_122 : decode cX1_doStep 122 = .ok (.iload 7, 2) := by decide +kernel
theorem dX1_doStep_124 : decode cX1_doStep 124 = .ok (.ifCond .eq 12, 3) := by decide +kernel
theorem dX1_doStep_127 : decode cX1_doStep 127 = .ok (.iconst 2, 1) := by decide +kernel
theorem dX1_doStep_128 : decode cX1_doStep 128 = .ok (.aload_n 0, 1) := by decide +kernel
theorem dX1_doStep_129 : decode cX1_doStep 129 = .ok (.getfield 21, 3) := by decide +kernel
theorem dX1_doStep_132 : decode cX1_doStep 132 = .ok (.imul, 1) := by decide +kernel
theorem dX1_doStep_133 : decode cX1_doStep 133 = .ok (.goto 7, 3) := by decide +kernel
theorem dX1_doStep_136 : decode cX1_doStep 136 = .ok (.aload_n 0, 1) := by decide +kernel
theorem dX1_doStep_137 : decode cX1_doStep 137 = .ok (.getfield 21, 3) := by decide +kernel
theorem dX1_doStep_140 : decode cX1_doStep 140 = .ok (.invokevirtual 120, 3) := by decide +kernel
theorem dX1_doStep_143 : decode cX1_doStep 143 = .ok (.iload 6, 2) := by decide +kernel
theorem dX1_doStep_145 : decode cX1_doStep 145 = .ok (.ireturn, 1) := by decide +kernel
theorem dX1_countHit_0 : decode cX1_countHit 0 = .ok (.iload_n 1, 1) := by decide +kernel
theorem dX1_countHit_1 : decode cX1_countHit 1 = .ok (.ifCond .ne 16, 3) := by decide +kernel
theorem dX1_countHit_4 : decode cX1_countHit 4 = .ok (.aload_n 0, 1) := by decide +kernel
theorem dX1_countHit_5 : decode cX1_countHit 5 = .ok (.dup, 1) := by decide +kernel
theorem dX1_countHit_6 : decode cX1_countHit 6 = .ok (.getfield 44, 3) := by decide +kernel
theorem dX1_countHit_9 : decode cX1_countHit 9 = .ok (.iconst 1, 1) := by decide +kernel
theorem dX1_countHit_10 : decode cX1_countHit 10 = .ok (.iadd, 1) := by decide +kernel
theorem dX1_countHit_11 : decode cX1_countHit 11 = .ok (.putfield 44, 3) := by decide +kernel
theorem dX1_countHit_14 : decode cX1_countHit 14 = .ok (.goto 13, 3) := by decide +kernel
theorem dX1_countHit_17 : decode cX1_countHit 17 = .ok (.aload_n 0, 1) := by decide +kernel
theorem dX1_countHit_18 : decode cX1_countHit 18 = .ok (.dup, 1) := by decide +kernel
theorem dX1_countHit_19 : decode cX1_countHit 19 = .ok (.getfield 47, 3) := by decide +kernel
theorem dX1_countHit_22 : decode cX1_countHit 22 = .ok (.iconst 1, 1) := by decide +kernel
theorem dX1_countHit_23 : decode cX1_countHit 23 = .ok (.iadd, 1) := by decide +kernel
theorem dX1_countHit_24 : decode cX1_countHit 24 = .ok (.putfield 47, 3) := by decide +kernel
theorem dX1_countHit_27 : decode cX1_countHit 27 = .ok (.return_, 1) := by decide +kernel
theorem dX1_winBy_0 : decode cX1_winBy 0 = .ok (.aload_n 0, 1) := by decide +kernel
theorem dX1_winBy_1 : decode cX1_winBy 1 = .ok (.getfield 9, 3) := by decide +kernel
theorem dX1_winBy_4 : decode cX1_winBy 4 = .ok (.ifCond .ne 16, 3) := by decide +kernel
theorem dX1_winBy_7 : decode cX1_winBy 7 = .ok (.aload_n 0, 1) := by decide +kernel
theorem dX1_winBy_8 : decode cX1_winBy 8 = .ok (.dup, 1) := by decide +kernel
theorem dX1_winBy_9 : decode cX1_winBy 9 = .ok (.getfield 38, 3) := by decide +kernel
theorem dX1_winBy_12 : decode cX1_winBy 12 = .ok (.iload_n 1, 1) := by decide +kernel
theorem dX1_winBy_13 : decode cX1_winBy 13 = .ok (.iadd, 1) := by decide +kernel
theorem dX1_winBy_14 : decode cX1_winBy 14 = .ok (.putfield 38, 3) := by decide +kernel
theorem dX1_winBy_17 : decode cX1_winBy 17 = .ok (.goto 13, 3) := by decide +kernel
theorem dX1_winBy_20 : decode cX1_winBy 20 = .ok (.aload_n 0, 1) := by decide +kernel
theorem dX1_winBy_21 : decode cX1_winBy 21 = .ok (.dup, 1) := by decide +kernel
theorem dX1_winBy_22 : decode cX1_winBy 22 = .ok (.getfield 41, 3) := by decide +kernel
theorem dX1_winBy_25 : decode cX1_winBy 25 = .ok (.iload_n 1, 1) := by decide +kernel
theorem dX1_winBy_26 : decode cX1_winBy 26 = .ok (.iadd, 1) := by decide +kernel
theorem dX1_winBy_27 : decode cX1_winBy 27 = .ok (.putfield 41, 3) := by decide +kernel
theorem dX1_winBy_30 : decode cX1_winBy 30 = .ok (.aload_n 0, 1) := by decide +kernel
theorem dX1_winBy_31 : decode cX1_winBy 31 = .ok (.iconst 0, 1) := by decide +kernel
theorem dX1_winBy_32 : decode cX1_winBy 32 = .ok (.putfield 18, 3) := by decide +kernel
theorem dX1_winBy_35 : decode cX1_winBy 35 = .ok (.aload_n 0, 1) := by decide +kernel
theorem dX1_winBy_36 : decode cX1_winBy 36 = .ok (.iconst 3, 1) := by decide +kernel
theorem dX1_winBy_37 : decode cX1_winBy 37 = .ok (.putfield 15, 3) := by decide +kernel
theorem dX1_winBy_40 : decode cX1_winBy 40 = .ok (.return_, 1) := by decide +kernel
set_option maxRecDepth 20000 in
theorem ggX1_canEndTurn_X1_reachNow : GoodIn wsX1_canEndTurn wsX1_reachNow := goodIn_r _ [6, 7, 8, 9, 10, 5, 11, 12, 13, 14, 15, 16, 17, 18, 19, 20, 21, 22, 23, 24, 25, 26, 27, 28, 29, 30, 31, 32, 33, 34, 35, 36, 37, 38, 39, 40, 41, 42, 43, 44, 45, 46, 47, 48, 49, 50, 51, 52, 53, 54, 55, 56, 57, 58, 59, 60, 61, 62, 63, 64, 65, 66, 67, 68, 69, 70, 71, 72, 73, 74, 75, 76, 77, 78, 79, 80, 81, 82] (by decide +kernel) (by decide +kernel)
set_option maxRecDepth 20000 in
theorem gX1_canEndTurn_X1_reachNow : GoodIn wsX1_canEndTurn (wsV RX1 90 RX1 yX1_reachNow wsX1_reachNow) := goodIn_app (goodIn_of _ (by decide +kernel)) ggX1_canEndTurn_X1_reachNow
theorem dX1_canEndTurn_0 : decode cX1_canEndTurn 0 = .ok (.aload_n 0, 1) := by decide +kernel
theorem dX1_canEndTurn_1 : decode cX1_canEndTurn 1 = .ok (.getfield 15, 3) := by decide +kernel
theorem dX1_canEndTurn_4 : decode cX1_canEndTurn 4 = .ok (.iconst 1, 1) := by decide +kernel
theorem dX1_canEndTurn_5 : decode cX1_canEndTurn 5 = .ok (.if_icmp .ne 14, 3) := by decide +kernel
theorem dX1_canEndTurn_8 : decode cX1_canEndTurn 8 = .ok (.aload_n 0, 1) := by decide +kernel
theorem dX1_canEndTurn_9 : decode cX1_canEndTurn 9 = .ok (.invokevirtual 90, 3) := by decide +kernel
theorem dX1_canEndTurn_12 : decode cX1_canEndTurn 12 = .ok (.ifCond .ne 7, 3) := by decide +kernel
theorem dX1_canEndTurn_15 : decode cX1_canEndTurn 15 = .ok (.iconst 1, 1) := by decide +kernel
theorem dX1_canEndTurn_16 : decode cX1_canEndTurn 16 = .ok (.goto 4, 3) := by decide +kernel
theorem dX1_canEndTurn_19 : decode cX1_canEndTurn 19 = .ok (.iconst 0, 1) := by decide +kernel
theorem dX1_canEndTurn_20 : decode cX1_canEndTurn 20 = .ok (.ireturn, 1) := by decide +kernel
theorem dX1_doEndTurn_0 : decode cX1_doEndTurn 0 = .ok (.aload_n 0, 1) := by decide +kernel
theorem dX1_doEndTurn_1 : decode cX1_doEndTurn 1 = .ok (.iconst 1, 1) := by decide +kernel
theorem dX1_doEndTurn_2 : decode cX1_doEndTurn 2 = .ok (.aload_n 0, 1) := by decide +kernel
theorem dX1_doEndTurn_3 : decode cX1_doEndTurn 3 = .ok (.getfield 9, 3) := by decide +kernel
theorem dX1_doEndTurn_6 : decode cX1_doEndTurn 6 = .ok (.isub, 1) := by decide +kernel
theorem dX1_doEndTurn_7 : decode cX1_doEndTurn 7 = .ok (.putfield 9, 3) := by decide +kernel
theorem dX1_doEndTurn_10 : decode cX1_doEndTurn 10 = .ok (.aload_n 0, 1) := by decide +kernel
theorem dX1_doEndTurn_11 : decode cX1_doEndTurn 11 = .ok (.iconst 0, 1) := by decide +kernel
theorem dX1_doEndTurn_12 : decode cX1_doEndTurn 12 = .ok (.putfield 18, 3) := by decide +kernel
theorem dX1_doEndTurn_15 : decode cX1_doEndTurn 15 = .ok (.aload_n 0, 1) := by decide +kernel
theorem dX1_doEndTurn_16 : decode cX1_doEndTurn 16 = .ok (.iconst 0, 1) := by decide +kernel
theorem dX1_doEndTurn_17 : decode cX1_doEndTurn 17 = .ok (.putfield 15, 3) := by decide +kernel
theorem dX1_doEndTurn_20 : decode cX1_doEndTurn 20 = .ok (.return_, 1) := by decide +kernel
set_option maxRecDepth 20000 in
theorem ggX1_canCarry_X1_countAt : GoodIn wsX1_canCarry wsX1_countAt := goodIn_r _ [6, 7, 8, 9, 5, 10, 11, 12, 13, 14, 15, 16, 17, 18, 19, 33, 34, 35, 36, 37, 38, 39, 40, 41, 42, 43, 44, 45] (by decide +kernel) (by decide +kernel)
set_option maxRecDepth 20000 in
theorem gX1_canCarry_X1_countAt : GoodIn wsX1_canCarry (wsV RX1 69 RX1 yX1_countAt wsX1_countAt) := goodIn_app (goodIn_of _ (by decide +kernel)) ggX1_canCarry_X1_countAt
set_option maxRecDepth 20000 in
theorem ggX1_canCarry_X1_carried : GoodIn wsX1_canCarry wsX1_carried := goodIn_r _ [23, 7, 8, 9, 5, 10, 11, 12, 13, 14, 15, 24, 25, 18, 26, 33, 34, 35, 36, 37, 38, 39, 40, 41, 42, 43, 44, 45] (by decide +kernel) (by decide +kernel)
set_option maxRecDepth 20000 in
theorem gX1_canCarry_X1_carried : GoodIn wsX1_canCarry (wsV RX1 123 RX1 yX1_carried wsX1_carried) := goodIn_app (goodIn_of _ (by decide +kernel)) ggX1_canCarry_X1_carried
set_option maxRecDepth 20000 in
theorem ggX1_canCarry_X3_allOff : GoodIn wsX1_canCarry wsX3_allOff := goodIn_r _ [29, 30, 31, 18, 32] (by decide +kernel) (by decide +kernel)
set_option maxRecDepth 20000 in
theorem gX1_canCarry_X3_allOff : GoodIn wsX1_canCarry (va_wsS RX1 116 yX3_allOff wsX3_allOff) := goodIn_app (goodIn_of _ (by decide +kernel)) ggX1_canCarry_X3_allOff
theorem dX1_canCarry_0 : decode cX1_canCarry 0 = .ok (.aload_n 0, 1) := by decide +kernel
theorem dX1_canCarry_1 : decode cX1_canCarry 1 = .ok (.getfield 15, 3) := by decide +kernel
theorem dX1_canCarry_4 : decode cX1_canCarry 4 = .ok (.ifCond .ne 12, 3) := by decide +kernel
theorem dX1_canCarry_7 : decode cX1_canCarry 7 = .ok (.aload_n 0, 1) := by decide +kernel
theorem dX1_canCarry_8 : decode cX1_canCarry 8 = .ok (.iload_n 1, 1) := by decide +kernel
theorem dX1_canCarry_9 : decode cX1_canCarry 9 = .ok (.iload_n 2, 1) := by decide +kernel
theorem dX1_canCarry_10 : decode cX1_canCarry 10 = .ok (.invokevirtual 69, 3) := by decide +kernel
theorem dX1_canCarry_13 : decode cX1_canCarry 13 = .ok (.ifCond .ne 5, 3) := by decide +kernel
theorem dX1_canCarry_16 : decode cX1_canCarry 16 = .ok (.iconst 0, 1) := by decide +kernel
theorem dX1_canCarry_17 : decode cX1_canCarry 17 = .ok (.ireturn, 1) := by decide +kernel
theorem dX1_canCarry_18 : decode cX1_canCarry 18 = .ok (.iload_n 3, 1) := by decide +kernel
theorem dX1_canCarry_19 : decode cX1_canCarry 19 = .ok (.iconst (-1), 1) := by decide +kernel
theorem dX1_canCarry_20 : decode cX1_canCarry 20 = .ok (.if_icmp .eq 13, 3) := by decide +kernel
theorem dX1_canCarry_23 : decode cX1_canCarry 23 = .ok (.iload_n 3, 1) := by decide +kernel
theorem dX1_canCarry_24 : decode cX1_canCarry 24 = .ok (.bipush 16, 2) := by decide +kernel
theorem dX1_canCarry_26 : decode cX1_canCarry 26 = .ok (.if_icmp .eq 7, 3) := by decide +kernel
theorem dX1_canCarry_29 : decode cX1_canCarry 29 = .ok (.iconst 1, 1) := by decide +kernel
theorem dX1_canCarry_30 : decode cX1_canCarry 30 = .ok (.goto 4, 3) := by decide +kernel
theorem dX1_canCarry_33 : decode cX1_canCarry 33 = .ok (.iconst 0, 1) := by decide +kernel
theorem dX1_canCarry_34 : decode cX1_canCarry 34 = .ok (.istore 4, 2) := by decide +kernel
theorem dX1_canCarry_36 : decode cX1_canCarry 36 = .ok (.iload 4, 2) := by decide +kernel
theorem dX1_canCarry_38 : decode cX1_canCarry 38 = .ok (.ifCond .eq 16, 3) := by decide +kernel
theorem dX1_canCarry_41 : decode cX1_canCarry 41 = .ok (.aload_n 0, 1) := by decide +kernel
theorem dX1_canCarry_42 : decode cX1_canCarry 42 = .ok (.iconst 1, 1) := by decide +kernel
theorem dX1_canCarry_43 : decode cX1_canCarry 43 = .ok (.iload_n 1, 1) := by decide +kernel
theorem dX1_canCarry_44 : decode cX1_canCarry 44 = .ok (.isub, 1) := by decide +kernel
theorem dX1_canCarry_45 : decode cX1_canCarry 45 = .ok (.iload_n 3, 1) := by decide +kernel
theorem dX1_canCarry_46 : decode cX1_canCarry 46 = .ok (.invokevirtual 69, 3) := by decide +kernel
theorem dX1_canCarry_49 : decode cX1_canCarry 49 = .ok (.ifCond .le 5, 3) := by decide +kernel
theorem dX1_canCarry_52 : decode cX1_canCarry 52 = .ok (.iconst 0, 1) := by decide +kernel
theorem dX1_canCarry_53 : decode cX1_canCarry 53 = .ok (.ireturn, 1) := by decide +kernel
theorem dX1_canCarry_54 : decode cX1_canCarry 54 = .ok (.aload_n 0, 1) := by decide +kernel
theorem dX1_canCarry_55 : decode cX1_canCarry 55 = .ok (.iload_n 1, 1) := by decide +kernel
theorem dX1_canCarry_56 : decode cX1_canCarry 56 = .ok (.iload_n 2, 1) := by decide +kernel
theorem dX1_canCarry_57 : decode cX1_canCarry 57 = .ok (.iload_n 3, 1) := by decide +kernel
theorem dX1_canCarry_58 : decode cX1_canCarry 58 = .ok (.invokevirtual 123, 3) := by decide +kernel
theorem dX1_canCarry_61 : decode cX1_canCarry 61 = .ok (.invokestatic 116, 3) := by decide +kernel
theorem dX1_canCarry_64 : decode cX1_canCarry 64 = .ok (.ifCond .ne 7, 3) := by decide +kernel
theorem dX1_canCarry_67 : decode cX1_canCarry 67 = .ok (.iconst 1, 1) := by decide +kernel
theorem dX1_canCarry_68 : decode cX1_canCarry 68 = .ok (.goto 4, 3) := by decide +kernel
theorem dX1_canCarry_71 : decode cX1_canCarry 71 = .ok (.iconst 0, 1) := by decide +kernel
theorem dX1_canCarry_72 : decode cX1_canCarry 72 = .ok (.ireturn, 1) := by decide +kernel
set_option maxRecDepth 20000 in
theorem ggX1_carried_X1_piecesOf : GoodIn wsX1_carried wsX1_piecesOf := goodIn_r _ [5, 6, 7, 15, 16, 17, 18, 19, 20, 21, 22, 23, 24, 25, 26, 27] (by decide +kernel) (by decide +kernel)
set_option maxRecDepth 20000 in
theorem gX1_carried_X1_piecesOf : GoodIn wsX1_carried (wsV RX1 57 RX1 yX1_piecesOf wsX1_piecesOf) := goodIn_app (goodIn_of _ (by decide +kernel)) ggX1_carried_X1_piecesOf
set_option maxRecDepth 20000 in
theorem ggX1_carried_X1_wayOf : GoodIn wsX1_carried wsX1_wayOf := goodIn_r _ [10] (by decide +kernel) (by decide +kernel)
set_option maxRecDepth 20000 in
theorem gX1_carried_X1_wayOf : GoodIn wsX1_carried (va_wsS RX1 61 yX1_wayOf wsX1_wayOf) := goodIn_app (goodIn_of _ (by decide +kernel)) ggX1_carried_X1_wayOf
set_option maxRecDepth 20000 in
theorem ggX1_carried_X3_moved : GoodIn wsX1_carried wsX3_moved := goodIn_r _ [14] (by decide +kernel) (by decide +kernel)
set_option maxRecDepth 20000 in
theorem gX1_carried_X3_moved : GoodIn wsX1_carried (va_wsS RX1 127 yX3_moved wsX3_moved) := goodIn_app (goodIn_of _ (by decide +kernel)) ggX1_carried_X3_moved
theorem dX1_carried_0 : decode cX1_carried 0 = .ok (.aload_n 0, 1) := by decide +kernel
theorem dX1_carried_1 : decode cX1_carried 1 = .ok (.iload_n 1, 1) := by decide +kernel
theorem dX1_carried_2 : decode cX1_carried 2 = .ok (.invokevirtual 57, 3) := by decide +kernel
theorem dX1_carried_5 : decode cX1_carried 5 = .ok (.iload_n 1, 1) := by decide +kernel
theorem dX1_carried_6 : decode cX1_carried 6 = .ok (.iload_n 2, 1) := by decide +kernel
theorem dX1_carried_7 : decode cX1_carried 7 = .ok (.invokestatic 61, 3) := by decide +kernel
theorem dX1_carried_10 : decode cX1_carried 10 = .ok (.iload_n 1, 1) := by decide +kernel
theorem dX1_carried_11 : decode cX1_carried 11 = .ok (.iload_n 3, 1) := by decide +kernel
theorem dX1_carried_12 : decode cX1_carried 12 = .ok (.invokestatic 61, 3) := by decide +kernel
theorem dX1_carried_15 : decode cX1_carried 15 = .ok (.invokestatic 127, 3) := by decide +kernel
theorem dX1_carried_18 : decode cX1_carried 18 = .ok (.lreturn, 1) := by decide +kernel
set_option maxRecDepth 20000 in
theorem ggX1_doCarry_X1_carried : GoodIn wsX1_doCarry wsX1_carried := goodIn_r _ [5, 6, 7, 8, 4, 9, 10, 11, 12, 13, 14, 15, 16, 17, 18, 23, 24, 25, 26, 27, 28, 29, 30, 31, 32, 33, 34, 35] (by decide +kernel) (by decide +kernel)
set_option maxRecDepth 20000 in
theorem gX1_doCarry_X1_carried : GoodIn wsX1_doCarry (wsV RX1 123 RX1 yX1_carried wsX1_carried) := goodIn_app (goodIn_of _ (by decide +kernel)) ggX1_doCarry_X1_carried
set_option maxRecDepth 20000 in
theorem ggX1_doCarry_X1_setPieces : GoodIn wsX1_doCarry wsX1_setPieces := goodIn_r _ [22, 10, 11, 23, 24, 25, 26, 27, 28, 29, 30, 31, 32, 33, 34, 35] (by decide +kernel) (by decide +kernel)
set_option maxRecDepth 20000 in
theorem gX1_doCarry_X1_setPieces : GoodIn wsX1_doCarry (wsV RX1 102 RX1 yX1_setPieces wsX1_setPieces) := goodIn_app (goodIn_of _ (by decide +kernel)) ggX1_doCarry_X1_setPieces
theorem dX1_doCarry_0 : decode cX1_doCarry 0 = .ok (.aload_n 0, 1) := by decide +kernel
theorem dX1_doCarry_1 : decode cX1_doCarry 1 = .ok (.iload_n 1, 1) := by decide +kernel
theorem dX1_doCarry_2 : decode cX1_doCarry 2 = .ok (.aload_n 0, 1) := by decide +kernel
theorem dX1_doCarry_3 : decode cX1_doCarry 3 = .ok (.iload_n 1, 1) := by decide +kernel
theorem dX1_doCarry_4 : decode cX1_doCarry 4 = .ok (.iload_n 2, 1) := by decide +kernel
theorem dX1_doCarry_5 : decode cX1_doCarry 5 = .ok (.iload_n 3, 1) := by decide +kernel
theorem dX1_doCarry_6 : decode cX1_doCarry 6 = .ok (.invokevirtual 123, 3) := by decide +kernel
theorem dX1_doCarry_9 : decode cX1_doCarry 9 = .ok (.invokevirtual 102, 3) := by decide +kernel
theorem dX1_doCarry_12 : decode cX1_doCarry 12 = .ok (.return_, 1) := by decide +kernel
theorem dX1_canOffer_0 : decode cX1_canOffer 0 = .ok (.aload_n 0, 1) := by decide +kernel
theorem dX1_canOffer_1 : decode cX1_canOffer 1 = .ok (.getfield 24, 3) := by decide +kernel
theorem dX1_canOffer_4 : decode cX1_canOffer 4 = .ok (.aload_n 0, 1) := by decide +kernel
theorem dX1_canOffer_5 : decode cX1_canOffer 5 = .ok (.getfield 9, 3) := by decide +kernel
theorem dX1_canOffer_8 : decode cX1_canOffer 8 = .ok (.if_icmp .eq 11, 3) := by decide +kernel
theorem dX1_canOffer_11 : decode cX1_canOffer 11 = .ok (.aload_n 0, 1) := by decide +kernel
theorem dX1_canOffer_12 : decode cX1_canOffer 12 = .ok (.getfield 24, 3) := by decide +kernel
theorem dX1_canOffer_15 : decode cX1_canOffer 15 = .ok (.iconst (-1), 1) := by decide +kernel
theorem dX1_canOffer_16 : decode cX1_canOffer 16 = .ok (.if_icmp .ne 7, 3) := by decide +kernel
theorem dX1_canOffer_19 : decode cX1_canOffer 19 = .ok (.iconst 1, 1) := by decide +kernel
theorem dX1_canOffer_20 : decode cX1_canOffer 20 = .ok (.goto 4, 3) := by decide +kernel
theorem dX1_canOffer_23 : decode cX1_canOffer 23 = .ok (.iconst 0, 1) := by decide +kernel
theorem dX1_canOffer_24 : decode cX1_canOffer 24 = .ok (.istore_n 1, 1) := by decide +kernel
theorem dX1_canOffer_25 : decode cX1_canOffer 25 = .ok (.aload_n 0, 1) := by decide +kernel
theorem dX1_canOffer_26 : decode cX1_canOffer 26 = .ok (.getfield 15, 3) := by decide +kernel
theorem dX1_canOffer_29 : decode cX1_canOffer 29 = .ok (.ifCond .ne 20, 3) := by decide +kernel
theorem dX1_canOffer_32 : decode cX1_canOffer 32 = .ok (.iload_n 1, 1) := by decide +kernel
theorem dX1_canOffer_33 : decode cX1_canOffer 33 = .ok (.ifCond .eq 16, 3) := by decide +kernel
theorem dX1_canOffer_36 : decode cX1_canOffer 36 = .ok (.aload_n 0, 1) := by decide +kernel
theorem dX1_canOffer_37 : decode cX1_canOffer 37 = .ok (.getfield 21, 3) := by decide +kernel
theorem dX1_canOffer_40 : decode cX1_canOffer 40 = .ok (.bipush 32, 2) := by decide +kernel
theorem dX1_canOffer_42 : decode cX1_canOffer 42 = .ok (.if_icmp .gt 7, 3) := by decide +kernel
theorem dX1_canOffer_45 : decode cX1_canOffer 45 = .ok (.iconst 1, 1) := by decide +kernel
theorem dX1_canOffer_46 : decode cX1_canOffer 46 = .ok (.goto 4, 3) := by decide +kernel
theorem dX1_canOffer_49 : decode cX1_canOffer 49 = .ok (.iconst 0, 1) := by decide +kernel
theorem dX1_canOffer_50 : decode cX1_canOffer 50 = .ok (.ireturn, 1) := by decide +kernel
theorem dX1_doOffer_0 : decode cX1_doOffer 0 = .ok (.aload_n 0, 1) := by decide +kernel
theorem dX1_doOffer_1 : decode cX1_doOffer 1 = .ok (.iconst 2, 1) := by decide +kernel
theorem dX1_doOffer_2 : decode cX1_doOffer 2 = .ok (.putfield 15, 3) := by decide +kernel
theorem dX1_doOffer_5 : decode cX1_doOffer 5 = .ok (.return_, 1) := by decide +kernel
theorem dX1_isOffered_0 : decode cX1_isOffered 0 = .ok (.aload_n 0, 1) := by decide +kernel
theorem dX1_isOffered_1 : decode cX1_isOffered 1 = .ok (.getfield 15, 3) := by decide +kernel
theorem dX1_isOffered_4 : decode cX1_isOffered 4 = .ok (.iconst 2, 1) := by decide +kernel
theorem dX1_isOffered_5 : decode cX1_isOffered 5 = .ok (.if_icmp .ne 7, 3) := by decide +kernel
theorem dX1_isOffered_8 : decode cX1_isOffered 8 = .ok (.iconst 1, 1) := by decide +kernel
theorem dX1_isOffered_9 : decode cX1_isOffered 9 = .ok (.goto 4, 3) := by decide +kernel
theorem dX1_isOffered_12 : decode cX1_isOffered 12 = .ok (.iconst 0, 1) := by decide +kernel
theorem dX1_isOffered_13 : decode cX1_isOffered 13 = .ok (.ireturn, 1) := by decide +kernel
theorem dX1_doTake_0 : decode cX1_doTake 0 = .ok (.aload_n 0, 1) := by decide +kernel
theorem dX1_doTake_1 : decode cX1_doTake 1 = .ok (.iconst 2, 1) := by decide +kernel
theorem dX1_doTake_2 : decode cX1_doTake 2 = .ok (.aload_n 0, 1) := by decide +kernel
theorem dX1_doTake_3 : decode cX1_doTake 3 = .ok (.getfield 21, 3) := by decide +kernel
theorem dX1_doTake_6 : decode cX1_doTake 6 = .ok (.imul, 1) := by decide +kernel
theorem dX1_doTake_7 : decode cX1_doTake 7 = .ok (.putfield 21, 3) := by decide +kernel
theorem dX1_doTake_10 : decode cX1_doTake 10 = .ok (.aload_n 0, 1) := by decide +kernel
theorem dX1_doTake_11 : decode cX1_doTake 11 = .ok (.iconst 1, 1) := by decide +kernel
theorem dX1_doTake_12 : decode cX1_doTake 12 = .ok (.aload_n 0, 1) := by decide +kernel
theorem dX1_doTake_13 : decode cX1_doTake 13 = .ok (.getfield 9, 3) := by decide +kernel
theorem dX1_doTake_16 : decode cX1_doTake 16 = .ok (.isub, 1) := by decide +kernel
theorem dX1_doTake_17 : decode cX1_doTake 17 = .ok (.putfield 24, 3) := by decide +kernel
theorem dX1_doTake_20 : decode cX1_doTake 20 = .ok (.aload_n 0, 1) := by decide +kernel
theorem dX1_doTake_21 : decode cX1_doTake 21 = .ok (.iconst 0, 1) := by decide +kernel
theorem dX1_doTake_22 : decode cX1_doTake 22 = .ok (.putfield 15, 3) := by decide +kernel
theorem dX1_doTake_25 : decode cX1_doTake 25 = .ok (.return_, 1) := by decide +kernel
set_option maxRecDepth 20000 in
theorem ggX1_doDrop_X1_winBy : GoodIn wsX1_doDrop wsX1_winBy := goodIn_r _ [6, 7, 8, 9, 10, 11, 12, 13, 14, 15, 16, 17, 18, 19, 20, 21, 22, 23, 24] (by decide +kernel) (by decide +kernel)
set_option maxRecDepth 20000 in
theorem gX1_doDrop_X1_winBy : GoodIn wsX1_doDrop (wsV RX1 120 RX1 yX1_winBy wsX1_winBy) := goodIn_app (goodIn_of _ (by decide +kernel)) ggX1_doDrop_X1_winBy
theorem dX1_doDrop_0 : decode cX1_doDrop 0 = .ok (.aload_n 0, 1) := by decide +kernel
theorem dX1_doDrop_1 : decode cX1_doDrop 1 = .ok (.aload_n 0, 1) := by decide +kernel
theorem dX1_doDrop_2 : decode cX1_doDrop 2 = .ok (.getfield 21, 3) := by decide +kernel
theorem dX1_doDrop_5 : decode cX1_doDrop 5 = .ok (.invokevirtual 120, 3) := by decide +kernel
theorem dX1_doDrop_8 : decode cX1_doDrop 8 = .ok (.return_, 1) := by decide +kernel
theorem dX1_isOver_0 : decode cX1_isOver 0 = .ok (.aload_n 0, 1) := by decide +kernel
theorem dX1_isOver_1 : decode cX1_isOver 1 = .ok (.getfield 15, 3) := by decide +kernel
theorem dX1_isOver_4 : decode cX1_isOver 4 = .ok (.iconst 3, 1) := by decide +kernel
theorem dX1_isOver_5 : decode cX1_isOver 5 = .ok (.if_icmp .ne 7, 3) := by decide +kernel
theorem dX1_isOver_8 : decode cX1_isOver 8 = .ok (.iconst 1, 1) := by decide +kernel
theorem dX1_isOver_9 : decode cX1_isOver 9 = .ok (.goto 4, 3) := by decide +kernel
theorem dX1_isOver_12 : decode cX1_isOver 12 = .ok (.iconst 0, 1) := by decide +kernel
theorem dX1_isOver_13 : decode cX1_isOver 13 = .ok (.ireturn, 1) := by decide +kernel
theorem dX1_doNewGame_0 : decode cX1_doNewGame 0 = .ok (.aload_n 0, 1) := by decide +kernel
theorem dX1_doNewGame_1 : decode cX1_doNewGame 1 = .ok (.iconst 1, 1) := by decide +kernel
theorem dX1_doNewGame_2 : decode cX1_doNewGame 2 = .ok (.aload_n 0, 1) := by decide +kernel
theorem dX1_doNewGame_3 : decode cX1_doNewGame 3 = .ok (.getfield 9, 3) := by decide +kernel
theorem dX1_doNewGame_6 : decode cX1_doNewGame 6 = .ok (.isub, 1) := by decide +kernel
theorem dX1_doNewGame_7 : decode cX1_doNewGame 7 = .ok (.putfield 9, 3) := by decide +kernel
theorem dX1_doNewGame_10 : decode cX1_doNewGame 10 = .ok (.aload_n 0, 1) := by decide +kernel
theorem dX1_doNewGame_11 : decode cX1_doNewGame 11 = .ok (.iconst 0, 1) := by decide +kernel
theorem dX1_doNewGame_12 : decode cX1_doNewGame 12 = .ok (.putfield 15, 3) := by decide +kernel
theorem dX1_doNewGame_15 : decode cX1_doNewGame 15 = .ok (.aload_n 0, 1) := by decide +kernel
theorem dX1_doNewGame_16 : decode cX1_doNewGame 16 = .ok (.iconst 1, 1) := by decide +kernel
theorem dX1_doNewGame_17 : decode cX1_doNewGame 17 = .ok (.putfield 21, 3) := by decide +kernel
theorem dX1_doNewGame_20 : decode cX1_doNewGame 20 = .ok (.aload_n 0, 1) := by decide +kernel
theorem dX1_doNewGame_21 : decode cX1_doNewGame 21 = .ok (.iconst (-1), 1) := by decide +kernel
theorem dX1_doNewGame_22 : decode cX1_doNewGame 22 = .ok (.putfield 24, 3) := by decide +kernel
theorem dX1_doNewGame_25 : decode cX1_doNewGame 25 = .ok (.aload_n 0, 1) := by decide +kernel
theorem dX1_doNewGame_26 : decode cX1_doNewGame 26 = .ok (.ldc2_w 29, 3) := by decide +kernel
theorem dX1_doNewGame_29 : decode cX1_doNewGame 29 = .ok (.putfield 31, 3) := by decide +kernel
theorem dX1_doNewGame_32 : decode cX1_doNewGame 32 = .ok (.aload_n 0, 1) := by decide +kernel
theorem dX1_doNewGame_33 : decode cX1_doNewGame 33 = .ok (.ldc2_w 29, 3) := by decide +kernel
theorem dX1_doNewGame_36 : decode cX1_doNewGame 36 = .ok (.putfield 35, 3) := by decide +kernel
theorem dX1_doNewGame_39 : decode cX1_doNewGame 39 = .ok (.return_, 1) := by decide +kernel
set_option maxRecDepth 20000 in
theorem ggX2_init_X1_init : GoodIn wsX2_init wsX1_init := goodIn_r _ [12, 13, 2, 3, 14, 15, 16, 17, 18, 19, 20, 21, 22, 23, 24, 25, 26, 27, 32, 33, 34, 35, 36, 37, 38, 39, 40, 41, 42, 43, 44] (by decide +kernel) (by decide +kernel)
set_option maxRecDepth 20000 in
theorem gX2_init_X1_init_n15 : GoodIn wsX2_init (wsX1_init) := ggX2_init_X1_init
theorem dX2_init_0 : decode cX2_init 0 = .ok (.aload_n 0, 1) := by decide +kernel
theorem dX2_init_1 : decode cX2_init 1 = .ok (.invokespecial 1, 3) := by decide +kernel
theorem dX2_init_4 : decode cX2_init 4 = .ok (.aload_n 0, 1) := by decide +kernel
theorem dX2_init_5 : decode cX2_init 5 = .ok (.iconst 5, 1) := by decide +kernel
theorem dX2_init_6 : decode cX2_init 6 = .ok (.anewarray 9, 3) := by decide +kernel
theorem dX2_init_9 : decode cX2_init 9 = .ok (.putfield 11, 3) := by decide +kernel
theorem dX2_init_12 : decode cX2_init 12 = .ok (.aload_n 0, 1) := by decide +kernel
theorem dX2_init_13 : decode cX2_init 13 = .ok (.new 9, 3) := by decide +kernel
theorem dX2_init_16 : decode cX2_init 16 = .ok (.dup, 1) := by decide +kernel
theorem dX2_init_17 : decode cX2_init 17 = .ok (.invokespecial 15, 3) := by decide +kernel
theorem dX2_init_20 : decode cX2_init 20 = .ok (.putfield 16, 3) := by decide +kernel
theorem dX2_init_23 : decode cX2_init 23 = .ok (.aload_n 0, 1) := by decide +kernel
theorem dX2_init_24 : decode cX2_init 24 = .ok (.iconst 0, 1) := by decide +kernel
theorem dX2_init_25 : decode cX2_init 25 = .ok (.putfield 20, 3) := by decide +kernel
theorem dX2_init_28 : decode cX2_init 28 = .ok (.aload_n 0, 1) := by decide +kernel
theorem dX2_init_29 : decode cX2_init 29 = .ok (.iconst 0, 1) := by decide +kernel
theorem dX2_init_30 : decode cX2_init 30 = .ok (.putfield 24, 3) := by decide +kernel
theorem dX2_init_33 : decode cX2_init 33 = .ok (.iconst 0, 1) := by decide +kernel
theorem dX2_init_34 : decode cX2_init 34 = .ok (.istore_n 1, 1) := by decide +kernel
theorem dX2_init_35 : decode cX2_init 35 = .ok (.iload_n 1, 1) := by decide +kernel
theorem dX2_init_36 : decode cX2_init 36 = .ok (.iconst 5, 1) := by decide +kernel
theorem dX2_init_37 : decode cX2_init 37 = .ok (.if_icmp .ge 22, 3) := by decide +kernel
theorem dX2_init_40 : decode cX2_init 40 = .ok (.aload_n 0, 1) := by decide +kernel
theorem dX2_init_41 : decode cX2_init 41 = .ok (.getfield 11, 3) := by decide +kernel
theorem dX2_init_44 : decode cX2_init 44 = .ok (.iload_n 1, 1) := by decide +kernel
theorem dX2_init_45 : decode cX2_init 45 = .ok (.new 9, 3) := by decide +kernel
theorem dX2_init_48 : decode cX2_init 48 = .ok (.dup, 1) := by decide +kernel
theorem dX2_init_49 : decode cX2_init 49 = .ok (.invokespecial 15, 3) := by decide +kernel
theorem dX2_init_52 : decode cX2_init 52 = .ok (.aastore, 1) := by decide +kernel
theorem dX2_init_53 : decode cX2_init 53 = .ok (.iinc 1 1, 3) := by decide +kernel
theorem dX2_init_56 : decode cX2_init 56 = .ok (.goto (-21), 3) := by decide +kernel
theorem dX2_init_59 : decode cX2_init 59 = .ok (.return_, 1) := by decide +kernel
set_option maxRecDepth 20000 in
theorem ggX2_save_X2_dropOldest : GoodIn wsX2_save wsX2_dropOldest := goodIn_r _ [6, 7, 1, 30, 31, 32, 33] (by decide +kernel) (by decide +kernel)
set_option maxRecDepth 20000 in
theorem gX2_save_X2_dropOldest : GoodIn wsX2_save (wsV RX2 28 RX2 yX2_dropOldest wsX2_dropOldest) := goodIn_app (goodIn_of _ (by decide +kernel)) ggX2_save_X2_dropOldest
set_option maxRecDepth 20000 in
theorem ggX2_save_X2_gameAt : GoodIn wsX2_save wsX2_gameAt := goodIn_r _ [11, 7, 30, 31, 32, 33] (by decide +kernel) (by decide +kernel)
set_option maxRecDepth 20000 in
theorem gX2_save_X2_gameAt : GoodIn wsX2_save (wsV RX2 31 RX2 yX2_gameAt wsX2_gameAt) := goodIn_app (goodIn_of _ (by decide +kernel)) ggX2_save_X2_gameAt
set_option maxRecDepth 20000 in
theorem ggX2_save_X1_copyFrom : GoodIn wsX2_save wsX1_copyFrom := goodIn_r _ [16, 17, 18, 19, 20, 21, 22, 23, 24, 25, 26, 27, 28, 29, 34, 35, 36, 37, 38, 39, 40, 41, 42, 43, 44, 45, 46] (by decide +kernel) (by decide +kernel)
set_option maxRecDepth 20000 in
theorem gX2_save_X1_copyFrom : GoodIn wsX2_save (wsV RX2 35 RX1 yX1_copyFrom wsX1_copyFrom) := goodIn_app (goodIn_of _ (by decide +kernel)) ggX2_save_X1_copyFrom
theorem dX2_save_0 : decode cX2_save 0 = .ok (.aload_n 0, 1) := by decide +kernel
theorem dX2_save_1 : decode cX2_save 1 = .ok (.getfield 24, 3) := by decide +kernel
theorem dX2_save_4 : decode cX2_save 4 = .ok (.iconst 5, 1) := by decide +kernel
theorem dX2_save_5 : decode cX2_save 5 = .ok (.if_icmp .lt 7, 3) := by decide +kernel
theorem dX2_save_8 : decode cX2_save 8 = .ok (.aload_n 0, 1) := by decide +kernel
theorem dX2_save_9 : decode cX2_save 9 = .ok (.invokevirtual 28, 3) := by decide +kernel
theorem dX2_save_12 : decode cX2_save 12 = .ok (.aload_n 0, 1) := by decide +kernel
theorem dX2_save_13 : decode cX2_save 13 = .ok (.aload_n 0, 1) := by decide +kernel
theorem dX2_save_14 : decode cX2_save 14 = .ok (.getfield 24, 3) := by decide +kernel
theorem dX2_save_17 : decode cX2_save 17 = .ok (.invokevirtual 31, 3) := by decide +kernel
theorem dX2_save_20 : decode cX2_save 20 = .ok (.astore_n 2, 1) := by decide +kernel
theorem dX2_save_21 : decode cX2_save 21 = .ok (.aload_n 2, 1) := by decide +kernel
theorem dX2_save_22 : decode cX2_save 22 = .ok (.ifnull 18, 3) := by decide +kernel
theorem dX2_save_25 : decode cX2_save 25 = .ok (.aload_n 2, 1) := by decide +kernel
theorem dX2_save_26 : decode cX2_save 26 = .ok (.aload_n 1, 1) := by decide +kernel
theorem dX2_save_27 : decode cX2_save 27 = .ok (.invokevirtual 35, 3) := by decide +kernel
theorem dX2_save_30 : decode cX2_save 30 = .ok (.aload_n 0, 1) := by decide +kernel
theorem dX2_save_31 : decode cX2_save 31 = .ok (.dup, 1) := by decide +kernel
theorem dX2_save_32 : decode cX2_save 32 = .ok (.getfield 24, 3) := by decide +kernel
theorem dX2_save_35 : decode cX2_save 35 = .ok (.iconst 1, 1) := by decide +kernel
theorem dX2_save_36 : decode cX2_save 36 = .ok (.iadd, 1) := by decide +kernel
theorem dX2_save_37 : decode cX2_save 37 = .ok (.putfield 24, 3) := by decide +kernel
theorem dX2_save_40 : decode cX2_save 40 = .ok (.return_, 1) := by decide +kernel
theorem dX2_gameAt_0 : decode cX2_gameAt 0 = .ok (.iload_n 1, 1) := by decide +kernel
theorem dX2_gameAt_1 : decode cX2_gameAt 1 = .ok (.ifCond .lt 17, 3) := by decide +kernel
theorem dX2_gameAt_4 : decode cX2_gameAt 4 = .ok (.iload_n 1, 1) := by decide +kernel
theorem dX2_gameAt_5 : decode cX2_gameAt 5 = .ok (.iconst 5, 1) := by decide +kernel
theorem dX2_gameAt_6 : decode cX2_gameAt 6 = .ok (.if_icmp .ge 12, 3) := by decide +kernel
theorem dX2_gameAt_9 : decode cX2_gameAt 9 = .ok (.aload_n 0, 1) := by decide +kernel
theorem dX2_gameAt_10 : decode cX2_gameAt 10 = .ok (.getfield 11, 3) := by decide +kernel
theorem dX2_gameAt_13 : decode cX2_gameAt 13 = .ok (.iload_n 1, 1) := by decide +kernel
theorem dX2_gameAt_14 : decode cX2_gameAt 14 = .ok (.aaload, 1) := by decide +kernel
theorem dX2_gameAt_15 : decode cX2_gameAt 15 = .ok (.goto 4, 3) := by decide +kernel
theorem dX2_gameAt_18 : decode cX2_gameAt 18 = .ok (.aconst_null, 1) := by decide +kernel
theorem dX2_gameAt_19 : decode cX2_gameAt 19 = .ok (.areturn, 1) := by decide +kernel
theorem dX2_dropOldest_0 : decode cX2_dropOldest 0 = .ok (.aload_n 0, 1) := by decide +kernel
theorem dX2_dropOldest_1 : decode cX2_dropOldest 1 = .ok (.getfield 11, 3) := by decide +kernel
theorem dX2_dropOldest_4 : decode cX2_dropOldest 4 = .ok (.iconst 0, 1) := by decide +kernel
theorem dX2_dropOldest_5 : decode cX2_dropOldest 5 = .ok (.aaload, 1) := by decide +kernel
theorem dX2_dropOldest_6 : decode cX2_dropOldest 6 = .ok (.astore_n 1, 1) := by decide +kernel
theorem dX2_dropOldest_7 : decode cX2_dropOldest 7 = .ok (.iconst 1, 1) := by decide +kernel
theorem dX2_dropOldest_8 : decode cX2_dropOldest 8 = .ok (.istore_n 2, 1) := by decide +kernel
theorem dX2_dropOldest_9 : decode cX2_dropOldest 9 = .ok (.iload_n 2, 1) := by decide +kernel
theorem dX2_dropOldest_10 : decode cX2_dropOldest 10 = .ok (.iconst 5, 1) := by decide +kernel
theorem dX2_dropOldest_11 : decode cX2_dropOldest 11 = .ok (.if_icmp .ge 23, 3) := by decide +kernel
theorem dX2_dropOldest_14 : decode cX2_dropOldest 14 = .ok (.aload_n 0, 1) := by decide +kernel
theorem dX2_dropOldest_15 : decode cX2_dropOldest 15 = .ok (.getfield 11, 3) := by decide +kernel
theorem dX2_dropOldest_18 : decode cX2_dropOldest 18 = .ok (.iload_n 2, 1) := by decide +kernel
theorem dX2_dropOldest_19 : decode cX2_dropOldest 19 = .ok (.iconst 1, 1) := by decide +kernel
theorem dX2_dropOldest_20 : decode cX2_dropOldest 20 = .ok (.isub, 1) := by decide +kernel
theorem dX2_dropOldest_21 : decode cX2_dropOldest 21 = .ok (.aload_n 0, 1) := by decide +kernel
theorem dX2_dropOldest_22 : decode cX2_dropOldest 22 = .ok (.getfield 11, 3) := by decide +kernel
theorem dX2_dropOldest_25 : decode cX2_dropOldest 25 = .ok (.iload_n 2, 1) := by decide +kernel
theorem dX2_dropOldest_26 : decode cX2_dropOldest 26 = .ok (.aaload, 1) := by decide +kernel
theorem dX2_dropOldest_27 : decode cX2_dropOldest 27 = .ok (.aastore, 1) := by decide +kernel
theorem dX2_dropOldest_28 : decode cX2_dropOldest 28 = .ok (.iinc 2 1, 3) := by decide +kernel
theorem dX2_dropOldest_31 : decode cX2_dropOldest 31 = .ok (.goto (-22), 3) := by decide +kernel
theorem dX2_dropOldest_34 : decode cX2_dropOldest 34 = .ok (.aload_n 0, 1) := by decide +kernel
theorem dX2_dropOldest_35 : decode cX2_dropOldest 35 = .ok (.getfield 11, 3) := by decide +kernel
theorem dX2_dropOldest_38 : decode cX2_dropOldest 38 = .ok (.iconst 4, 1) := by decide +kernel
theorem dX2_dropOldest_39 : decode cX2_dropOldest 39 = .ok (.aload_n 1, 1) := by decide +kernel
theorem dX2_dropOldest_40 : decode cX2_dropOldest 40 = .ok (.aastore, 1) := by decide +kernel
theorem dX2_dropOldest_41 : decode cX2_dropOldest 41 = .ok (.aload_n 0, 1) := by decide +kernel
theorem dX2_dropOldest_42 : decode cX2_dropOldest 42 = .ok (.dup, 1) := by decide +kernel
theorem dX2_dropOldest_43 : decode cX2_dropOldest 43 = .ok (.getfield 24, 3) := by decide +kernel
theorem dX2_dropOldest_46 : decode cX2_dropOldest 46 = .ok (.iconst 1, 1) := by decide +kernel
theorem dX2_dropOldest_47 : decode cX2_dropOldest 47 = .ok (.isub, 1) := by decide +kernel
theorem dX2_dropOldest_48 : decode cX2_dropOldest 48 = .ok (.putfield 24, 3) := by decide +kernel
theorem dX2_dropOldest_51 : decode cX2_dropOldest 51 = .ok (.return_, 1) := by decide +kernel
theorem dX3_on_0 : decode cX3_on 0 = .ok (.lload_n 0, 1) := by decide +kernel
theorem dX3_on_1 : decode cX3_on 1 = .ok (.iconst 3, 1) := by decide +kernel
theorem dX3_on_2 : decode cX3_on 2 = .ok (.iload_n 2, 1) := by decide +kernel
theorem dX3_on_3 : decode cX3_on 3 = .ok (.imul, 1) := by decide +kernel
theorem dX3_on_4 : decode cX3_on 4 = .ok (.lushr, 1) := by decide +kernel
theorem dX3_on_5 : decode cX3_on 5 = .ok (.l2i, 1) := by decide +kernel
theorem dX3_on_6 : decode cX3_on 6 = .ok (.bipush 7, 2) := by decide +kernel
theorem dX3_on_8 : decode cX3_on 8 = .ok (.iand, 1) := by decide +kernel
theorem dX3_on_9 : decode cX3_on 9 = .ok (.ireturn, 1) := by decide +kernel
theorem dX3_moved_0 : decode cX3_moved 0 = .ok (.lload_n 0, 1) := by decide +kernel
theorem dX3_moved_1 : decode cX3_moved 1 = .ok (.lconst 1, 1) := by decide +kernel
theorem dX3_moved_2 : decode cX3_moved 2 = .ok (.iconst 3, 1) := by decide +kernel
theorem dX3_moved_3 : decode cX3_moved 3 = .ok (.iload_n 2, 1) := by decide +kernel
theorem dX3_moved_4 : decode cX3_moved 4 = .ok (.imul, 1) := by decide +kernel
theorem dX3_moved_5 : decode cX3_moved 5 = .ok (.lshl, 1) := by decide +kernel
theorem dX3_moved_6 : decode cX3_moved 6 = .ok (.lsub, 1) := by decide +kernel
theorem dX3_moved_7 : decode cX3_moved 7 = .ok (.lconst 1, 1) := by decide +kernel
theorem dX3_moved_8 : decode cX3_moved 8 = .ok (.iconst 3, 1) := by decide +kernel
theorem dX3_moved_9 : decode cX3_moved 9 = .ok (.iload_n 3, 1) := by decide +kernel
theorem dX3_moved_10 : decode cX3_moved 10 = .ok (.imul, 1) := by decide +kernel
theorem dX3_moved_11 : decode cX3_moved 11 = .ok (.lshl, 1) := by decide +kernel
theorem dX3_moved_12 : decode cX3_moved 12 = .ok (.ladd, 1) := by decide +kernel
theorem dX3_moved_13 : decode cX3_moved 13 = .ok (.lreturn, 1) := by decide +kernel
theorem dX3_anyBeyond_0 : decode cX3_anyBeyond 0 = .ok (.lload_n 0, 1) := by decide +kernel
theorem dX3_anyBeyond_1 : decode cX3_anyBeyond 1 = .ok (.iconst 3, 1) := by decide +kernel
theorem dX3_anyBeyond_2 : decode cX3_anyBeyond 2 = .ok (.iload_n 2, 1) := by decide +kernel
theorem dX3_anyBeyond_3 : decode cX3_anyBeyond 3 = .ok (.imul, 1) := by decide +kernel
theorem dX3_anyBeyond_4 : decode cX3_anyBeyond 4 = .ok (.iconst 3, 1) := by decide +kernel
theorem dX3_anyBeyond_5 : decode cX3_anyBeyond 5 = .ok (.iadd, 1) := by decide +kernel
theorem dX3_anyBeyond_6 : decode cX3_anyBeyond 6 = .ok (.lushr, 1) := by decide +kernel
theorem dX3_anyBeyond_7 : decode cX3_anyBeyond 7 = .ok (.lconst 0, 1) := by decide +kernel
theorem dX3_anyBeyond_8 : decode cX3_anyBeyond 8 = .ok (.lcmp, 1) := by decide +kernel
theorem dX3_anyBeyond_9 : decode cX3_anyBeyond 9 = .ok (.ifCond .eq 7, 3) := by decide +kernel
theorem dX3_anyBeyond_12 : decode cX3_anyBeyond 12 = .ok (.iconst 1, 1) := by decide +kernel
theorem dX3_anyBeyond_13 : decode cX3_anyBeyond 13 = .ok (.goto 4, 3) := by decide +kernel
theorem dX3_anyBeyond_16 : decode cX3_anyBeyond 16 = .ok (.iconst 0, 1) := by decide +kernel
theorem dX3_anyBeyond_17 : decode cX3_anyBeyond 17 = .ok (.ireturn, 1) := by decide +kernel
set_option maxRecDepth 20000 in
theorem ggX3_allOff_X3_anyBeyond : GoodIn wsX3_allOff wsX3_anyBeyond := goodIn_r _ [4] (by decide +kernel) (by decide +kernel)
set_option maxRecDepth 20000 in
theorem gX3_allOff_X3_anyBeyond : GoodIn wsX3_allOff (va_wsS RX3 9 yX3_anyBeyond wsX3_anyBeyond) := goodIn_app (goodIn_of _ (by decide +kernel)) ggX3_allOff_X3_anyBeyond
theorem dX3_allOff_0 : decode cX3_allOff 0 = .ok (.lload_n 0, 1) := by decide +kernel
theorem dX3_allOff_1 : decode cX3_allOff 1 = .ok (.iconst 0, 1) := by decide +kernel
theorem dX3_allOff_2 : decode cX3_allOff 2 = .ok (.invokestatic 9, 3) := by decide +kernel
theorem dX3_allOff_5 : decode cX3_allOff 5 = .ok (.ifCond .ne 7, 3) := by decide +kernel
theorem dX3_allOff_8 : decode cX3_allOff 8 = .ok (.iconst 1, 1) := by decide +kernel
theorem dX3_allOff_9 : decode cX3_allOff 9 = .ok (.goto 4, 3) := by decide +kernel
theorem dX3_allOff_12 : decode cX3_allOff 12 = .ok (.iconst 0, 1) := by decide +kernel
theorem dX3_allOff_13 : decode cX3_allOff 13 = .ok (.ireturn, 1) := by decide +kernel
theorem dX3_across_0 : decode cX3_across 0 = .ok (.lload_n 0, 1) := by decide +kernel
theorem dX3_across_1 : decode cX3_across 1 = .ok (.iconst 3, 1) := by decide +kernel
theorem dX3_across_2 : decode cX3_across 2 = .ok (.bipush 17, 2) := by decide +kernel
theorem dX3_across_4 : decode cX3_across 4 = .ok (.iload_n 2, 1) := by decide +kernel
theorem dX3_across_5 : decode cX3_across 5 = .ok (.isub, 1) := by decide +kernel
theorem dX3_across_6 : decode cX3_across 6 = .ok (.imul, 1) := by decide +kernel
theorem dX3_across_7 : decode cX3_across 7 = .ok (.lushr, 1) := by decide +kernel
theorem dX3_across_8 : decode cX3_across 8 = .ok (.l2i, 1) := by decide +kernel
theorem dX3_across_9 : decode cX3_across 9 = .ok (.bipush 7, 2) := by decide +kernel
theorem dX3_across_11 : decode cX3_across 11 = .ok (.iand, 1) := by decide +kernel
theorem dX3_across_12 : decode cX3_across 12 = .ok (.ireturn, 1) := by decide +kernel
set_option maxRecDepth 20000 in
theorem ggX3_sumOfWays_X3_on : GoodIn wsX3_sumOfWays wsX3_on := goodIn_r _ [4] (by decide +kernel) (by decide +kernel)
set_option maxRecDepth 20000 in
theorem gX3_sumOfWays_X3_on : GoodIn wsX3_sumOfWays (va_wsS RX3 13 yX3_on wsX3_on) := goodIn_app (goodIn_of _ (by decide +kernel)) ggX3_sumOfWays_X3_on
theorem dX3_sumOfWays_0 : decode cX3_sumOfWays 0 = .ok (.iconst 0, 1) := by decide +kernel
theorem dX3_sumOfWays_1 : decode cX3_sumOfWays 1 = .ok (.istore_n 2, 1) := by decide +kernel
theorem dX3_sumOfWays_2 : decode cX3_sumOfWays 2 = .ok (.iconst 1, 1) := by decide +kernel
theorem dX3_sumOfWays_3 : decode cX3_sumOfWays 3 = .ok (.istore_n 3, 1) := by decide +kernel
theorem dX3_sumOfWays_4 : decode cX3_sumOfWays 4 = .ok (.iload_n 3, 1) := by decide +kernel
theorem dX3_sumOfWays_5 : decode cX3_sumOfWays 5 = .ok (.bipush 17, 2) := by decide +kernel
theorem dX3_sumOfWays_7 : decode cX3_sumOfWays 7 = .ok (.if_icmp .gt 19, 3) := by decide +kernel
theorem dX3_sumOfWays_10 : decode cX3_sumOfWays 10 = .ok (.iload_n 2, 1) := by decide +kernel
theorem dX3_sumOfWays_11 : decode cX3_sumOfWays 11 = .ok (.iload_n 3, 1) := by decide +kernel
theorem dX3_sumOfWays_12 : decode cX3_sumOfWays 12 = .ok (.lload_n 0, 1) := by decide +kernel
theorem dX3_sumOfWays_13 : decode cX3_sumOfWays 13 = .ok (.iload_n 3, 1) := by decide +kernel
theorem dX3_sumOfWays_14 : decode cX3_sumOfWays 14 = .ok (.invokestatic 13, 3) := by decide +kernel
theorem dX3_sumOfWays_17 : decode cX3_sumOfWays 17 = .ok (.imul, 1) := by decide +kernel
theorem dX3_sumOfWays_18 : decode cX3_sumOfWays 18 = .ok (.iadd, 1) := by decide +kernel
theorem dX3_sumOfWays_19 : decode cX3_sumOfWays 19 = .ok (.istore_n 2, 1) := by decide +kernel
theorem dX3_sumOfWays_20 : decode cX3_sumOfWays 20 = .ok (.iinc 3 1, 3) := by decide +kernel
theorem dX3_sumOfWays_23 : decode cX3_sumOfWays 23 = .ok (.goto (-19), 3) := by decide +kernel
theorem dX3_sumOfWays_26 : decode cX3_sumOfWays 26 = .ok (.iload_n 2, 1) := by decide +kernel
theorem dX3_sumOfWays_27 : decode cX3_sumOfWays 27 = .ok (.ireturn, 1) := by decide +kernel
set_option maxRecDepth 20000 in
theorem ggX3_singles_X3_on : GoodIn wsX3_singles wsX3_on := goodIn_r _ [4] (by decide +kernel) (by decide +kernel)
set_option maxRecDepth 20000 in
theorem gX3_singles_X3_on : GoodIn wsX3_singles (va_wsS RX3 13 yX3_on wsX3_on) := goodIn_app (goodIn_of _ (by decide +kernel)) ggX3_singles_X3_on
theorem dX3_singles_0 : decode cX3_singles 0 = .ok (.iconst 0, 1) := by decide +kernel
theorem dX3_singles_1 : decode cX3_singles 1 = .ok (.istore_n 2, 1) := by decide +kernel
theorem dX3_singles_2 : decode cX3_singles 2 = .ok (.iconst 1, 1) := by decide +kernel
theorem dX3_singles_3 : decode cX3_singles 3 = .ok (.istore_n 3, 1) := by decide +kernel
theorem dX3_singles_4 : decode cX3_singles 4 = .ok (.iload_n 3, 1) := by decide +kernel
theorem dX3_singles_5 : decode cX3_singles 5 = .ok (.bipush 16, 2) := by decide +kernel
theorem dX3_singles_7 : decode cX3_singles 7 = .ok (.if_icmp .gt 26, 3) := by decide +kernel
theorem dX3_singles_10 : decode cX3_singles 10 = .ok (.iload_n 2, 1) := by decide +kernel
theorem dX3_singles_11 : decode cX3_singles 11 = .ok (.lload_n 0, 1) := by decide +kernel
theorem dX3_singles_12 : decode cX3_singles 12 = .ok (.iload_n 3, 1) := by decide +kernel
theorem dX3_singles_13 : decode cX3_singles 13 = .ok (.invokestatic 13, 3) := by decide +kernel
theorem dX3_singles_16 : decode cX3_singles 16 = .ok (.iconst 1, 1) := by decide +kernel
theorem dX3_singles_17 : decode cX3_singles 17 = .ok (.if_icmp .ne 7, 3) := by decide +kernel
theorem dX3_singles_20 : decode cX3_singles 20 = .ok (.iconst 1, 1) := by decide +kernel
theorem dX3_singles_21 : decode cX3_singles 21 = .ok (.goto 4, 3) := by decide +kernel
theorem dX3_singles_24 : decode cX3_singles 24 = .ok (.iconst 0, 1) := by decide +kernel
theorem dX3_singles_25 : decode cX3_singles 25 = .ok (.iadd, 1) := by decide +kernel
theorem dX3_singles_26 : decode cX3_singles 26 = .ok (.istore_n 2, 1) := by decide +kernel
theorem dX3_singles_27 : decode cX3_singles 27 = .ok (.iinc 3 1, 3) := by decide +kernel
theorem dX3_singles_30 : decode cX3_singles 30 = .ok (.goto (-26), 3) := by decide +kernel
theorem dX3_singles_33 : decode cX3_singles 33 = .ok (.iload_n 2, 1) := by decide +kernel
theorem dX3_singles_34 : decode cX3_singles 34 = .ok (.ireturn, 1) := by decide +kernel
set_option maxRecDepth 20000 in
theorem ggX3_longestWall_X3_on : GoodIn wsX3_longestWall wsX3_on := goodIn_r _ [8] (by decide +kernel) (by decide +kernel)
set_option maxRecDepth 20000 in
theorem gX3_longestWall_X3_on : GoodIn wsX3_longestWall (va_wsS RX3 13 yX3_on wsX3_on) := goodIn_app (goodIn_of _ (by decide +kernel)) ggX3_longestWall_X3_on
theorem dX3_longestWall_0 : decode cX3_longestWall 0 = .ok (.iconst 0, 1) := by decide +kernel
theorem dX3_longestWall_1 : decode cX3_longestWall 1 = .ok (.istore_n 2, 1) := by decide +kernel
theorem dX3_longestWall_2 : decode cX3_longestWall 2 = .ok (.iconst 0, 1) := by decide +kernel
theorem dX3_longestWall_3 : decode cX3_longestWall 3 = .ok (.istore_n 3, 1) := by decide +kernel
theorem dX3_longestWall_4 : decode cX3_longestWall 4 = .ok (.iconst 1, 1) := by decide +kernel
theorem dX3_longestWall_5 : decode cX3_longestWall 5 = .ok (.istore 4, 2) := by decide +kernel
theorem dX3_longestWall_7 : decode cX3_longestWall 7 = .ok (.iload 4, 2) := by decide +kernel
theorem dX3_longestWall_9 : decode cX3_longestWall 9 = .ok (.bipush 16, 2) := by decide +kernel
theorem dX3_longestWall_11 : decode cX3_longestWall 11 = .ok (.if_icmp .gt 33, 3) := by decide +kernel
theorem dX3_longestWall_14 : decode cX3_longestWall 14 = .ok (.lload_n 0, 1) := by decide +kernel
theorem dX3_longestWall_15 : decode cX3_longestWall 15 = .ok (.iload 4, 2) := by decide +kernel
theorem dX3_longestWall_17 : decode cX3_longestWall 17 = .ok (.invokestatic 13, 3) := by decide +kernel
theorem dX3_longestWall_20 : decode cX3_longestWall 20 = .ok (.iconst 2, 1) := by decide +kernel
theorem dX3_longestWall_21 : decode cX3_longestWall 21 = .ok (.if_icmp .lt 9, 3) := by decide +kernel
theorem dX3_longestWall_24 : decode cX3_longestWall 24 = .ok (.iload_n 3, 1) := by decide +kernel
theorem dX3_longestWall_25 : decode cX3_longestWall 25 = .ok (.iconst 1, 1) := by decide +kernel
theorem dX3_longestWall_26 : decode cX3_longestWall 26 = .ok (.iadd, 1) := by decide +kernel
theorem dX3_longestWall_27 : decode cX3_longestWall 27 = .ok (.goto 4, 3) := by decide +kernel
theorem dX3_longestWall_30 : decode cX3_longestWall 30 = .ok (.iconst 0, 1) := by decide +kernel
theorem dX3_longestWall_31 : decode cX3_longestWall 31 = .ok (.istore_n 3, 1) := by decide +kernel
theorem dX3_longestWall_32 : decode cX3_longestWall 32 = .ok (.iload_n 2, 1) := by decide +kernel
theorem dX3_longestWall_33 : decode cX3_longestWall 33 = .ok (.iload_n 3, 1) := by decide +kernel
theorem dX3_longestWall_34 : decode cX3_longestWall 34 = .ok (.invokestatic 17, 3) := by decide +kernel
theorem dX3_longestWall_37 : decode cX3_longestWall 37 = .ok (.istore_n 2, 1) := by decide +kernel
theorem dX3_longestWall_38 : decode cX3_longestWall 38 = .ok (.iinc 4 1, 3) := by decide +kernel
theorem dX3_longestWall_41 : decode cX3_longestWall 41 = .ok (.goto (-34), 3) := by decide +kernel
theorem dX3_longestWall_44 : decode cX3_longestWall 44 = .ok (.iload_n 2, 1) := by decide +kernel
theorem dX3_longestWall_45 : decode cX3_longestWall 45 = .ok (.ireturn, 1) := by decide +kernel
set_option maxRecDepth 20000 in
theorem ggX4_init_X5_init : GoodIn wsX4_init wsX5_init := goodIn_r _ [11, 12, 2, 3, 13, 14, 15, 16, 17, 18, 19, 20, 21] (by decide +kernel) (by decide +kernel)
set_option maxRecDepth 20000 in
theorem gX4_init_X5_init_n9 : GoodIn wsX4_init (wsX5_init) := ggX4_init_X5_init
theorem dX4_init_0 : decode cX4_init 0 = .ok (.aload_n 0, 1) := by decide +kernel
theorem dX4_init_1 : decode cX4_init 1 = .ok (.invokespecial 1, 3) := by decide +kernel
theorem dX4_init_4 : decode cX4_init 4 = .ok (.aload_n 0, 1) := by decide +kernel
theorem dX4_init_5 : decode cX4_init 5 = .ok (.new 7, 3) := by decide +kernel
theorem dX4_init_8 : decode cX4_init 8 = .ok (.dup, 1) := by decide +kernel
theorem dX4_init_9 : decode cX4_init 9 = .ok (.invokespecial 9, 3) := by decide +kernel
theorem dX4_init_12 : decode cX4_init 12 = .ok (.putfield 10, 3) := by decide +kernel
theorem dX4_init_15 : decode cX4_init 15 = .ok (.aload_n 0, 1) := by decide +kernel
theorem dX4_init_16 : decode cX4_init 16 = .ok (.new 7, 3) := by decide +kernel
theorem dX4_init_19 : decode cX4_init 19 = .ok (.dup, 1) := by decide +kernel
theorem dX4_init_20 : decode cX4_init 20 = .ok (.invokespecial 9, 3) := by decide +kernel
theorem dX4_init_23 : decode cX4_init 23 = .ok (.putfield 16, 3) := by decide +kernel
theorem dX4_init_26 : decode cX4_init 26 = .ok (.aload_n 0, 1) := by decide +kernel
theorem dX4_init_27 : decode cX4_init 27 = .ok (.new 7, 3) := by decide +kernel
theorem dX4_init_30 : decode cX4_init 30 = .ok (.dup, 1) := by decide +kernel
theorem dX4_init_31 : decode cX4_init 31 = .ok (.invokespecial 9, 3) := by decide +kernel
theorem dX4_init_34 : decode cX4_init 34 = .ok (.putfield 19, 3) := by decide +kernel
theorem dX4_init_37 : decode cX4_init 37 = .ok (.return_, 1) := by decide +kernel
set_option maxRecDepth 20000 in
theorem ggX4_countEnds_X5_clear : GoodIn wsX4_countEnds wsX5_clear := goodIn_r _ [9, 10, 111, 112, 113, 114] (by decide +kernel) (by decide +kernel)
set_option maxRecDepth 20000 in
theorem gX4_countEnds_X5_clear : GoodIn wsX4_countEnds (wsV RX4 22 RX5 yX5_clear wsX5_clear) := goodIn_app (goodIn_of _ (by decide +kernel)) ggX4_countEnds_X5_clear
set_option maxRecDepth 20000 in
theorem ggX4_countEnds_X5_add : GoodIn wsX4_countEnds wsX5_add := goodIn_r _ [14, 10, 15, 16, 17, 111, 112, 113, 114] (by decide +kernel) (by decide +kernel)
set_option maxRecDepth 20000 in
theorem gX4_countEnds_X5_add : GoodIn wsX4_countEnds (wsV RX4 25 RX5 yX5_add wsX5_add) := goodIn_app (goodIn_of _ (by decide +kernel)) ggX4_countEnds_X5_add
set_option maxRecDepth 20000 in
theorem ggX4_countEnds_X0_turned : GoodIn wsX4_countEnds wsX0_turned := goodIn_r _ [21, 22, 23, 20, 24, 25, 26, 27, 28, 29, 30] (by decide +kernel) (by decide +kernel)
set_option maxRecDepth 20000 in
theorem gX4_countEnds_X0_turned : GoodIn wsX4_countEnds (va_wsS RX4 29 yX0_turned wsX0_turned) := goodIn_app (goodIn_of _ (by decide +kernel)) ggX4_countEnds_X0_turned
set_option maxRecDepth 20000 in
theorem ggX4_countEnds_X5_mineAt : GoodIn wsX4_countEnds wsX5_mineAt := goodIn_r _ [34, 15, 35, 36, 37, 8, 38, 10, 111, 112, 113, 114] (by decide +kernel) (by decide +kernel)
set_option maxRecDepth 20000 in
theorem gX4_countEnds_X5_mineAt : GoodIn wsX4_countEnds (wsV RX4 39 RX5 yX5_mineAt wsX5_mineAt) := goodIn_app (goodIn_of _ (by decide +kernel)) ggX4_countEnds_X5_mineAt
set_option maxRecDepth 20000 in
theorem ggX4_countEnds_X5_theirsAt : GoodIn wsX4_countEnds wsX5_theirsAt := goodIn_r _ [42, 16, 35, 36, 37, 8, 38, 10, 111, 112, 113, 114] (by decide +kernel) (by decide +kernel)
set_option maxRecDepth 20000 in
theorem gX4_countEnds_X5_theirsAt : GoodIn wsX4_countEnds (wsV RX4 43 RX5 yX5_theirsAt wsX5_theirsAt) := goodIn_app (goodIn_of _ (by decide +kernel)) ggX4_countEnds_X5_theirsAt
set_option maxRecDepth 20000 in
theorem ggX4_countEnds_X5_diceAt : GoodIn wsX4_countEnds wsX5_diceAt := goodIn_r _ [46, 17, 35, 36, 37, 8, 38, 10, 111, 112, 113, 114] (by decide +kernel) (by decide +kernel)
set_option maxRecDepth 20000 in
theorem gX4_countEnds_X5_diceAt : GoodIn wsX4_countEnds (wsV RX4 46 RX5 yX5_diceAt wsX5_diceAt) := goodIn_app (goodIn_of _ (by decide +kernel)) ggX4_countEnds_X5_diceAt
set_option maxRecDepth 20000 in
theorem ggX4_countEnds_X4_goOn : GoodIn wsX4_countEnds wsX4_goOn := goodIn_r _ [51, 3, 1, 52, 53, 54, 55, 56, 57, 58, 59, 60, 20, 61, 25, 26, 27, 62, 23, 24, 63, 64, 65, 66, 67, 68, 69, 70, 71, 72, 73, 74, 75, 76, 77, 78, 79, 80, 81, 82, 83, 84, 85, 86, 87, 88, 89, 90, 91, 92, 93, 94, 95, 96, 97, 98, 99, 100, 101, 102, 103, 104, 105, 106, 107, 11, 12, 13, 8, 14, 10, 15, 16, 17, 108, 109, 110, 111, 112, 113, 114] (by decide +kernel) (by decide +kernel)
set_option maxRecDepth 20000 in
theorem gX4_countEnds_X4_goOn : GoodIn wsX4_countEnds (wsV RX4 49 RX4 yX4_goOn wsX4_goOn) := goodIn_app (goodIn_of _ (by decide +kernel)) ggX4_countEnds_X4_goOn
theorem dX4_countEnds_0 : decode cX4_countEnds 0 = .ok (.aload_n 0, 1) := by decide +kernel
theorem dX4_countEnds_1 : decode cX4_countEnds 1 = .ok (.getfield 19, 3) := by decide +kernel
theorem dX4_countEnds_4 : decode cX4_countEnds 4 = .ok (.invokevirtual 22, 3) := by decide +kernel
theorem dX4_countEnds_7 : decode cX4_countEnds 7 = .ok (.aload_n 0, 1) := by decide +kernel
theorem dX4_countEnds_8 : decode cX4_countEnds 8 = .ok (.getfield 10, 3) := by decide +kernel
theorem dX4_countEnds_11 : decode cX4_countEnds 11 = .ok (.invokevirtual 22, 3) := by decide +kernel
theorem dX4_countEnds_14 : decode cX4_countEnds 14 = .ok (.aload_n 0, 1) := by decide +kernel
theorem dX4_countEnds_15 : decode cX4_countEnds 15 = .ok (.getfield 10, 3) := by decide +kernel
theorem dX4_countEnds_18 : decode cX4_countEnds 18 = .ok (.lload_n 1, 1) := by decide +kernel
theorem dX4_countEnds_19 : decode cX4_countEnds 19 = .ok (.lload_n 3, 1) := by decide +kernel
theorem dX4_countEnds_20 : decode cX4_countEnds 20 = .ok (.iload 5, 2) := by decide +kernel
theorem dX4_countEnds_22 : decode cX4_countEnds 22 = .ok (.invokevirtual 25, 3) := by decide +kernel
theorem dX4_countEnds_25 : decode cX4_countEnds 25 = .ok (.iload 6, 2) := by decide +kernel
theorem dX4_countEnds_27 : decode cX4_countEnds 27 = .ok (.ifCond .eq 17, 3) := by decide +kernel
theorem dX4_countEnds_30 : decode cX4_countEnds 30 = .ok (.aload_n 0, 1) := by decide +kernel
theorem dX4_countEnds_31 : decode cX4_countEnds 31 = .ok (.getfield 10, 3) := by decide +kernel
theorem dX4_countEnds_34 : decode cX4_countEnds 34 = .ok (.lload_n 1, 1) := by decide +kernel
theorem dX4_countEnds_35 : decode cX4_countEnds 35 = .ok (.lload_n 3, 1) := by decide +kernel
theorem dX4_countEnds_36 : decode cX4_countEnds 36 = .ok (.iload 5, 2) := by decide +kernel
theorem dX4_countEnds_38 : decode cX4_countEnds 38 = .ok (.invokestatic 29, 3) := by decide +kernel
theorem dX4_countEnds_41 : decode cX4_countEnds 41 = .ok (.invokevirtual 25, 3) := by decide +kernel
theorem dX4_countEnds_44 : decode cX4_countEnds 44 = .ok (.iconst 0, 1) := by decide +kernel
theorem dX4_countEnds_45 : decode cX4_countEnds 45 = .ok (.istore 7, 2) := by decide +kernel
theorem dX4_countEnds_47 : decode cX4_countEnds 47 = .ok (.iload 7, 2) := by decide +kernel
theorem dX4_countEnds_49 : decode cX4_countEnds 49 = .ok (.iconst 4, 1) := by decide +kernel
theorem dX4_countEnds_50 : decode cX4_countEnds 50 = .ok (.if_icmp .gt 94, 3) := by decide +kernel
theorem dX4_countEnds_53 : decode cX4_countEnds 53 = .ok (.aload_n 0, 1) := by decide +kernel
theorem dX4_countEnds_54 : decode cX4_countEnds 54 = .ok (.getfield 16, 3) := by decide +kernel
theorem dX4_countEnds_57 : decode cX4_countEnds 57 = .ok (.invokevirtual 22, 3) := by decide +kernel
theorem dX4_countEnds_60 : decode cX4_countEnds 60 = .ok (.aload_n 0, 1) := by decide +kernel
theorem dX4_countEnds_61 : decode cX4_countEnds 61 = .ok (.getfield 10, 3) := by decide +kernel
theorem dX4_countEnds_64 : decode cX4_countEnds 64 = .ok (.getfield 35, 3) := by decide +kernel
theorem dX4_countEnds_67 : decode cX4_countEnds 67 = .ok (.istore 8, 2) := by decide +kernel
theorem dX4_countEnds_69 : decode cX4_countEnds 69 = .ok (.iconst 0, 1) := by decide +kernel
theorem dX4_countEnds_70 : decode cX4_countEnds 70 = .ok (.istore 9, 2) := by decide +kernel
theorem dX4_countEnds_72 : decode cX4_countEnds 72 = .ok (.iload 9, 2) := by decide +kernel
theorem dX4_countEnds_74 : decode cX4_countEnds 74 = .ok (.iload 8, 2) := by decide +kernel
theorem dX4_countEnds_76 : decode cX4_countEnds 76 = .ok (.if_icmp .ge 42, 3) := by decide +kernel
theorem dX4_countEnds_79 : decode cX4_countEnds 79 = .ok (.aload_n 0, 1) := by decide +kernel
theorem dX4_countEnds_80 : decode cX4_countEnds 80 = .ok (.aload_n 0, 1) := by decide +kernel
theorem dX4_countEnds_81 : decode cX4_countEnds 81 = .ok (.getfield 10, 3) := by decide +kernel
theorem dX4_countEnds_84 : decode cX4_countEnds 84 = .ok (.iload 9, 2) := by decide +kernel
theorem dX4_countEnds_86 : decode cX4_countEnds 86 = .ok (.invokevirtual 39, 3) := by decide +kernel
theorem dX4_countEnds_89 : decode cX4_countEnds 89 = .ok (.aload_n 0, 1) := by decide +kernel
theorem dX4_countEnds_90 : decode cX4_countEnds 90 = .ok (.getfield 10, 3) := by decide +kernel
theorem dX4_countEnds_93 : decode cX4_countEnds 93 = .ok (.iload 9, 2) := by decide +kernel
theorem dX4_countEnds_95 : decode cX4_countEnds 95 = .ok (.invokevirtual 43, 3) := by decide +kernel
theorem dX4_countEnds_98 : decode cX4_countEnds 98 = .ok (.aload_n 0, 1) := by decide +kernel
theorem dX4_countEnds_99 : decode cX4_countEnds 99 = .ok (.getfield 10, 3) := by decide +kernel
theorem dX4_countEnds_102 : decode cX4_countEnds 102 = .ok (.iload 9, 2) := by decide +kernel
theorem dX4_countEnds_104 : decode cX4_countEnds 104 = .ok (.invokevirtual 46, 3) := by decide +kernel
theorem dX4_countEnds_107 : decode cX4_countEnds 107 = .ok (.iload 6, 2) := by decide +kernel
theorem dX4_countEnds_109 : decode cX4_countEnds 109 = .ok (.invokevirtual 49, 3) := by decide +kernel
theorem dX4_countEnds_112 : decode cX4_countEnds 112 = .ok (.iinc 9 1, 3) := by decide +kernel
theorem dX4_countEnds_115 : decode cX4_countEnds 115 = .ok (.goto (-43), 3) := by decide +kernel
theorem dX4_countEnds_118 : decode cX4_countEnds 118 = .ok (.aload_n 0, 1) := by decide +kernel
theorem dX4_countEnds_119 : decode cX4_countEnds 119 = .ok (.getfield 10, 3) := by decide +kernel
theorem dX4_countEnds_122 : decode cX4_countEnds 122 = .ok (.astore 9, 2) := by decide +kernel
theorem dX4_countEnds_124 : decode cX4_countEnds 124 = .ok (.aload_n 0, 1) := by decide +kernel
theorem dX4_countEnds_125 : decode cX4_countEnds 125 = .ok (.aload_n 0, 1) := by decide +kernel
theorem dX4_countEnds_126 : decode cX4_countEnds 126 = .ok (.getfield 16, 3) := by decide +kernel
theorem dX4_countEnds_129 : decode cX4_countEnds 129 = .ok (.putfield 10, 3) := by decide +kernel
theorem dX4_countEnds_132 : decode cX4_countEnds 132 = .ok (.aload_n 0, 1) := by decide +kernel
theorem dX4_countEnds_133 : decode cX4_countEnds 133 = .ok (.aload 9, 2) := by decide +kernel
theorem dX4_countEnds_135 : decode cX4_countEnds 135 = .ok (.putfield 16, 3) := by decide +kernel
theorem dX4_countEnds_138 : decode cX4_countEnds 138 = .ok (.iinc 7 1, 3) := by decide +kernel
theorem dX4_countEnds_141 : decode cX4_countEnds 141 = .ok (.goto (-94), 3) := by decide +kernel
theorem dX4_countEnds_144 : decode cX4_countEnds 144 = .ok (.aload_n 0, 1) := by decide +kernel
theorem dX4_countEnds_145 : decode cX4_countEnds 145 = .ok (.getfield 19, 3) := by decide +kernel
theorem dX4_countEnds_148 : decode cX4_countEnds 148 = .ok (.getfield 35, 3) := by decide +kernel
theorem dX4_countEnds_151 : decode cX4_countEnds 151 = .ok (.ireturn, 1) := by decide +kernel
set_option maxRecDepth 20000 in
theorem ggX4_goOn_X7_reachOf : GoodIn wsX4_goOn wsX7_reachOf := goodIn_r _ [5, 6, 7, 8, 9, 10, 11, 12, 13, 14, 15, 16, 17, 18, 19, 20, 21, 22, 4, 23, 24, 25, 26, 27, 28, 29, 30, 31, 32, 33, 34, 35, 36, 37, 38, 39, 40, 41, 42, 43, 44, 45, 46, 47, 48, 49, 3] (by decide +kernel) (by decide +kernel)
set_option maxRecDepth 20000 in
theorem gX4_goOn_X7_reachOf_n53 : GoodIn wsX4_goOn (wsX7_reachOf) := ggX4_goOn_X7_reachOf
set_option maxRecDepth 20000 in
theorem ggX4_goOn_X0_kinds : GoodIn wsX4_goOn wsX0_kinds := goodIn_r _ [19, 14, 15, 12, 16] (by decide +kernel) (by decide +kernel)
set_option maxRecDepth 20000 in
theorem gX4_goOn_X0_kinds : GoodIn wsX4_goOn (va_wsS RX4 59 yX0_kinds wsX0_kinds) := goodIn_app (goodIn_of _ (by decide +kernel)) ggX4_goOn_X0_kinds
set_option maxRecDepth 20000 in
theorem ggX4_goOn_X0_at : GoodIn wsX4_goOn wsX0_at := goodIn_r _ [16] (by decide +kernel) (by decide +kernel)
set_option maxRecDepth 20000 in
theorem gX4_goOn_X0_at : GoodIn wsX4_goOn (va_wsS RX4 62 yX0_at wsX0_at) := goodIn_app (goodIn_of _ (by decide +kernel)) ggX4_goOn_X0_at
set_option maxRecDepth 20000 in
theorem ggX4_goOn_X7_reason : GoodIn wsX4_goOn wsX7_reason := goodIn_r _ [54, 21, 22, 4, 23, 24, 25, 12, 26, 27, 28, 29, 30, 31, 32, 33, 34, 35, 36, 37, 38, 39, 6, 7, 8, 9, 40, 41, 42, 43, 44, 45, 46, 47, 48, 14, 15, 16, 49, 3, 5, 10, 11, 13, 17, 18, 19, 20, 55, 56, 57, 58, 59, 60, 61] (by decide +kernel) (by decide +kernel)
set_option maxRecDepth 20000 in
theorem gX4_goOn_X7_reason : GoodIn wsX4_goOn (va_wsS RX4 68 yX7_reason wsX7_reason) := goodIn_app (goodIn_of _ (by decide +kernel)) ggX4_goOn_X7_reason
set_option maxRecDepth 20000 in
theorem ggX4_goOn_X7_mineBehind : GoodIn wsX4_goOn wsX7_mineBehind := goodIn_r _ [39, 6, 7, 8, 9, 40, 41, 29, 42] (by decide +kernel) (by decide +kernel)
set_option maxRecDepth 20000 in
theorem gX4_goOn_X7_mineBehind : GoodIn wsX4_goOn (va_wsS RX4 72 yX7_mineBehind wsX7_mineBehind) := goodIn_app (goodIn_of _ (by decide +kernel)) ggX4_goOn_X7_mineBehind
set_option maxRecDepth 20000 in
theorem ggX4_goOn_X7_theirsBehind : GoodIn wsX4_goOn wsX7_theirsBehind := goodIn_r _ [45, 31, 32, 29, 33, 40, 41, 42] (by decide +kernel) (by decide +kernel)
set_option maxRecDepth 20000 in
theorem gX4_goOn_X7_theirsBehind : GoodIn wsX4_goOn (va_wsS RX4 76 yX7_theirsBehind wsX7_theirsBehind) := goodIn_app (goodIn_of _ (by decide +kernel)) ggX4_goOn_X7_theirsBehind
set_option maxRecDepth 20000 in
theorem ggX4_goOn_X0_without : GoodIn wsX4_goOn wsX0_without := goodIn_r _ [48, 14, 15, 12, 16] (by decide +kernel) (by decide +kernel)
set_option maxRecDepth 20000 in
theorem gX4_goOn_X0_without : GoodIn wsX4_goOn (va_wsS RX4 79 yX0_without wsX0_without) := goodIn_app (goodIn_of _ (by decide +kernel)) ggX4_goOn_X0_without
set_option maxRecDepth 20000 in
theorem ggX4_goOn_X5_add : GoodIn wsX4_goOn wsX5_add := goodIn_r _ [69, 70, 71, 72, 73, 77, 78, 79, 80] (by decide +kernel) (by decide +kernel)
set_option maxRecDepth 20000 in
theorem gX4_goOn_X5_add : GoodIn wsX4_goOn (wsV RX4 25 RX5 yX5_add wsX5_add) := goodIn_app (goodIn_of _ (by decide +kernel)) ggX4_goOn_X5_add
theorem dX4_goOn_0 : decode cX4_goOn 0 = .ok (.lload_n 1, 1) := by decide +kernel
theorem dX4_goOn_1 : decode cX4_goOn 1 = .ok (.lload_n 3, 1) := by decide +kernel
theorem dX4_goOn_2 : decode cX4_goOn 2 = .ok (.iload 5, 2) := by decide +kernel
theorem dX4_goOn_4 : decode cX4_goOn 4 = .ok (.iconst 4, 1) := by decide +kernel
theorem dX4_goOn_5 : decode cX4_goOn 5 = .ok (.invokestatic 53, 3) := by decide +kernel
theorem dX4_goOn_8 : decode cX4_goOn 8 = .ok (.istore 7, 2) := by decide +kernel
theorem dX4_goOn_10 : decode cX4_goOn 10 = .ok (.iconst 0, 1) := by decide +kernel
theorem dX4_goOn_11 : decode cX4_goOn 11 = .ok (.istore 8, 2) := by decide +kernel
theorem dX4_goOn_13 : decode cX4_goOn 13 = .ok (.iconst 0, 1) := by decide +kernel
theorem dX4_goOn_14 : decode cX4_goOn 14 = .ok (.istore 9, 2) := by decide +kernel
theorem dX4_goOn_16 : decode cX4_goOn 16 = .ok (.iload 9, 2) := by decide +kernel
theorem dX4_goOn_18 : decode cX4_goOn 18 = .ok (.iload 5, 2) := by decide +kernel
theorem dX4_goOn_20 : decode cX4_goOn 20 = .ok (.invokestatic 59, 3) := by decide +kernel
theorem dX4_goOn_23 : decode cX4_goOn 23 = .ok (.if_icmp .ge 93, 3) := by decide +kernel
theorem dX4_goOn_26 : decode cX4_goOn 26 = .ok (.iload 6, 2) := by decide +kernel
theorem dX4_goOn_28 : decode cX4_goOn 28 = .ok (.ifCond .eq 8, 3) := by decide +kernel
theorem dX4_goOn_31 : decode cX4_goOn 31 = .ok (.iload 8, 2) := by decide +kernel
theorem dX4_goOn_33 : decode cX4_goOn 33 = .ok (.ifCond .ne 83, 3) := by decide +kernel
theorem dX4_goOn_36 : decode cX4_goOn 36 = .ok (.iload 5, 2) := by decide +kernel
theorem dX4_goOn_38 : decode cX4_goOn 38 = .ok (.iload 9, 2) := by decide +kernel
theorem dX4_goOn_40 : decode cX4_goOn 40 = .ok (.invokestatic 62, 3) := by decide +kernel
theorem dX4_goOn_43 : decode cX4_goOn 43 = .ok (.istore 10, 2) := by decide +kernel
theorem dX4_goOn_45 : decode cX4_goOn 45 = .ok (.iconst 1, 1) := by decide +kernel
theorem dX4_goOn_46 : decode cX4_goOn 46 = .ok (.istore 11, 2) := by decide +kernel
theorem dX4_goOn_48 : decode cX4_goOn 48 = .ok (.iload 11, 2) := by decide +kernel
theorem dX4_goOn_50 : decode cX4_goOn 50 = .ok (.bipush 17, 2) := by decide +kernel
theorem dX4_goOn_52 : decode cX4_goOn 52 = .ok (.if_icmp .gt 58, 3) := by decide +kernel
theorem dX4_goOn_55 : decode cX4_goOn 55 = .ok (.lload_n 1, 1) := by decide +kernel
theorem dX4_goOn_56 : decode cX4_goOn 56 = .ok (.lload_n 3, 1) := by decide +kernel
theorem dX4_goOn_57 : decode cX4_goOn 57 = .ok (.iload 5, 2) := by decide +kernel
theorem dX4_goOn_59 : decode cX4_goOn 59 = .ok (.iload 11, 2) := by decide +kernel
theorem dX4_goOn_61 : decode cX4_goOn 61 = .ok (.iload 10, 2) := by decide +kernel
theorem dX4_goOn_63 : decode cX4_goOn 63 = .ok (.iload 7, 2) := by decide +kernel
theorem dX4_goOn_65 : decode cX4_goOn 65 = .ok (.invokestatic 68, 3) := by decide +kernel
theorem dX4_goOn_68 : decode cX4_goOn 68 = .ok (.ifCond .ne 36, 3) := by decide +kernel
theorem dX4_goOn_71 : decode cX4_goOn 71 = .ok (.iconst 1, 1) := by decide +kernel
theorem dX4_goOn_72 : decode cX4_goOn 72 = .ok (.istore 8, 2) := by decide +kernel
theorem dX4_goOn_74 : decode cX4_goOn 74 = .ok (.aload_n 0, 1) := by decide +kernel
theorem dX4_goOn_75 : decode cX4_goOn 75 = .ok (.getfield 16, 3) := by decide +kernel
theorem dX4_goOn_78 : decode cX4_goOn 78 = .ok (.lload_n 1, 1) := by decide +kernel
theorem dX4_goOn_79 : decode cX4_goOn 79 = .ok (.iload 11, 2) := by decide +kernel
theorem dX4_goOn_81 : decode cX4_goOn 81 = .ok (.iload 10, 2) := by decide +kernel
theorem dX4_goOn_83 : decode cX4_goOn 83 = .ok (.invokestatic 72, 3) := by decide +kernel
theorem dX4_goOn_86 : decode cX4_goOn 86 = .ok (.lload_n 3, 1) := by decide +kernel
theorem dX4_goOn_87 : decode cX4_goOn 87 = .ok (.iload 11, 2) := by decide +kernel
theorem dX4_goOn_89 : decode cX4_goOn 89 = .ok (.iload 10, 2) := by decide +kernel
theorem dX4_goOn_91 : decode cX4_goOn 91 = .ok (.invokestatic 76, 3) := by decide +kernel
theorem dX4_goOn_94 : decode cX4_goOn 94 = .ok (.iload 5, 2) := by decide +kernel
theorem dX4_goOn_96 : decode cX4_goOn 96 = .ok (.iload 10, 2) := by decide +kernel
theorem dX4_goOn_98 : decode cX4_goOn 98 = .ok (.invokestatic 79, 3) := by decide +kernel
theorem dX4_goOn_101 : decode cX4_goOn 101 = .ok (.invokevirtual 25, 3) := by decide +kernel
theorem dX4_goOn_104 : decode cX4_goOn 104 = .ok (.iinc 11 1, 3) := by decide +kernel
theorem dX4_goOn_107 : decode cX4_goOn 107 = .ok (.goto (-59), 3) := by decide +kernel
theorem dX4_goOn_110 : decode cX4_goOn 110 = .ok (.iinc 9 1, 3) := by decide +kernel
theorem dX4_goOn_113 : decode cX4_goOn 113 = .ok (.goto (-97), 3) := by decide +kernel
theorem dX4_goOn_116 : decode cX4_goOn 116 = .ok (.iload 8, 2) := by decide +kernel
theorem dX4_goOn_118 : decode cX4_goOn 118 = .ok (.ifCond .ne 13, 3) := by decide +kernel
theorem dX4_goOn_121 : decode cX4_goOn 121 = .ok (.aload_n 0, 1) := by decide +kernel
theorem dX4_goOn_122 : decode cX4_goOn 122 = .ok (.getfield 19, 3) := by decide +kernel
theorem dX4_goOn_125 : decode cX4_goOn 125 = .ok (.lload_n 1, 1) := by decide +kernel
theorem dX4_goOn_126 : decode cX4_goOn 126 = .ok (.lload_n 3, 1) := by decide +kernel
theorem dX4_goOn_127 : decode cX4_goOn 127 = .ok (.iconst 0, 1) := by decide +kernel
theorem dX4_goOn_128 : decode cX4_goOn 128 = .ok (.invokevirtual 25, 3) := by decide +kernel
theorem dX4_goOn_131 : decode cX4_goOn 131 = .ok (.return_, 1) := by decide +kernel
theorem dX5_init_0 : decode cX5_init 0 = .ok (.aload_n 0, 1) := by decide +kernel
theorem dX5_init_1 : decode cX5_init 1 = .ok (.invokespecial 1, 3) := by decide +kernel
theorem dX5_init_4 : decode cX5_init 4 = .ok (.aload_n 0, 1) := by decide +kernel
theorem dX5_init_5 : decode cX5_init 5 = .ok (.sipush 128, 3) := by decide +kernel
theorem dX5_init_8 : decode cX5_init 8 = .ok (.newarray .long, 2) := by decide +kernel
theorem dX5_init_10 : decode cX5_init 10 = .ok (.putfield 9, 3) := by decide +kernel
theorem dX5_init_13 : decode cX5_init 13 = .ok (.aload_n 0, 1) := by decide +kernel
theorem dX5_init_14 : decode cX5_init 14 = .ok (.sipush 128, 3) := by decide +kernel
theorem dX5_init_17 : decode cX5_init 17 = .ok (.newarray .long, 2) := by decide +kernel
theorem dX5_init_19 : decode cX5_init 19 = .ok (.putfield 13, 3) := by decide +kernel
theorem dX5_init_22 : decode cX5_init 22 = .ok (.aload_n 0, 1) := by decide +kernel
theorem dX5_init_23 : decode cX5_init 23 = .ok (.sipush 128, 3) := by decide +kernel
theorem dX5_init_26 : decode cX5_init 26 = .ok (.newarray .int, 2) := by decide +kernel
theorem dX5_init_28 : decode cX5_init 28 = .ok (.putfield 16, 3) := by decide +kernel
theorem dX5_init_31 : decode cX5_init 31 = .ok (.return_, 1) := by decide +kernel
theorem dX5_isIn_0 : decode cX5_isIn 0 = .ok (.iload_n 1, 1) := by decide +kernel
theorem dX5_isIn_1 : decode cX5_isIn 1 = .ok (.ifCond .lt 22, 3) := by decide +kernel
theorem dX5_isIn_4 : decode cX5_isIn 4 = .ok (.iload_n 1, 1) := by decide +kernel
theorem dX5_isIn_5 : decode cX5_isIn 5 = .ok (.aload_n 0, 1) := by decide +kernel
theorem dX5_isIn_6 : decode cX5_isIn 6 = .ok (.getfield 20, 3) := by decide +kernel
theorem dX5_isIn_9 : decode cX5_isIn 9 = .ok (.if_icmp .ge 14, 3) := by decide +kernel
theorem dX5_isIn_12 : decode cX5_isIn 12 = .ok (.iload_n 1, 1) := by decide +kernel
theorem dX5_isIn_13 : decode cX5_isIn 13 = .ok (.sipush 128, 3) := by decide +kernel
theorem dX5_isIn_16 : decode cX5_isIn 16 = .ok (.if_icmp .ge 7, 3) := by decide +kernel
theorem dX5_isIn_19 : decode cX5_isIn 19 = .ok (.iconst 1, 1) := by decide +kernel
theorem dX5_isIn_20 : decode cX5_isIn 20 = .ok (.goto 4, 3) := by decide +kernel
theorem dX5_isIn_23 : decode cX5_isIn 23 = .ok (.iconst 0, 1) := by decide +kernel
theorem dX5_isIn_24 : decode cX5_isIn 24 = .ok (.ireturn, 1) := by decide +kernel
set_option maxRecDepth 20000 in
theorem ggX5_mineAt_X5_isIn : GoodIn wsX5_mineAt wsX5_isIn := goodIn_r _ [6, 7, 8, 9, 10, 11] (by decide +kernel) (by decide +kernel)
set_option maxRecDepth 20000 in
theorem gX5_mineAt_X5_isIn : GoodIn wsX5_mineAt (wsV RX5 24 RX5 yX5_isIn wsX5_isIn) := goodIn_app (goodIn_of _ (by decide +kernel)) ggX5_mineAt_X5_isIn
theorem dX5_mineAt_0 : decode cX5_mineAt 0 = .ok (.aload_n 0, 1) := by decide +kernel
theorem dX5_mineAt_1 : decode cX5_mineAt 1 = .ok (.iload_n 1, 1) := by decide +kernel
theorem dX5_mineAt_2 : decode cX5_mineAt 2 = .ok (.invokevirtual 24, 3) := by decide +kernel
theorem dX5_mineAt_5 : decode cX5_mineAt 5 = .ok (.ifCond .eq 12, 3) := by decide +kernel
theorem dX5_mineAt_8 : decode cX5_mineAt 8 = .ok (.aload_n 0, 1) := by decide +kernel
theorem dX5_mineAt_9 : decode cX5_mineAt 9 = .ok (.getfield 9, 3) := by decide +kernel
theorem dX5_mineAt_12 : decode cX5_mineAt 12 = .ok (.iload_n 1, 1) := by decide +kernel
theorem dX5_mineAt_13 : decode cX5_mineAt 13 = .ok (.laload, 1) := by decide +kernel
theorem dX5_mineAt_14 : decode cX5_mineAt 14 = .ok (.goto 4, 3) := by decide +kernel
theorem dX5_mineAt_17 : decode cX5_mineAt 17 = .ok (.lconst 0, 1) := by decide +kernel
theorem dX5_mineAt_18 : decode cX5_mineAt 18 = .ok (.lreturn, 1) := by decide +kernel
set_option maxRecDepth 20000 in
theorem ggX5_theirsAt_X5_isIn : GoodIn wsX5_theirsAt wsX5_isIn := goodIn_r _ [6, 7, 8, 9, 10, 11] (by decide +kernel) (by decide +kernel)
set_option maxRecDepth 20000 in
theorem gX5_theirsAt_X5_isIn : GoodIn wsX5_theirsAt (wsV RX5 24 RX5 yX5_isIn wsX5_isIn) := goodIn_app (goodIn_of _ (by decide +kernel)) ggX5_theirsAt_X5_isIn
theorem dX5_theirsAt_0 : decode cX5_theirsAt 0 = .ok (.aload_n 0, 1) := by decide +kernel
theorem dX5_theirsAt_1 : decode cX5_theirsAt 1 = .ok (.iload_n 1, 1) := by decide +kernel
theorem dX5_theirsAt_2 : decode cX5_theirsAt 2 = .ok (.invokevirtual 24, 3) := by decide +kernel
theorem dX5_theirsAt_5 : decode cX5_theirsAt 5 = .ok (.ifCond .eq 12, 3) := by decide +kernel
theorem dX5_theirsAt_8 : decode cX5_theirsAt 8 = .ok (.aload_n 0, 1) := by decide +kernel
theorem dX5_theirsAt_9 : decode cX5_theirsAt 9 = .ok (.getfield 13, 3) := by decide +kernel
theorem dX5_theirsAt_12 : decode cX5_theirsAt 12 = .ok (.iload_n 1, 1) := by decide +kernel
theorem dX5_theirsAt_13 : decode cX5_theirsAt 13 = .ok (.laload, 1) := by decide +kernel
theorem dX5_theirsAt_14 : decode cX5_theirsAt 14 = .ok (.goto 4, 3) := by decide +kernel
theorem dX5_theirsAt_17 : decode cX5_theirsAt 17 = .ok (.lconst 0, 1) := by decide +kernel
theorem dX5_theirsAt_18 : decode cX5_theirsAt 18 = .ok (.lreturn, 1) := by decide +kernel
set_option maxRecDepth 20000 in
theorem ggX5_diceAt_X5_isIn : GoodIn wsX5_diceAt wsX5_isIn := goodIn_r _ [6, 7, 8, 9, 10, 11] (by decide +kernel) (by decide +kernel)
set_option maxRecDepth 20000 in
theorem gX5_diceAt_X5_isIn : GoodIn wsX5_diceAt (wsV RX5 24 RX5 yX5_isIn wsX5_isIn) := goodIn_app (goodIn_of _ (by decide +kernel)) ggX5_diceAt_X5_isIn
theorem dX5_diceAt_0 : decode cX5_diceAt 0 = .ok (.aload_n 0, 1) := by decide +kernel
theorem dX5_diceAt_1 : decode cX5_diceAt 1 = .ok (.iload_n 1, 1) := by decide +kernel
theorem dX5_diceAt_2 : decode cX5_diceAt 2 = .ok (.invokevirtual 24, 3) := by decide +kernel
theorem dX5_diceAt_5 : decode cX5_diceAt 5 = .ok (.ifCond .eq 12, 3) := by decide +kernel
theorem dX5_diceAt_8 : decode cX5_diceAt 8 = .ok (.aload_n 0, 1) := by decide +kernel
theorem dX5_diceAt_9 : decode cX5_diceAt 9 = .ok (.getfield 16, 3) := by decide +kernel
theorem dX5_diceAt_12 : decode cX5_diceAt 12 = .ok (.iload_n 1, 1) := by decide +kernel
theorem dX5_diceAt_13 : decode cX5_diceAt 13 = .ok (.iaload, 1) := by decide +kernel
theorem dX5_diceAt_14 : decode cX5_diceAt 14 = .ok (.goto 4, 3) := by decide +kernel
theorem dX5_diceAt_17 : decode cX5_diceAt 17 = .ok (.iconst 0, 1) := by decide +kernel
theorem dX5_diceAt_18 : decode cX5_diceAt 18 = .ok (.ireturn, 1) := by decide +kernel
theorem dX5_clear_0 : decode cX5_clear 0 = .ok (.aload_n 0, 1) := by decide +kernel
theorem dX5_clear_1 : decode cX5_clear 1 = .ok (.iconst 0, 1) := by decide +kernel
theorem dX5_clear_2 : decode cX5_clear 2 = .ok (.putfield 20, 3) := by decide +kernel
theorem dX5_clear_5 : decode cX5_clear 5 = .ok (.return_, 1) := by decide +kernel
theorem dX5_add_0 : decode cX5_add 0 = .ok (.iconst 0, 1) := by decide +kernel
theorem dX5_add_1 : decode cX5_add 1 = .ok (.istore 6, 2) := by decide +kernel
theorem dX5_add_3 : decode cX5_add 3 = .ok (.iload 6, 2) := by decide +kernel
theorem dX5_add_5 : decode cX5_add 5 = .ok (.aload_n 0, 1) := by decide +kernel
theorem dX5_add_6 : decode cX5_add 6 = .ok (.getfield 20, 3) := by decide +kernel
theorem dX5_add_9 : decode cX5_add 9 = .ok (.if_icmp .ge 54, 3) := by decide +kernel
theorem dX5_add_12 : decode cX5_add 12 = .ok (.iload 6, 2) := by decide +kernel
theorem dX5_add_14 : decode cX5_add 14 = .ok (.sipush 128, 3) := by decide +kernel
theorem dX5_add_17 : decode cX5_add 17 = .ok (.if_icmp .ge 46, 3) := by decide +kernel
theorem dX5_add_20 : decode cX5_add 20 = .ok (.aload_n 0, 1) := by decide +kernel
theorem dX5_add_21 : decode cX5_add 21 = .ok (.getfield 9, 3) := by decide +kernel
theorem dX5_add_24 : decode cX5_add 24 = .ok (.iload 6, 2) := by decide +kernel
theorem dX5_add_26 : decode cX5_add 26 = .ok (.laload, 1) := by decide +kernel
theorem dX5_add_27 : decode cX5_add 27 = .ok (.lload_n 1, 1) := by decide +kernel
theorem dX5_add_28 : decode cX5_add 28 = .ok (.lcmp, 1) := by decide +kernel
theorem dX5_add_29 : decode cX5_add 29 = .ok (.ifCond .ne 28, 3) := by decide +kernel
theorem dX5_add_32 : decode cX5_add 32 = .ok (.aload_n 0, 1) := by decide +kernel
theorem dX5_add_33 : decode cX5_add 33 = .ok (.getfield 13, 3) := by decide +kernel
theorem dX5_add_36 : decode cX5_add 36 = .ok (.iload 6, 2) := by decide +kernel
theorem dX5_add_38 : decode cX5_add 38 = .ok (.laload, 1) := by decide +kernel
theorem dX5_add_39 : decode cX5_add 39 = .ok (.lload_n 3, 1) := by decide +kernel
theorem dX5_add_40 : decode cX5_add 40 = .ok (.lcmp, 1) := by decide +kernel
theorem dX5_add_41 : decode cX5_add 41 = .ok (.ifCond .ne 16, 3) := by decide +kernel
theorem dX5_add_44 : decode cX5_add 44 = .ok (.aload_n 0, 1) := by decide +kernel
theorem dX5_add_45 : decode cX5_add 45 = .ok (.getfield 16, 3) := by decide +kernel
theorem dX5_add_48 : decode cX5_add 48 = .ok (.iload 6, 2) := by decide +kernel
theorem dX5_add_50 : decode cX5_add 50 = .ok (.iaload, 1) := by decide +kernel
theorem dX5_add_51 : decode cX5_add 51 = .ok (.iload 5, 2) := by decide +kernel
theorem dX5_add_53 : decode cX5_add 53 = .ok (.if_icmp .ne 4, 3) := by decide +kernel
theorem dX5_add_56 : decode cX5_add 56 = .ok (.return_, 1) := by decide +kernel
theorem dX5_add_57 : decode cX5_add 57 = .ok (.iinc 6 1, 3) := by decide +kernel
theorem dX5_add_60 : decode cX5_add 60 = .ok (.goto (-57), 3) := by decide +kernel
theorem dX5_add_63 : decode cX5_add 63 = .ok (.aload_n 0, 1) := by decide +kernel
theorem dX5_add_64 : decode cX5_add 64 = .ok (.getfield 20, 3) := by decide +kernel
theorem dX5_add_67 : decode cX5_add 67 = .ok (.ifCond .lt 54, 3) := by decide +kernel
theorem dX5_add_70 : decode cX5_add 70 = .ok (.aload_n 0, 1) := by decide +kernel
theorem dX5_add_71 : decode cX5_add 71 = .ok (.getfield 20, 3) := by decide +kernel
theorem dX5_add_74 : decode cX5_add 74 = .ok (.sipush 128, 3) := by decide +kernel
theorem dX5_add_77 : decode cX5_add 77 = .ok (.if_icmp .ge 44, 3) := by decide +kernel
theorem dX5_add_80 : decode cX5_add 80 = .ok (.aload_n 0, 1) := by decide +kernel
theorem dX5_add_81 : decode cX5_add 81 = .ok (.getfield 9, 3) := by decide +kernel
theorem dX5_add_84 : decode cX5_add 84 = .ok (.aload_n 0, 1) := by decide +kernel
theorem dX5_add_85 : decode cX5_add 85 = .ok (.getfield 20, 3) := by decide +kernel
theorem dX5_add_88 : decode cX5_add 88 = .ok (.lload_n 1, 1) := by decide +kernel
theorem dX5_add_89 : decode cX5_add 89 = .ok (.lastore, 1) := by decide +kernel
theorem dX5_add_90 : decode cX5_add 90 = .ok (.aload_n 0, 1) := by decide +kernel
theorem dX5_add_91 : decode cX5_add 91 = .ok (.getfield 13, 3) := by decide +kernel
theorem dX5_add_94 : decode cX5_add 94 = .ok (.aload_n 0, 1) := by decide +kernel
theorem dX5_add_95 : decode cX5_add 95 = .ok (.getfield 20, 3) := by decide +kernel
theorem dX5_add_98 : decode cX5_add 98 = .ok (.lload_n 3, 1) := by decide +kernel
theorem dX5_add_99 : decode cX5_add 99 = .ok (.lastore, 1) := by decide +kernel
theorem dX5_add_100 : decode cX5_add 100 = .ok (.aload_n 0, 1) := by decide +kernel
theorem dX5_add_101 : decode cX5_add 101 = .ok (.getfield 16, 3) := by decide +kernel
theorem dX5_add_104 : decode cX5_add 104 = .ok (.aload_n 0, 1) := by decide +kernel
theorem dX5_add_105 : decode cX5_add 105 = .ok (.getfield 20, 3) := by decide +kernel
theorem dX5_add_108 : decode cX5_add 108 = .ok (.iload 5, 2) := by decide +kernel
theorem dX5_add_110 : decode cX5_add 110 = .ok (.iastore, 1) := by decide +kernel
theorem dX5_add_111 : decode cX5_add 111 = .ok (.aload_n 0, 1) := by decide +kernel
theorem dX5_add_112 : decode cX5_add 112 = .ok (.dup, 1) := by decide +kernel
theorem dX5_add_113 : decode cX5_add 113 = .ok (.getfield 20, 3) := by decide +kernel
theorem dX5_add_116 : decode cX5_add 116 = .ok (.iconst 1, 1) := by decide +kernel
theorem dX5_add_117 : decode cX5_add 117 = .ok (.iadd, 1) := by decide +kernel
theorem dX5_add_118 : decode cX5_add 118 = .ok (.putfield 20, 3) := by decide +kernel
theorem dX5_add_121 : decode cX5_add 121 = .ok (.return_, 1) := by decide +kernel
set_option maxRecDepth 20000 in
theorem ggX6_rollByRoll_X0_rolled : GoodIn wsX6_rollByRoll wsX0_rolled := goodIn_r _ [4] (by decide +kernel) (by decide +kernel)
set_option maxRecDepth 20000 in
theorem gX6_rollByRoll_X0_rolled : GoodIn wsX6_rollByRoll (va_wsS RX6 7 yX0_rolled wsX0_rolled) := goodIn_app (goodIn_of _ (by decide +kernel)) ggX6_rollByRoll_X0_rolled
set_option maxRecDepth 20000 in
theorem ggX6_rollByRoll_X6_canHit : GoodIn wsX6_rollByRoll wsX6_canHit := goodIn_r _ [8, 9, 10, 7, 11, 12, 13, 14, 15, 16, 17, 3, 18, 19, 20, 21, 22, 23, 24, 25, 26, 27, 28, 29, 30, 31, 32, 33, 34, 35, 2, 4] (by decide +kernel) (by decide +kernel)
set_option maxRecDepth 20000 in
theorem gX6_rollByRoll_X6_canHit : GoodIn wsX6_rollByRoll (va_wsS RX6 13 yX6_canHit wsX6_canHit) := goodIn_app (goodIn_of _ (by decide +kernel)) ggX6_rollByRoll_X6_canHit
theorem dX6_rollByRoll_0 : decode cX6_rollByRoll 0 = .ok (.iconst 0, 1) := by decide +kernel
theorem dX6_rollByRoll_1 : decode cX6_rollByRoll 1 = .ok (.istore 5, 2) := by decide +kernel
theorem dX6_rollByRoll_3 : decode cX6_rollByRoll 3 = .ok (.iconst 1, 1) := by decide +kernel
theorem dX6_rollByRoll_4 : decode cX6_rollByRoll 4 = .ok (.istore 6, 2) := by decide +kernel
theorem dX6_rollByRoll_6 : decode cX6_rollByRoll 6 = .ok (.iload 6, 2) := by decide +kernel
theorem dX6_rollByRoll_8 : decode cX6_rollByRoll 8 = .ok (.bipush 6, 2) := by decide +kernel
theorem dX6_rollByRoll_10 : decode cX6_rollByRoll 10 = .ok (.if_icmp .gt 52, 3) := by decide +kernel
theorem dX6_rollByRoll_13 : decode cX6_rollByRoll 13 = .ok (.iconst 1, 1) := by decide +kernel
theorem dX6_rollByRoll_14 : decode cX6_rollByRoll 14 = .ok (.istore 7, 2) := by decide +kernel
theorem dX6_rollByRoll_16 : decode cX6_rollByRoll 16 = .ok (.iload 7, 2) := by decide +kernel
theorem dX6_rollByRoll_18 : decode cX6_rollByRoll 18 = .ok (.bipush 6, 2) := by decide +kernel
theorem dX6_rollByRoll_20 : decode cX6_rollByRoll 20 = .ok (.if_icmp .gt 36, 3) := by decide +kernel
theorem dX6_rollByRoll_23 : decode cX6_rollByRoll 23 = .ok (.iload 5, 2) := by decide +kernel
theorem dX6_rollByRoll_25 : decode cX6_rollByRoll 25 = .ok (.lload_n 0, 1) := by decide +kernel
theorem dX6_rollByRoll_26 : decode cX6_rollByRoll 26 = .ok (.lload_n 2, 1) := by decide +kernel
theorem dX6_rollByRoll_27 : decode cX6_rollByRoll 27 = .ok (.iload 4, 2) := by decide +kernel
theorem dX6_rollByRoll_29 : decode cX6_rollByRoll 29 = .ok (.iload 6, 2) := by decide +kernel
theorem dX6_rollByRoll_31 : decode cX6_rollByRoll 31 = .ok (.iload 7, 2) := by decide +kernel
theorem dX6_rollByRoll_33 : decode cX6_rollByRoll 33 = .ok (.invokestatic 7, 3) := by decide +kernel
theorem dX6_rollByRoll_36 : decode cX6_rollByRoll 36 = .ok (.invokestatic 13, 3) := by decide +kernel
theorem dX6_rollByRoll_39 : decode cX6_rollByRoll 39 = .ok (.ifCond .eq 7, 3) := by decide +kernel
theorem dX6_rollByRoll_42 : decode cX6_rollByRoll 42 = .ok (.iconst 1, 1) := by decide +kernel
theorem dX6_rollByRoll_43 : decode cX6_rollByRoll 43 = .ok (.goto 4, 3) := by decide +kernel
theorem dX6_rollByRoll_46 : decode cX6_rollByRoll 46 = .ok (.iconst 0, 1) := by decide +kernel
theorem dX6_rollByRoll_47 : decode cX6_rollByRoll 47 = .ok (.iadd, 1) := by decide +kernel
theorem dX6_rollByRoll_48 : decode cX6_rollByRoll 48 = .ok (.istore 5, 2) := by decide +kernel
theorem dX6_rollByRoll_50 : decode cX6_rollByRoll 50 = .ok (.iinc 7 1, 3) := by decide +kernel
theorem dX6_rollByRoll_53 : decode cX6_rollByRoll 53 = .ok (.goto (-37), 3) := by decide +kernel
theorem dX6_rollByRoll_56 : decode cX6_rollByRoll 56 = .ok (.iinc 6 1, 3) := by decide +kernel
theorem dX6_rollByRoll_59 : decode cX6_rollByRoll 59 = .ok (.goto (-53), 3) := by decide +kernel
theorem dX6_rollByRoll_62 : decode cX6_rollByRoll 62 = .ok (.iload 5, 2) := by decide +kernel
theorem dX6_rollByRoll_64 : decode cX6_rollByRoll 64 = .ok (.ireturn, 1) := by decide +kernel
set_option maxRecDepth 20000 in
theorem ggX6_kindByKind_X0_rolled : GoodIn wsX6_kindByKind wsX0_rolled := goodIn_r _ [4] (by decide +kernel) (by decide +kernel)
set_option maxRecDepth 20000 in
theorem gX6_kindByKind_X0_rolled : GoodIn wsX6_kindByKind (va_wsS RX6 7 yX0_rolled wsX0_rolled) := goodIn_app (goodIn_of _ (by decide +kernel)) ggX6_kindByKind_X0_rolled
set_option maxRecDepth 20000 in
theorem ggX6_kindByKind_X6_canHit : GoodIn wsX6_kindByKind wsX6_canHit := goodIn_r _ [8, 9, 10, 7, 11, 12, 13, 14, 15, 16, 17, 3, 18, 19, 20, 21, 22, 23, 24, 25, 26, 27, 28, 29, 30, 31, 32, 33, 34, 35, 2, 4] (by decide +kernel) (by decide +kernel)
set_option maxRecDepth 20000 in
theorem gX6_kindByKind_X6_canHit : GoodIn wsX6_kindByKind (va_wsS RX6 13 yX6_canHit wsX6_canHit) := goodIn_app (goodIn_of _ (by decide +kernel)) ggX6_kindByKind_X6_canHit
theorem dX6_kindByKind_0 : decode cX6_kindByKind 0 = .ok (.iconst 0, 1) := by decide +kernel
theorem dX6_kindByKind_1 : decode cX6_kindByKind 1 = .ok (.istore 5, 2) := by decide +kernel
theorem dX6_kindByKind_3 : decode cX6_kindByKind 3 = .ok (.iconst 1, 1) := by decide +kernel
theorem dX6_kindByKind_4 : decode cX6_kindByKind 4 = .ok (.istore 6, 2) := by decide +kernel
theorem dX6_kindByKind_6 : decode cX6_kindByKind 6 = .ok (.iload 6, 2) := by decide +kernel
theorem dX6_kindByKind_8 : decode cX6_kindByKind 8 = .ok (.bipush 6, 2) := by decide +kernel
theorem dX6_kindByKind_10 : decode cX6_kindByKind 10 = .ok (.if_icmp .gt 68, 3) := by decide +kernel
theorem dX6_kindByKind_13 : decode cX6_kindByKind 13 = .ok (.iload 6, 2) := by decide +kernel
theorem dX6_kindByKind_15 : decode cX6_kindByKind 15 = .ok (.istore 7, 2) := by decide +kernel
theorem dX6_kindByKind_17 : decode cX6_kindByKind 17 = .ok (.iload 7, 2) := by decide +kernel
theorem dX6_kindByKind_19 : decode cX6_kindByKind 19 = .ok (.bipush 6, 2) := by decide +kernel
theorem dX6_kindByKind_21 : decode cX6_kindByKind 21 = .ok (.if_icmp .gt 51, 3) := by decide +kernel
theorem dX6_kindByKind_24 : decode cX6_kindByKind 24 = .ok (.iload 6, 2) := by decide +kernel
theorem dX6_kindByKind_26 : decode cX6_kindByKind 26 = .ok (.iload 7, 2) := by decide +kernel
theorem dX6_kindByKind_28 : decode cX6_kindByKind 28 = .ok (.if_icmp .ne 7, 3) := by decide +kernel
theorem dX6_kindByKind_31 : decode cX6_kindByKind 31 = .ok (.iconst 1, 1) := by decide +kernel
theorem dX6_kindByKind_32 : decode cX6_kindByKind 32 = .ok (.goto 4, 3) := by decide +kernel
theorem dX6_kindByKind_35 : decode cX6_kindByKind 35 = .ok (.iconst 2, 1) := by decide +kernel
theorem dX6_kindByKind_36 : decode cX6_kindByKind 36 = .ok (.istore 8, 2) := by decide +kernel
theorem dX6_kindByKind_38 : decode cX6_kindByKind 38 = .ok (.iload 5, 2) := by decide +kernel
theorem dX6_kindByKind_40 : decode cX6_kindByKind 40 = .ok (.lload_n 0, 1) := by decide +kernel
theorem dX6_kindByKind_41 : decode cX6_kindByKind 41 = .ok (.lload_n 2, 1) := by decide +kernel
theorem dX6_kindByKind_42 : decode cX6_kindByKind 42 = .ok (.iload 4, 2) := by decide +kernel
theorem dX6_kindByKind_44 : decode cX6_kindByKind 44 = .ok (.iload 6, 2) := by decide +kernel
theorem dX6_kindByKind_46 : decode cX6_kindByKind 46 = .ok (.iload 7, 2) := by decide +kernel
theorem dX6_kindByKind_48 : decode cX6_kindByKind 48 = .ok (.invokestatic 7, 3) := by decide +kernel
theorem dX6_kindByKind_51 : decode cX6_kindByKind 51 = .ok (.invokestatic 13, 3) := by decide +kernel
theorem dX6_kindByKind_54 : decode cX6_kindByKind 54 = .ok (.ifCond .eq 8, 3) := by decide +kernel
theorem dX6_kindByKind_57 : decode cX6_kindByKind 57 = .ok (.iload 8, 2) := by decide +kernel
theorem dX6_kindByKind_59 : decode cX6_kindByKind 59 = .ok (.goto 4, 3) := by decide +kernel
theorem dX6_kindByKind_62 : decode cX6_kindByKind 62 = .ok (.iconst 0, 1) := by decide +kernel
theorem dX6_kindByKind_63 : decode cX6_kindByKind 63 = .ok (.iadd, 1) := by decide +kernel
theorem dX6_kindByKind_64 : decode cX6_kindByKind 64 = .ok (.istore 5, 2) := by decide +kernel
theorem dX6_kindByKind_66 : decode cX6_kindByKind 66 = .ok (.iinc 7 1, 3) := by decide +kernel
theorem dX6_kindByKind_69 : decode cX6_kindByKind 69 = .ok (.goto (-52), 3) := by decide +kernel
theorem dX6_kindByKind_72 : decode cX6_kindByKind 72 = .ok (.iinc 6 1, 3) := by decide +kernel
theorem dX6_kindByKind_75 : decode cX6_kindByKind 75 = .ok (.goto (-69), 3) := by decide +kernel
theorem dX6_kindByKind_78 : decode cX6_kindByKind 78 = .ok (.iload 5, 2) := by decide +kernel
theorem dX6_kindByKind_80 : decode cX6_kindByKind 80 = .ok (.ireturn, 1) := by decide +kernel
set_option maxRecDepth 20000 in
theorem ggX6_canHit_X6_hitsInOrder : GoodIn wsX6_canHit wsX6_hitsInOrder := goodIn_r _ [4, 5, 6, 7, 8, 9, 10, 11, 12, 13, 14, 15, 16, 17, 18, 19, 20, 3, 21] (by decide +kernel) (by decide +kernel)
set_option maxRecDepth 20000 in
theorem gX6_canHit_X6_hitsInOrder : GoodIn wsX6_canHit (va_wsS RX6 19 yX6_hitsInOrder wsX6_hitsInOrder) := goodIn_app (goodIn_of _ (by decide +kernel)) ggX6_canHit_X6_hitsInOrder
set_option maxRecDepth 20000 in
theorem ggX6_canHit_X0_turned : GoodIn wsX6_canHit wsX0_turned := goodIn_r _ [24, 25, 26, 11, 27, 28, 10, 12, 29, 30, 31] (by decide +kernel) (by decide +kernel)
set_option maxRecDepth 20000 in
theorem gX6_canHit_X0_turned : GoodIn wsX6_canHit (va_wsS RX6 22 yX0_turned wsX0_turned) := goodIn_app (goodIn_of _ (by decide +kernel)) ggX6_canHit_X0_turned
theorem dX6_canHit_0 : decode cX6_canHit 0 = .ok (.lload_n 0, 1) := by decide +kernel
theorem dX6_canHit_1 : decode cX6_canHit 1 = .ok (.lload_n 2, 1) := by decide +kernel
theorem dX6_canHit_2 : decode cX6_canHit 2 = .ok (.iload 4, 2) := by decide +kernel
theorem dX6_canHit_4 : decode cX6_canHit 4 = .ok (.iload 5, 2) := by decide +kernel
theorem dX6_canHit_6 : decode cX6_canHit 6 = .ok (.invokestatic 19, 3) := by decide +kernel
theorem dX6_canHit_9 : decode cX6_canHit 9 = .ok (.ifCond .ne 18, 3) := by decide +kernel
theorem dX6_canHit_12 : decode cX6_canHit 12 = .ok (.lload_n 0, 1) := by decide +kernel
theorem dX6_canHit_13 : decode cX6_canHit 13 = .ok (.lload_n 2, 1) := by decide +kernel
theorem dX6_canHit_14 : decode cX6_canHit 14 = .ok (.iload 4, 2) := by decide +kernel
theorem dX6_canHit_16 : decode cX6_canHit 16 = .ok (.iload 5, 2) := by decide +kernel
theorem dX6_canHit_18 : decode cX6_canHit 18 = .ok (.invokestatic 22, 3) := by decide +kernel
theorem dX6_canHit_21 : decode cX6_canHit 21 = .ok (.invokestatic 19, 3) := by decide +kernel
theorem dX6_canHit_24 : decode cX6_canHit 24 = .ok (.ifCond .eq 7, 3) := by decide +kernel
theorem dX6_canHit_27 : decode cX6_canHit 27 = .ok (.iconst 1, 1) := by decide +kernel
theorem dX6_canHit_28 : decode cX6_canHit 28 = .ok (.goto 4, 3) := by decide +kernel
theorem dX6_canHit_31 : decode cX6_canHit 31 = .ok (.iconst 0, 1) := by decide +kernel
theorem dX6_canHit_32 : decode cX6_canHit 32 = .ok (.ireturn, 1) := by decide +kernel
set_option maxRecDepth 20000 in
theorem ggX6_hitsInOrder_X3_on : GoodIn wsX6_hitsInOrder wsX3_on := goodIn_r _ [4] (by decide +kernel) (by decide +kernel)
set_option maxRecDepth 20000 in
theorem gX6_hitsInOrder_X3_on : GoodIn wsX6_hitsInOrder (va_wsS RX6 28 yX3_on wsX3_on) := goodIn_app (goodIn_of _ (by decide +kernel)) ggX6_hitsInOrder_X3_on
set_option maxRecDepth 20000 in
theorem ggX6_hitsInOrder_X0_at : GoodIn wsX6_hitsInOrder wsX0_at := goodIn_r _ [8] (by decide +kernel) (by decide +kernel)
set_option maxRecDepth 20000 in
theorem gX6_hitsInOrder_X0_at : GoodIn wsX6_hitsInOrder (va_wsS RX6 32 yX0_at wsX0_at) := goodIn_app (goodIn_of _ (by decide +kernel)) ggX6_hitsInOrder_X0_at
set_option maxRecDepth 20000 in
theorem ggX6_hitsInOrder_X3_across : GoodIn wsX6_hitsInOrder wsX3_across := goodIn_r _ [11] (by decide +kernel) (by decide +kernel)
set_option maxRecDepth 20000 in
theorem gX6_hitsInOrder_X3_across : GoodIn wsX6_hitsInOrder (va_wsS RX6 35 yX3_across wsX3_across) := goodIn_app (goodIn_of _ (by decide +kernel)) ggX6_hitsInOrder_X3_across
set_option maxRecDepth 20000 in
theorem ggX6_hitsInOrder_X3_moved : GoodIn wsX6_hitsInOrder wsX3_moved := goodIn_r _ [14] (by decide +kernel) (by decide +kernel)
set_option maxRecDepth 20000 in
theorem gX6_hitsInOrder_X3_moved : GoodIn wsX6_hitsInOrder (va_wsS RX6 38 yX3_moved wsX3_moved) := goodIn_app (goodIn_of _ (by decide +kernel)) ggX6_hitsInOrder_X3_moved
set_option maxRecDepth 20000 in
theorem ggX6_hitsInOrder_X6_walksInto : GoodIn wsX6_hitsInOrder wsX6_walksInto := goodIn_r _ [18, 5, 6, 7, 8, 9, 10, 3, 11] (by decide +kernel) (by decide +kernel)
set_option maxRecDepth 20000 in
theorem gX6_hitsInOrder_X6_walksInto : GoodIn wsX6_hitsInOrder (va_wsS RX6 42 yX6_walksInto wsX6_walksInto) := goodIn_app (goodIn_of _ (by decide +kernel)) ggX6_hitsInOrder_X6_walksInto
theorem dX6_hitsInOrder_0 : decode cX6_hitsInOrder 0 = .ok (.lload_n 0, 1) := by decide +kernel
theorem dX6_hitsInOrder_1 : decode cX6_hitsInOrder 1 = .ok (.lstore 6, 2) := by decide +kernel
theorem dX6_hitsInOrder_3 : decode cX6_hitsInOrder 3 = .ok (.iload 5, 2) := by decide +kernel
theorem dX6_hitsInOrder_5 : decode cX6_hitsInOrder 5 = .ok (.istore 8, 2) := by decide +kernel
theorem dX6_hitsInOrder_7 : decode cX6_hitsInOrder 7 = .ok (.iconst 0, 1) := by decide +kernel
theorem dX6_hitsInOrder_8 : decode cX6_hitsInOrder 8 = .ok (.istore 9, 2) := by decide +kernel
theorem dX6_hitsInOrder_10 : decode cX6_hitsInOrder 10 = .ok (.iload 9, 2) := by decide +kernel
theorem dX6_hitsInOrder_12 : decode cX6_hitsInOrder 12 = .ok (.iconst 4, 1) := by decide +kernel
theorem dX6_hitsInOrder_13 : decode cX6_hitsInOrder 13 = .ok (.if_icmp .ge 73, 3) := by decide +kernel
theorem dX6_hitsInOrder_16 : decode cX6_hitsInOrder 16 = .ok (.iload 8, 2) := by decide +kernel
theorem dX6_hitsInOrder_18 : decode cX6_hitsInOrder 18 = .ok (.ifCond .eq 68, 3) := by decide +kernel
theorem dX6_hitsInOrder_21 : decode cX6_hitsInOrder 21 = .ok (.lload 6, 2) := by decide +kernel
theorem dX6_hitsInOrder_23 : decode cX6_hitsInOrder 23 = .ok (.bipush 17, 2) := by decide +kernel
theorem dX6_hitsInOrder_25 : decode cX6_hitsInOrder 25 = .ok (.invokestatic 28, 3) := by decide +kernel
theorem dX6_hitsInOrder_28 : decode cX6_hitsInOrder 28 = .ok (.ifCond .le 58, 3) := by decide +kernel
theorem dX6_hitsInOrder_31 : decode cX6_hitsInOrder 31 = .ok (.bipush 17, 2) := by decide +kernel
theorem dX6_hitsInOrder_33 : decode cX6_hitsInOrder 33 = .ok (.iload 8, 2) := by decide +kernel
theorem dX6_hitsInOrder_35 : decode cX6_hitsInOrder 35 = .ok (.iconst 0, 1) := by decide +kernel
theorem dX6_hitsInOrder_36 : decode cX6_hitsInOrder 36 = .ok (.invokestatic 32, 3) := by decide +kernel
theorem dX6_hitsInOrder_39 : decode cX6_hitsInOrder 39 = .ok (.isub, 1) := by decide +kernel
theorem dX6_hitsInOrder_40 : decode cX6_hitsInOrder 40 = .ok (.istore 10, 2) := by decide +kernel
theorem dX6_hitsInOrder_42 : decode cX6_hitsInOrder 42 = .ok (.iload 10, 2) := by decide +kernel
theorem dX6_hitsInOrder_44 : decode cX6_hitsInOrder 44 = .ok (.iload 4, 2) := by decide +kernel
theorem dX6_hitsInOrder_46 : decode cX6_hitsInOrder 46 = .ok (.if_icmp .ne 5, 3) := by decide +kernel
theorem dX6_hitsInOrder_49 : decode cX6_hitsInOrder 49 = .ok (.iconst 1, 1) := by decide +kernel
theorem dX6_hitsInOrder_50 : decode cX6_hitsInOrder 50 = .ok (.ireturn, 1) := by decide +kernel
theorem dX6_hitsInOrder_51 : decode cX6_hitsInOrder 51 = .ok (.lload_n 2, 1) := by decide +kernel
theorem dX6_hitsInOrder_52 : decode cX6_hitsInOrder 52 = .ok (.iload 10, 2) := by decide +kernel
theorem dX6_hitsInOrder_54 : decode cX6_hitsInOrder 54 = .ok (.invokestatic 35, 3) := by decide +kernel
theorem dX6_hitsInOrder_57 : decode cX6_hitsInOrder 57 = .ok (.iconst 2, 1) := by decide +kernel
theorem dX6_hitsInOrder_58 : decode cX6_hitsInOrder 58 = .ok (.if_icmp .lt 5, 3) := by decide +kernel
theorem dX6_hitsInOrder_61 : decode cX6_hitsInOrder 61 = .ok (.iconst 0, 1) := by decide +kernel
theorem dX6_hitsInOrder_62 : decode cX6_hitsInOrder 62 = .ok (.ireturn, 1) := by decide +kernel
theorem dX6_hitsInOrder_63 : decode cX6_hitsInOrder 63 = .ok (.lload 6, 2) := by decide +kernel
theorem dX6_hitsInOrder_65 : decode cX6_hitsInOrder 65 = .ok (.bipush 17, 2) := by decide +kernel
theorem dX6_hitsInOrder_67 : decode cX6_hitsInOrder 67 = .ok (.iload 10, 2) := by decide +kernel
theorem dX6_hitsInOrder_69 : decode cX6_hitsInOrder 69 = .ok (.invokestatic 38, 3) := by decide +kernel
theorem dX6_hitsInOrder_72 : decode cX6_hitsInOrder 72 = .ok (.lstore 6, 2) := by decide +kernel
theorem dX6_hitsInOrder_74 : decode cX6_hitsInOrder 74 = .ok (.iload 8, 2) := by decide +kernel
theorem dX6_hitsInOrder_76 : decode cX6_hitsInOrder 76 = .ok (.iconst 3, 1) := by decide +kernel
theorem dX6_hitsInOrder_77 : decode cX6_hitsInOrder 77 = .ok (.iushr, 1) := by decide +kernel
theorem dX6_hitsInOrder_78 : decode cX6_hitsInOrder 78 = .ok (.istore 8, 2) := by decide +kernel
theorem dX6_hitsInOrder_80 : decode cX6_hitsInOrder 80 = .ok (.iinc 9 1, 3) := by decide +kernel
theorem dX6_hitsInOrder_83 : decode cX6_hitsInOrder 83 = .ok (.goto (-73), 3) := by decide +kernel
theorem dX6_hitsInOrder_86 : decode cX6_hitsInOrder 86 = .ok (.iload 4, 2) := by decide +kernel
theorem dX6_hitsInOrder_88 : decode cX6_hitsInOrder 88 = .ok (.iconst 1, 1) := by decide +kernel
theorem dX6_hitsInOrder_89 : decode cX6_hitsInOrder 89 = .ok (.iadd, 1) := by decide +kernel
theorem dX6_hitsInOrder_90 : decode cX6_hitsInOrder 90 = .ok (.istore 9, 2) := by decide +kernel
theorem dX6_hitsInOrder_92 : decode cX6_hitsInOrder 92 = .ok (.iload 9, 2) := by decide +kernel
theorem dX6_hitsInOrder_94 : decode cX6_hitsInOrder 94 = .ok (.bipush 16, 2) := by decide +kernel
theorem dX6_hitsInOrder_96 : decode cX6_hitsInOrder 96 = .ok (.if_icmp .gt 34, 3) := by decide +kernel
theorem dX6_hitsInOrder_99 : decode cX6_hitsInOrder 99 = .ok (.lload 6, 2) := by decide +kernel
theorem dX6_hitsInOrder_101 : decode cX6_hitsInOrder 101 = .ok (.iload 9, 2) := by decide +kernel
theorem dX6_hitsInOrder_103 : decode cX6_hitsInOrder 103 = .ok (.invokestatic 28, 3) := by decide +kernel
theorem dX6_hitsInOrder_106 : decode cX6_hitsInOrder 106 = .ok (.ifCond .le 18, 3) := by decide +kernel
theorem dX6_hitsInOrder_109 : decode cX6_hitsInOrder 109 = .ok (.iload 9, 2) := by decide +kernel
theorem dX6_hitsInOrder_111 : decode cX6_hitsInOrder 111 = .ok (.lload_n 2, 1) := by decide +kernel
theorem dX6_hitsInOrder_112 : decode cX6_hitsInOrder 112 = .ok (.iload 4, 2) := by decide +kernel
theorem dX6_hitsInOrder_114 : decode cX6_hitsInOrder 114 = .ok (.iload 8, 2) := by decide +kernel
theorem dX6_hitsInOrder_116 : decode cX6_hitsInOrder 116 = .ok (.invokestatic 42, 3) := by decide +kernel
theorem dX6_hitsInOrder_119 : decode cX6_hitsInOrder 119 = .ok (.ifCond .eq 5, 3) := by decide +kernel
theorem dX6_hitsInOrder_122 : decode cX6_hitsInOrder 122 = .ok (.iconst 1, 1) := by decide +kernel
theorem dX6_hitsInOrder_123 : decode cX6_hitsInOrder 123 = .ok (.ireturn, 1) := by decide +kernel
theorem dX6_hitsInOrder_124 : decode cX6_hitsInOrder 124 = .ok (.iinc 9 1, 3) := by decide +kernel
theorem dX6_hitsInOrder_127 : decode cX6_hitsInOrder 127 = .ok (.goto (-35), 3) := by decide +kernel
theorem dX6_hitsInOrder_130 : decode cX6_hitsInOrder 130 = .ok (.iconst 0, 1) := by decide +kernel
theorem dX6_hitsInOrder_131 : decode cX6_hitsInOrder 131 = .ok (.ireturn, 1) := by decide +kernel
set_option maxRecDepth 20000 in
theorem ggX6_walksInto_X0_at : GoodIn wsX6_walksInto wsX0_at := goodIn_r _ [4] (by decide +kernel) (by decide +kernel)
set_option maxRecDepth 20000 in
theorem gX6_walksInto_X0_at : GoodIn wsX6_walksInto (va_wsS RX6 32 yX0_at wsX0_at) := goodIn_app (goodIn_of _ (by decide +kernel)) ggX6_walksInto_X0_at
set_option maxRecDepth 20000 in
theorem ggX6_walksInto_X3_across : GoodIn wsX6_walksInto wsX3_across := goodIn_r _ [8] (by decide +kernel) (by decide +kernel)
set_option maxRecDepth 20000 in
theorem gX6_walksInto_X3_across : GoodIn wsX6_walksInto (va_wsS RX6 35 yX3_across wsX3_across) := goodIn_app (goodIn_of _ (by decide +kernel)) ggX6_walksInto_X3_across
theorem dX6_walksInto_0 : decode cX6_walksInto 0 = .ok (.iload_n 0, 1) := by decide +kernel
theorem dX6_walksInto_1 : decode cX6_walksInto 1 = .ok (.istore 5, 2) := by decide +kernel
theorem dX6_walksInto_3 : decode cX6_walksInto 3 = .ok (.iconst 0, 1) := by decide +kernel
theorem dX6_walksInto_4 : decode cX6_walksInto 4 = .ok (.istore 6, 2) := by decide +kernel
theorem dX6_walksInto_6 : decode cX6_walksInto 6 = .ok (.iload 6, 2) := by decide +kernel
theorem dX6_walksInto_8 : decode cX6_walksInto 8 = .ok (.iconst 4, 1) := by decide +kernel
theorem dX6_walksInto_9 : decode cX6_walksInto 9 = .ok (.if_icmp .ge 57, 3) := by decide +kernel
theorem dX6_walksInto_12 : decode cX6_walksInto 12 = .ok (.iload 4, 2) := by decide +kernel
theorem dX6_walksInto_14 : decode cX6_walksInto 14 = .ok (.iload 6, 2) := by decide +kernel
theorem dX6_walksInto_16 : decode cX6_walksInto 16 = .ok (.invokestatic 32, 3) := by decide +kernel
theorem dX6_walksInto_19 : decode cX6_walksInto 19 = .ok (.ifCond .eq 47, 3) := by decide +kernel
theorem dX6_walksInto_22 : decode cX6_walksInto 22 = .ok (.iload 5, 2) := by decide +kernel
theorem dX6_walksInto_24 : decode cX6_walksInto 24 = .ok (.iload 4, 2) := by decide +kernel
theorem dX6_walksInto_26 : decode cX6_walksInto 26 = .ok (.iload 6, 2) := by decide +kernel
theorem dX6_walksInto_28 : decode cX6_walksInto 28 = .ok (.invokestatic 32, 3) := by decide +kernel
theorem dX6_walksInto_31 : decode cX6_walksInto 31 = .ok (.isub, 1) := by decide +kernel
theorem dX6_walksInto_32 : decode cX6_walksInto 32 = .ok (.istore 5, 2) := by decide +kernel
theorem dX6_walksInto_34 : decode cX6_walksInto 34 = .ok (.iload 5, 2) := by decide +kernel
theorem dX6_walksInto_36 : decode cX6_walksInto 36 = .ok (.iload_n 3, 1) := by decide +kernel
theorem dX6_walksInto_37 : decode cX6_walksInto 37 = .ok (.if_icmp .ne 5, 3) := by decide +kernel
theorem dX6_walksInto_40 : decode cX6_walksInto 40 = .ok (.iconst 1, 1) := by decide +kernel
theorem dX6_walksInto_41 : decode cX6_walksInto 41 = .ok (.ireturn, 1) := by decide +kernel
theorem dX6_walksInto_42 : decode cX6_walksInto 42 = .ok (.iload 5, 2) := by decide +kernel
theorem dX6_walksInto_44 : decode cX6_walksInto 44 = .ok (.iload_n 3, 1) := by decide +kernel
theorem dX6_walksInto_45 : decode cX6_walksInto 45 = .ok (.if_icmp .lt 13, 3) := by decide +kernel
theorem dX6_walksInto_48 : decode cX6_walksInto 48 = .ok (.lload_n 1, 1) := by decide +kernel
theorem dX6_walksInto_49 : decode cX6_walksInto 49 = .ok (.iload 5, 2) := by decide +kernel
theorem dX6_walksInto_51 : decode cX6_walksInto 51 = .ok (.invokestatic 35, 3) := by decide +kernel
theorem dX6_walksInto_54 : decode cX6_walksInto 54 = .ok (.iconst 2, 1) := by decide +kernel
theorem dX6_walksInto_55 : decode cX6_walksInto 55 = .ok (.if_icmp .lt 5, 3) := by decide +kernel
theorem dX6_walksInto_58 : decode cX6_walksInto 58 = .ok (.iconst 0, 1) := by decide +kernel
theorem dX6_walksInto_59 : decode cX6_walksInto 59 = .ok (.ireturn, 1) := by decide +kernel
theorem dX6_walksInto_60 : decode cX6_walksInto 60 = .ok (.iinc 6 1, 3) := by decide +kernel
theorem dX6_walksInto_63 : decode cX6_walksInto 63 = .ok (.goto (-57), 3) := by decide +kernel
theorem dX6_walksInto_66 : decode cX6_walksInto 66 = .ok (.iconst 0, 1) := by decide +kernel
theorem dX6_walksInto_67 : decode cX6_walksInto 67 = .ok (.ireturn, 1) := by decide +kernel
set_option maxRecDepth 20000 in
theorem ggX6_rollsThatEnter_X3_across : GoodIn wsX6_rollsThatEnter wsX3_across := goodIn_r _ [4] (by decide +kernel) (by decide +kernel)
set_option maxRecDepth 20000 in
theorem gX6_rollsThatEnter_X3_across : GoodIn wsX6_rollsThatEnter (va_wsS RX6 35 yX3_across wsX3_across) := goodIn_app (goodIn_of _ (by decide +kernel)) ggX6_rollsThatEnter_X3_across
theorem dX6_rollsThatEnter_0 : decode cX6_rollsThatEnter 0 = .ok (.iconst 0, 1) := by decide +kernel
theorem dX6_rollsThatEnter_1 : decode cX6_rollsThatEnter 1 = .ok (.istore_n 2, 1) := by decide +kernel
theorem dX6_rollsThatEnter_2 : decode cX6_rollsThatEnter 2 = .ok (.iconst 1, 1) := by decide +kernel
theorem dX6_rollsThatEnter_3 : decode cX6_rollsThatEnter 3 = .ok (.istore_n 3, 1) := by decide +kernel
theorem dX6_rollsThatEnter_4 : decode cX6_rollsThatEnter 4 = .ok (.iload_n 3, 1) := by decide +kernel
theorem dX6_rollsThatEnter_5 : decode cX6_rollsThatEnter 5 = .ok (.bipush 6, 2) := by decide +kernel
theorem dX6_rollsThatEnter_7 : decode cX6_rollsThatEnter 7 = .ok (.if_icmp .gt 29, 3) := by decide +kernel
theorem dX6_rollsThatEnter_10 : decode cX6_rollsThatEnter 10 = .ok (.iload_n 2, 1) := by decide +kernel
theorem dX6_rollsThatEnter_11 : decode cX6_rollsThatEnter 11 = .ok (.lload_n 0, 1) := by decide +kernel
theorem dX6_rollsThatEnter_12 : decode cX6_rollsThatEnter 12 = .ok (.bipush 17, 2) := by decide +kernel
theorem dX6_rollsThatEnter_14 : decode cX6_rollsThatEnter 14 = .ok (.iload_n 3, 1) := by decide +kernel
theorem dX6_rollsThatEnter_15 : decode cX6_rollsThatEnter 15 = .ok (.isub, 1) := by decide +kernel
theorem dX6_rollsThatEnter_16 : decode cX6_rollsThatEnter 16 = .ok (.invokestatic 35, 3) := by decide +kernel
theorem dX6_rollsThatEnter_19 : decode cX6_rollsThatEnter 19 = .ok (.iconst 2, 1) := by decide +kernel
theorem dX6_rollsThatEnter_20 : decode cX6_rollsThatEnter 20 = .ok (.if_icmp .lt 7, 3) := by decide +kernel
theorem dX6_rollsThatEnter_23 : decode cX6_rollsThatEnter 23 = .ok (.iconst 1, 1) := by decide +kernel
theorem dX6_rollsThatEnter_24 : decode cX6_rollsThatEnter 24 = .ok (.goto 4, 3) := by decide +kernel
theorem dX6_rollsThatEnter_27 : decode cX6_rollsThatEnter 27 = .ok (.iconst 0, 1) := by decide +kernel
theorem dX6_rollsThatEnter_28 : decode cX6_rollsThatEnter 28 = .ok (.iadd, 1) := by decide +kernel
theorem dX6_rollsThatEnter_29 : decode cX6_rollsThatEnter 29 = .ok (.istore_n 2, 1) := by decide +kernel
theorem dX6_rollsThatEnter_30 : decode cX6_rollsThatEnter 30 = .ok (.iinc 3 1, 3) := by decide +kernel
theorem dX6_rollsThatEnter_33 : decode cX6_rollsThatEnter 33 = .ok (.goto (-29), 3) := by decide +kernel
theorem dX6_rollsThatEnter_36 : decode cX6_rollsThatEnter 36 = .ok (.bipush 36, 2) := by decide +kernel
theorem dX6_rollsThatEnter_38 : decode cX6_rollsThatEnter 38 = .ok (.iload_n 2, 1) := by decide +kernel
theorem dX6_rollsThatEnter_39 : decode cX6_rollsThatEnter 39 = .ok (.iload_n 2, 1) := by decide +kernel
theorem dX6_rollsThatEnter_40 : decode cX6_rollsThatEnter 40 = .ok (.imul, 1) := by decide +kernel
theorem dX6_rollsThatEnter_41 : decode cX6_rollsThatEnter 41 = .ok (.isub, 1) := by decide +kernel
theorem dX6_rollsThatEnter_42 : decode cX6_rollsThatEnter 42 = .ok (.ireturn, 1) := by decide +kernel
set_option maxRecDepth 20000 in
theorem ggX7_ban_X0_has : GoodIn wsX7_ban wsX0_has := goodIn_r _ [4] (by decide +kernel) (by decide +kernel)
set_option maxRecDepth 20000 in
theorem gX7_ban_X0_has : GoodIn wsX7_ban (va_wsS RX7 7 yX0_has wsX0_has) := goodIn_app (goodIn_of _ (by decide +kernel)) ggX7_ban_X0_has
set_option maxRecDepth 20000 in
theorem ggX7_ban_X3_on : GoodIn wsX7_ban wsX3_on := goodIn_r _ [8] (by decide +kernel) (by decide +kernel)
set_option maxRecDepth 20000 in
theorem gX7_ban_X3_on : GoodIn wsX7_ban (va_wsS RX7 15 yX3_on wsX3_on) := goodIn_app (goodIn_of _ (by decide +kernel)) ggX7_ban_X3_on
set_option maxRecDepth 20000 in
theorem ggX7_ban_X3_across : GoodIn wsX7_ban wsX3_across := goodIn_r _ [11] (by decide +kernel) (by decide +kernel)
set_option maxRecDepth 20000 in
theorem gX7_ban_X3_across : GoodIn wsX7_ban (va_wsS RX7 21 yX3_across wsX3_across) := goodIn_app (goodIn_of _ (by decide +kernel)) ggX7_ban_X3_across
set_option maxRecDepth 20000 in
theorem ggX7_ban_X3_anyBeyond : GoodIn wsX7_ban wsX3_anyBeyond := goodIn_r _ [14] (by decide +kernel) (by decide +kernel)
set_option maxRecDepth 20000 in
theorem gX7_ban_X3_anyBeyond : GoodIn wsX7_ban (va_wsS RX7 24 yX3_anyBeyond wsX3_anyBeyond) := goodIn_app (goodIn_of _ (by decide +kernel)) ggX7_ban_X3_anyBeyond
theorem dX7_ban_0 : decode cX7_ban 0 = .ok (.iload 4, 2) := by decide +kernel
theorem dX7_ban_2 : decode cX7_ban 2 = .ok (.iload 6, 2) := by decide +kernel
theorem dX7_ban_4 : decode cX7_ban 4 = .ok (.invokestatic 7, 3) := by decide +kernel
theorem dX7_ban_7 : decode cX7_ban 7 = .ok (.ifCond .ne 5, 3) := by decide +kernel
theorem dX7_ban_10 : decode cX7_ban 10 = .ok (.iconst 1, 1) := by decide +kernel
theorem dX7_ban_11 : decode cX7_ban 11 = .ok (.ireturn, 1) := by decide +kernel
theorem dX7_ban_12 : decode cX7_ban 12 = .ok (.lload_n 0, 1) := by decide +kernel
theorem dX7_ban_13 : decode cX7_ban 13 = .ok (.iload 5, 2) := by decide +kernel
theorem dX7_ban_15 : decode cX7_ban 15 = .ok (.invokestatic 15, 3) := by decide +kernel
theorem dX7_ban_18 : decode cX7_ban 18 = .ok (.ifCond .ne 5, 3) := by decide +kernel
theorem dX7_ban_21 : decode cX7_ban 21 = .ok (.iconst 2, 1) := by decide +kernel
theorem dX7_ban_22 : decode cX7_ban 22 = .ok (.ireturn, 1) := by decide +kernel
theorem dX7_ban_23 : decode cX7_ban 23 = .ok (.iload 5, 2) := by decide +kernel
theorem dX7_ban_25 : decode cX7_ban 25 = .ok (.bipush 17, 2) := by decide +kernel
theorem dX7_ban_27 : decode cX7_ban 27 = .ok (.if_icmp .eq 14, 3) := by decide +kernel
theorem dX7_ban_30 : decode cX7_ban 30 = .ok (.lload_n 0, 1) := by decide +kernel
theorem dX7_ban_31 : decode cX7_ban 31 = .ok (.bipush 17, 2) := by decide +kernel
theorem dX7_ban_33 : decode cX7_ban 33 = .ok (.invokestatic 15, 3) := by decide +kernel
theorem dX7_ban_36 : decode cX7_ban 36 = .ok (.ifCond .le 5, 3) := by decide +kernel
theorem dX7_ban_39 : decode cX7_ban 39 = .ok (.iconst 3, 1) := by decide +kernel
theorem dX7_ban_40 : decode cX7_ban 40 = .ok (.ireturn, 1) := by decide +kernel
theorem dX7_ban_41 : decode cX7_ban 41 = .ok (.iload 6, 2) := by decide +kernel
theorem dX7_ban_43 : decode cX7_ban 43 = .ok (.iload 5, 2) := by decide +kernel
theorem dX7_ban_45 : decode cX7_ban 45 = .ok (.if_icmp .ge 22, 3) := by decide +kernel
theorem dX7_ban_48 : decode cX7_ban 48 = .ok (.lload_n 2, 1) := by decide +kernel
theorem dX7_ban_49 : decode cX7_ban 49 = .ok (.iload 5, 2) := by decide +kernel
theorem dX7_ban_51 : decode cX7_ban 51 = .ok (.iload 6, 2) := by decide +kernel
theorem dX7_ban_53 : decode cX7_ban 53 = .ok (.isub, 1) := by decide +kernel
theorem dX7_ban_54 : decode cX7_ban 54 = .ok (.invokestatic 21, 3) := by decide +kernel
theorem dX7_ban_57 : decode cX7_ban 57 = .ok (.iconst 2, 1) := by decide +kernel
theorem dX7_ban_58 : decode cX7_ban 58 = .ok (.if_icmp .lt 7, 3) := by decide +kernel
theorem dX7_ban_61 : decode cX7_ban 61 = .ok (.iconst 4, 1) := by decide +kernel
theorem dX7_ban_62 : decode cX7_ban 62 = .ok (.goto 4, 3) := by decide +kernel
theorem dX7_ban_65 : decode cX7_ban 65 = .ok (.iconst 0, 1) := by decide +kernel
theorem dX7_ban_66 : decode cX7_ban 66 = .ok (.ireturn, 1) := by decide +kernel
theorem dX7_ban_67 : decode cX7_ban 67 = .ok (.iload 6, 2) := by decide +kernel
theorem dX7_ban_69 : decode cX7_ban 69 = .ok (.iload 5, 2) := by decide +kernel
theorem dX7_ban_71 : decode cX7_ban 71 = .ok (.if_icmp .le 16, 3) := by decide +kernel
theorem dX7_ban_74 : decode cX7_ban 74 = .ok (.lload_n 0, 1) := by decide +kernel
theorem dX7_ban_75 : decode cX7_ban 75 = .ok (.iload 5, 2) := by decide +kernel
theorem dX7_ban_77 : decode cX7_ban 77 = .ok (.invokestatic 24, 3) := by decide +kernel
theorem dX7_ban_80 : decode cX7_ban 80 = .ok (.ifCond .eq 7, 3) := by decide +kernel
theorem dX7_ban_83 : decode cX7_ban 83 = .ok (.iconst 1, 1) := by decide +kernel
theorem dX7_ban_84 : decode cX7_ban 84 = .ok (.goto 4, 3) := by decide +kernel
theorem dX7_ban_87 : decode cX7_ban 87 = .ok (.iconst 0, 1) := by decide +kernel
theorem dX7_ban_88 : decode cX7_ban 88 = .ok (.istore 7, 2) := by decide +kernel
theorem dX7_ban_90 : decode cX7_ban 90 = .ok (.iload 7, 2) := by decide +kernel
theorem dX7_ban_92 : decode cX7_ban 92 = .ok (.ifCond .ne 11, 3) := by decide +kernel
theorem dX7_ban_95 : decode cX7_ban 95 = .ok (.lload_n 0, 1) := by decide +kernel
theorem dX7_ban_96 : decode cX7_ban 96 = .ok (.iconst 4, 1) := by decide +kernel
theorem dX7_ban_97 : decode cX7_ban 97 = .ok (.invokestatic 24, 3) := by decide +kernel
theorem dX7_ban_100 : decode cX7_ban 100 = .ok (.ifCond .eq 7, 3) := by decide +kernel
theorem dX7_ban_103 : decode cX7_ban 103 = .ok (.iconst 5, 1) := by decide +kernel
theorem dX7_ban_104 : decode cX7_ban 104 = .ok (.goto 4, 3) := by decide +kernel
theorem dX7_ban_107 : decode cX7_ban 107 = .ok (.iconst 0, 1) := by decide +kernel
theorem dX7_ban_108 : decode cX7_ban 108 = .ok (.ireturn, 1) := by decide +kernel
set_option maxRecDepth 20000 in
theorem ggX7_mineBehind_X3_moved : GoodIn wsX7_mineBehind wsX3_moved := goodIn_r _ [8] (by decide +kernel) (by decide +kernel)
set_option maxRecDepth 20000 in
theorem gX7_mineBehind_X3_moved : GoodIn wsX7_mineBehind (va_wsS RX7 34 yX3_moved wsX3_moved) := goodIn_app (goodIn_of _ (by decide +kernel)) ggX7_mineBehind_X3_moved
theorem dX7_mineBehind_0 : decode cX7_mineBehind 0 = .ok (.lload_n 0, 1) := by decide +kernel
theorem dX7_mineBehind_1 : decode cX7_mineBehind 1 = .ok (.iload_n 2, 1) := by decide +kernel
theorem dX7_mineBehind_2 : decode cX7_mineBehind 2 = .ok (.iconst 0, 1) := by decide +kernel
theorem dX7_mineBehind_3 : decode cX7_mineBehind 3 = .ok (.iload_n 2, 1) := by decide +kernel
theorem dX7_mineBehind_4 : decode cX7_mineBehind 4 = .ok (.iload_n 3, 1) := by decide +kernel
theorem dX7_mineBehind_5 : decode cX7_mineBehind 5 = .ok (.isub, 1) := by decide +kernel
theorem dX7_mineBehind_6 : decode cX7_mineBehind 6 = .ok (.invokestatic 28, 3) := by decide +kernel
theorem dX7_mineBehind_9 : decode cX7_mineBehind 9 = .ok (.invokestatic 34, 3) := by decide +kernel
theorem dX7_mineBehind_12 : decode cX7_mineBehind 12 = .ok (.lreturn, 1) := by decide +kernel
set_option maxRecDepth 20000 in
theorem ggX7_theirsBehind_X3_across : GoodIn wsX7_theirsBehind wsX3_across := goodIn_r _ [4] (by decide +kernel) (by decide +kernel)
set_option maxRecDepth 20000 in
theorem gX7_theirsBehind_X3_across : GoodIn wsX7_theirsBehind (va_wsS RX7 21 yX3_across wsX3_across) := goodIn_app (goodIn_of _ (by decide +kernel)) ggX7_theirsBehind_X3_across
set_option maxRecDepth 20000 in
theorem ggX7_theirsBehind_X3_moved : GoodIn wsX7_theirsBehind wsX3_moved := goodIn_r _ [7] (by decide +kernel) (by decide +kernel)
set_option maxRecDepth 20000 in
theorem gX7_theirsBehind_X3_moved : GoodIn wsX7_theirsBehind (va_wsS RX7 34 yX3_moved wsX3_moved) := goodIn_app (goodIn_of _ (by decide +kernel)) ggX7_theirsBehind_X3_moved
theorem dX7_theirsBehind_0 : decode cX7_theirsBehind 0 = .ok (.iload_n 3, 1) := by decide +kernel
theorem dX7_theirsBehind_1 : decode cX7_theirsBehind 1 = .ok (.iload_n 2, 1) := by decide +kernel
theorem dX7_theirsBehind_2 : decode cX7_theirsBehind 2 = .ok (.if_icmp .ge 14, 3) := by decide +kernel
theorem dX7_theirsBehind_5 : decode cX7_theirsBehind 5 = .ok (.lload_n 0, 1) := by decide +kernel
theorem dX7_theirsBehind_6 : decode cX7_theirsBehind 6 = .ok (.iload_n 2, 1) := by decide +kernel
theorem dX7_theirsBehind_7 : decode cX7_theirsBehind 7 = .ok (.iload_n 3, 1) := by decide +kernel
theorem dX7_theirsBehind_8 : decode cX7_theirsBehind 8 = .ok (.isub, 1) := by decide +kernel
theorem dX7_theirsBehind_9 : decode cX7_theirsBehind 9 = .ok (.invokestatic 21, 3) := by decide +kernel
theorem dX7_theirsBehind_12 : decode cX7_theirsBehind 12 = .ok (.iconst 1, 1) := by decide +kernel
theorem dX7_theirsBehind_13 : decode cX7_theirsBehind 13 = .ok (.if_icmp .eq 5, 3) := by decide +kernel
theorem dX7_theirsBehind_16 : decode cX7_theirsBehind 16 = .ok (.lload_n 0, 1) := by decide +kernel
theorem dX7_theirsBehind_17 : decode cX7_theirsBehind 17 = .ok (.lreturn, 1) := by decide +kernel
theorem dX7_theirsBehind_18 : decode cX7_theirsBehind 18 = .ok (.lload_n 0, 1) := by decide +kernel
theorem dX7_theirsBehind_19 : decode cX7_theirsBehind 19 = .ok (.bipush 17, 2) := by decide +kernel
theorem dX7_theirsBehind_21 : decode cX7_theirsBehind 21 = .ok (.iload_n 2, 1) := by decide +kernel
theorem dX7_theirsBehind_22 : decode cX7_theirsBehind 22 = .ok (.iload_n 3, 1) := by decide +kernel
theorem dX7_theirsBehind_23 : decode cX7_theirsBehind 23 = .ok (.isub, 1) := by decide +kernel
theorem dX7_theirsBehind_24 : decode cX7_theirsBehind 24 = .ok (.isub, 1) := by decide +kernel
theorem dX7_theirsBehind_25 : decode cX7_theirsBehind 25 = .ok (.bipush 17, 2) := by decide +kernel
theorem dX7_theirsBehind_27 : decode cX7_theirsBehind 27 = .ok (.invokestatic 34, 3) := by decide +kernel
theorem dX7_theirsBehind_30 : decode cX7_theirsBehind 30 = .ok (.lreturn, 1) := by decide +kernel
set_option maxRecDepth 20000 in
theorem ggX7_reachOf_X0_count : GoodIn wsX7_reachOf wsX0_count := goodIn_r _ [8, 9, 10, 7, 11] (by decide +kernel) (by decide +kernel)
set_option maxRecDepth 20000 in
theorem gX7_reachOf_X0_count : GoodIn wsX7_reachOf (va_wsS RX7 38 yX0_count wsX0_count) := goodIn_app (goodIn_of _ (by decide +kernel)) ggX7_reachOf_X0_count
set_option maxRecDepth 20000 in
theorem ggX7_reachOf_X0_kinds : GoodIn wsX7_reachOf wsX0_kinds := goodIn_r _ [14, 9, 10, 7, 11] (by decide +kernel) (by decide +kernel)
set_option maxRecDepth 20000 in
theorem gX7_reachOf_X0_kinds : GoodIn wsX7_reachOf (va_wsS RX7 42 yX0_kinds wsX0_kinds) := goodIn_app (goodIn_of _ (by decide +kernel)) ggX7_reachOf_X0_kinds
set_option maxRecDepth 20000 in
theorem ggX7_reachOf_X0_at : GoodIn wsX7_reachOf wsX0_at := goodIn_r _ [11] (by decide +kernel) (by decide +kernel)
set_option maxRecDepth 20000 in
theorem gX7_reachOf_X0_at : GoodIn wsX7_reachOf (va_wsS RX7 45 yX0_at wsX0_at) := goodIn_app (goodIn_of _ (by decide +kernel)) ggX7_reachOf_X0_at
set_option maxRecDepth 20000 in
theorem ggX7_reachOf_X7_ban : GoodIn wsX7_reachOf wsX7_ban := goodIn_r _ [19, 20, 21, 7, 22, 23, 24, 25, 26, 27, 28, 29, 30, 31, 32] (by decide +kernel) (by decide +kernel)
set_option maxRecDepth 20000 in
theorem gX7_reachOf_X7_ban : GoodIn wsX7_reachOf (va_wsS RX7 48 yX7_ban wsX7_ban) := goodIn_app (goodIn_of _ (by decide +kernel)) ggX7_reachOf_X7_ban
set_option maxRecDepth 20000 in
theorem ggX7_reachOf_X7_mineBehind : GoodIn wsX7_reachOf wsX7_mineBehind := goodIn_r _ [35, 1, 2, 3, 4, 36, 37, 25, 38] (by decide +kernel) (by decide +kernel)
set_option maxRecDepth 20000 in
theorem gX7_reachOf_X7_mineBehind : GoodIn wsX7_reachOf (va_wsS RX7 52 yX7_mineBehind wsX7_mineBehind) := goodIn_app (goodIn_of _ (by decide +kernel)) ggX7_reachOf_X7_mineBehind
set_option maxRecDepth 20000 in
theorem ggX7_reachOf_X7_theirsBehind : GoodIn wsX7_reachOf wsX7_theirsBehind := goodIn_r _ [41, 27, 28, 25, 29, 36, 37, 38] (by decide +kernel) (by decide +kernel)
set_option maxRecDepth 20000 in
theorem gX7_reachOf_X7_theirsBehind : GoodIn wsX7_reachOf (va_wsS RX7 55 yX7_theirsBehind wsX7_theirsBehind) := goodIn_app (goodIn_of _ (by decide +kernel)) ggX7_reachOf_X7_theirsBehind
set_option maxRecDepth 20000 in
theorem ggX7_reachOf_X0_without : GoodIn wsX7_reachOf wsX0_without := goodIn_r _ [44, 9, 10, 7, 11] (by decide +kernel) (by decide +kernel)
set_option maxRecDepth 20000 in
theorem gX7_reachOf_X0_without : GoodIn wsX7_reachOf (va_wsS RX7 58 yX0_without wsX0_without) := goodIn_app (goodIn_of _ (by decide +kernel)) ggX7_reachOf_X0_without
set_option maxRecDepth 20000 in
theorem ggX7_reachOf_X7_reachOf : GoodIn wsX7_reachOf wsX7_reachOf := goodIn_r _ [0, 1, 2, 3, 4, 5, 6, 7, 8, 9, 10, 11, 12, 13, 14, 15, 16, 17, 18, 19, 20, 21, 22, 23, 24, 25, 26, 27, 28, 29, 30, 31, 32, 33, 34, 35, 36, 37, 38, 39, 40, 41, 42, 43, 44, 45, 46] (by decide +kernel) (by decide +kernel)
set_option maxRecDepth 20000 in
theorem gX7_reachOf_X7_reachOf : GoodIn wsX7_reachOf (va_wsS RX7 61 yX7_reachOf wsX7_reachOf) := goodIn_app (goodIn_of _ (by decide +kernel)) ggX7_reachOf_X7_reachOf
theorem dX7_reachOf_0 : decode cX7_reachOf 0 = .ok (.iload 4, 2) := by decide +kernel
theorem dX7_reachOf_2 : decode cX7_reachOf 2 = .ok (.ifCond .eq 8, 3) := by decide +kernel
theorem dX7_reachOf_5 : decode cX7_reachOf 5 = .ok (.iload 5, 2) := by decide +kernel
theorem dX7_reachOf_7 : decode cX7_reachOf 7 = .ok (.ifCond .gt 5, 3) := by decide +kernel
theorem dX7_reachOf_10 : decode cX7_reachOf 10 = .ok (.iconst 0, 1) := by decide +kernel
theorem dX7_reachOf_11 : decode cX7_reachOf 11 = .ok (.ireturn, 1) := by decide +kernel
theorem dX7_reachOf_12 : decode cX7_reachOf 12 = .ok (.iload 4, 2) := by decide +kernel
theorem dX7_reachOf_14 : decode cX7_reachOf 14 = .ok (.invokestatic 38, 3) := by decide +kernel
theorem dX7_reachOf_17 : decode cX7_reachOf 17 = .ok (.istore 6, 2) := by decide +kernel
theorem dX7_reachOf_19 : decode cX7_reachOf 19 = .ok (.iconst 0, 1) := by decide +kernel
theorem dX7_reachOf_20 : decode cX7_reachOf 20 = .ok (.istore 7, 2) := by decide +kernel
theorem dX7_reachOf_22 : decode cX7_reachOf 22 = .ok (.bipush 17, 2) := by decide +kernel
theorem dX7_reachOf_24 : decode cX7_reachOf 24 = .ok (.istore 8, 2) := by decide +kernel
theorem dX7_reachOf_26 : decode cX7_reachOf 26 = .ok (.iload 8, 2) := by decide +kernel
theorem dX7_reachOf_28 : decode cX7_reachOf 28 = .ok (.iconst 1, 1) := by decide +kernel
theorem dX7_reachOf_29 : decode cX7_reachOf 29 = .ok (.if_icmp .lt 101, 3) := by decide +kernel
theorem dX7_reachOf_32 : decode cX7_reachOf 32 = .ok (.iload 7, 2) := by decide +kernel
theorem dX7_reachOf_34 : decode cX7_reachOf 34 = .ok (.iload 6, 2) := by decide +kernel
theorem dX7_reachOf_36 : decode cX7_reachOf 36 = .ok (.if_icmp .ge 94, 3) := by decide +kernel
theorem dX7_reachOf_39 : decode cX7_reachOf 39 = .ok (.iconst 0, 1) := by decide +kernel
theorem dX7_reachOf_40 : decode cX7_reachOf 40 = .ok (.istore 9, 2) := by decide +kernel
theorem dX7_reachOf_42 : decode cX7_reachOf 42 = .ok (.iload 9, 2) := by decide +kernel
theorem dX7_reachOf_44 : decode cX7_reachOf 44 = .ok (.iload 4, 2) := by decide +kernel
theorem dX7_reachOf_46 : decode cX7_reachOf 46 = .ok (.invokestatic 42, 3) := by decide +kernel
theorem dX7_reachOf_49 : decode cX7_reachOf 49 = .ok (.if_icmp .ge 75, 3) := by decide +kernel
theorem dX7_reachOf_52 : decode cX7_reachOf 52 = .ok (.iload 4, 2) := by decide +kernel
theorem dX7_reachOf_54 : decode cX7_reachOf 54 = .ok (.iload 9, 2) := by decide +kernel
theorem dX7_reachOf_56 : decode cX7_reachOf 56 = .ok (.invokestatic 45, 3) := by decide +kernel
theorem dX7_reachOf_59 : decode cX7_reachOf 59 = .ok (.istore 10, 2) := by decide +kernel
theorem dX7_reachOf_61 : decode cX7_reachOf 61 = .ok (.lload_n 0, 1) := by decide +kernel
theorem dX7_reachOf_62 : decode cX7_reachOf 62 = .ok (.lload_n 2, 1) := by decide +kernel
theorem dX7_reachOf_63 : decode cX7_reachOf 63 = .ok (.iload 4, 2) := by decide +kernel
theorem dX7_reachOf_65 : decode cX7_reachOf 65 = .ok (.iload 8, 2) := by decide +kernel
theorem dX7_reachOf_67 : decode cX7_reachOf 67 = .ok (.iload 10, 2) := by decide +kernel
theorem dX7_reachOf_69 : decode cX7_reachOf 69 = .ok (.invokestatic 48, 3) := by decide +kernel
theorem dX7_reachOf_72 : decode cX7_reachOf 72 = .ok (.ifCond .ne 46, 3) := by decide +kernel
theorem dX7_reachOf_75 : decode cX7_reachOf 75 = .ok (.lload_n 0, 1) := by decide +kernel
theorem dX7_reachOf_76 : decode cX7_reachOf 76 = .ok (.iload 8, 2) := by decide +kernel
theorem dX7_reachOf_78 : decode cX7_reachOf 78 = .ok (.iload 10, 2) := by decide +kernel
theorem dX7_reachOf_80 : decode cX7_reachOf 80 = .ok (.invokestatic 52, 3) := by decide +kernel
theorem dX7_reachOf_83 : decode cX7_reachOf 83 = .ok (.lload_n 2, 1) := by decide +kernel
theorem dX7_reachOf_84 : decode cX7_reachOf 84 = .ok (.iload 8, 2) := by decide +kernel
theorem dX7_reachOf_86 : decode cX7_reachOf 86 = .ok (.iload 10, 2) := by decide +kernel
theorem dX7_reachOf_88 : decode cX7_reachOf 88 = .ok (.invokestatic 55, 3) := by decide +kernel
theorem dX7_reachOf_91 : decode cX7_reachOf 91 = .ok (.iload 4, 2) := by decide +kernel
theorem dX7_reachOf_93 : decode cX7_reachOf 93 = .ok (.iload 10, 2) := by decide +kernel
theorem dX7_reachOf_95 : decode cX7_reachOf 95 = .ok (.invokestatic 58, 3) := by decide +kernel
theorem dX7_reachOf_98 : decode cX7_reachOf 98 = .ok (.iload 5, 2) := by decide +kernel
theorem dX7_reachOf_100 : decode cX7_reachOf 100 = .ok (.iconst 1, 1) := by decide +kernel
theorem dX7_reachOf_101 : decode cX7_reachOf 101 = .ok (.isub, 1) := by decide +kernel
theorem dX7_reachOf_102 : decode cX7_reachOf 102 = .ok (.invokestatic 61, 3) := by decide +kernel
theorem dX7_reachOf_105 : decode cX7_reachOf 105 = .ok (.istore 11, 2) := by decide +kernel
theorem dX7_reachOf_107 : decode cX7_reachOf 107 = .ok (.iload 7, 2) := by decide +kernel
theorem dX7_reachOf_109 : decode cX7_reachOf 109 = .ok (.iconst 1, 1) := by decide +kernel
theorem dX7_reachOf_110 : decode cX7_reachOf 110 = .ok (.iload 11, 2) := by decide +kernel
theorem dX7_reachOf_112 : decode cX7_reachOf 112 = .ok (.iadd, 1) := by decide +kernel
theorem dX7_reachOf_113 : decode cX7_reachOf 113 = .ok (.invokestatic 28, 3) := by decide +kernel
theorem dX7_reachOf_116 : decode cX7_reachOf 116 = .ok (.istore 7, 2) := by decide +kernel
theorem dX7_reachOf_118 : decode cX7_reachOf 118 = .ok (.iinc 9 1, 3) := by decide +kernel
theorem dX7_reachOf_121 : decode cX7_reachOf 121 = .ok (.goto (-79), 3) := by decide +kernel
theorem dX7_reachOf_124 : decode cX7_reachOf 124 = .ok (.iinc 8 (-1), 3) := by decide +kernel
theorem dX7_reachOf_127 : decode cX7_reachOf 127 = .ok (.goto (-101), 3) := by decide +kernel
theorem dX7_reachOf_130 : decode cX7_reachOf 130 = .ok (.iload 7, 2) := by decide +kernel
theorem dX7_reachOf_132 : decode cX7_reachOf 132 = .ok (.ireturn, 1) := by decide +kernel
set_option maxRecDepth 20000 in
theorem ggX7_isAnyAllowed_X7_ban : GoodIn wsX7_isAnyAllowed wsX7_ban := goodIn_r _ [4, 5, 6, 7, 8, 9, 10, 11, 12, 13, 14, 15, 16, 17, 18] (by decide +kernel) (by decide +kernel)
set_option maxRecDepth 20000 in
theorem gX7_isAnyAllowed_X7_ban : GoodIn wsX7_isAnyAllowed (va_wsS RX7 48 yX7_ban wsX7_ban) := goodIn_app (goodIn_of _ (by decide +kernel)) ggX7_isAnyAllowed_X7_ban
theorem dX7_isAnyAllowed_0 : decode cX7_isAnyAllowed 0 = .ok (.iconst 1, 1) := by decide +kernel
theorem dX7_isAnyAllowed_1 : decode cX7_isAnyAllowed 1 = .ok (.istore 6, 2) := by decide +kernel
theorem dX7_isAnyAllowed_3 : decode cX7_isAnyAllowed 3 = .ok (.iload 6, 2) := by decide +kernel
theorem dX7_isAnyAllowed_5 : decode cX7_isAnyAllowed 5 = .ok (.bipush 17, 2) := by decide +kernel
theorem dX7_isAnyAllowed_7 : decode cX7_isAnyAllowed 7 = .ok (.if_icmp .gt 25, 3) := by decide +kernel
theorem dX7_isAnyAllowed_10 : decode cX7_isAnyAllowed 10 = .ok (.lload_n 0, 1) := by decide +kernel
theorem dX7_isAnyAllowed_11 : decode cX7_isAnyAllowed 11 = .ok (.lload_n 2, 1) := by decide +kernel
theorem dX7_isAnyAllowed_12 : decode cX7_isAnyAllowed 12 = .ok (.iload 4, 2) := by decide +kernel
theorem dX7_isAnyAllowed_14 : decode cX7_isAnyAllowed 14 = .ok (.iload 6, 2) := by decide +kernel
theorem dX7_isAnyAllowed_16 : decode cX7_isAnyAllowed 16 = .ok (.iload 5, 2) := by decide +kernel
theorem dX7_isAnyAllowed_18 : decode cX7_isAnyAllowed 18 = .ok (.invokestatic 48, 3) := by decide +kernel
theorem dX7_isAnyAllowed_21 : decode cX7_isAnyAllowed 21 = .ok (.ifCond .ne 5, 3) := by decide +kernel
theorem dX7_isAnyAllowed_24 : decode cX7_isAnyAllowed 24 = .ok (.iconst 1, 1) := by decide +kernel
theorem dX7_isAnyAllowed_25 : decode cX7_isAnyAllowed 25 = .ok (.ireturn, 1) := by decide +kernel
theorem dX7_isAnyAllowed_26 : decode cX7_isAnyAllowed 26 = .ok (.iinc 6 1, 3) := by decide +kernel
theorem dX7_isAnyAllowed_29 : decode cX7_isAnyAllowed 29 = .ok (.goto (-26), 3) := by decide +kernel
theorem dX7_isAnyAllowed_32 : decode cX7_isAnyAllowed 32 = .ok (.iconst 0, 1) := by decide +kernel
theorem dX7_isAnyAllowed_33 : decode cX7_isAnyAllowed 33 = .ok (.ireturn, 1) := by decide +kernel
set_option maxRecDepth 20000 in
theorem ggX7_reason_X7_ban : GoodIn wsX7_reason wsX7_ban := goodIn_r _ [4, 5, 6, 7, 8, 9, 10, 11, 12, 13, 14, 15, 16, 17, 18] (by decide +kernel) (by decide +kernel)
set_option maxRecDepth 20000 in
theorem gX7_reason_X7_ban : GoodIn wsX7_reason (va_wsS RX7 48 yX7_ban wsX7_ban) := goodIn_app (goodIn_of _ (by decide +kernel)) ggX7_reason_X7_ban
set_option maxRecDepth 20000 in
theorem ggX7_reason_X7_mineBehind : GoodIn wsX7_reason wsX7_mineBehind := goodIn_r _ [21, 22, 23, 24, 25, 26, 27, 11, 28] (by decide +kernel) (by decide +kernel)
set_option maxRecDepth 20000 in
theorem gX7_reason_X7_mineBehind : GoodIn wsX7_reason (va_wsS RX7 52 yX7_mineBehind wsX7_mineBehind) := goodIn_app (goodIn_of _ (by decide +kernel)) ggX7_reason_X7_mineBehind
set_option maxRecDepth 20000 in
theorem ggX7_reason_X7_theirsBehind : GoodIn wsX7_reason wsX7_theirsBehind := goodIn_r _ [31, 13, 14, 11, 15, 26, 27, 28] (by decide +kernel) (by decide +kernel)
set_option maxRecDepth 20000 in
theorem gX7_reason_X7_theirsBehind : GoodIn wsX7_reason (va_wsS RX7 55 yX7_theirsBehind wsX7_theirsBehind) := goodIn_app (goodIn_of _ (by decide +kernel)) ggX7_reason_X7_theirsBehind
set_option maxRecDepth 20000 in
theorem ggX7_reason_X0_without : GoodIn wsX7_reason wsX0_without := goodIn_r _ [34, 35, 36, 7, 37] (by decide +kernel) (by decide +kernel)
set_option maxRecDepth 20000 in
theorem gX7_reason_X0_without : GoodIn wsX7_reason (va_wsS RX7 58 yX0_without wsX0_without) := goodIn_app (goodIn_of _ (by decide +kernel)) ggX7_reason_X0_without
set_option maxRecDepth 20000 in
theorem ggX7_reason_X7_reachOf : GoodIn wsX7_reason wsX7_reachOf := goodIn_r _ [40, 22, 23, 24, 25, 41, 42, 7, 43, 35, 36, 37, 44, 45, 46, 47, 1, 2, 3, 4, 5, 6, 8, 9, 10, 11, 12, 13, 14, 15, 16, 17, 18, 19, 20, 21, 26, 27, 28, 29, 30, 31, 32, 33, 34, 38, 39] (by decide +kernel) (by decide +kernel)
set_option maxRecDepth 20000 in
theorem gX7_reason_X7_reachOf : GoodIn wsX7_reason (va_wsS RX7 61 yX7_reachOf wsX7_reachOf) := goodIn_app (goodIn_of _ (by decide +kernel)) ggX7_reason_X7_reachOf
set_option maxRecDepth 20000 in
theorem ggX7_reason_X0_kinds : GoodIn wsX7_reason wsX0_kinds := goodIn_r _ [46, 35, 36, 7, 37] (by decide +kernel) (by decide +kernel)
set_option maxRecDepth 20000 in
theorem gX7_reason_X0_kinds : GoodIn wsX7_reason (va_wsS RX7 42 yX0_kinds wsX0_kinds) := goodIn_app (goodIn_of _ (by decide +kernel)) ggX7_reason_X0_kinds
set_option maxRecDepth 20000 in
theorem ggX7_reason_X0_greater : GoodIn wsX7_reason wsX0_greater := goodIn_r _ [50, 51, 23, 24, 25, 35, 36, 7, 37] (by decide +kernel) (by decide +kernel)
set_option maxRecDepth 20000 in
theorem gX7_reason_X0_greater : GoodIn wsX7_reason (va_wsS RX7 65 yX0_greater wsX0_greater) := goodIn_app (goodIn_of _ (by decide +kernel)) ggX7_reason_X0_greater
set_option maxRecDepth 20000 in
theorem ggX7_reason_X7_isAnyAllowed : GoodIn wsX7_reason wsX7_isAnyAllowed := goodIn_r _ [54, 1, 2, 3, 4, 5, 6, 7, 8, 9, 10, 11, 12, 13, 14, 15, 16, 17, 18] (by decide +kernel) (by decide +kernel)
set_option maxRecDepth 20000 in
theorem gX7_reason_X7_isAnyAllowed : GoodIn wsX7_reason (va_wsS RX7 68 yX7_isAnyAllowed wsX7_isAnyAllowed) := goodIn_app (goodIn_of _ (by decide +kernel)) ggX7_reason_X7_isAnyAllowed
theorem dX7_reason_0 : decode cX7_reason 0 = .ok (.lload_n 0, 1) := by decide +kernel
theorem dX7_reason_1 : decode cX7_reason 1 = .ok (.lload_n 2, 1) := by decide +kernel
theorem dX7_reason_2 : decode cX7_reason 2 = .ok (.iload 4, 2) := by decide +kernel
theorem dX7_reason_4 : decode cX7_reason 4 = .ok (.iload 5, 2) := by decide +kernel
theorem dX7_reason_6 : decode cX7_reason 6 = .ok (.iload 6, 2) := by decide +kernel
theorem dX7_reason_8 : decode cX7_reason 8 = .ok (.invokestatic 48, 3) := by decide +kernel
theorem dX7_reason_11 : decode cX7_reason 11 = .ok (.istore 8, 2) := by decide +kernel
theorem dX7_reason_13 : decode cX7_reason 13 = .ok (.iload 8, 2) := by decide +kernel
theorem dX7_reason_15 : decode cX7_reason 15 = .ok (.ifCond .eq 6, 3) := by decide +kernel
theorem dX7_reason_18 : decode cX7_reason 18 = .ok (.iload 8, 2) := by decide +kernel
theorem dX7_reason_20 : decode cX7_reason 20 = .ok (.ireturn, 1) := by decide +kernel
theorem dX7_reason_21 : decode cX7_reason 21 = .ok (.lload_n 0, 1) := by decide +kernel
theorem dX7_reason_22 : decode cX7_reason 22 = .ok (.iload 5, 2) := by decide +kernel
theorem dX7_reason_24 : decode cX7_reason 24 = .ok (.iload 6, 2) := by decide +kernel
theorem dX7_reason_26 : decode cX7_reason 26 = .ok (.invokestatic 52, 3) := by decide +kernel
theorem dX7_reason_29 : decode cX7_reason 29 = .ok (.lload_n 2, 1) := by decide +kernel
theorem dX7_reason_30 : decode cX7_reason 30 = .ok (.iload 5, 2) := by decide +kernel
theorem dX7_reason_32 : decode cX7_reason 32 = .ok (.iload 6, 2) := by decide +kernel
theorem dX7_reason_34 : decode cX7_reason 34 = .ok (.invokestatic 55, 3) := by decide +kernel
theorem dX7_reason_37 : decode cX7_reason 37 = .ok (.iload 4, 2) := by decide +kernel
theorem dX7_reason_39 : decode cX7_reason 39 = .ok (.iload 6, 2) := by decide +kernel
theorem dX7_reason_41 : decode cX7_reason 41 = .ok (.invokestatic 58, 3) := by decide +kernel
theorem dX7_reason_44 : decode cX7_reason 44 = .ok (.iconst 4, 1) := by decide +kernel
theorem dX7_reason_45 : decode cX7_reason 45 = .ok (.invokestatic 61, 3) := by decide +kernel
theorem dX7_reason_48 : decode cX7_reason 48 = .ok (.istore 9, 2) := by decide +kernel
theorem dX7_reason_50 : decode cX7_reason 50 = .ok (.iload 9, 2) := by decide +kernel
theorem dX7_reason_52 : decode cX7_reason 52 = .ok (.iload 7, 2) := by decide +kernel
theorem dX7_reason_54 : decode cX7_reason 54 = .ok (.iconst 1, 1) := by decide +kernel
theorem dX7_reason_55 : decode cX7_reason 55 = .ok (.isub, 1) := by decide +kernel
theorem dX7_reason_56 : decode cX7_reason 56 = .ok (.if_icmp .ge 6, 3) := by decide +kernel
theorem dX7_reason_59 : decode cX7_reason 59 = .ok (.bipush 6, 2) := by decide +kernel
theorem dX7_reason_61 : decode cX7_reason 61 = .ok (.ireturn, 1) := by decide +kernel
theorem dX7_reason_62 : decode cX7_reason 62 = .ok (.iload 4, 2) := by decide +kernel
theorem dX7_reason_64 : decode cX7_reason 64 = .ok (.invokestatic 42, 3) := by decide +kernel
theorem dX7_reason_67 : decode cX7_reason 67 = .ok (.iconst 2, 1) := by decide +kernel
theorem dX7_reason_68 : decode cX7_reason 68 = .ok (.if_icmp .ne 13, 3) := by decide +kernel
theorem dX7_reason_71 : decode cX7_reason 71 = .ok (.iload 7, 2) := by decide +kernel
theorem dX7_reason_73 : decode cX7_reason 73 = .ok (.iconst 1, 1) := by decide +kernel
theorem dX7_reason_74 : decode cX7_reason 74 = .ok (.if_icmp .ne 7, 3) := by decide +kernel
theorem dX7_reason_77 : decode cX7_reason 77 = .ok (.iconst 1, 1) := by decide +kernel
theorem dX7_reason_78 : decode cX7_reason 78 = .ok (.goto 4, 3) := by decide +kernel
theorem dX7_reason_81 : decode cX7_reason 81 = .ok (.iconst 0, 1) := by decide +kernel
theorem dX7_reason_82 : decode cX7_reason 82 = .ok (.istore 10, 2) := by decide +kernel
theorem dX7_reason_84 : decode cX7_reason 84 = .ok (.iload 10, 2) := by decide +kernel
theorem dX7_reason_86 : decode cX7_reason 86 = .ok (.ifCond .eq 31, 3) := by decide +kernel
theorem dX7_reason_89 : decode cX7_reason 89 = .ok (.iload 6, 2) := by decide +kernel
theorem dX7_reason_91 : decode cX7_reason 91 = .ok (.iload 4, 2) := by decide +kernel
theorem dX7_reason_93 : decode cX7_reason 93 = .ok (.invokestatic 65, 3) := by decide +kernel
theorem dX7_reason_96 : decode cX7_reason 96 = .ok (.if_icmp .ge 21, 3) := by decide +kernel
theorem dX7_reason_99 : decode cX7_reason 99 = .ok (.lload_n 0, 1) := by decide +kernel
theorem dX7_reason_100 : decode cX7_reason 100 = .ok (.lload_n 2, 1) := by decide +kernel
theorem dX7_reason_101 : decode cX7_reason 101 = .ok (.iload 4, 2) := by decide +kernel
theorem dX7_reason_103 : decode cX7_reason 103 = .ok (.iload 4, 2) := by decide +kernel
theorem dX7_reason_105 : decode cX7_reason 105 = .ok (.invokestatic 65, 3) := by decide +kernel
theorem dX7_reason_108 : decode cX7_reason 108 = .ok (.invokestatic 68, 3) := by decide +kernel
theorem dX7_reason_111 : decode cX7_reason 111 = .ok (.ifCond .eq 6, 3) := by decide +kernel
theorem dX7_reason_114 : decode cX7_reason 114 = .ok (.bipush 6, 2) := by decide +kernel
theorem dX7_reason_116 : decode cX7_reason 116 = .ok (.ireturn, 1) := by decide +kernel
theorem dX7_reason_117 : decode cX7_reason 117 = .ok (.iconst 0, 1) := by decide +kernel
theorem dX7_reason_118 : decode cX7_reason 118 = .ok (.ireturn, 1) := by decide +kernel
set_option maxRecDepth 20000 in
theorem ggX7_countPossible_X7_reachOf : GoodIn wsX7_countPossible wsX7_reachOf := goodIn_r _ [4, 5, 6, 7, 8, 9, 10, 11, 12, 13, 14, 15, 16, 17, 18, 19, 20, 21, 3, 22, 23, 24, 25, 26, 27, 28, 29, 30, 31, 32, 33, 34, 35, 36, 37, 38, 39, 40, 41, 42, 43, 44, 45, 46, 47, 1, 2] (by decide +kernel) (by decide +kernel)
set_option maxRecDepth 20000 in
theorem gX7_countPossible_X7_reachOf : GoodIn wsX7_countPossible (va_wsS RX7 61 yX7_reachOf wsX7_reachOf) := goodIn_app (goodIn_of _ (by decide +kernel)) ggX7_countPossible_X7_reachOf
set_option maxRecDepth 20000 in
theorem ggX7_countPossible_X0_kinds : GoodIn wsX7_countPossible wsX0_kinds := goodIn_r _ [18, 13, 14, 11, 15] (by decide +kernel) (by decide +kernel)
set_option maxRecDepth 20000 in
theorem gX7_countPossible_X0_kinds : GoodIn wsX7_countPossible (va_wsS RX7 42 yX0_kinds wsX0_kinds) := goodIn_app (goodIn_of _ (by decide +kernel)) ggX7_countPossible_X0_kinds
set_option maxRecDepth 20000 in
theorem ggX7_countPossible_X0_at : GoodIn wsX7_countPossible wsX0_at := goodIn_r _ [15] (by decide +kernel) (by decide +kernel)
set_option maxRecDepth 20000 in
theorem gX7_countPossible_X0_at : GoodIn wsX7_countPossible (va_wsS RX7 45 yX0_at wsX0_at) := goodIn_app (goodIn_of _ (by decide +kernel)) ggX7_countPossible_X0_at
set_option maxRecDepth 20000 in
theorem ggX7_countPossible_X7_reason : GoodIn wsX7_countPossible wsX7_reason := goodIn_r _ [50, 20, 21, 3, 22, 23, 24, 11, 25, 26, 27, 28, 29, 30, 31, 32, 33, 34, 35, 36, 37, 38, 5, 6, 7, 8, 39, 40, 41, 42, 43, 44, 45, 46, 47, 13, 14, 15, 1, 2, 4, 9, 10, 12, 16, 17, 18, 19, 51, 52, 53, 54, 55, 56, 57] (by decide +kernel) (by decide +kernel)
set_option maxRecDepth 20000 in
theorem gX7_countPossible_X7_reason : GoodIn wsX7_countPossible (va_wsS RX7 72 yX7_reason wsX7_reason) := goodIn_app (goodIn_of _ (by decide +kernel)) ggX7_countPossible_X7_reason
theorem dX7_countPossible_0 : decode cX7_countPossible 0 = .ok (.lload_n 0, 1) := by decide +kernel
theorem dX7_countPossible_1 : decode cX7_countPossible 1 = .ok (.lload_n 2, 1) := by decide +kernel
theorem dX7_countPossible_2 : decode cX7_countPossible 2 = .ok (.iload 4, 2) := by decide +kernel
theorem dX7_countPossible_4 : decode cX7_countPossible 4 = .ok (.iconst 4, 1) := by decide +kernel
theorem dX7_countPossible_5 : decode cX7_countPossible 5 = .ok (.invokestatic 61, 3) := by decide +kernel
theorem dX7_countPossible_8 : decode cX7_countPossible 8 = .ok (.istore 5, 2) := by decide +kernel
theorem dX7_countPossible_10 : decode cX7_countPossible 10 = .ok (.iconst 0, 1) := by decide +kernel
theorem dX7_countPossible_11 : decode cX7_countPossible 11 = .ok (.istore 6, 2) := by decide +kernel
theorem dX7_countPossible_13 : decode cX7_countPossible 13 = .ok (.iconst 1, 1) := by decide +kernel
theorem dX7_countPossible_14 : decode cX7_countPossible 14 = .ok (.istore 7, 2) := by decide +kernel
theorem dX7_countPossible_16 : decode cX7_countPossible 16 = .ok (.iload 7, 2) := by decide +kernel
theorem dX7_countPossible_18 : decode cX7_countPossible 18 = .ok (.bipush 17, 2) := by decide +kernel
theorem dX7_countPossible_20 : decode cX7_countPossible 20 = .ok (.if_icmp .gt 63, 3) := by decide +kernel
theorem dX7_countPossible_23 : decode cX7_countPossible 23 = .ok (.iconst 0, 1) := by decide +kernel
theorem dX7_countPossible_24 : decode cX7_countPossible 24 = .ok (.istore 8, 2) := by decide +kernel
theorem dX7_countPossible_26 : decode cX7_countPossible 26 = .ok (.iload 8, 2) := by decide +kernel
theorem dX7_countPossible_28 : decode cX7_countPossible 28 = .ok (.iload 4, 2) := by decide +kernel
theorem dX7_countPossible_30 : decode cX7_countPossible 30 = .ok (.invokestatic 42, 3) := by decide +kernel
theorem dX7_countPossible_33 : decode cX7_countPossible 33 = .ok (.if_icmp .ge 44, 3) := by decide +kernel
theorem dX7_countPossible_36 : decode cX7_countPossible 36 = .ok (.iload 4, 2) := by decide +kernel
theorem dX7_countPossible_38 : decode cX7_countPossible 38 = .ok (.iload 8, 2) := by decide +kernel
theorem dX7_countPossible_40 : decode cX7_countPossible 40 = .ok (.invokestatic 45, 3) := by decide +kernel
theorem dX7_countPossible_43 : decode cX7_countPossible 43 = .ok (.istore 9, 2) := by decide +kernel
theorem dX7_countPossible_45 : decode cX7_countPossible 45 = .ok (.iload 6, 2) := by decide +kernel
theorem dX7_countPossible_47 : decode cX7_countPossible 47 = .ok (.lload_n 0, 1) := by decide +kernel
theorem dX7_countPossible_48 : decode cX7_countPossible 48 = .ok (.lload_n 2, 1) := by decide +kernel
theorem dX7_countPossible_49 : decode cX7_countPossible 49 = .ok (.iload 4, 2) := by decide +kernel
theorem dX7_countPossible_51 : decode cX7_countPossible 51 = .ok (.iload 7, 2) := by decide +kernel
theorem dX7_countPossible_53 : decode cX7_countPossible 53 = .ok (.iload 9, 2) := by decide +kernel
theorem dX7_countPossible_55 : decode cX7_countPossible 55 = .ok (.iload 5, 2) := by decide +kernel
theorem dX7_countPossible_57 : decode cX7_countPossible 57 = .ok (.invokestatic 72, 3) := by decide +kernel
theorem dX7_countPossible_60 : decode cX7_countPossible 60 = .ok (.ifCond .ne 7, 3) := by decide +kernel
theorem dX7_countPossible_63 : decode cX7_countPossible 63 = .ok (.iconst 1, 1) := by decide +kernel
theorem dX7_countPossible_64 : decode cX7_countPossible 64 = .ok (.goto 4, 3) := by decide +kernel
theorem dX7_countPossible_67 : decode cX7_countPossible 67 = .ok (.iconst 0, 1) := by decide +kernel
theorem dX7_countPossible_68 : decode cX7_countPossible 68 = .ok (.iadd, 1) := by decide +kernel
theorem dX7_countPossible_69 : decode cX7_countPossible 69 = .ok (.istore 6, 2) := by decide +kernel
theorem dX7_countPossible_71 : decode cX7_countPossible 71 = .ok (.iinc 8 1, 3) := by decide +kernel
theorem dX7_countPossible_74 : decode cX7_countPossible 74 = .ok (.goto (-48), 3) := by decide +kernel
theorem dX7_countPossible_77 : decode cX7_countPossible 77 = .ok (.iinc 7 1, 3) := by decide +kernel
theorem dX7_countPossible_80 : decode cX7_countPossible 80 = .ok (.goto (-64), 3) := by decide +kernel
theorem dX7_countPossible_83 : decode cX7_countPossible 83 = .ok (.iload 6, 2) := by decide +kernel
theorem dX7_countPossible_85 : decode cX7_countPossible 85 = .ok (.ireturn, 1) := by decide +kernel
theorem dX8_init_0 : decode cX8_init 0 = .ok (.aload_n 0, 1) := by decide +kernel
theorem dX8_init_1 : decode cX8_init 1 = .ok (.invokespecial 1, 3) := by decide +kernel
theorem dX8_init_4 : decode cX8_init 4 = .ok (.aload_n 0, 1) := by decide +kernel
theorem dX8_init_5 : decode cX8_init 5 = .ok (.bipush 60, 2) := by decide +kernel
theorem dX8_init_7 : decode cX8_init 7 = .ok (.newarray .char, 2) := by decide +kernel
theorem dX8_init_9 : decode cX8_init 9 = .ok (.putfield 9, 3) := by decide +kernel
theorem dX8_init_12 : decode cX8_init 12 = .ok (.aload_n 0, 1) := by decide +kernel
theorem dX8_init_13 : decode cX8_init 13 = .ok (.iconst 0, 1) := by decide +kernel
theorem dX8_init_14 : decode cX8_init 14 = .ok (.putfield 13, 3) := by decide +kernel
theorem dX8_init_17 : decode cX8_init 17 = .ok (.return_, 1) := by decide +kernel
theorem dJ9_max_7cf53_0 : decode cJ9_max_7cf53 0 = .ok (.iload_n 0, 1) := by decide +kernel
theorem dJ9_max_7cf53_1 : decode cJ9_max_7cf53 1 = .ok (.iload_n 1, 1) := by decide +kernel
theorem dJ9_max_7cf53_2 : decode cJ9_max_7cf53 2 = .ok (.if_icmp .lt 7, 3) := by decide +kernel
theorem dJ9_max_7cf53_5 : decode cJ9_max_7cf53 5 = .ok (.iload_n 0, 1) := by decide +kernel
theorem dJ9_max_7cf53_6 : decode cJ9_max_7cf53 6 = .ok (.goto 4, 3) := by decide +kernel
theorem dJ9_max_7cf53_9 : decode cJ9_max_7cf53 9 = .ok (.iload_n 1, 1) := by decide +kernel
theorem dJ9_max_7cf53_10 : decode cJ9_max_7cf53 10 = .ok (.ireturn, 1) := by decide +kernel
